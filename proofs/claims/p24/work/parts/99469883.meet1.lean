section
/-! ANOTHER TOWN'S TIME (93, 207): both sides say the same -/
theorem ko_f0 {m : Nat} {as : List Value} {g : aa_G} {E : Int32} (hi : aa_inv g) (hφ : aa_Phi g) (f : zz_fin none m (0, zz_in as (zz_nl m), [], aa_H g) (fun v h => v = some (.int E) ∧ h = aa_H g)) : zz_fin none m (0, zz_in as (zz_nl m), [], aa_H g) (fun v h => v = some (.int (E, g).1) ∧ h = aa_H (E, g).2 ∧ aa_inv (E, g).2 ∧ aa_Phi (E, g).2 ∧ aa_fr [] g (E, g).2) :=
  zz_fin.mono f fun v h k => ⟨k.1, k.2, hi, hφ, aa_fr.rf⟩
theorem l_fl {X : Int64} (h1 : -4611686018427387904 ≤ X.toInt) (h2 : X.toInt ≤ 4611686018427387904) : (X / 86400).toInt = (if 0 ≤ X.toInt then X.toInt / 86400 else -((-X.toInt) / 86400)) := by
  have t : (86400 : Int64).toInt = 86400 := rfl
  by_cases z : 0 ≤ X.toInt
  · rw [if_pos z, l_div z (by rw [t]; omega), t]
  · rw [if_neg z, Int64.toInt_div, t]
    have e : X.toInt.tdiv 86400 = -((-X.toInt) / 86400) := by
      have k : (-(-X.toInt)).tdiv 86400 = -((-X.toInt).tdiv 86400) := Int.neg_tdiv ..
      rw [Int.neg_neg] at k
      rw [k, Int.tdiv_eq_ediv_of_nonneg (by omega)]
    rw [e, l_bm (by omega) (by omega)]
/-- the model's floor -/
theorem l_floor {g : aa_G} {X p q : Int64} (h1 : -4611686018427387904 ≤ X.toInt) (h2 : X.toInt ≤ 4611686018427387904) (G : aa_G) (hG : G = if 0 ≤ lg_cmp X ((X / 86400) * 86400) then fn_208_54 g p q X (X / 86400) (X / 86400) else fn_208_54 g p q X (X / 86400) ((X / 86400) - 1)) : ∃ s : Int64, s.toInt = X.toInt / 86400 ∧ G = fn_208_54 g p q X (X / 86400) s := by
  have t : (86400 : Int64).toInt = 86400 := rfl
  have t1 : (1 : Int64).toInt = 1 := rfl
  have e := l_fl h1 h2
  have hb : -4611686018427387904 ≤ (X / 86400).toInt ∧ (X / 86400).toInt * 86400 ≤ 4611686018427387904 ∧ -4611686018427387904 ≤ (X / 86400).toInt * 86400 := by
    rw [e]
    split <;> omega
  have e2 : ((X / 86400) * 86400).toInt = (X / 86400).toInt * 86400 := by rw [l_mul (by rw [t]; omega) (by rw [t]; omega), t]
  by_cases z : 0 ≤ lg_cmp X ((X / 86400) * 86400)
  · have z2 := l_cmp.mp z
    rw [if_pos z] at hG
    refine ⟨X / 86400, ?_, hG⟩
    rw [e2, e] at z2
    rw [e]
    by_cases y : 0 ≤ X.toInt
    · rw [if_pos y]
    · rw [if_neg y] at z2 ⊢
      omega
  · have z2 := mt l_cmp.mpr z
    rw [if_neg z] at hG
    refine ⟨X / 86400 - 1, ?_, hG⟩
    rw [e2, e] at z2
    rw [l_sub (by rw [t1]; omega) (by rw [t1]; omega), e, t1]
    by_cases y : 0 ≤ X.toInt
    · rw [if_pos y] at z2
      omega
    · rw [if_neg y] at z2 ⊢
      omega
theorem mk_208 {g : aa_G} {t t2 : Nat} {b c : Int32} (W : wd_g g) (ht : (t : Int) < (g 541 0).toInt) (ht2 : (t2 : Int) < (g 541 0).toInt) (hb : 0 ≤ b.toInt ∧ b.toInt ≤ 35999) (hc : 0 ≤ c.toInt ∧ c.toInt ≤ 86399) : ((fn_208 g (Int32.ofNat t) b.toInt64 c.toInt64 (Int32.ofNat t2)) 540 22).toInt = b.toInt + (c.toInt + ((g 541 (50 * t2 + 3)).toInt - (g 541 (50 * t + 3)).toInt)) / 86400 ∧ ((fn_208 g (Int32.ofNat t) b.toInt64 c.toInt64 (Int32.ofNat t2)) 540 23).toInt = (c.toInt + ((g 541 (50 * t2 + 3)).toInt - (g 541 (50 * t + 3)).toInt)) % 86400 := by
  have n4 := W.1
  have o1 := (W.2.2.2.2.2 t ht).2.2.1
  have o2 := (W.2.2.2.2.2 t2 ht2).2.2.1
  have t0 : (86400 : Int64).toInt = 86400 := rfl
  have e9 : fn_209 g (Int32.ofNat t) = g 541 (50 * t + 3) := by
    unfold fn_209
    rw [ml_ta, zz_toN (by omega)]
  have e9' : fn_209 g (Int32.ofNat t2) = g 541 (50 * t2 + 3) := by
    unfold fn_209
    rw [ml_ta, zz_toN (by omega)]
  generalize hG : fn_208 g (Int32.ofNat t) b.toInt64 c.toInt64 (Int32.ofNat t2) = G
  unfold fn_208 at hG
  rw [e9, e9'] at hG
  have x1 : (b.toInt64 * 86400).toInt = b.toInt * 86400 := by rw [l_mul (by rw [t0, l_of]; omega) (by rw [t0, l_of]; omega), t0, l_of]
  have x2 : (b.toInt64 * 86400 + c.toInt64).toInt = b.toInt * 86400 + c.toInt := by rw [l_add (by rw [x1, l_of]; omega) (by rw [x1, l_of]; omega), x1, l_of]
  have x3 : (b.toInt64 * 86400 + c.toInt64 - (g 541 (50 * t + 3)).toInt64).toInt = b.toInt * 86400 + c.toInt - (g 541 (50 * t + 3)).toInt := by rw [l_sub (by rw [x2, l_of]; omega) (by rw [x2, l_of]; omega), x2, l_of]
  have x4 : (b.toInt64 * 86400 + c.toInt64 - (g 541 (50 * t + 3)).toInt64 + (g 541 (50 * t2 + 3)).toInt64).toInt = b.toInt * 86400 + c.toInt - (g 541 (50 * t + 3)).toInt + (g 541 (50 * t2 + 3)).toInt := by rw [l_add (by rw [x3, l_of]; omega) (by rw [x3, l_of]; omega), x3, l_of]
  generalize b.toInt64 * 86400 + c.toInt64 - (g 541 (50 * t + 3)).toInt64 + (g 541 (50 * t2 + 3)).toInt64 = X at hG x4
  obtain ⟨s, hs, hG2⟩ := l_floor (by omega) (by omega) G hG.symm
  rw [hG2]
  unfold fn_208_54
  rw [aa_w_at, aa_w_ne _ _ (by omega), aa_w_at]
  have y1 : (s * 86400).toInt = s.toInt * 86400 := by rw [l_mul (by rw [t0]; omega) (by rw [t0]; omega), t0]
  have y2 : (X - s * 86400).toInt = X.toInt - s.toInt * 86400 := by rw [l_sub (by omega) (by omega), y1]
  rw [l_to (by omega) (by omega), l_to (by omega) (by omega), y2, hs, x4]
  omega
noncomputable def sp_14 (T : Nat → Int32) (a b c a2 k : Int32) : Int := if ¬ (0 ≤ a.toInt ∧ a.toInt < (T 0).toInt) ∨ ¬ (0 ≤ b.toInt ∧ b.toInt ≤ 35999) ∨ ¬ (0 ≤ c.toInt ∧ c.toInt ≤ 86399) ∨ ¬ (0 ≤ a2.toInt ∧ a2.toInt < (T 0).toInt) ∨ ¬ (0 ≤ k.toInt ∧ k.toInt ≤ 1) then -1000000 else
  if k = 0 then b.toInt + (c.toInt + ((T (50 * a2.toInt.toNat + 3)).toInt - (T (50 * a.toInt.toNat + 3)).toInt)) / 86400 else (c.toInt + ((T (50 * a2.toInt.toNat + 3)).toInt - (T (50 * a.toInt.toNat + 3)).toInt)) % 86400
theorem ck_93 {g : aa_G} (W : wd_g g) (a b c a2 k : Int32) : (fn_93 g a b c a2 k).toInt = sp_14 (g 541) a b c a2 k := by
  have n4 := W.1
  unfold fn_93 sp_14
  rcases ct_at W a with ⟨t, ht, rfl, ht1, e1, -⟩ | ⟨n1, e1, -⟩
  · rcases ct_at W a2 with ⟨t2, ht2, rfl, ht3, e2, -⟩ | ⟨n1, e2, -⟩
    · rw [e1, e2]
      dsimp only
      by_cases zb : fn_77 b = 0
      · rw [if_pos zb, if_pos (.inr (.inl (ti_77z.mp zb)))]
        rfl
      · have hb := ti_77n.mp zb
        rw [if_neg zb]
        by_cases zc : fn_66 c = 0
        · have hc : ¬ (0 ≤ c.toInt ∧ c.toInt ≤ 86399) := ti_14z.mp zc
          rw [if_pos zc, if_pos (.inr (.inr (.inl hc)))]
          rfl
        · have hc : 0 ≤ c.toInt ∧ c.toInt ≤ 86399 := ti_14n.mp zc
          rw [if_neg zc]
          by_cases zk : fn_14 k 0 1 ≠ 0
          · have hk : 0 ≤ k.toInt ∧ k.toInt ≤ 1 := ti_14n.mp zk
            have hz : ¬ (¬ (0 ≤ (Int32.ofNat t).toInt ∧ (Int32.ofNat t).toInt < (g 541 0).toInt) ∨ ¬ (0 ≤ b.toInt ∧ b.toInt ≤ 35999) ∨ ¬ (0 ≤ c.toInt ∧ c.toInt ≤ 86399) ∨ ¬ (0 ≤ (Int32.ofNat t2).toInt ∧ (Int32.ofNat t2).toInt < (g 541 0).toInt) ∨ ¬ (0 ≤ k.toInt ∧ k.toInt ≤ 1)) := by
              rw [zz_ofN (by omega), zz_ofN (by omega)]
              omega
            rw [if_pos zk, if_neg hz, zz_ofN (by omega), zz_ofN (by omega), show ((t : Int).toNat) = t by omega, show ((t2 : Int).toNat) = t2 by omega]
            have w1 := W.2.2.2.2.2 t ht1
            have w2 := W.2.2.2.2.2 t2 ht3
            have o1 := w1.2.2.1
            have o2 := w2.2.2.1
            have d1 : (fn_94 g (5 * t + 14) (5 * t2 + 14)).toInt = (g 541 (50 * t2 + 3)).toInt - (g 541 (50 * t + 3)).toInt := by
              unfold fn_94
              rw [w1.1, w2.1, aa_sub32 (by omega) (by omega)]
            have d2 : (c + fn_94 g (5 * t + 14) (5 * t2 + 14)).toInt = c.toInt + ((g 541 (50 * t2 + 3)).toInt - (g 541 (50 * t + 3)).toInt) := by rw [aa_add32 (by omega) (by omega), d1]
            have t0 : (86400 : Int32).toInt = 86400 := rfl
            by_cases k0 : k = 0
            · rw [if_neg (c := k ≠ 0) (fun z => z k0), if_pos k0]
              have d3 : (fn_82 (c + fn_94 g (5 * t + 14) (5 * t2 + 14)) 86400).toInt = (c.toInt + ((g 541 (50 * t2 + 3)).toInt - (g 541 (50 * t + 3)).toInt)) / 86400 := by rw [ti_82 (by omega) (by decide), d2, t0]
              rw [aa_add32 (by omega) (by omega), d3]
            · rw [if_pos (c := k ≠ 0) k0, if_neg k0, ti_81 (by omega) (by decide), d2, t0]
          · rw [if_neg zk, if_pos (.inr (.inr (.inr (.inr (fun h => zk (ti_14n.mpr h))))))]
            rfl
    · rw [e1, e2, if_pos (.inr (.inr (.inr (.inl n1))))]
      rfl
  · rw [e1, if_pos (.inl n1)]
    cases fn_31 g a2 <;> rfl
theorem mk_207 {g : aa_G} (W : wd_g g) (a b c a2 k : Int32) : (fn_207 g a b c a2 k).1.toInt = sp_14 (g 541) a b c a2 k := by
  have n4 := W.1
  unfold fn_207 sp_14
  rcases ct_at W a with ⟨t, ht, rfl, ht1, -, e1⟩ | ⟨n1, -, e1⟩
  · by_cases hb : 0 ≤ b.toInt ∧ b.toInt ≤ 35999
    · rw [if_neg (c := fn_191 g (Int32.ofNat t) b = 0) (fun z => (ti_191.mp z).elim (fun y => by rw [e1] at y; exact absurd y (by decide)) (fun y => y hb))]
      by_cases zc : fn_199 c = 0
      · have hc : ¬ (0 ≤ c.toInt ∧ c.toInt ≤ 86399) := ti_154z.mp zc
        rw [if_pos zc, if_pos (.inr (.inr (.inl hc)))]
        rfl
      · have hc : 0 ≤ c.toInt ∧ c.toInt ≤ 86399 := ti_154n.mp zc
        rw [if_neg zc]
        rcases ct_at W a2 with ⟨t2, ht2, rfl, ht3, -, e2⟩ | ⟨n1, -, e2⟩
        · rw [if_neg (c := fn_192 g (Int32.ofNat t2) = 0) (by rw [e2]; decide)]
          by_cases zk : fn_154 k 0 1 ≠ 0
          · have hk : 0 ≤ k.toInt ∧ k.toInt ≤ 1 := ti_154n.mp zk
            have hz : ¬ (¬ (0 ≤ (Int32.ofNat t).toInt ∧ (Int32.ofNat t).toInt < (g 541 0).toInt) ∨ ¬ (0 ≤ b.toInt ∧ b.toInt ≤ 35999) ∨ ¬ (0 ≤ c.toInt ∧ c.toInt ≤ 86399) ∨ ¬ (0 ≤ (Int32.ofNat t2).toInt ∧ (Int32.ofNat t2).toInt < (g 541 0).toInt) ∨ ¬ (0 ≤ k.toInt ∧ k.toInt ≤ 1)) := by
              rw [zz_ofN (by omega), zz_ofN (by omega)]
              omega
            obtain ⟨m1, m2⟩ := mk_208 W ht1 ht3 hb hc
            rw [if_pos zk, if_neg hz, zz_ofN (by omega), zz_ofN (by omega), show ((t : Int).toNat) = t by omega, show ((t2 : Int).toNat) = t2 by omega]
            unfold fn_207_50
            by_cases k0 : k = 0
            · rw [if_neg (c := k ≠ 0) (fun z => z k0), if_pos k0]
              exact m1
            · rw [if_pos (c := k ≠ 0) k0, if_neg k0]
              exact m2
          · rw [if_neg zk, if_pos (.inr (.inr (.inr (.inr (fun h => zk (ti_154n.mpr h))))))]
            rfl
        · rw [if_pos (c := fn_192 g a2 = 0) e2, if_pos (.inr (.inr (.inr (.inl n1))))]
          rfl
    · rw [if_pos (c := fn_191 g (Int32.ofNat t) b = 0) (ti_191.mpr (.inr hb)), if_pos (.inr (.inl hb))]
      rfl
  · rw [if_pos (c := fn_191 g a b = 0) (ti_191.mpr (.inl e1)), if_pos (.inl n1)]
    rfl
theorem lq_93 {g : aa_G} {a0 a1 a2 a3 a4 : Int32} (hi : aa_inv g) (hφ : aa_Phi g) (hR : lr_R g) : lq_ok true 93 207 [.int a0, .int a1, .int a2, .int a3, .int a4] g :=
  lq_ask (y := fn_207 g a0 a1 a2 a3 a4) hi hφ hR (ko_f0 hi hφ (ko_fi (ko_93 hi hφ) fun _ _ _ r => dn_93 r)) (fun i1 p1 => ko_fw (ko_207 i1 p1) fun _ _ _ r => dn_207 r) (by decide +kernel) (by decide +kernel) (by decide +kernel) (by decide +kernel) (by decide +kernel) (by decide +kernel) fun W W2 e => ti_eq.mpr (by show (fn_93 g a0 a1 a2 a3 a4).toInt = _; rw [ck_93 W, mk_207 W])
end
section
/-! JAR (120, 221): both sides say the same -/
theorem s_88 {G : aa_G} {P : Nat} {e : Int32} (hl : 1 ≤ (G P 4).toInt) (he : 0 ≤ e.toInt ∧ e.toInt ≤ 172798) : (fn_88 G P e 1).toInt = e.toInt * 12 / (G P 4).toInt := by
  have t12 : (12 : Int64).toInt = 12 := rfl
  have t1 : (1 : Int32).toInt64.toInt = 1 := rfl
  unfold fn_88
  rw [if_neg (c := G P 4 ≤ 0) (fun z => by have := aa_le32.mp z; rw [show (0 : Int32).toInt = 0 from rfl] at this; omega)]
  have e1 : (e.toInt64 * 12).toInt = e.toInt * 12 := by rw [l_mul (by rw [t12, l_of]; omega) (by rw [t12, l_of]; omega), t12, l_of]
  have e2 : (e.toInt64 * 12 * (1 : Int32).toInt64).toInt = e.toInt * 12 := by rw [l_mul (by rw [t1, e1]; omega) (by rw [t1, e1]; omega), t1, e1, Int.mul_one]
  have e3 : (e.toInt64 * 12 * (1 : Int32).toInt64 / (G P 4).toInt64).toInt = e.toInt * 12 / (G P 4).toInt := by rw [l_div (by omega) (by rw [l_of]; omega), e2, l_of]
  have b0 : 0 ≤ e.toInt * 12 / (G P 4).toInt := Int.ediv_nonneg (by omega) (by omega)
  have b1 : e.toInt * 12 / (G P 4).toInt ≤ e.toInt * 12 := Int.ediv_le_self _ (by omega)
  rw [l_to (by omega) (by omega), e3]
theorem s_m {e l : Int32} (hl : 1 ≤ l.toInt) (he : 0 ≤ e.toInt ∧ e.toInt ≤ 172798) : ((e * 12) / l).toInt = e.toInt * 12 / l.toInt := by
  have t12 : (12 : Int32).toInt = 12 := rfl
  have e1 : (e * 12).toInt = e.toInt * 12 := by rw [ti_mul (by rw [t12]; omega) (by rw [t12]; omega), t12]
  rw [ti_div (by omega) (by omega), e1]
def sp_j (c k : Int32) : Option (Int × Int) → Option (Int × Int) → Int
  | none, _ => -100
  | some _, none => -100
  | some (_, l), some (u2, l2) => if ¬ (u2 ≤ c.toInt ∧ c.toInt < u2 + l2) then -100 else (if 12 < (c.toInt - u2) * 12 / l then 12 else (c.toInt - u2) * 12 / l) - (if k = 0 then 0 else (c.toInt - u2) * 12 / l2)
noncomputable def sp_21 (T : Nat → Int32) (a b d c k : Int32) : Int := if ¬ (0 ≤ a.toInt ∧ a.toInt < (T 0).toInt) ∨ ¬ (0 ≤ b.toInt ∧ b.toInt ≤ 35999) ∨ ¬ (0 ≤ d.toInt ∧ d.toInt ≤ 35999) ∨ ¬ (0 ≤ c.toInt ∧ c.toInt ≤ 86399) ∨ ¬ (0 ≤ k.toInt ∧ k.toInt ≤ 1) then -1000 else
  sp_j c k (hv_t T a.toInt.toNat b.toInt 0) (hv_t T a.toInt.toNat d.toInt 0)
theorem i_if {p : Prop} {ip : Decidable p} {a b : Int32} : (@ite Int32 p ip a b).toInt = @ite Int p ip a.toInt b.toInt := by
  by_cases z : p
  · rw [if_pos z, if_pos z]
  · rw [if_neg z, if_neg z]
theorem ck_120 {g : aa_G} (W : wd_g g) (a b d c k : Int32) : (fn_120 g a b d c k).1.toInt = sp_21 (g 541) a b d c k := by
  unfold fn_120 sp_21
  rcases ct_at W a with ⟨t, ht, rfl, ht2, e1, -⟩ | ⟨n1, e1, -⟩
  · rw [e1]
    dsimp only
    by_cases zb : fn_77 b = 0
    · rw [if_pos zb, if_pos (.inr (.inl (ti_77z.mp zb)))]
      rfl
    · have hb := ti_77n.mp zb
      rw [if_neg zb]
      by_cases zd : fn_77 d = 0
      · rw [if_pos zd, if_pos (.inr (.inr (.inl (ti_77z.mp zd))))]
        rfl
      · have hd := ti_77n.mp zd
        rw [if_neg zd]
        by_cases zc : fn_66 c = 0
        · have hc : ¬ (0 ≤ c.toInt ∧ c.toInt ≤ 86399) := ti_14z.mp zc
          rw [if_pos zc, if_pos (.inr (.inr (.inr (.inl hc))))]
          rfl
        · have hc : 0 ≤ c.toInt ∧ c.toInt ≤ 86399 := ti_14n.mp zc
          rw [if_neg zc]
          by_cases zk : fn_14 k 0 1 ≠ 0
          · have hk : 0 ≤ k.toInt ∧ k.toInt ≤ 1 := ti_14n.mp zk
            have hn : ¬ (¬ (0 ≤ (Int32.ofNat t).toInt ∧ (Int32.ofNat t).toInt < (g 541 0).toInt) ∨ ¬ (0 ≤ b.toInt ∧ b.toInt ≤ 35999) ∨ ¬ (0 ≤ d.toInt ∧ d.toInt ≤ 35999) ∨ ¬ (0 ≤ c.toInt ∧ c.toInt ≤ 86399) ∨ ¬ (0 ≤ k.toInt ∧ k.toInt ≤ 1)) := by
              rw [zz_ofN (by omega)]
              omega
            rw [if_pos zk, if_neg hn, zz_ofN (by omega), show ((t : Int).toNat) = t by omega]
            obtain ⟨f1, -, -, m⟩ := (ck_look (g := g) (P := 461) (d := b) (h := 0) W ht2 (by omega) (.inl rfl)).1
            generalize fn_78 g 461 (some (5 * t + 14)) b 0 = G at f1 m ⊢
            have W2 : wd_g G := wd_of W (fun k j z => f1 k j (by omega))
            have e541 : G 541 = g 541 := funext fun j => f1 541 j (by omega)
            obtain ⟨f2, -, -, m2⟩ := (ck_look (g := G) (P := 462) (d := d) (h := 0) W2 (by rw [e541]; exact ht2) (by omega) (.inl rfl)).1
            unfold fn_120_62
            generalize fn_78 G 462 (some (5 * t + 14)) d 0 = Y at f2 m2 ⊢
            have y : ∀ j, Y 461 j = G 461 j := fun j => f2 461 j (by omega)
            rw [e541] at m2
            rw [show (0 : Int32).toInt = 0 from rfl] at m m2
            unfold fn_120_73
            cases hq : hv_t (g 541) t b.toInt 0 with
            | none =>
              rw [hq] at m
              rw [if_pos (c := Y 461 0 = 0) (by rw [y]; exact m.1)]
              rfl
            | some r =>
              obtain ⟨u, l⟩ := r
              rw [hq] at m
              obtain ⟨m11, m12, m13⟩ := m
              obtain ⟨v1, v2, v3, v4, -⟩ := hv_b W ht2 hq
              have v4 := v4 (by decide)
              rw [if_neg (c := Y 461 0 = 0) (by rw [y, m11]; decide)]
              cases hr : hv_t (g 541) t d.toInt 0 with
              | none =>
                rw [hr] at m2
                rw [if_pos (c := Y 462 0 = 0) m2.1]
                rfl
              | some r =>
                obtain ⟨u2, l2⟩ := r
                rw [hr] at m2
                obtain ⟨m21, m22, m23⟩ := m2
                obtain ⟨w1, w2, w3, w4, -⟩ := hv_b W ht2 hr
                have w4 := w4 (by decide)
                rw [if_neg (c := Y 462 0 = 0) (by rw [m21]; decide)]
                have y4 : (Y 461 4).toInt = l := by rw [y, m13]
                have s1 : (c - Y 462 3).toInt = c.toInt - u2 := by rw [aa_sub32 (by omega) (by omega), m22]
                have s2 : (Y 462 4 - 1).toInt = l2 - 1 := by rw [aa_sub32 (by rw [show (1 : Int32).toInt = 1 from rfl]; omega) (by rw [show (1 : Int32).toInt = 1 from rfl]; omega), m23]; rfl
                have E : fn_14 (c - Y 462 3) 0 (Y 462 4 - 1) ≠ 0 ↔ (u2 ≤ c.toInt ∧ c.toInt < u2 + l2) := by
                  rw [ti_14n, s1, s2, show (0 : Int32).toInt = 0 from rfl]
                  omega
                unfold sp_j
                dsimp only
                by_cases z : u2 ≤ c.toInt ∧ c.toInt < u2 + l2
                · rw [if_pos (E.mpr z), if_neg (c := ¬ (u2 ≤ c.toInt ∧ c.toInt < u2 + l2)) (fun h => h z)]
                  have x1 : (fn_88 Y 461 (c - Y 462 3) 1).toInt = (c.toInt - u2) * 12 / l := by rw [s_88 (by omega) (by omega), s1, y4]
                  have x2 : (fn_88 Y 462 (c - Y 462 3) 1).toInt = (c.toInt - u2) * 12 / l2 := by rw [s_88 (by omega) (by omega), s1, m23]
                  have x3 : (if 12 < fn_88 Y 461 (c - Y 462 3) 1 then 12 else fn_88 Y 461 (c - Y 462 3) 1 : Int32).toInt = if 12 < (c.toInt - u2) * 12 / l then 12 else (c.toInt - u2) * 12 / l := by
                    by_cases q : 12 < (c.toInt - u2) * 12 / l
                    · rw [if_pos q, if_pos (Int32.lt_iff_toInt_lt.mpr (by rw [x1]; exact q))]
                      rfl
                    · rw [if_neg q, if_neg (fun h => q (by have := Int32.lt_iff_toInt_lt.mp h; rw [x1] at this; exact this)), x1]
                  have b0 : 0 ≤ (c.toInt - u2) * 12 / l := Int.ediv_nonneg (by omega) (by omega)
                  have b2 : 0 ≤ (c.toInt - u2) * 12 / l2 := Int.ediv_nonneg (by omega) (by omega)
                  have b3 : (c.toInt - u2) * 12 / l2 ≤ (c.toInt - u2) * 12 := Int.ediv_le_self _ (by omega)
                  by_cases k0 : k = 0
                  · rw [if_neg (c := k ≠ 0) (fun h => h k0), if_pos k0]
                    show (if 12 < fn_88 Y 461 (c - Y 462 3) 1 then 12 else fn_88 Y 461 (c - Y 462 3) 1 : Int32).toInt = _
                    rw [x3, Int.sub_zero]
                  · rw [if_pos (c := k ≠ 0) k0, if_neg k0]
                    show ((if 12 < fn_88 Y 461 (c - Y 462 3) 1 then 12 else fn_88 Y 461 (c - Y 462 3) 1 : Int32) - fn_88 Y 462 (c - Y 462 3) 1).toInt = _
                    have x4 : (0 : Int) ≤ (if 12 < (c.toInt - u2) * 12 / l then 12 else (c.toInt - u2) * 12 / l) ∧ (if 12 < (c.toInt - u2) * 12 / l then 12 else (c.toInt - u2) * 12 / l) ≤ 12 := by
                      split <;> omega
                    rw [aa_sub32 (by rw [x3, x2]; omega) (by rw [x3, x2]; omega), x3, x2]
                · rw [if_neg (mt E.mp z), if_pos (c := ¬ (u2 ≤ c.toInt ∧ c.toInt < u2 + l2)) z]
                  rfl
          · rw [if_neg zk, if_pos (.inr (.inr (.inr (.inr (fun h => zk (ti_14n.mpr h))))))]
            rfl
  · have hz : ¬ (0 ≤ a.toInt ∧ a.toInt < (g 541 0).toInt) ∨ ¬ (0 ≤ b.toInt ∧ b.toInt ≤ 35999) ∨ ¬ (0 ≤ d.toInt ∧ d.toInt ≤ 35999) ∨ ¬ (0 ≤ c.toInt ∧ c.toInt ≤ 86399) ∨ ¬ (0 ≤ k.toInt ∧ k.toInt ≤ 1) := .inl n1
    rw [e1, if_pos hz]
    rfl
theorem mk_222 {g : aa_G} {t : Nat} {d : Int32} (W : wd_g g) (ht : (t : Int) < (g 541 0).toInt) : (∀ k j, ¬ (k = 540 ∧ 13 ≤ j ∧ j ≤ 18 ∧ j ≠ 16) → (fn_222 g (Int32.ofNat t) d).2 k j = g k j) ∧ (fn_222 g (Int32.ofNat t) d).1.toInt = (match hv_t (g 541) t d.toInt 0 with
    | none => -1
    | some (_, l) => l) := by
  unfold fn_222
  generalize hg : fn_194 g (Int32.ofNat t) d 0 = G
  obtain ⟨v, G⟩ := G
  obtain ⟨f, m⟩ := mk_half W ht (.inl rfl) hg
  rw [show (0 : Int32).toInt = 0 from rfl] at m
  unfold fn_222_7
  dsimp only
  cases hq : hv_t (g 541) t d.toInt 0 with
  | none =>
    rw [hq] at m
    have m : v = 0 := m
    rw [if_pos m]
    exact ⟨f, rfl⟩
  | some r =>
    obtain ⟨u, l⟩ := r
    rw [hq] at m
    obtain ⟨m1, m2, m3⟩ := m
    rw [if_neg (c := v = 0) (by rw [m1]; decide)]
    exact ⟨f, m3⟩
theorem mk_221 {g : aa_G} (W : wd_g g) (a b d c k : Int32) : (fn_221 g a b d c k).1.toInt = sp_21 (g 541) a b d c k := by
  unfold fn_221 sp_21
  rcases ct_at W a with ⟨t, ht, rfl, ht2, -, e1⟩ | ⟨n1, -, e1⟩
  · by_cases hb : 0 ≤ b.toInt ∧ b.toInt ≤ 35999
    · rw [if_neg (c := fn_191 g (Int32.ofNat t) b = 0) (fun z => (ti_191.mp z).elim (fun y => by rw [e1] at y; exact absurd y (by decide)) (fun y => y hb))]
      by_cases zd : fn_193 d = 0
      · rw [if_pos zd, if_pos (.inr (.inr (.inl (ti_193z.mp zd))))]
        rfl
      · have hd : 0 ≤ d.toInt ∧ d.toInt ≤ 35999 := ti_154n.mp zd
        rw [if_neg zd]
        by_cases zc : fn_199 c = 0
        · have hc : ¬ (0 ≤ c.toInt ∧ c.toInt ≤ 86399) := ti_154z.mp zc
          rw [if_pos zc, if_pos (.inr (.inr (.inr (.inl hc))))]
          rfl
        · have hc : 0 ≤ c.toInt ∧ c.toInt ≤ 86399 := ti_154n.mp zc
          rw [if_neg zc]
          by_cases zk : fn_154 k 0 1 ≠ 0
          · have hk : 0 ≤ k.toInt ∧ k.toInt ≤ 1 := ti_154n.mp zk
            have hn : ¬ (¬ (0 ≤ (Int32.ofNat t).toInt ∧ (Int32.ofNat t).toInt < (g 541 0).toInt) ∨ ¬ (0 ≤ b.toInt ∧ b.toInt ≤ 35999) ∨ ¬ (0 ≤ d.toInt ∧ d.toInt ≤ 35999) ∨ ¬ (0 ≤ c.toInt ∧ c.toInt ≤ 86399) ∨ ¬ (0 ≤ k.toInt ∧ k.toInt ≤ 1)) := by
              rw [zz_ofN (by omega)]
              omega
            rw [if_pos zk, if_neg hn, zz_ofN (by omega), show ((t : Int).toNat) = t by omega]
            obtain ⟨f1, m⟩ := mk_222 (d := b) W ht2
            generalize fn_222 g (Int32.ofNat t) b = G at f1 m ⊢
            obtain ⟨s, G⟩ := G
            dsimp only at f1 m ⊢
            have W2 : wd_g G := wd_of W (fun k j z => f1 k j (by omega))
            have e541 : G 541 = g 541 := funext fun j => f1 541 j (by omega)
            unfold fn_221_44
            cases hq : hv_t (g 541) t b.toInt 0 with
            | none =>
              rw [hq] at m
              have m : s = -1 := ti_eq.mpr m
              rw [if_pos m]
              rfl
            | some r =>
              obtain ⟨u, l⟩ := r
              rw [hq] at m
              have m : s.toInt = l := m
              obtain ⟨v1, v2, v3, v4, -⟩ := hv_b W ht2 hq
              have v4 := v4 (by decide)
              rw [if_neg (c := s = -1) (fun z => by rw [z] at m; have : (-1 : Int) = l := m; omega)]
              generalize hg : fn_194 G (Int32.ofNat t) d 0 = Y
              obtain ⟨v, Y⟩ := Y
              obtain ⟨f2, m2⟩ := mk_half W2 (by rw [e541]; exact ht2) (.inl rfl) hg
              rw [e541, show (0 : Int32).toInt = 0 from rfl] at m2
              unfold fn_221_59
              dsimp only
              cases hr : hv_t (g 541) t d.toInt 0 with
              | none =>
                rw [hr] at m2
                have m2 : v = 0 := m2
                rw [if_pos m2]
                rfl
              | some r =>
                obtain ⟨u2, l2⟩ := r
                rw [hr] at m2
                obtain ⟨m21, m22, m23⟩ := m2
                obtain ⟨w1, w2, w3, w4, -⟩ := hv_b W ht2 hr
                have w4 := w4 (by decide)
                rw [if_neg (c := v = 0) (by rw [m21]; decide)]
                have s1 : (c - Y 540 17).toInt = c.toInt - u2 := by rw [aa_sub32 (by omega) (by omega), m22]
                have s2 : (Y 540 17 + Y 540 18).toInt = u2 + l2 := by rw [aa_add32 (by omega) (by omega), m22, m23]
                unfold sp_j
                dsimp only
                by_cases z1 : c < Y 540 17
                · have z1' := Int32.lt_iff_toInt_lt.mp z1
                  rw [if_pos z1, if_pos (c := ¬ (u2 ≤ c.toInt ∧ c.toInt < u2 + l2)) (by omega)]
                  rfl
                · have z1' := mt Int32.lt_iff_toInt_lt.mpr z1
                  rw [if_neg z1]
                  by_cases z2 : c < Y 540 17 + Y 540 18
                  · have z2' := Int32.lt_iff_toInt_lt.mp z2
                    rw [if_pos z2, if_neg (c := ¬ (u2 ≤ c.toInt ∧ c.toInt < u2 + l2)) (by omega)]
                    have x1 : ((c - Y 540 17) * 12 / s).toInt = (c.toInt - u2) * 12 / l := by rw [s_m (by omega) (by omega), s1, m]
                    have x2 : ((c - Y 540 17) * 12 / Y 540 18).toInt = (c.toInt - u2) * 12 / l2 := by rw [s_m (by omega) (by omega), s1, m23]
                    have b0 : 0 ≤ (c.toInt - u2) * 12 / l := Int.ediv_nonneg (by omega) (by omega)
                    have b2 : 0 ≤ (c.toInt - u2) * 12 / l2 := Int.ediv_nonneg (by omega) (by omega)
                    have b3 : (c.toInt - u2) * 12 / l2 ≤ (c.toInt - u2) * 12 := Int.ediv_le_self _ (by omega)
                    have fin : ∀ (x : Int32) (X : Int), x.toInt = X → 0 ≤ X → X ≤ 12 → (fn_221_117 Y c k x).1.toInt = X - (if k = 0 then 0 else (c.toInt - u2) * 12 / l2) := by
                      intro x X h1 h2 h3
                      unfold fn_221_117
                      by_cases k0 : k = 0
                      · rw [if_neg (c := k ≠ 0) (fun h => h k0), if_pos k0, Int.sub_zero]
                        exact h1
                      · rw [if_pos (c := k ≠ 0) k0, if_neg k0]
                        show (x - (c - Y 540 17) * 12 / Y 540 18).toInt = _
                        rw [aa_sub32 (by omega) (by omega), h1, x2]
                    by_cases q : 12 < (c.toInt - u2) * 12 / l
                    · rw [if_pos q, if_neg (c := (c - Y 540 17) * 12 / s ≤ 12) (fun h => by have := aa_le32.mp h; rw [x1, show (12 : Int32).toInt = 12 from rfl] at this; omega)]
                      exact fin 12 12 rfl (by omega) (by omega)
                    · rw [if_neg q, if_pos (c := (c - Y 540 17) * 12 / s ≤ 12) (aa_le32.mpr (by rw [x1, show (12 : Int32).toInt = 12 from rfl]; omega))]
                      exact fin _ _ x1 b0 (by omega)
                  · have z2' := mt Int32.lt_iff_toInt_lt.mpr z2
                    rw [if_neg z2, if_pos (c := ¬ (u2 ≤ c.toInt ∧ c.toInt < u2 + l2)) (by omega)]
                    rfl
          · rw [if_neg zk, if_pos (.inr (.inr (.inr (.inr (fun h => zk (ti_154n.mpr h))))))]
            rfl
    · rw [if_pos (c := fn_191 g (Int32.ofNat t) b = 0) (ti_191.mpr (.inr hb)), if_pos (.inr (.inl hb))]
      rfl
  · rw [if_pos (c := fn_191 g a b = 0) (ti_191.mpr (.inl e1)), if_pos (.inl n1)]
    rfl
theorem lq_120 {g : aa_G} {a0 a1 a2 a3 a4 : Int32} (hi : aa_inv g) (hφ : aa_Phi g) (hR : lr_R g) : lq_ok true 120 221 [.int a0, .int a1, .int a2, .int a3, .int a4] g :=
  lq_ask (y := fn_221 (fn_120 g a0 a1 a2 a3 a4).2 a0 a1 a2 a3 a4) hi hφ hR (ko_fw (ko_120 hi hφ) fun _ _ _ r => dn_120 r) (fun i1 p1 => ko_fw (ko_221 i1 p1) fun _ _ _ r => dn_221 r) (by decide +kernel) (by decide +kernel) (by decide +kernel) (by decide +kernel) (by decide +kernel) (by decide +kernel) fun W W2 e => ti_eq.mpr (by rw [ck_120 W, mk_221 W2, e])
end
section
/-! WORK (121, 223): both sides say the same -/
def sm_i (f : Nat → Int) : Nat → Nat → Int
  | _, 0 => 0
  | i, k + 1 => f i + sm_i f (i + 1) k
noncomputable def ww_d (T : Nat → Int32) (t : Nat) (x y : Int) (d : Nat) : Int := match hv_t T t (d : Int) 0 with
  | none => 0
  | some (_, l) => (y * l + 11) / 12 - (x * l + 11) / 12
theorem ww_b {x y l : Int} (hx : 0 ≤ x) (hxy : x ≤ y) (hy : y ≤ 12) (hl : 0 ≤ l ∧ l ≤ 86399) : 0 ≤ x * l ∧ x * l ≤ y * l ∧ y * l ≤ 1036788 := by
  have h1 : 0 ≤ x * l := Int.mul_nonneg hx hl.1
  have h2 : x * l ≤ y * l := Int.mul_le_mul_of_nonneg_right hxy hl.1
  have h3 : y * l ≤ 12 * 86399 := Int.mul_le_mul hy hl.2 hl.1 (by omega)
  exact ⟨h1, h2, by omega⟩
theorem ww_db {g : aa_G} (W : wd_g g) {t d : Nat} (ht : (t : Int) < (g 541 0).toInt) {x y : Int} (hx : 0 ≤ x) (hxy : x ≤ y) (hy : y ≤ 12) : 0 ≤ ww_d (g 541) t x y d ∧ ww_d (g 541) t x y d ≤ 86400 := by
  unfold ww_d
  cases hq : hv_t (g 541) t (d : Int) 0 with
  | none => exact ⟨Int.le_refl 0, (by omega : (0 : Int) ≤ 86400)⟩
  | some r =>
    obtain ⟨u, l⟩ := r
    obtain ⟨v1, v2, v3, v4, -⟩ := hv_b W ht hq
    have v4 := v4 (by decide)
    obtain ⟨h1, h2, h3⟩ := ww_b hx hxy hy (l := l) ⟨by omega, by omega⟩
    dsimp only
    omega
theorem ww_c {a l : Int32} {x L : Int} (ha : a.toInt = x) (hl : l.toInt = L) (h0 : 0 ≤ x * L) (h1 : x * L ≤ 1036788) : ((a * l + 12 - 1) / 12).toInt = (x * L + 11) / 12 ∧ ((a * l + 11) / 12).toInt = (x * L + 11) / 12 := by
  have t12 : (12 : Int32).toInt = 12 := rfl
  have t11 : (11 : Int32).toInt = 11 := rfl
  have t1 : (1 : Int32).toInt = 1 := rfl
  have e1 : (a * l).toInt = x * L := by rw [ti_mul (by rw [ha, hl]; omega) (by rw [ha, hl]; omega), ha, hl]
  have e2 : (a * l + 12).toInt = x * L + 12 := by rw [aa_add32 (by omega) (by omega), e1, t12]
  have e3 : (a * l + 12 - 1).toInt = x * L + 11 := by rw [aa_sub32 (by omega) (by omega), e2, t1]; omega
  have e4 : (a * l + 11).toInt = x * L + 11 := by rw [aa_add32 (by omega) (by omega), e1, t11]
  exact ⟨by rw [ti_div (by omega) (by decide), e3, t12], by rw [ti_div (by omega) (by decide), e4, t12]⟩
theorem cw_day {X : aa_G} {t d : Nat} {e a b : Int32} {x y : Int} (W : wd_g X) (ht : (t : Int) < (X 541 0).toInt) (hd : d ≤ 35999) (ha : a.toInt = x) (hb : b.toInt = y) (hx : 0 ≤ x) (hxy : x ≤ y) (hy : y ≤ 12) (he : ¬ e < Int32.ofNat d) (s : Int32) (hs : 0 ≤ s.toInt ∧ s.toInt ≤ 100000000) : ∃ (Y : aa_G) (s' : Int32), fn_121_81b X e a b (5 * t + 14) s (Int32.ofNat d) = .inl (Y, s', Int32.ofNat (d + 1)) ∧ wd_g Y ∧ Y 541 = X 541 ∧ s'.toInt = s.toInt + ww_d (X 541) t x y d := by
  obtain ⟨f, -, -, m⟩ := (ck_look (g := X) (P := 461) (d := Int32.ofNat d) (h := 0) W ht (by omega) (.inl rfl)).1
  rw [show (0 : Int32).toInt = 0 from rfl, zz_ofN (by omega)] at m
  unfold fn_121_81b
  rw [if_neg he]
  generalize fn_78 X 461 (some (5 * t + 14)) (Int32.ofNat d) 0 = Y at f m ⊢
  unfold fn_121_99 fn_121_133 ww_d
  rw [mb_add d 1 (v := 1) rfl]
  refine ⟨Y, if Y 461 0 = 0 then s else s + (fn_100 Y 461 b - fn_100 Y 461 a), ?_, wd_of W (fun k j z => f k j (by omega)), funext fun j => f 541 j (by omega), ?_⟩
  · by_cases z : Y 461 0 = 0
    · rw [if_pos z, if_pos z]
    · rw [if_neg z, if_neg z]
  · cases hq : hv_t (X 541) t (d : Int) 0 with
    | none =>
      rw [hq] at m
      rw [if_pos (c := Y 461 0 = 0) m.1]
      exact (Int.add_zero _).symm
    | some r =>
      obtain ⟨u, l⟩ := r
      rw [hq] at m
      obtain ⟨m1, m2, m3⟩ := m
      obtain ⟨v1, v2, v3, v4, -⟩ := hv_b W ht hq
      have v4 := v4 (by decide)
      obtain ⟨h1, h2, h3⟩ := ww_b hx hxy hy (l := l) ⟨by omega, by omega⟩
      rw [if_neg (c := Y 461 0 = 0) (by rw [m1]; decide)]
      have c1 := (ww_c ha m3 h1 (by omega)).1
      have c2 := (ww_c hb m3 (by omega) h3).1
      have d1 : (fn_100 Y 461 a).toInt = u + (x * l + 11) / 12 := by
        unfold fn_100
        rw [aa_add32 (by rw [c1]; omega) (by rw [c1]; omega), c1, m2]
      have d2 : (fn_100 Y 461 b).toInt = u + (y * l + 11) / 12 := by
        unfold fn_100
        rw [aa_add32 (by rw [c2]; omega) (by rw [c2]; omega), c2, m2]
      have d3 : (fn_100 Y 461 b - fn_100 Y 461 a).toInt = (y * l + 11) / 12 - (x * l + 11) / 12 := by rw [aa_sub32 (by omega) (by omega), d1, d2]; omega
      rw [aa_add32 (by omega) (by omega), d3]
theorem mw_day {X : aa_G} {t d : Nat} {e a b : Int32} {x y : Int} (W : wd_g X) (ht : (t : Int) < (X 541 0).toInt) (hd : d ≤ 35999) (ha : a.toInt = x) (hb : b.toInt = y) (hx : 0 ≤ x) (hxy : x ≤ y) (hy : y ≤ 12) (he : ¬ e < Int32.ofNat d) (s : Int32) (hs : 0 ≤ s.toInt ∧ s.toInt ≤ 100000000) : ∃ (Y : aa_G) (s' : Int32), fn_223_52b X (Int32.ofNat t) e a b s (Int32.ofNat d) = .inl (Y, s', Int32.ofNat (d + 1)) ∧ wd_g Y ∧ Y 541 = X 541 ∧ s'.toInt = s.toInt + ww_d (X 541) t x y d := by
  unfold fn_223_52b
  rw [if_neg he]
  generalize hg : fn_194 X (Int32.ofNat t) (Int32.ofNat d) 0 = Y
  obtain ⟨v, Y⟩ := Y
  obtain ⟨f, m⟩ := mk_half W ht (.inl rfl) hg
  rw [show (0 : Int32).toInt = 0 from rfl, zz_ofN (by omega)] at m
  unfold fn_223_68 fn_223_88 ww_d
  dsimp only
  rw [mb_add d 1 (v := 1) rfl]
  refine ⟨Y, s + (if v = 0 then 0 else fn_225 Y b - fn_225 Y a), ?_, wd_of W (fun k j z => f k j (by omega)), funext fun j => f 541 j (by omega), ?_⟩
  · by_cases z : v = 0
    · rw [if_pos z, if_pos z]
    · rw [if_neg z, if_neg z]
  · cases hq : hv_t (X 541) t (d : Int) 0 with
    | none =>
      rw [hq] at m
      have m : v = 0 := m
      rw [if_pos m, Int32.add_zero]
      exact (Int.add_zero _).symm
    | some r =>
      obtain ⟨u, l⟩ := r
      rw [hq] at m
      obtain ⟨m1, m2, m3⟩ := m
      obtain ⟨v1, v2, v3, v4, -⟩ := hv_b W ht hq
      have v4 := v4 (by decide)
      obtain ⟨h1, h2, h3⟩ := ww_b hx hxy hy (l := l) ⟨by omega, by omega⟩
      rw [if_neg (c := v = 0) (by rw [m1]; decide)]
      have c1 : (fn_225 Y a).toInt = (x * l + 11) / 12 := (ww_c ha m3 h1 (by omega)).2
      have c2 : (fn_225 Y b).toInt = (y * l + 11) / 12 := (ww_c hb m3 (by omega) h3).2
      have d3 : (fn_225 Y b - fn_225 Y a).toInt = (y * l + 11) / 12 - (x * l + 11) / 12 := by rw [aa_sub32 (by omega) (by omega), c1, c2]
      rw [aa_add32 (by omega) (by omega), d3]
/-- the loop over days -/
theorem ww_loop {g : aa_G} {t : Nat} {B : aa_G × Int32 × Int32 → (aa_G × Int32 × Int32) ⊕ (Int32 × aa_G)} {dd : Int32 × aa_G} {x y : Int} {n : Nat} (W0 : wd_g g) (ht : (t : Int) < (g 541 0).toInt) (hx : 0 ≤ x) (hxy : x ≤ y) (hy : y ≤ 12)
    (h1 : ∀ (X : aa_G) (s : Int32) (d : Nat), wd_g X → X 541 = g 541 → d < n → 0 ≤ s.toInt ∧ s.toInt ≤ 100000000 → ∃ (Y : aa_G) (s' : Int32), B (X, s, Int32.ofNat d) = .inl (Y, s', Int32.ofNat (d + 1)) ∧ wd_g Y ∧ Y 541 = X 541 ∧ s'.toInt = s.toInt + ww_d (X 541) t x y d)
    (h2 : ∀ (X : aa_G) (s : Int32), B (X, s, Int32.ofNat n) = .inr (s, X)) : ∀ (k d : Nat) (X : aa_G) (s : Int32), wd_g X → X 541 = g 541 → d + k = n → 0 ≤ s.toInt → s.toInt + 86400 * k ≤ 100000000 → (lp_f dd B (X, s, Int32.ofNat d)).1.toInt = s.toInt + sm_i (ww_d (g 541) t x y) d k := by
  intro k
  induction k with
  | zero =>
    intro d X s _ _ e _ _
    obtain rfl : d = n := by omega
    rw [lp_r (h2 X s)]
    exact (Int.add_zero _).symm
  | succ k ih =>
    intro d X s W e1 e s0 s1
    obtain ⟨Y, s', y1, y2, y3, y4⟩ := h1 X s d W e1 (by omega) ⟨s0, by omega⟩
    have b := ww_db (d := d) W0 ht hx hxy hy
    rw [e1] at y4
    rw [lp_l y1, ih (d + 1) Y s' y2 (y3.trans e1) (by omega) (by omega) (by omega), y4]
    show _ = s.toInt + (ww_d (g 541) t x y d + sm_i (ww_d (g 541) t x y) (d + 1) k)
    omega
noncomputable def sp_22 (T : Nat → Int32) (a b d p q : Int32) : Int := if ¬ (0 ≤ a.toInt ∧ a.toInt < (T 0).toInt) ∨ ¬ (0 ≤ b.toInt ∧ b.toInt ≤ 35999) ∨ ¬ (0 ≤ d.toInt ∧ d.toInt ≤ 35999) ∨ ¬ (b.toInt ≤ d.toInt ∧ d.toInt ≤ b.toInt + 359) ∨ ¬ (0 ≤ p.toInt ∧ p.toInt < q.toInt ∧ q.toInt ≤ 12) then -1 else
  sm_i (ww_d T a.toInt.toNat p.toInt q.toInt) b.toInt.toNat (d.toInt.toNat + 1 - b.toInt.toNat)
theorem ti_lt {a b : Int32} : a < b ↔ a.toInt < b.toInt := Int32.lt_iff_toInt_lt
theorem ck_121 {g : aa_G} (W : wd_g g) (a b d p q : Int32) : (fn_121 g a b d p q).1.toInt = sp_22 (g 541) a b d p q := by
  unfold fn_121 sp_22
  rcases ct_at W a with ⟨t, ht, rfl, ht2, e1, -⟩ | ⟨n1, e1, -⟩
  · rw [e1]
    dsimp only
    by_cases zb : fn_77 b = 0
    · rw [if_pos zb, if_pos (.inr (.inl (ti_77z.mp zb)))]
      rfl
    · have hb := ti_77n.mp zb
      rw [if_neg zb]
      by_cases zd : fn_77 d = 0
      · rw [if_pos zd, if_pos (.inr (.inr (.inl (ti_77z.mp zd))))]
        rfl
      · have hd := ti_77n.mp zd
        rw [if_neg zd]
        have s1 : (d - b).toInt = d.toInt - b.toInt := aa_sub32 (by omega) (by omega)
        have E : fn_14 (d - b) 0 359 ≠ 0 ↔ (b.toInt ≤ d.toInt ∧ d.toInt ≤ b.toInt + 359) := by
          rw [ti_14n, s1, show (0 : Int32).toInt = 0 from rfl, show (359 : Int32).toInt = 359 from rfl]
          omega
        by_cases zr : b.toInt ≤ d.toInt ∧ d.toInt ≤ b.toInt + 359
        · rw [if_pos (E.mpr zr)]
          have E2 : (fn_14 p 0 12 = 0 ∨ fn_14 q 0 12 = 0 ∨ ¬ p < q) ↔ ¬ (0 ≤ p.toInt ∧ p.toInt < q.toInt ∧ q.toInt ≤ 12) := by
            rw [ti_14z, ti_14z, ti_lt, show (0 : Int32).toInt = 0 from rfl, show (12 : Int32).toInt = 12 from rfl]
            omega
          by_cases zp : 0 ≤ p.toInt ∧ p.toInt < q.toInt ∧ q.toInt ≤ 12
          · have k1 : ¬ fn_14 p 0 12 = 0 := fun h => E2.mp (.inl h) zp
            have k2 : ¬ fn_14 q 0 12 = 0 := fun h => E2.mp (.inr (.inl h)) zp
            have k3 : p < q := ti_lt.mpr zp.2.1
            have hn : ¬ (¬ (0 ≤ (Int32.ofNat t).toInt ∧ (Int32.ofNat t).toInt < (g 541 0).toInt) ∨ ¬ (0 ≤ b.toInt ∧ b.toInt ≤ 35999) ∨ ¬ (0 ≤ d.toInt ∧ d.toInt ≤ 35999) ∨ ¬ (b.toInt ≤ d.toInt ∧ d.toInt ≤ b.toInt + 359) ∨ ¬ (0 ≤ p.toInt ∧ p.toInt < q.toInt ∧ q.toInt ≤ 12)) := by
              rw [zz_ofN (by omega)]
              omega
            rw [if_neg k1, if_neg k2, if_pos k3, if_neg hn, zz_ofN (by omega), show ((t : Int).toNat) = t by omega]
            unfold fn_121_81
            have eb : b = Int32.ofNat b.toInt.toNat := aa_eqN (by omega) (by omega)
            have L := ww_loop (g := g) (t := t) (B := fun z : (aa_G × Int32 × Int32) => fn_121_81b z.1 d p q (5 * t + 14) z.2.1 z.2.2) (dd := (0, g)) (x := p.toInt) (y := q.toInt) (n := d.toInt.toNat + 1) W ht2 zp.1 (by omega) zp.2.2 (fun X s dn w1 w2 w3 w4 => cw_day w1 (by rw [w2]; exact ht2) (by omega) rfl rfl zp.1 (by omega) zp.2.2 (fun h => by have := ti_lt.mp h; rw [zz_ofN (by omega)] at this; omega) s w4) (fun X s => by
              show fn_121_81b X d p q (5 * t + 14) s (Int32.ofNat (d.toInt.toNat + 1)) = _
              unfold fn_121_81b
              rw [if_pos (c := d < Int32.ofNat (d.toInt.toNat + 1)) (ti_lt.mpr (by rw [zz_ofN (by omega)]; omega))]) (d.toInt.toNat + 1 - b.toInt.toNat) b.toInt.toNat g 0 W rfl (by omega) (by decide) (by rw [show (0 : Int32).toInt = 0 from rfl]; omega)
            rw [← eb, show (0 : Int32).toInt = 0 from rfl, Int.zero_add] at L
            exact L
          · have hz := E2.mpr zp
            rw [if_pos (c := ¬ (0 ≤ (Int32.ofNat t).toInt ∧ (Int32.ofNat t).toInt < (g 541 0).toInt) ∨ ¬ (0 ≤ b.toInt ∧ b.toInt ≤ 35999) ∨ ¬ (0 ≤ d.toInt ∧ d.toInt ≤ 35999) ∨ ¬ (b.toInt ≤ d.toInt ∧ d.toInt ≤ b.toInt + 359) ∨ ¬ (0 ≤ p.toInt ∧ p.toInt < q.toInt ∧ q.toInt ≤ 12)) (.inr (.inr (.inr (.inr zp))))]
            by_cases y1 : fn_14 p 0 12 = 0
            · rw [if_pos y1]
              rfl
            · rw [if_neg y1]
              by_cases y2 : fn_14 q 0 12 = 0
              · rw [if_pos y2]
                rfl
              · rw [if_neg y2, if_neg (c := p < q) (fun h => (hz.resolve_left y1).resolve_left y2 h)]
                rfl
        · rw [if_neg (mt E.mp zr), if_pos (.inr (.inr (.inr (.inl zr))))]
          rfl
  · have hz : ¬ (0 ≤ a.toInt ∧ a.toInt < (g 541 0).toInt) ∨ ¬ (0 ≤ b.toInt ∧ b.toInt ≤ 35999) ∨ ¬ (0 ≤ d.toInt ∧ d.toInt ≤ 35999) ∨ ¬ (b.toInt ≤ d.toInt ∧ d.toInt ≤ b.toInt + 359) ∨ ¬ (0 ≤ p.toInt ∧ p.toInt < q.toInt ∧ q.toInt ≤ 12) := .inl n1
    rw [e1, if_pos hz]
    rfl
theorem ti_224 {b d : Int32} {n : Int32} : fn_224 b d n = 0 ↔ ¬ ((0 ≤ b.toInt ∧ b.toInt ≤ 35999) ∧ (0 ≤ d.toInt ∧ d.toInt ≤ 35999) ∧ (b.toInt ≤ d.toInt ∧ d.toInt ≤ b.toInt + n.toInt)) := by
  unfold fn_224
  by_cases z1 : fn_193 b = 0
  · rw [if_pos z1]
    have := ti_193z.mp z1
    exact ⟨fun _ h => this h.1, fun _ => rfl⟩
  · have h1 : 0 ≤ b.toInt ∧ b.toInt ≤ 35999 := ti_154n.mp z1
    rw [if_neg z1]
    by_cases z2 : fn_193 d = 0
    · rw [if_pos z2]
      have := ti_193z.mp z2
      exact ⟨fun _ h => this h.2.1, fun _ => rfl⟩
    · have h2 : 0 ≤ d.toInt ∧ d.toInt ≤ 35999 := ti_154n.mp z2
      rw [if_neg z2]
      have s1 : (d - b).toInt = d.toInt - b.toInt := aa_sub32 (by omega) (by omega)
      have E : fn_154 (d - b) 0 n = 0 ↔ ¬ (b.toInt ≤ d.toInt ∧ d.toInt ≤ b.toInt + n.toInt) := by
        rw [ti_154z, s1, show (0 : Int32).toInt = 0 from rfl]
        omega
      by_cases z3 : fn_154 (d - b) 0 n = 0
      · rw [if_pos z3]
        exact ⟨fun _ h => E.mp z3 h.2.2, fun _ => rfl⟩
      · rw [if_neg z3]
        exact ⟨fun h => absurd h (by decide), fun h => absurd ⟨h1, h2, Decidable.not_not.mp (mt E.mpr z3)⟩ h⟩
theorem mk_223 {g : aa_G} (W : wd_g g) (a b d p q : Int32) : (fn_223 g a b d p q).1.toInt = sp_22 (g 541) a b d p q := by
  unfold fn_223 sp_22
  rcases ct_at W a with ⟨t, ht, rfl, ht2, -, e1⟩ | ⟨n1, -, e1⟩
  · rw [if_neg (c := fn_192 g (Int32.ofNat t) = 0) (by rw [e1]; decide)]
    by_cases zr : fn_224 b d 359 = 0
    · have k := ti_224.mp zr
      rw [show (359 : Int32).toInt = 359 from rfl] at k
      rw [if_pos zr, if_pos (c := ¬ (0 ≤ (Int32.ofNat t).toInt ∧ (Int32.ofNat t).toInt < (g 541 0).toInt) ∨ ¬ (0 ≤ b.toInt ∧ b.toInt ≤ 35999) ∨ ¬ (0 ≤ d.toInt ∧ d.toInt ≤ 35999) ∨ ¬ (b.toInt ≤ d.toInt ∧ d.toInt ≤ b.toInt + 359) ∨ ¬ (0 ≤ p.toInt ∧ p.toInt < q.toInt ∧ q.toInt ≤ 12)) (by omega)]
      rfl
    · have k := mt ti_224.mpr zr
      rw [show (359 : Int32).toInt = 359 from rfl] at k
      have k := Decidable.not_not.mp k
      obtain ⟨hb, hd, hr⟩ := k
      rw [if_neg zr]
      by_cases zp : fn_154 p 0 11 = 0
      · have k := ti_154z.mp zp
        have k : ¬ (0 ≤ p.toInt ∧ p.toInt ≤ 11) := k
        rw [if_pos zp, if_pos (c := ¬ (0 ≤ (Int32.ofNat t).toInt ∧ (Int32.ofNat t).toInt < (g 541 0).toInt) ∨ ¬ (0 ≤ b.toInt ∧ b.toInt ≤ 35999) ∨ ¬ (0 ≤ d.toInt ∧ d.toInt ≤ 35999) ∨ ¬ (b.toInt ≤ d.toInt ∧ d.toInt ≤ b.toInt + 359) ∨ ¬ (0 ≤ p.toInt ∧ p.toInt < q.toInt ∧ q.toInt ≤ 12)) (by omega)]
        rfl
      · have hp : 0 ≤ p.toInt ∧ p.toInt ≤ 11 := ti_154n.mp zp
        rw [if_neg zp]
        have s1 : (p + 1).toInt = p.toInt + 1 := aa_add32 (by rw [show (1 : Int32).toInt = 1 from rfl]; omega) (by rw [show (1 : Int32).toInt = 1 from rfl]; omega)
        by_cases zq : fn_154 q (p + 1) 12 ≠ 0
        · have k := ti_154n.mp zq
          rw [s1] at k
          have k : p.toInt + 1 ≤ q.toInt ∧ q.toInt ≤ 12 := k
          have hn : ¬ (¬ (0 ≤ (Int32.ofNat t).toInt ∧ (Int32.ofNat t).toInt < (g 541 0).toInt) ∨ ¬ (0 ≤ b.toInt ∧ b.toInt ≤ 35999) ∨ ¬ (0 ≤ d.toInt ∧ d.toInt ≤ 35999) ∨ ¬ (b.toInt ≤ d.toInt ∧ d.toInt ≤ b.toInt + 359) ∨ ¬ (0 ≤ p.toInt ∧ p.toInt < q.toInt ∧ q.toInt ≤ 12)) := by
            rw [zz_ofN (by omega)]
            omega
          rw [if_pos zq, if_neg hn, zz_ofN (by omega), show ((t : Int).toNat) = t by omega]
          unfold fn_223_52
          have eb : b = Int32.ofNat b.toInt.toNat := aa_eqN (by omega) (by omega)
          have L := ww_loop (g := g) (t := t) (B := fun z : (aa_G × Int32 × Int32) => fn_223_52b z.1 (Int32.ofNat t) d p q z.2.1 z.2.2) (dd := (0, g)) (x := p.toInt) (y := q.toInt) (n := d.toInt.toNat + 1) W ht2 hp.1 (by omega) k.2 (fun X s dn w1 w2 w3 w4 => mw_day w1 (by rw [w2]; exact ht2) (by omega) rfl rfl hp.1 (by omega) k.2 (fun h => by have := ti_lt.mp h; rw [zz_ofN (by omega)] at this; omega) s w4) (fun X s => by
            show fn_223_52b X (Int32.ofNat t) d p q s (Int32.ofNat (d.toInt.toNat + 1)) = _
            unfold fn_223_52b
            rw [if_pos (c := d < Int32.ofNat (d.toInt.toNat + 1)) (ti_lt.mpr (by rw [zz_ofN (by omega)]; omega))]) (d.toInt.toNat + 1 - b.toInt.toNat) b.toInt.toNat g 0 W rfl (by omega) (by decide) (by rw [show (0 : Int32).toInt = 0 from rfl]; omega)
          rw [← eb, show (0 : Int32).toInt = 0 from rfl, Int.zero_add] at L
          exact L
        · have k := mt ti_154n.mpr zq
          rw [s1] at k
          have k : ¬ (p.toInt + 1 ≤ q.toInt ∧ q.toInt ≤ 12) := k
          rw [if_neg zq, if_pos (c := ¬ (0 ≤ (Int32.ofNat t).toInt ∧ (Int32.ofNat t).toInt < (g 541 0).toInt) ∨ ¬ (0 ≤ b.toInt ∧ b.toInt ≤ 35999) ∨ ¬ (0 ≤ d.toInt ∧ d.toInt ≤ 35999) ∨ ¬ (b.toInt ≤ d.toInt ∧ d.toInt ≤ b.toInt + 359) ∨ ¬ (0 ≤ p.toInt ∧ p.toInt < q.toInt ∧ q.toInt ≤ 12)) (by omega)]
          rfl
  · rw [if_pos (c := fn_192 g a = 0) e1, if_pos (.inl n1)]
    rfl
theorem lq_121 {g : aa_G} {a0 a1 a2 a3 a4 : Int32} (hi : aa_inv g) (hφ : aa_Phi g) (hR : lr_R g) : lq_ok true 121 223 [.int a0, .int a1, .int a2, .int a3, .int a4] g :=
  lq_ask (y := fn_223 (fn_121 g a0 a1 a2 a3 a4).2 a0 a1 a2 a3 a4) hi hφ hR (ko_fw (ko_121 hi hφ) fun _ _ _ r => dn_121 r) (fun i1 p1 => ko_fw (ko_223 i1 p1) fun _ _ _ r => dn_223 r) (by decide +kernel) (by decide +kernel) (by decide +kernel) (by decide +kernel) (by decide +kernel) (by decide +kernel) fun W W2 e => ti_eq.mpr (by rw [ck_121 W, mk_223 W2, e])
end
section
/-! CONTRACTS AT A CALL (printed by wip/dc/kon.py) -/
theorem ko_96 {g : aa_G} {a0 a1 a2 a3 : Int32} (hi : aa_inv g) (hφ : aa_Phi g)  : zz_fin none 96 (0, zz_in [.ref 1, .int a0, .int a1, .int a2, .int a3] (zz_nl 96), [], aa_H g) (aa_post aa_Phi aa_k85 [a0.toInt, a1.toInt, a2.toInt, a3.toInt] g) := by
  have hK : aa_met aa_Phi aa_k85 := aa_met_p3 aa_good_free _ (List.mem_of_getElem? (i := 54) rfl)
  refine hK [a0.toInt, a1.toInt, a2.toInt, a3.toInt] g [.ref 1, .int a0, .int a1, .int a2, .int a3] (aa_vb_new (aa_vb_new (aa_vb_new (aa_vb_new (⟨rfl, fun i q v hq => by cases hq⟩ : aa_vb [] []) (lo := -2147483648) (hi := 2147483647) (gr := 0) (ko_rng a0).1 (ko_rng a0).2 (fun z => absurd rfl z)) (lo := -2147483648) (hi := 2147483647) (gr := 0) (ko_rng a1).1 (ko_rng a1).2 (fun z => absurd rfl z)) (lo := -2147483648) (hi := 2147483647) (gr := 0) (ko_rng a2).1 (ko_rng a2).2 (fun z => absurd rfl z)) (lo := -2147483648) (hi := 2147483647) (gr := 0) (ko_rng a3).1 (ko_rng a3).2 (fun z => absurd rfl z)) (fun f hf => by cases hf) (fun q hq => by cases hq) ⟨⟨Nat.succ_ne_zero _, 1, rfl, rfl⟩, ⟨Nat.one_ne_zero, a0, rfl, aa_id_ev rfl⟩, ⟨Nat.one_ne_zero, a1, rfl, aa_id_ev rfl⟩, ⟨Nat.one_ne_zero, a2, rfl, aa_id_ev rfl⟩, ⟨Nat.one_ne_zero, a3, rfl, aa_id_ev rfl⟩, trivial⟩ hi hφ
theorem ko_230 {g : aa_G} {a0 a1 a2 a3 : Int32} (hi : aa_inv g) (hφ : aa_Phi g)  : zz_fin none 230 (0, zz_in [.ref 540, .int a0, .int a1, .int a2, .int a3] (zz_nl 230), [], aa_H g) (aa_post aa_Phi aa_m80 [a0.toInt, a1.toInt, a2.toInt, a3.toInt] g) := by
  have hK : aa_met aa_Phi aa_m80 := (aa_mL67 aa_hands_met _ List.mem_cons_self)
  refine hK [a0.toInt, a1.toInt, a2.toInt, a3.toInt] g [.ref 540, .int a0, .int a1, .int a2, .int a3] (aa_vb_new (aa_vb_new (aa_vb_new (aa_vb_new (⟨rfl, fun i q v hq => by cases hq⟩ : aa_vb [] []) (lo := -2147483648) (hi := 2147483647) (gr := 0) (ko_rng a0).1 (ko_rng a0).2 (fun z => absurd rfl z)) (lo := -2147483648) (hi := 2147483647) (gr := 0) (ko_rng a1).1 (ko_rng a1).2 (fun z => absurd rfl z)) (lo := -2147483648) (hi := 2147483647) (gr := 0) (ko_rng a2).1 (ko_rng a2).2 (fun z => absurd rfl z)) (lo := -2147483648) (hi := 2147483647) (gr := 0) (ko_rng a3).1 (ko_rng a3).2 (fun z => absurd rfl z)) (fun f hf => by cases hf) (fun q hq => by cases hq) ⟨⟨Nat.succ_ne_zero _, 540, rfl, rfl⟩, ⟨Nat.one_ne_zero, a0, rfl, aa_id_ev rfl⟩, ⟨Nat.one_ne_zero, a1, rfl, aa_id_ev rfl⟩, ⟨Nat.one_ne_zero, a2, rfl, aa_id_ev rfl⟩, ⟨Nat.one_ne_zero, a3, rfl, aa_id_ev rfl⟩, trivial⟩ hi hφ
theorem ko_97 {g : aa_G} {a0 a1 a2 a3 a4 : Int32} (hi : aa_inv g) (hφ : aa_Phi g)  : zz_fin none 97 (0, zz_in [.ref 1, .int a0, .int a1, .int a2, .int a3, .int a4] (zz_nl 97), [], aa_H g) (aa_post aa_Phi aa_k86 [a0.toInt, a1.toInt, a2.toInt, a3.toInt, a4.toInt] g) := by
  have hK : aa_met aa_Phi aa_k86 := aa_met_p3 aa_good_free _ (List.mem_of_getElem? (i := 53) rfl)
  refine hK [a0.toInt, a1.toInt, a2.toInt, a3.toInt, a4.toInt] g [.ref 1, .int a0, .int a1, .int a2, .int a3, .int a4] (aa_vb_new (aa_vb_new (aa_vb_new (aa_vb_new (aa_vb_new (⟨rfl, fun i q v hq => by cases hq⟩ : aa_vb [] []) (lo := -2147483648) (hi := 2147483647) (gr := 0) (ko_rng a0).1 (ko_rng a0).2 (fun z => absurd rfl z)) (lo := -2147483648) (hi := 2147483647) (gr := 0) (ko_rng a1).1 (ko_rng a1).2 (fun z => absurd rfl z)) (lo := -2147483648) (hi := 2147483647) (gr := 0) (ko_rng a2).1 (ko_rng a2).2 (fun z => absurd rfl z)) (lo := -2147483648) (hi := 2147483647) (gr := 0) (ko_rng a3).1 (ko_rng a3).2 (fun z => absurd rfl z)) (lo := -2147483648) (hi := 2147483647) (gr := 0) (ko_rng a4).1 (ko_rng a4).2 (fun z => absurd rfl z)) (fun f hf => by cases hf) (fun q hq => by cases hq) ⟨⟨Nat.succ_ne_zero _, 1, rfl, rfl⟩, ⟨Nat.one_ne_zero, a0, rfl, aa_id_ev rfl⟩, ⟨Nat.one_ne_zero, a1, rfl, aa_id_ev rfl⟩, ⟨Nat.one_ne_zero, a2, rfl, aa_id_ev rfl⟩, ⟨Nat.one_ne_zero, a3, rfl, aa_id_ev rfl⟩, ⟨Nat.one_ne_zero, a4, rfl, aa_id_ev rfl⟩, trivial⟩ hi hφ
theorem ko_231 {g : aa_G} {a0 a1 a2 a3 a4 : Int32} (hi : aa_inv g) (hφ : aa_Phi g)  : zz_fin none 231 (0, zz_in [.ref 540, .int a0, .int a1, .int a2, .int a3, .int a4] (zz_nl 231), [], aa_H g) (aa_post aa_Phi aa_m81 [a0.toInt, a1.toInt, a2.toInt, a3.toInt, a4.toInt] g) := by
  have hK : aa_met aa_Phi aa_m81 := (aa_mL68 aa_hands_met _ List.mem_cons_self)
  refine hK [a0.toInt, a1.toInt, a2.toInt, a3.toInt, a4.toInt] g [.ref 540, .int a0, .int a1, .int a2, .int a3, .int a4] (aa_vb_new (aa_vb_new (aa_vb_new (aa_vb_new (aa_vb_new (⟨rfl, fun i q v hq => by cases hq⟩ : aa_vb [] []) (lo := -2147483648) (hi := 2147483647) (gr := 0) (ko_rng a0).1 (ko_rng a0).2 (fun z => absurd rfl z)) (lo := -2147483648) (hi := 2147483647) (gr := 0) (ko_rng a1).1 (ko_rng a1).2 (fun z => absurd rfl z)) (lo := -2147483648) (hi := 2147483647) (gr := 0) (ko_rng a2).1 (ko_rng a2).2 (fun z => absurd rfl z)) (lo := -2147483648) (hi := 2147483647) (gr := 0) (ko_rng a3).1 (ko_rng a3).2 (fun z => absurd rfl z)) (lo := -2147483648) (hi := 2147483647) (gr := 0) (ko_rng a4).1 (ko_rng a4).2 (fun z => absurd rfl z)) (fun f hf => by cases hf) (fun q hq => by cases hq) ⟨⟨Nat.succ_ne_zero _, 540, rfl, rfl⟩, ⟨Nat.one_ne_zero, a0, rfl, aa_id_ev rfl⟩, ⟨Nat.one_ne_zero, a1, rfl, aa_id_ev rfl⟩, ⟨Nat.one_ne_zero, a2, rfl, aa_id_ev rfl⟩, ⟨Nat.one_ne_zero, a3, rfl, aa_id_ev rfl⟩, ⟨Nat.one_ne_zero, a4, rfl, aa_id_ev rfl⟩, trivial⟩ hi hφ
theorem ko_122 {g : aa_G} {a0 a1 : Int32} (hi : aa_inv g) (hφ : aa_Phi g)  : zz_fin none 122 (0, zz_in [.ref 1, .int a0, .int a1] (zz_nl 122), [], aa_H g) (aa_post aa_Phi aa_k113 [a0.toInt, a1.toInt] g) := by
  have hK : aa_met aa_Phi aa_k113 := aa_met_p3 aa_good_free _ (List.mem_of_getElem? (i := 26) rfl)
  refine hK [a0.toInt, a1.toInt] g [.ref 1, .int a0, .int a1] (aa_vb_new (aa_vb_new (⟨rfl, fun i q v hq => by cases hq⟩ : aa_vb [] []) (lo := -2147483648) (hi := 2147483647) (gr := 0) (ko_rng a0).1 (ko_rng a0).2 (fun z => absurd rfl z)) (lo := -2147483648) (hi := 2147483647) (gr := 0) (ko_rng a1).1 (ko_rng a1).2 (fun z => absurd rfl z)) (fun f hf => by cases hf) (fun q hq => by cases hq) ⟨⟨Nat.succ_ne_zero _, 1, rfl, rfl⟩, ⟨Nat.one_ne_zero, a0, rfl, aa_id_ev rfl⟩, ⟨Nat.one_ne_zero, a1, rfl, aa_id_ev rfl⟩, trivial⟩ hi hφ
theorem ko_226 {g : aa_G} {a0 a1 : Int32} (hi : aa_inv g) (hφ : aa_Phi g)  : zz_fin none 226 (0, zz_in [.ref 540, .int a0, .int a1] (zz_nl 226), [], aa_H g) (aa_post aa_Phi aa_m77 [a0.toInt, a1.toInt] g) := by
  have hK : aa_met aa_Phi aa_m77 := (aa_mL64 aa_hands_met _ List.mem_cons_self)
  refine hK [a0.toInt, a1.toInt] g [.ref 540, .int a0, .int a1] (aa_vb_new (aa_vb_new (⟨rfl, fun i q v hq => by cases hq⟩ : aa_vb [] []) (lo := -2147483648) (hi := 2147483647) (gr := 0) (ko_rng a0).1 (ko_rng a0).2 (fun z => absurd rfl z)) (lo := -2147483648) (hi := 2147483647) (gr := 0) (ko_rng a1).1 (ko_rng a1).2 (fun z => absurd rfl z)) (fun f hf => by cases hf) (fun q hq => by cases hq) ⟨⟨Nat.succ_ne_zero _, 540, rfl, rfl⟩, ⟨Nat.one_ne_zero, a0, rfl, aa_id_ev rfl⟩, ⟨Nat.one_ne_zero, a1, rfl, aa_id_ev rfl⟩, trivial⟩ hi hφ
theorem ko_99 {g : aa_G} {a0 a1 a2 a3 : Int32} (hi : aa_inv g) (hφ : aa_Phi g)  : zz_fin none 99 (0, zz_in [.ref 1, .int a0, .int a1, .int a2, .int a3] (zz_nl 99), [], aa_H g) (aa_post aa_Phi aa_k89 [a0.toInt, a1.toInt, a2.toInt, a3.toInt] g) := by
  have hK : aa_met aa_Phi aa_k89 := aa_met_p3 aa_good_free _ (List.mem_of_getElem? (i := 50) rfl)
  refine hK [a0.toInt, a1.toInt, a2.toInt, a3.toInt] g [.ref 1, .int a0, .int a1, .int a2, .int a3] (aa_vb_new (aa_vb_new (aa_vb_new (aa_vb_new (⟨rfl, fun i q v hq => by cases hq⟩ : aa_vb [] []) (lo := -2147483648) (hi := 2147483647) (gr := 0) (ko_rng a0).1 (ko_rng a0).2 (fun z => absurd rfl z)) (lo := -2147483648) (hi := 2147483647) (gr := 0) (ko_rng a1).1 (ko_rng a1).2 (fun z => absurd rfl z)) (lo := -2147483648) (hi := 2147483647) (gr := 0) (ko_rng a2).1 (ko_rng a2).2 (fun z => absurd rfl z)) (lo := -2147483648) (hi := 2147483647) (gr := 0) (ko_rng a3).1 (ko_rng a3).2 (fun z => absurd rfl z)) (fun f hf => by cases hf) (fun q hq => by cases hq) ⟨⟨Nat.succ_ne_zero _, 1, rfl, rfl⟩, ⟨Nat.one_ne_zero, a0, rfl, aa_id_ev rfl⟩, ⟨Nat.one_ne_zero, a1, rfl, aa_id_ev rfl⟩, ⟨Nat.one_ne_zero, a2, rfl, aa_id_ev rfl⟩, ⟨Nat.one_ne_zero, a3, rfl, aa_id_ev rfl⟩, trivial⟩ hi hφ
theorem ko_244 {g : aa_G} {a0 a1 a2 a3 : Int32} (hi : aa_inv g) (hφ : aa_Phi g)  : zz_fin none 244 (0, zz_in [.ref 540, .int a0, .int a1, .int a2, .int a3] (zz_nl 244), [], aa_H g) (aa_post aa_Phi aa_m94 [a0.toInt, a1.toInt, a2.toInt, a3.toInt] g) := by
  have hK : aa_met aa_Phi aa_m94 := (aa_mL81 aa_hands_met _ List.mem_cons_self)
  refine hK [a0.toInt, a1.toInt, a2.toInt, a3.toInt] g [.ref 540, .int a0, .int a1, .int a2, .int a3] (aa_vb_new (aa_vb_new (aa_vb_new (aa_vb_new (⟨rfl, fun i q v hq => by cases hq⟩ : aa_vb [] []) (lo := -2147483648) (hi := 2147483647) (gr := 0) (ko_rng a0).1 (ko_rng a0).2 (fun z => absurd rfl z)) (lo := -2147483648) (hi := 2147483647) (gr := 0) (ko_rng a1).1 (ko_rng a1).2 (fun z => absurd rfl z)) (lo := -2147483648) (hi := 2147483647) (gr := 0) (ko_rng a2).1 (ko_rng a2).2 (fun z => absurd rfl z)) (lo := -2147483648) (hi := 2147483647) (gr := 0) (ko_rng a3).1 (ko_rng a3).2 (fun z => absurd rfl z)) (fun f hf => by cases hf) (fun q hq => by cases hq) ⟨⟨Nat.succ_ne_zero _, 540, rfl, rfl⟩, ⟨Nat.one_ne_zero, a0, rfl, aa_id_ev rfl⟩, ⟨Nat.one_ne_zero, a1, rfl, aa_id_ev rfl⟩, ⟨Nat.one_ne_zero, a2, rfl, aa_id_ev rfl⟩, ⟨Nat.one_ne_zero, a3, rfl, aa_id_ev rfl⟩, trivial⟩ hi hφ
theorem ko_98 {g : aa_G} {a0 a1 a2 a3 : Int32} (hi : aa_inv g) (hφ : aa_Phi g)  : zz_fin none 98 (0, zz_in [.ref 1, .int a0, .int a1, .int a2, .int a3] (zz_nl 98), [], aa_H g) (aa_post aa_Phi aa_k87 [a0.toInt, a1.toInt, a2.toInt, a3.toInt] g) := by
  have hK : aa_met aa_Phi aa_k87 := aa_met_p3 aa_good_free _ (List.mem_of_getElem? (i := 52) rfl)
  refine hK [a0.toInt, a1.toInt, a2.toInt, a3.toInt] g [.ref 1, .int a0, .int a1, .int a2, .int a3] (aa_vb_new (aa_vb_new (aa_vb_new (aa_vb_new (⟨rfl, fun i q v hq => by cases hq⟩ : aa_vb [] []) (lo := -2147483648) (hi := 2147483647) (gr := 0) (ko_rng a0).1 (ko_rng a0).2 (fun z => absurd rfl z)) (lo := -2147483648) (hi := 2147483647) (gr := 0) (ko_rng a1).1 (ko_rng a1).2 (fun z => absurd rfl z)) (lo := -2147483648) (hi := 2147483647) (gr := 0) (ko_rng a2).1 (ko_rng a2).2 (fun z => absurd rfl z)) (lo := -2147483648) (hi := 2147483647) (gr := 0) (ko_rng a3).1 (ko_rng a3).2 (fun z => absurd rfl z)) (fun f hf => by cases hf) (fun q hq => by cases hq) ⟨⟨Nat.succ_ne_zero _, 1, rfl, rfl⟩, ⟨Nat.one_ne_zero, a0, rfl, aa_id_ev rfl⟩, ⟨Nat.one_ne_zero, a1, rfl, aa_id_ev rfl⟩, ⟨Nat.one_ne_zero, a2, rfl, aa_id_ev rfl⟩, ⟨Nat.one_ne_zero, a3, rfl, aa_id_ev rfl⟩, trivial⟩ hi hφ
theorem ko_241 {g : aa_G} {a0 a1 a2 a3 : Int32} (hi : aa_inv g) (hφ : aa_Phi g)  : zz_fin none 241 (0, zz_in [.ref 540, .int a0, .int a1, .int a2, .int a3] (zz_nl 241), [], aa_H g) (aa_post aa_Phi aa_m91 [a0.toInt, a1.toInt, a2.toInt, a3.toInt] g) := by
  have hK : aa_met aa_Phi aa_m91 := (aa_mL78 aa_hands_met _ List.mem_cons_self)
  refine hK [a0.toInt, a1.toInt, a2.toInt, a3.toInt] g [.ref 540, .int a0, .int a1, .int a2, .int a3] (aa_vb_new (aa_vb_new (aa_vb_new (aa_vb_new (⟨rfl, fun i q v hq => by cases hq⟩ : aa_vb [] []) (lo := -2147483648) (hi := 2147483647) (gr := 0) (ko_rng a0).1 (ko_rng a0).2 (fun z => absurd rfl z)) (lo := -2147483648) (hi := 2147483647) (gr := 0) (ko_rng a1).1 (ko_rng a1).2 (fun z => absurd rfl z)) (lo := -2147483648) (hi := 2147483647) (gr := 0) (ko_rng a2).1 (ko_rng a2).2 (fun z => absurd rfl z)) (lo := -2147483648) (hi := 2147483647) (gr := 0) (ko_rng a3).1 (ko_rng a3).2 (fun z => absurd rfl z)) (fun f hf => by cases hf) (fun q hq => by cases hq) ⟨⟨Nat.succ_ne_zero _, 540, rfl, rfl⟩, ⟨Nat.one_ne_zero, a0, rfl, aa_id_ev rfl⟩, ⟨Nat.one_ne_zero, a1, rfl, aa_id_ev rfl⟩, ⟨Nat.one_ne_zero, a2, rfl, aa_id_ev rfl⟩, ⟨Nat.one_ne_zero, a3, rfl, aa_id_ev rfl⟩, trivial⟩ hi hφ
theorem ko_101 {g : aa_G} {a0 a1 a2 a3 a4 : Int32} (hi : aa_inv g) (hφ : aa_Phi g)  : zz_fin none 101 (0, zz_in [.ref 1, .int a0, .int a1, .int a2, .int a3, .int a4] (zz_nl 101), [], aa_H g) (aa_post aa_Phi aa_k90 [a0.toInt, a1.toInt, a2.toInt, a3.toInt, a4.toInt] g) := by
  have hK : aa_met aa_Phi aa_k90 := aa_met_p3 aa_good_free _ (List.mem_of_getElem? (i := 49) rfl)
  refine hK [a0.toInt, a1.toInt, a2.toInt, a3.toInt, a4.toInt] g [.ref 1, .int a0, .int a1, .int a2, .int a3, .int a4] (aa_vb_new (aa_vb_new (aa_vb_new (aa_vb_new (aa_vb_new (⟨rfl, fun i q v hq => by cases hq⟩ : aa_vb [] []) (lo := -2147483648) (hi := 2147483647) (gr := 0) (ko_rng a0).1 (ko_rng a0).2 (fun z => absurd rfl z)) (lo := -2147483648) (hi := 2147483647) (gr := 0) (ko_rng a1).1 (ko_rng a1).2 (fun z => absurd rfl z)) (lo := -2147483648) (hi := 2147483647) (gr := 0) (ko_rng a2).1 (ko_rng a2).2 (fun z => absurd rfl z)) (lo := -2147483648) (hi := 2147483647) (gr := 0) (ko_rng a3).1 (ko_rng a3).2 (fun z => absurd rfl z)) (lo := -2147483648) (hi := 2147483647) (gr := 0) (ko_rng a4).1 (ko_rng a4).2 (fun z => absurd rfl z)) (fun f hf => by cases hf) (fun q hq => by cases hq) ⟨⟨Nat.succ_ne_zero _, 1, rfl, rfl⟩, ⟨Nat.one_ne_zero, a0, rfl, aa_id_ev rfl⟩, ⟨Nat.one_ne_zero, a1, rfl, aa_id_ev rfl⟩, ⟨Nat.one_ne_zero, a2, rfl, aa_id_ev rfl⟩, ⟨Nat.one_ne_zero, a3, rfl, aa_id_ev rfl⟩, ⟨Nat.one_ne_zero, a4, rfl, aa_id_ev rfl⟩, trivial⟩ hi hφ
theorem ko_250 {g : aa_G} {a0 a1 a2 a3 a4 : Int32} (hi : aa_inv g) (hφ : aa_Phi g)  : zz_fin none 250 (0, zz_in [.ref 540, .int a0, .int a1, .int a2, .int a3, .int a4] (zz_nl 250), [], aa_H g) (aa_post aa_Phi aa_m100 [a0.toInt, a1.toInt, a2.toInt, a3.toInt, a4.toInt] g) := by
  have hK : aa_met aa_Phi aa_m100 := (aa_mL87 aa_hands_met _ List.mem_cons_self)
  refine hK [a0.toInt, a1.toInt, a2.toInt, a3.toInt, a4.toInt] g [.ref 540, .int a0, .int a1, .int a2, .int a3, .int a4] (aa_vb_new (aa_vb_new (aa_vb_new (aa_vb_new (aa_vb_new (⟨rfl, fun i q v hq => by cases hq⟩ : aa_vb [] []) (lo := -2147483648) (hi := 2147483647) (gr := 0) (ko_rng a0).1 (ko_rng a0).2 (fun z => absurd rfl z)) (lo := -2147483648) (hi := 2147483647) (gr := 0) (ko_rng a1).1 (ko_rng a1).2 (fun z => absurd rfl z)) (lo := -2147483648) (hi := 2147483647) (gr := 0) (ko_rng a2).1 (ko_rng a2).2 (fun z => absurd rfl z)) (lo := -2147483648) (hi := 2147483647) (gr := 0) (ko_rng a3).1 (ko_rng a3).2 (fun z => absurd rfl z)) (lo := -2147483648) (hi := 2147483647) (gr := 0) (ko_rng a4).1 (ko_rng a4).2 (fun z => absurd rfl z)) (fun f hf => by cases hf) (fun q hq => by cases hq) ⟨⟨Nat.succ_ne_zero _, 540, rfl, rfl⟩, ⟨Nat.one_ne_zero, a0, rfl, aa_id_ev rfl⟩, ⟨Nat.one_ne_zero, a1, rfl, aa_id_ev rfl⟩, ⟨Nat.one_ne_zero, a2, rfl, aa_id_ev rfl⟩, ⟨Nat.one_ne_zero, a3, rfl, aa_id_ev rfl⟩, ⟨Nat.one_ne_zero, a4, rfl, aa_id_ev rfl⟩, trivial⟩ hi hφ
theorem ko_140 {g : aa_G} {a0 a1 a2 a3 : Int32} (hi : aa_inv g) (hφ : aa_Phi g)  : zz_fin none 140 (0, zz_in [.ref 1, .int a0, .int a1, .int a2, .int a3] (zz_nl 140), [], aa_H g) (aa_post aa_Phi aa_k130 [a0.toInt, a1.toInt, a2.toInt, a3.toInt] g) := by
  have hK : aa_met aa_Phi aa_k130 := aa_met_p3 aa_good_free _ (List.mem_of_getElem? (i := 9) rfl)
  refine hK [a0.toInt, a1.toInt, a2.toInt, a3.toInt] g [.ref 1, .int a0, .int a1, .int a2, .int a3] (aa_vb_new (aa_vb_new (aa_vb_new (aa_vb_new (⟨rfl, fun i q v hq => by cases hq⟩ : aa_vb [] []) (lo := -2147483648) (hi := 2147483647) (gr := 0) (ko_rng a0).1 (ko_rng a0).2 (fun z => absurd rfl z)) (lo := -2147483648) (hi := 2147483647) (gr := 0) (ko_rng a1).1 (ko_rng a1).2 (fun z => absurd rfl z)) (lo := -2147483648) (hi := 2147483647) (gr := 0) (ko_rng a2).1 (ko_rng a2).2 (fun z => absurd rfl z)) (lo := -2147483648) (hi := 2147483647) (gr := 0) (ko_rng a3).1 (ko_rng a3).2 (fun z => absurd rfl z)) (fun f hf => by cases hf) (fun q hq => by cases hq) ⟨⟨Nat.succ_ne_zero _, 1, rfl, rfl⟩, ⟨Nat.one_ne_zero, a0, rfl, aa_id_ev rfl⟩, ⟨Nat.one_ne_zero, a1, rfl, aa_id_ev rfl⟩, ⟨Nat.one_ne_zero, a2, rfl, aa_id_ev rfl⟩, ⟨Nat.one_ne_zero, a3, rfl, aa_id_ev rfl⟩, trivial⟩ hi hφ
theorem ko_251 {g : aa_G} {a0 a1 a2 a3 : Int32} (hi : aa_inv g) (hφ : aa_Phi g)  : zz_fin none 251 (0, zz_in [.ref 540, .int a0, .int a1, .int a2, .int a3] (zz_nl 251), [], aa_H g) (aa_post aa_Phi aa_m101 [a0.toInt, a1.toInt, a2.toInt, a3.toInt] g) := by
  have hK : aa_met aa_Phi aa_m101 := (aa_mL88 aa_hands_met _ List.mem_cons_self)
  refine hK [a0.toInt, a1.toInt, a2.toInt, a3.toInt] g [.ref 540, .int a0, .int a1, .int a2, .int a3] (aa_vb_new (aa_vb_new (aa_vb_new (aa_vb_new (⟨rfl, fun i q v hq => by cases hq⟩ : aa_vb [] []) (lo := -2147483648) (hi := 2147483647) (gr := 0) (ko_rng a0).1 (ko_rng a0).2 (fun z => absurd rfl z)) (lo := -2147483648) (hi := 2147483647) (gr := 0) (ko_rng a1).1 (ko_rng a1).2 (fun z => absurd rfl z)) (lo := -2147483648) (hi := 2147483647) (gr := 0) (ko_rng a2).1 (ko_rng a2).2 (fun z => absurd rfl z)) (lo := -2147483648) (hi := 2147483647) (gr := 0) (ko_rng a3).1 (ko_rng a3).2 (fun z => absurd rfl z)) (fun f hf => by cases hf) (fun q hq => by cases hq) ⟨⟨Nat.succ_ne_zero _, 540, rfl, rfl⟩, ⟨Nat.one_ne_zero, a0, rfl, aa_id_ev rfl⟩, ⟨Nat.one_ne_zero, a1, rfl, aa_id_ev rfl⟩, ⟨Nat.one_ne_zero, a2, rfl, aa_id_ev rfl⟩, ⟨Nat.one_ne_zero, a3, rfl, aa_id_ev rfl⟩, trivial⟩ hi hφ
theorem ko_127 {g : aa_G} {a0 a1 a2 : Int32} (hi : aa_inv g) (hφ : aa_Phi g)  : zz_fin none 127 (0, zz_in [.ref 1, .int a0, .int a1, .int a2] (zz_nl 127), [], aa_H g) (aa_post aa_Phi aa_k117 [a0.toInt, a1.toInt, a2.toInt] g) := by
  have hK : aa_met aa_Phi aa_k117 := aa_met_p3 aa_good_free _ (List.mem_of_getElem? (i := 22) rfl)
  refine hK [a0.toInt, a1.toInt, a2.toInt] g [.ref 1, .int a0, .int a1, .int a2] (aa_vb_new (aa_vb_new (aa_vb_new (⟨rfl, fun i q v hq => by cases hq⟩ : aa_vb [] []) (lo := -2147483648) (hi := 2147483647) (gr := 0) (ko_rng a0).1 (ko_rng a0).2 (fun z => absurd rfl z)) (lo := -2147483648) (hi := 2147483647) (gr := 0) (ko_rng a1).1 (ko_rng a1).2 (fun z => absurd rfl z)) (lo := -2147483648) (hi := 2147483647) (gr := 0) (ko_rng a2).1 (ko_rng a2).2 (fun z => absurd rfl z)) (fun f hf => by cases hf) (fun q hq => by cases hq) ⟨⟨Nat.succ_ne_zero _, 1, rfl, rfl⟩, ⟨Nat.one_ne_zero, a0, rfl, aa_id_ev rfl⟩, ⟨Nat.one_ne_zero, a1, rfl, aa_id_ev rfl⟩, ⟨Nat.one_ne_zero, a2, rfl, aa_id_ev rfl⟩, trivial⟩ hi hφ
theorem ko_242 {g : aa_G} {a0 a1 a2 : Int32} (hi : aa_inv g) (hφ : aa_Phi g)  : zz_fin none 242 (0, zz_in [.ref 540, .int a0, .int a1, .int a2] (zz_nl 242), [], aa_H g) (aa_post aa_Phi aa_m92 [a0.toInt, a1.toInt, a2.toInt] g) := by
  have hK : aa_met aa_Phi aa_m92 := (aa_mL79 aa_hands_met _ List.mem_cons_self)
  refine hK [a0.toInt, a1.toInt, a2.toInt] g [.ref 540, .int a0, .int a1, .int a2] (aa_vb_new (aa_vb_new (aa_vb_new (⟨rfl, fun i q v hq => by cases hq⟩ : aa_vb [] []) (lo := -2147483648) (hi := 2147483647) (gr := 0) (ko_rng a0).1 (ko_rng a0).2 (fun z => absurd rfl z)) (lo := -2147483648) (hi := 2147483647) (gr := 0) (ko_rng a1).1 (ko_rng a1).2 (fun z => absurd rfl z)) (lo := -2147483648) (hi := 2147483647) (gr := 0) (ko_rng a2).1 (ko_rng a2).2 (fun z => absurd rfl z)) (fun f hf => by cases hf) (fun q hq => by cases hq) ⟨⟨Nat.succ_ne_zero _, 540, rfl, rfl⟩, ⟨Nat.one_ne_zero, a0, rfl, aa_id_ev rfl⟩, ⟨Nat.one_ne_zero, a1, rfl, aa_id_ev rfl⟩, ⟨Nat.one_ne_zero, a2, rfl, aa_id_ev rfl⟩, trivial⟩ hi hφ
theorem ko_126 {g : aa_G} {a0 a1 a2 : Int32} (hi : aa_inv g) (hφ : aa_Phi g)  : zz_fin none 126 (0, zz_in [.ref 1, .int a0, .int a1, .int a2] (zz_nl 126), [], aa_H g) (aa_post aa_Phi aa_k116 [a0.toInt, a1.toInt, a2.toInt] g) := by
  have hK : aa_met aa_Phi aa_k116 := aa_met_p3 aa_good_free _ (List.mem_of_getElem? (i := 23) rfl)
  refine hK [a0.toInt, a1.toInt, a2.toInt] g [.ref 1, .int a0, .int a1, .int a2] (aa_vb_new (aa_vb_new (aa_vb_new (⟨rfl, fun i q v hq => by cases hq⟩ : aa_vb [] []) (lo := -2147483648) (hi := 2147483647) (gr := 0) (ko_rng a0).1 (ko_rng a0).2 (fun z => absurd rfl z)) (lo := -2147483648) (hi := 2147483647) (gr := 0) (ko_rng a1).1 (ko_rng a1).2 (fun z => absurd rfl z)) (lo := -2147483648) (hi := 2147483647) (gr := 0) (ko_rng a2).1 (ko_rng a2).2 (fun z => absurd rfl z)) (fun f hf => by cases hf) (fun q hq => by cases hq) ⟨⟨Nat.succ_ne_zero _, 1, rfl, rfl⟩, ⟨Nat.one_ne_zero, a0, rfl, aa_id_ev rfl⟩, ⟨Nat.one_ne_zero, a1, rfl, aa_id_ev rfl⟩, ⟨Nat.one_ne_zero, a2, rfl, aa_id_ev rfl⟩, trivial⟩ hi hφ
theorem ko_233 {g : aa_G} {a0 a1 a2 : Int32} (hi : aa_inv g) (hφ : aa_Phi g)  : zz_fin none 233 (0, zz_in [.ref 540, .int a0, .int a1, .int a2] (zz_nl 233), [], aa_H g) (aa_post aa_Phi aa_m84 [a0.toInt, a1.toInt, a2.toInt] g) := by
  have hK : aa_met aa_Phi aa_m84 := (aa_mL71 aa_hands_met _ List.mem_cons_self)
  refine hK [a0.toInt, a1.toInt, a2.toInt] g [.ref 540, .int a0, .int a1, .int a2] (aa_vb_new (aa_vb_new (aa_vb_new (⟨rfl, fun i q v hq => by cases hq⟩ : aa_vb [] []) (lo := -2147483648) (hi := 2147483647) (gr := 0) (ko_rng a0).1 (ko_rng a0).2 (fun z => absurd rfl z)) (lo := -2147483648) (hi := 2147483647) (gr := 0) (ko_rng a1).1 (ko_rng a1).2 (fun z => absurd rfl z)) (lo := -2147483648) (hi := 2147483647) (gr := 0) (ko_rng a2).1 (ko_rng a2).2 (fun z => absurd rfl z)) (fun f hf => by cases hf) (fun q hq => by cases hq) ⟨⟨Nat.succ_ne_zero _, 540, rfl, rfl⟩, ⟨Nat.one_ne_zero, a0, rfl, aa_id_ev rfl⟩, ⟨Nat.one_ne_zero, a1, rfl, aa_id_ev rfl⟩, ⟨Nat.one_ne_zero, a2, rfl, aa_id_ev rfl⟩, trivial⟩ hi hφ
theorem ko_124 {g : aa_G} {a0 a1 a2 a3 a4 : Int32} (hi : aa_inv g) (hφ : aa_Phi g)  : zz_fin none 124 (0, zz_in [.ref 1, .int a0, .int a1, .int a2, .int a3, .int a4] (zz_nl 124), [], aa_H g) (aa_post aa_Phi aa_k115 [a0.toInt, a1.toInt, a2.toInt, a3.toInt, a4.toInt] g) := by
  have hK : aa_met aa_Phi aa_k115 := aa_met_p3 aa_good_free _ (List.mem_of_getElem? (i := 24) rfl)
  refine hK [a0.toInt, a1.toInt, a2.toInt, a3.toInt, a4.toInt] g [.ref 1, .int a0, .int a1, .int a2, .int a3, .int a4] (aa_vb_new (aa_vb_new (aa_vb_new (aa_vb_new (aa_vb_new (⟨rfl, fun i q v hq => by cases hq⟩ : aa_vb [] []) (lo := -2147483648) (hi := 2147483647) (gr := 0) (ko_rng a0).1 (ko_rng a0).2 (fun z => absurd rfl z)) (lo := -2147483648) (hi := 2147483647) (gr := 0) (ko_rng a1).1 (ko_rng a1).2 (fun z => absurd rfl z)) (lo := -2147483648) (hi := 2147483647) (gr := 0) (ko_rng a2).1 (ko_rng a2).2 (fun z => absurd rfl z)) (lo := -2147483648) (hi := 2147483647) (gr := 0) (ko_rng a3).1 (ko_rng a3).2 (fun z => absurd rfl z)) (lo := -2147483648) (hi := 2147483647) (gr := 0) (ko_rng a4).1 (ko_rng a4).2 (fun z => absurd rfl z)) (fun f hf => by cases hf) (fun q hq => by cases hq) ⟨⟨Nat.succ_ne_zero _, 1, rfl, rfl⟩, ⟨Nat.one_ne_zero, a0, rfl, aa_id_ev rfl⟩, ⟨Nat.one_ne_zero, a1, rfl, aa_id_ev rfl⟩, ⟨Nat.one_ne_zero, a2, rfl, aa_id_ev rfl⟩, ⟨Nat.one_ne_zero, a3, rfl, aa_id_ev rfl⟩, ⟨Nat.one_ne_zero, a4, rfl, aa_id_ev rfl⟩, trivial⟩ hi hφ
theorem ko_232 {g : aa_G} {a0 a1 a2 a3 a4 : Int32} (hi : aa_inv g) (hφ : aa_Phi g)  : zz_fin none 232 (0, zz_in [.ref 540, .int a0, .int a1, .int a2, .int a3, .int a4] (zz_nl 232), [], aa_H g) (aa_post aa_Phi aa_m82 [a0.toInt, a1.toInt, a2.toInt, a3.toInt, a4.toInt] g) := by
  have hK : aa_met aa_Phi aa_m82 := (aa_mL69 aa_hands_met _ List.mem_cons_self)
  refine hK [a0.toInt, a1.toInt, a2.toInt, a3.toInt, a4.toInt] g [.ref 540, .int a0, .int a1, .int a2, .int a3, .int a4] (aa_vb_new (aa_vb_new (aa_vb_new (aa_vb_new (aa_vb_new (⟨rfl, fun i q v hq => by cases hq⟩ : aa_vb [] []) (lo := -2147483648) (hi := 2147483647) (gr := 0) (ko_rng a0).1 (ko_rng a0).2 (fun z => absurd rfl z)) (lo := -2147483648) (hi := 2147483647) (gr := 0) (ko_rng a1).1 (ko_rng a1).2 (fun z => absurd rfl z)) (lo := -2147483648) (hi := 2147483647) (gr := 0) (ko_rng a2).1 (ko_rng a2).2 (fun z => absurd rfl z)) (lo := -2147483648) (hi := 2147483647) (gr := 0) (ko_rng a3).1 (ko_rng a3).2 (fun z => absurd rfl z)) (lo := -2147483648) (hi := 2147483647) (gr := 0) (ko_rng a4).1 (ko_rng a4).2 (fun z => absurd rfl z)) (fun f hf => by cases hf) (fun q hq => by cases hq) ⟨⟨Nat.succ_ne_zero _, 540, rfl, rfl⟩, ⟨Nat.one_ne_zero, a0, rfl, aa_id_ev rfl⟩, ⟨Nat.one_ne_zero, a1, rfl, aa_id_ev rfl⟩, ⟨Nat.one_ne_zero, a2, rfl, aa_id_ev rfl⟩, ⟨Nat.one_ne_zero, a3, rfl, aa_id_ev rfl⟩, ⟨Nat.one_ne_zero, a4, rfl, aa_id_ev rfl⟩, trivial⟩ hi hφ
theorem ko_128 {g : aa_G} {a0 a1 a2 a3 : Int32} (hi : aa_inv g) (hφ : aa_Phi g)  : zz_fin none 128 (0, zz_in [.ref 1, .int a0, .int a1, .int a2, .int a3] (zz_nl 128), [], aa_H g) (aa_post aa_Phi aa_k118 [a0.toInt, a1.toInt, a2.toInt, a3.toInt] g) := by
  have hK : aa_met aa_Phi aa_k118 := aa_met_p3 aa_good_free _ (List.mem_of_getElem? (i := 21) rfl)
  refine hK [a0.toInt, a1.toInt, a2.toInt, a3.toInt] g [.ref 1, .int a0, .int a1, .int a2, .int a3] (aa_vb_new (aa_vb_new (aa_vb_new (aa_vb_new (⟨rfl, fun i q v hq => by cases hq⟩ : aa_vb [] []) (lo := -2147483648) (hi := 2147483647) (gr := 0) (ko_rng a0).1 (ko_rng a0).2 (fun z => absurd rfl z)) (lo := -2147483648) (hi := 2147483647) (gr := 0) (ko_rng a1).1 (ko_rng a1).2 (fun z => absurd rfl z)) (lo := -2147483648) (hi := 2147483647) (gr := 0) (ko_rng a2).1 (ko_rng a2).2 (fun z => absurd rfl z)) (lo := -2147483648) (hi := 2147483647) (gr := 0) (ko_rng a3).1 (ko_rng a3).2 (fun z => absurd rfl z)) (fun f hf => by cases hf) (fun q hq => by cases hq) ⟨⟨Nat.succ_ne_zero _, 1, rfl, rfl⟩, ⟨Nat.one_ne_zero, a0, rfl, aa_id_ev rfl⟩, ⟨Nat.one_ne_zero, a1, rfl, aa_id_ev rfl⟩, ⟨Nat.one_ne_zero, a2, rfl, aa_id_ev rfl⟩, ⟨Nat.one_ne_zero, a3, rfl, aa_id_ev rfl⟩, trivial⟩ hi hφ
theorem ko_243 {g : aa_G} {a0 a1 a2 a3 : Int32} (hi : aa_inv g) (hφ : aa_Phi g)  : zz_fin none 243 (0, zz_in [.ref 540, .int a0, .int a1, .int a2, .int a3] (zz_nl 243), [], aa_H g) (aa_post aa_Phi aa_m93 [a0.toInt, a1.toInt, a2.toInt, a3.toInt] g) := by
  have hK : aa_met aa_Phi aa_m93 := (aa_mL80 aa_hands_met _ List.mem_cons_self)
  refine hK [a0.toInt, a1.toInt, a2.toInt, a3.toInt] g [.ref 540, .int a0, .int a1, .int a2, .int a3] (aa_vb_new (aa_vb_new (aa_vb_new (aa_vb_new (⟨rfl, fun i q v hq => by cases hq⟩ : aa_vb [] []) (lo := -2147483648) (hi := 2147483647) (gr := 0) (ko_rng a0).1 (ko_rng a0).2 (fun z => absurd rfl z)) (lo := -2147483648) (hi := 2147483647) (gr := 0) (ko_rng a1).1 (ko_rng a1).2 (fun z => absurd rfl z)) (lo := -2147483648) (hi := 2147483647) (gr := 0) (ko_rng a2).1 (ko_rng a2).2 (fun z => absurd rfl z)) (lo := -2147483648) (hi := 2147483647) (gr := 0) (ko_rng a3).1 (ko_rng a3).2 (fun z => absurd rfl z)) (fun f hf => by cases hf) (fun q hq => by cases hq) ⟨⟨Nat.succ_ne_zero _, 540, rfl, rfl⟩, ⟨Nat.one_ne_zero, a0, rfl, aa_id_ev rfl⟩, ⟨Nat.one_ne_zero, a1, rfl, aa_id_ev rfl⟩, ⟨Nat.one_ne_zero, a2, rfl, aa_id_ev rfl⟩, ⟨Nat.one_ne_zero, a3, rfl, aa_id_ev rfl⟩, trivial⟩ hi hφ
theorem ko_135 {g : aa_G} {a0 a1 a2 : Int32} (hi : aa_inv g) (hφ : aa_Phi g)  : zz_fin none 135 (0, zz_in [.ref 1, .int a0, .int a1, .int a2] (zz_nl 135), [], aa_H g) (aa_post aa_Phi aa_k125 [a0.toInt, a1.toInt, a2.toInt] g) := by
  have hK : aa_met aa_Phi aa_k125 := aa_met_p3 aa_good_free _ (List.mem_of_getElem? (i := 14) rfl)
  refine hK [a0.toInt, a1.toInt, a2.toInt] g [.ref 1, .int a0, .int a1, .int a2] (aa_vb_new (aa_vb_new (aa_vb_new (⟨rfl, fun i q v hq => by cases hq⟩ : aa_vb [] []) (lo := -2147483648) (hi := 2147483647) (gr := 0) (ko_rng a0).1 (ko_rng a0).2 (fun z => absurd rfl z)) (lo := -2147483648) (hi := 2147483647) (gr := 0) (ko_rng a1).1 (ko_rng a1).2 (fun z => absurd rfl z)) (lo := -2147483648) (hi := 2147483647) (gr := 0) (ko_rng a2).1 (ko_rng a2).2 (fun z => absurd rfl z)) (fun f hf => by cases hf) (fun q hq => by cases hq) ⟨⟨Nat.succ_ne_zero _, 1, rfl, rfl⟩, ⟨Nat.one_ne_zero, a0, rfl, aa_id_ev rfl⟩, ⟨Nat.one_ne_zero, a1, rfl, aa_id_ev rfl⟩, ⟨Nat.one_ne_zero, a2, rfl, aa_id_ev rfl⟩, trivial⟩ hi hφ
theorem ko_235 {g : aa_G} {a0 a1 a2 : Int32} (hi : aa_inv g) (hφ : aa_Phi g)  : zz_fin none 235 (0, zz_in [.ref 540, .int a0, .int a1, .int a2] (zz_nl 235), [], aa_H g) (aa_post aa_Phi aa_m85 [a0.toInt, a1.toInt, a2.toInt] g) := by
  have hK : aa_met aa_Phi aa_m85 := (aa_mL72 aa_hands_met _ List.mem_cons_self)
  refine hK [a0.toInt, a1.toInt, a2.toInt] g [.ref 540, .int a0, .int a1, .int a2] (aa_vb_new (aa_vb_new (aa_vb_new (⟨rfl, fun i q v hq => by cases hq⟩ : aa_vb [] []) (lo := -2147483648) (hi := 2147483647) (gr := 0) (ko_rng a0).1 (ko_rng a0).2 (fun z => absurd rfl z)) (lo := -2147483648) (hi := 2147483647) (gr := 0) (ko_rng a1).1 (ko_rng a1).2 (fun z => absurd rfl z)) (lo := -2147483648) (hi := 2147483647) (gr := 0) (ko_rng a2).1 (ko_rng a2).2 (fun z => absurd rfl z)) (fun f hf => by cases hf) (fun q hq => by cases hq) ⟨⟨Nat.succ_ne_zero _, 540, rfl, rfl⟩, ⟨Nat.one_ne_zero, a0, rfl, aa_id_ev rfl⟩, ⟨Nat.one_ne_zero, a1, rfl, aa_id_ev rfl⟩, ⟨Nat.one_ne_zero, a2, rfl, aa_id_ev rfl⟩, trivial⟩ hi hφ
theorem ko_132 {g : aa_G} {a0 a1 a2 a3 a4 : Int32} (hi : aa_inv g) (hφ : aa_Phi g)  : zz_fin none 132 (0, zz_in [.ref 1, .int a0, .int a1, .int a2, .int a3, .int a4] (zz_nl 132), [], aa_H g) (aa_post aa_Phi aa_k124 [a0.toInt, a1.toInt, a2.toInt, a3.toInt, a4.toInt] g) := by
  have hK : aa_met aa_Phi aa_k124 := aa_met_p3 aa_good_free _ (List.mem_of_getElem? (i := 15) rfl)
  refine hK [a0.toInt, a1.toInt, a2.toInt, a3.toInt, a4.toInt] g [.ref 1, .int a0, .int a1, .int a2, .int a3, .int a4] (aa_vb_new (aa_vb_new (aa_vb_new (aa_vb_new (aa_vb_new (⟨rfl, fun i q v hq => by cases hq⟩ : aa_vb [] []) (lo := -2147483648) (hi := 2147483647) (gr := 0) (ko_rng a0).1 (ko_rng a0).2 (fun z => absurd rfl z)) (lo := -2147483648) (hi := 2147483647) (gr := 0) (ko_rng a1).1 (ko_rng a1).2 (fun z => absurd rfl z)) (lo := -2147483648) (hi := 2147483647) (gr := 0) (ko_rng a2).1 (ko_rng a2).2 (fun z => absurd rfl z)) (lo := -2147483648) (hi := 2147483647) (gr := 0) (ko_rng a3).1 (ko_rng a3).2 (fun z => absurd rfl z)) (lo := -2147483648) (hi := 2147483647) (gr := 0) (ko_rng a4).1 (ko_rng a4).2 (fun z => absurd rfl z)) (fun f hf => by cases hf) (fun q hq => by cases hq) ⟨⟨Nat.succ_ne_zero _, 1, rfl, rfl⟩, ⟨Nat.one_ne_zero, a0, rfl, aa_id_ev rfl⟩, ⟨Nat.one_ne_zero, a1, rfl, aa_id_ev rfl⟩, ⟨Nat.one_ne_zero, a2, rfl, aa_id_ev rfl⟩, ⟨Nat.one_ne_zero, a3, rfl, aa_id_ev rfl⟩, ⟨Nat.one_ne_zero, a4, rfl, aa_id_ev rfl⟩, trivial⟩ hi hφ
theorem ko_228 {g : aa_G} {a0 a1 a2 a3 a4 : Int32} (hi : aa_inv g) (hφ : aa_Phi g)  : zz_fin none 228 (0, zz_in [.ref 540, .int a0, .int a1, .int a2, .int a3, .int a4] (zz_nl 228), [], aa_H g) (aa_post aa_Phi aa_m79 [a0.toInt, a1.toInt, a2.toInt, a3.toInt, a4.toInt] g) := by
  have hK : aa_met aa_Phi aa_m79 := (aa_mL66 aa_hands_met _ List.mem_cons_self)
  refine hK [a0.toInt, a1.toInt, a2.toInt, a3.toInt, a4.toInt] g [.ref 540, .int a0, .int a1, .int a2, .int a3, .int a4] (aa_vb_new (aa_vb_new (aa_vb_new (aa_vb_new (aa_vb_new (⟨rfl, fun i q v hq => by cases hq⟩ : aa_vb [] []) (lo := -2147483648) (hi := 2147483647) (gr := 0) (ko_rng a0).1 (ko_rng a0).2 (fun z => absurd rfl z)) (lo := -2147483648) (hi := 2147483647) (gr := 0) (ko_rng a1).1 (ko_rng a1).2 (fun z => absurd rfl z)) (lo := -2147483648) (hi := 2147483647) (gr := 0) (ko_rng a2).1 (ko_rng a2).2 (fun z => absurd rfl z)) (lo := -2147483648) (hi := 2147483647) (gr := 0) (ko_rng a3).1 (ko_rng a3).2 (fun z => absurd rfl z)) (lo := -2147483648) (hi := 2147483647) (gr := 0) (ko_rng a4).1 (ko_rng a4).2 (fun z => absurd rfl z)) (fun f hf => by cases hf) (fun q hq => by cases hq) ⟨⟨Nat.succ_ne_zero _, 540, rfl, rfl⟩, ⟨Nat.one_ne_zero, a0, rfl, aa_id_ev rfl⟩, ⟨Nat.one_ne_zero, a1, rfl, aa_id_ev rfl⟩, ⟨Nat.one_ne_zero, a2, rfl, aa_id_ev rfl⟩, ⟨Nat.one_ne_zero, a3, rfl, aa_id_ev rfl⟩, ⟨Nat.one_ne_zero, a4, rfl, aa_id_ev rfl⟩, trivial⟩ hi hφ
theorem ko_131 {g : aa_G} {a0 a1 : Int32} (hi : aa_inv g) (hφ : aa_Phi g)  : zz_fin none 131 (0, zz_in [.ref 1, .int a0, .int a1] (zz_nl 131), [], aa_H g) (aa_post aa_Phi aa_k121 [a0.toInt, a1.toInt] g) := by
  have hK : aa_met aa_Phi aa_k121 := aa_met_p3 aa_good_free _ (List.mem_of_getElem? (i := 18) rfl)
  refine hK [a0.toInt, a1.toInt] g [.ref 1, .int a0, .int a1] (aa_vb_new (aa_vb_new (⟨rfl, fun i q v hq => by cases hq⟩ : aa_vb [] []) (lo := -2147483648) (hi := 2147483647) (gr := 0) (ko_rng a0).1 (ko_rng a0).2 (fun z => absurd rfl z)) (lo := -2147483648) (hi := 2147483647) (gr := 0) (ko_rng a1).1 (ko_rng a1).2 (fun z => absurd rfl z)) (fun f hf => by cases hf) (fun q hq => by cases hq) ⟨⟨Nat.succ_ne_zero _, 1, rfl, rfl⟩, ⟨Nat.one_ne_zero, a0, rfl, aa_id_ev rfl⟩, ⟨Nat.one_ne_zero, a1, rfl, aa_id_ev rfl⟩, trivial⟩ hi hφ
theorem ko_245 {g : aa_G} {a0 a1 : Int32} (hi : aa_inv g) (hφ : aa_Phi g)  : zz_fin none 245 (0, zz_in [.ref 540, .int a0, .int a1] (zz_nl 245), [], aa_H g) (aa_post aa_Phi aa_m95 [a0.toInt, a1.toInt] g) := by
  have hK : aa_met aa_Phi aa_m95 := (aa_mL82 aa_hands_met _ List.mem_cons_self)
  refine hK [a0.toInt, a1.toInt] g [.ref 540, .int a0, .int a1] (aa_vb_new (aa_vb_new (⟨rfl, fun i q v hq => by cases hq⟩ : aa_vb [] []) (lo := -2147483648) (hi := 2147483647) (gr := 0) (ko_rng a0).1 (ko_rng a0).2 (fun z => absurd rfl z)) (lo := -2147483648) (hi := 2147483647) (gr := 0) (ko_rng a1).1 (ko_rng a1).2 (fun z => absurd rfl z)) (fun f hf => by cases hf) (fun q hq => by cases hq) ⟨⟨Nat.succ_ne_zero _, 540, rfl, rfl⟩, ⟨Nat.one_ne_zero, a0, rfl, aa_id_ev rfl⟩, ⟨Nat.one_ne_zero, a1, rfl, aa_id_ev rfl⟩, trivial⟩ hi hφ
theorem ko_136 {g : aa_G} {a0 a1 a2 a3 a4 : Int32} (hi : aa_inv g) (hφ : aa_Phi g)  : zz_fin none 136 (0, zz_in [.ref 1, .int a0, .int a1, .int a2, .int a3, .int a4] (zz_nl 136), [], aa_H g) (aa_post aa_Phi aa_k126 [a0.toInt, a1.toInt, a2.toInt, a3.toInt, a4.toInt] g) := by
  have hK : aa_met aa_Phi aa_k126 := aa_met_p3 aa_good_free _ (List.mem_of_getElem? (i := 13) rfl)
  refine hK [a0.toInt, a1.toInt, a2.toInt, a3.toInt, a4.toInt] g [.ref 1, .int a0, .int a1, .int a2, .int a3, .int a4] (aa_vb_new (aa_vb_new (aa_vb_new (aa_vb_new (aa_vb_new (⟨rfl, fun i q v hq => by cases hq⟩ : aa_vb [] []) (lo := -2147483648) (hi := 2147483647) (gr := 0) (ko_rng a0).1 (ko_rng a0).2 (fun z => absurd rfl z)) (lo := -2147483648) (hi := 2147483647) (gr := 0) (ko_rng a1).1 (ko_rng a1).2 (fun z => absurd rfl z)) (lo := -2147483648) (hi := 2147483647) (gr := 0) (ko_rng a2).1 (ko_rng a2).2 (fun z => absurd rfl z)) (lo := -2147483648) (hi := 2147483647) (gr := 0) (ko_rng a3).1 (ko_rng a3).2 (fun z => absurd rfl z)) (lo := -2147483648) (hi := 2147483647) (gr := 0) (ko_rng a4).1 (ko_rng a4).2 (fun z => absurd rfl z)) (fun f hf => by cases hf) (fun q hq => by cases hq) ⟨⟨Nat.succ_ne_zero _, 1, rfl, rfl⟩, ⟨Nat.one_ne_zero, a0, rfl, aa_id_ev rfl⟩, ⟨Nat.one_ne_zero, a1, rfl, aa_id_ev rfl⟩, ⟨Nat.one_ne_zero, a2, rfl, aa_id_ev rfl⟩, ⟨Nat.one_ne_zero, a3, rfl, aa_id_ev rfl⟩, ⟨Nat.one_ne_zero, a4, rfl, aa_id_ev rfl⟩, trivial⟩ hi hφ
theorem ko_238 {g : aa_G} {a0 a1 a2 a3 a4 : Int32} (hi : aa_inv g) (hφ : aa_Phi g)  : zz_fin none 238 (0, zz_in [.ref 540, .int a0, .int a1, .int a2, .int a3, .int a4] (zz_nl 238), [], aa_H g) (aa_post aa_Phi aa_m89 [a0.toInt, a1.toInt, a2.toInt, a3.toInt, a4.toInt] g) := by
  have hK : aa_met aa_Phi aa_m89 := (aa_mL76 aa_hands_met _ List.mem_cons_self)
  refine hK [a0.toInt, a1.toInt, a2.toInt, a3.toInt, a4.toInt] g [.ref 540, .int a0, .int a1, .int a2, .int a3, .int a4] (aa_vb_new (aa_vb_new (aa_vb_new (aa_vb_new (aa_vb_new (⟨rfl, fun i q v hq => by cases hq⟩ : aa_vb [] []) (lo := -2147483648) (hi := 2147483647) (gr := 0) (ko_rng a0).1 (ko_rng a0).2 (fun z => absurd rfl z)) (lo := -2147483648) (hi := 2147483647) (gr := 0) (ko_rng a1).1 (ko_rng a1).2 (fun z => absurd rfl z)) (lo := -2147483648) (hi := 2147483647) (gr := 0) (ko_rng a2).1 (ko_rng a2).2 (fun z => absurd rfl z)) (lo := -2147483648) (hi := 2147483647) (gr := 0) (ko_rng a3).1 (ko_rng a3).2 (fun z => absurd rfl z)) (lo := -2147483648) (hi := 2147483647) (gr := 0) (ko_rng a4).1 (ko_rng a4).2 (fun z => absurd rfl z)) (fun f hf => by cases hf) (fun q hq => by cases hq) ⟨⟨Nat.succ_ne_zero _, 540, rfl, rfl⟩, ⟨Nat.one_ne_zero, a0, rfl, aa_id_ev rfl⟩, ⟨Nat.one_ne_zero, a1, rfl, aa_id_ev rfl⟩, ⟨Nat.one_ne_zero, a2, rfl, aa_id_ev rfl⟩, ⟨Nat.one_ne_zero, a3, rfl, aa_id_ev rfl⟩, ⟨Nat.one_ne_zero, a4, rfl, aa_id_ev rfl⟩, trivial⟩ hi hφ
theorem ko_137 {g : aa_G} {a0 a1 a2 a3 a4 : Int32} (hi : aa_inv g) (hφ : aa_Phi g)  : zz_fin none 137 (0, zz_in [.ref 1, .int a0, .int a1, .int a2, .int a3, .int a4] (zz_nl 137), [], aa_H g) (aa_post aa_Phi aa_k127 [a0.toInt, a1.toInt, a2.toInt, a3.toInt, a4.toInt] g) := by
  have hK : aa_met aa_Phi aa_k127 := aa_met_p3 aa_good_free _ (List.mem_of_getElem? (i := 12) rfl)
  refine hK [a0.toInt, a1.toInt, a2.toInt, a3.toInt, a4.toInt] g [.ref 1, .int a0, .int a1, .int a2, .int a3, .int a4] (aa_vb_new (aa_vb_new (aa_vb_new (aa_vb_new (aa_vb_new (⟨rfl, fun i q v hq => by cases hq⟩ : aa_vb [] []) (lo := -2147483648) (hi := 2147483647) (gr := 0) (ko_rng a0).1 (ko_rng a0).2 (fun z => absurd rfl z)) (lo := -2147483648) (hi := 2147483647) (gr := 0) (ko_rng a1).1 (ko_rng a1).2 (fun z => absurd rfl z)) (lo := -2147483648) (hi := 2147483647) (gr := 0) (ko_rng a2).1 (ko_rng a2).2 (fun z => absurd rfl z)) (lo := -2147483648) (hi := 2147483647) (gr := 0) (ko_rng a3).1 (ko_rng a3).2 (fun z => absurd rfl z)) (lo := -2147483648) (hi := 2147483647) (gr := 0) (ko_rng a4).1 (ko_rng a4).2 (fun z => absurd rfl z)) (fun f hf => by cases hf) (fun q hq => by cases hq) ⟨⟨Nat.succ_ne_zero _, 1, rfl, rfl⟩, ⟨Nat.one_ne_zero, a0, rfl, aa_id_ev rfl⟩, ⟨Nat.one_ne_zero, a1, rfl, aa_id_ev rfl⟩, ⟨Nat.one_ne_zero, a2, rfl, aa_id_ev rfl⟩, ⟨Nat.one_ne_zero, a3, rfl, aa_id_ev rfl⟩, ⟨Nat.one_ne_zero, a4, rfl, aa_id_ev rfl⟩, trivial⟩ hi hφ
theorem ko_240 {g : aa_G} {a0 a1 a2 a3 a4 : Int32} (hi : aa_inv g) (hφ : aa_Phi g)  : zz_fin none 240 (0, zz_in [.ref 540, .int a0, .int a1, .int a2, .int a3, .int a4] (zz_nl 240), [], aa_H g) (aa_post aa_Phi aa_m90 [a0.toInt, a1.toInt, a2.toInt, a3.toInt, a4.toInt] g) := by
  have hK : aa_met aa_Phi aa_m90 := (aa_mL77 aa_hands_met _ List.mem_cons_self)
  refine hK [a0.toInt, a1.toInt, a2.toInt, a3.toInt, a4.toInt] g [.ref 540, .int a0, .int a1, .int a2, .int a3, .int a4] (aa_vb_new (aa_vb_new (aa_vb_new (aa_vb_new (aa_vb_new (⟨rfl, fun i q v hq => by cases hq⟩ : aa_vb [] []) (lo := -2147483648) (hi := 2147483647) (gr := 0) (ko_rng a0).1 (ko_rng a0).2 (fun z => absurd rfl z)) (lo := -2147483648) (hi := 2147483647) (gr := 0) (ko_rng a1).1 (ko_rng a1).2 (fun z => absurd rfl z)) (lo := -2147483648) (hi := 2147483647) (gr := 0) (ko_rng a2).1 (ko_rng a2).2 (fun z => absurd rfl z)) (lo := -2147483648) (hi := 2147483647) (gr := 0) (ko_rng a3).1 (ko_rng a3).2 (fun z => absurd rfl z)) (lo := -2147483648) (hi := 2147483647) (gr := 0) (ko_rng a4).1 (ko_rng a4).2 (fun z => absurd rfl z)) (fun f hf => by cases hf) (fun q hq => by cases hq) ⟨⟨Nat.succ_ne_zero _, 540, rfl, rfl⟩, ⟨Nat.one_ne_zero, a0, rfl, aa_id_ev rfl⟩, ⟨Nat.one_ne_zero, a1, rfl, aa_id_ev rfl⟩, ⟨Nat.one_ne_zero, a2, rfl, aa_id_ev rfl⟩, ⟨Nat.one_ne_zero, a3, rfl, aa_id_ev rfl⟩, ⟨Nat.one_ne_zero, a4, rfl, aa_id_ev rfl⟩, trivial⟩ hi hφ
end
section
/-! LOOPS WITH THE HEAP IN THE STATE -/
def fd_i {σ : Type} (F : Nat → σ → σ) : Nat → Nat → σ → σ
  | _, 0, s => s
  | i, k + 1, s => fd_i F (i + 1) k (F i s)
theorem hp_loop {σ τ : Type} {B : τ → τ ⊕ (Int32 × aa_G)} {dd : Int32 × aa_G} {enc : aa_G → σ → Nat → τ} {F : Nat → σ → σ} {E : σ → Int32} {n : Nat} {P : aa_G → Prop} {I : Nat → σ → Prop}
    (h1 : ∀ X s d, P X → I d s → d < n → ∃ Y, B (enc X s d) = .inl (enc Y (F d s) (d + 1)) ∧ P Y ∧ I (d + 1) (F d s))
    (h2 : ∀ X s, P X → I n s → ∃ Y, B (enc X s n) = .inr (E s, Y)) : ∀ (k d : Nat) (X : aa_G) (s : σ), P X → I d s → d + k = n → (lp_f dd B (enc X s d)).1 = E (fd_i F d k s) := by
  intro k
  induction k with
  | zero =>
    intro d X s p i e
    obtain rfl : d = n := by omega
    obtain ⟨Y, y⟩ := h2 X s p i
    rw [lp_r y]
    rfl
  | succ k ih =>
    intro d X s p i e
    obtain ⟨Y, y1, y2, y3⟩ := h1 X s d p i (by omega)
    rw [lp_l y1, ih (d + 1) Y (F d s) y2 y3 (by omega)]
    rfl
/-! SEASON (122, 226): both sides say the same -/
def sc_v (k l : Int32) : Int32 := if k ≠ 0 then (if k ≠ 1 then -(if 0 ≤ l - 43200 then l - 43200 else -(l - 43200)) else -l) else l
noncomputable def se_f (T : Nat → Int32) (t : Nat) (k : Int32) (d : Nat) (s : Int32 × Int32 × Int32) : Int32 × Int32 × Int32 := match hv_t T t (d : Int) 0 with
  | none => (s.1, s.2.1, s.2.2 + 1)
  | some (_, l) => if s.1 = -2 ∨ s.2.1 < sc_v k (Int32.ofInt l) then (Int32.ofNat d, sc_v k (Int32.ofInt l), s.2.2) else s
noncomputable def sp_23 (T : Nat → Int32) (a k : Int32) : Int32 := if ¬ (0 ≤ a.toInt ∧ a.toInt < (T 0).toInt) ∨ ¬ (0 ≤ k.toInt ∧ k.toInt ≤ 3) then -1 else
  (fun s : Int32 × Int32 × Int32 => if k ≠ 3 then s.1 else s.2.2) (fd_i (se_f T a.toInt.toNat k) 0 360 (-2, 0, 0))
theorem sc_123 (k l : Int32) : fn_123 l k = sc_v k l := by
  unfold fn_123 sc_v
  rw [Int32.zero_sub]
theorem c23_day {X : aa_G} {t d : Nat} {k : Int32} (W : wd_g X) (ht : (t : Int) < (X 541 0).toInt) (hd : d < 360) (s : Int32 × Int32 × Int32) : ∃ Y : aa_G, fn_122_37b X k (5 * t + 14) s.1 s.2.1 s.2.2 (Int32.ofNat d) = .inl (Y, (se_f (X 541) t k d s).1, (se_f (X 541) t k d s).2.1, (se_f (X 541) t k d s).2.2, Int32.ofNat (d + 1)) ∧ wd_g Y ∧ Y 541 = X 541 := by
  obtain ⟨f, -, -, m⟩ := (ck_look (g := X) (P := 461) (d := Int32.ofNat d) (h := 0) W ht (by omega) (.inl rfl)).1
  rw [show (0 : Int32).toInt = 0 from rfl, zz_ofN (by omega)] at m
  unfold fn_122_37b
  rw [if_neg (c := (360 : Int32) ≤ Int32.ofNat d) (fun h => by have := aa_le32.mp h; rw [zz_ofN (by omega), show (360 : Int32).toInt = 360 from rfl] at this; omega)]
  generalize fn_78 X 461 (some (5 * t + 14)) (Int32.ofNat d) 0 = Y at f m ⊢
  refine ⟨Y, ?_, wd_of W (fun k j z => f k j (by omega)), funext fun j => f 541 j (by omega)⟩
  unfold fn_122_56 fn_122_99 fn_122_107 se_f
  rw [mb_add d 1 (v := 1) rfl]
  cases hq : hv_t (X 541) t (d : Int) 0 with
  | none =>
    rw [hq] at m
    rw [if_neg (c := Y 461 0 ≠ 0) (fun z => z m.1)]
  | some r =>
    obtain ⟨u, l⟩ := r
    rw [hq] at m
    obtain ⟨m1, m2, m3⟩ := m
    rw [if_pos (c := Y 461 0 ≠ 0) (by rw [m1]; decide), of_ti m3, sc_123]
    dsimp only
    by_cases z1 : s.1 = -2
    · rw [if_pos z1, if_pos (.inl z1)]
    · rw [if_neg z1]
      by_cases z2 : sc_v k (Int32.ofInt l) ≤ s.2.1
      · rw [if_pos z2, if_neg (c := s.1 = -2 ∨ s.2.1 < sc_v k (Int32.ofInt l)) (fun h => h.elim z1 fun h => Int32.not_le.mpr h z2)]
      · rw [if_neg z2, if_pos (c := s.1 = -2 ∨ s.2.1 < sc_v k (Int32.ofInt l)) (.inr (Int32.not_le.mp z2))]
theorem m23_day {X : aa_G} {t d : Nat} {k : Int32} (W : wd_g X) (ht : (t : Int) < (X 541 0).toInt) (hd : d < 360) (s : Int32 × Int32 × Int32) : ∃ Y : aa_G, fn_226_31b X (Int32.ofNat t) k s.1 s.2.1 s.2.2 (Int32.ofNat d) = .inl (Y, (se_f (X 541) t k d s).1, (se_f (X 541) t k d s).2.1, (se_f (X 541) t k d s).2.2, Int32.ofNat (d + 1)) ∧ wd_g Y ∧ Y 541 = X 541 := by
  obtain ⟨f, m⟩ := mk_222 (d := Int32.ofNat d) W ht
  rw [zz_ofN (by omega)] at m
  unfold fn_226_31b
  rw [if_neg (c := (360 : Int32) ≤ Int32.ofNat d) (fun h => by have := aa_le32.mp h; rw [zz_ofN (by omega), show (360 : Int32).toInt = 360 from rfl] at this; omega)]
  generalize fn_222 X (Int32.ofNat t) (Int32.ofNat d) = Y at f m ⊢
  obtain ⟨v, Y⟩ := Y
  dsimp only at f m ⊢
  refine ⟨Y, ?_, wd_of W (fun k j z => f k j (by omega)), funext fun j => f 541 j (by omega)⟩
  unfold fn_226_46 fn_226_61 fn_226_93 fn_226_117 fn_226_124 se_f
  rw [mb_add d 1 (v := 1) rfl]
  cases hq : hv_t (X 541) t (d : Int) 0 with
  | none =>
    rw [hq] at m
    have m : v = -1 := ti_eq.mpr m
    rw [if_neg (c := v ≠ -1) (fun z => z m), if_pos m, if_pos m, if_pos m]
    by_cases k0 : k = 0
    · rw [if_neg (c := k ≠ 0) (fun z => z k0)]
    · rw [if_pos (c := k ≠ 0) k0]
      by_cases k1 : k = 1
      · rw [if_neg (c := k ≠ 1) (fun z => z k1)]
      · rw [if_pos (c := k ≠ 1) k1]
  | some r =>
    obtain ⟨u, l⟩ := r
    rw [hq] at m
    have m : v.toInt = l := m
    obtain ⟨v1, v2, v3, v4, -⟩ := hv_b W ht hq
    have hv : ¬ v = -1 := fun z => by rw [z] at m; have : (-1 : Int) = l := m; omega
    rw [if_pos (c := v ≠ -1) hv, if_neg hv, if_neg hv, if_neg hv, Int32.add_zero, of_ti m]
    have fin : ∀ x : Int32, x = sc_v k (Int32.ofInt l) → (if s.1 = -2 then (Sum.inl (Y, Int32.ofNat d, x, s.2.2, Int32.ofNat (d + 1)) : (aa_G × Int32 × Int32 × Int32 × Int32) ⊕ (Int32 × aa_G)) else if s.2.1 < x then .inl (Y, Int32.ofNat d, x, s.2.2, Int32.ofNat (d + 1)) else .inl (Y, s.1, s.2.1, s.2.2, Int32.ofNat (d + 1))) = .inl (Y, (if s.1 = -2 ∨ s.2.1 < sc_v k (Int32.ofInt l) then (Int32.ofNat d, sc_v k (Int32.ofInt l), s.2.2) else s).1, (if s.1 = -2 ∨ s.2.1 < sc_v k (Int32.ofInt l) then (Int32.ofNat d, sc_v k (Int32.ofInt l), s.2.2) else s).2.1, (if s.1 = -2 ∨ s.2.1 < sc_v k (Int32.ofInt l) then (Int32.ofNat d, sc_v k (Int32.ofInt l), s.2.2) else s).2.2, Int32.ofNat (d + 1)) := by
      intro x e
      subst e
      by_cases z1 : s.1 = -2
      · rw [if_pos z1, if_pos (.inl z1)]
      · rw [if_neg z1]
        by_cases z2 : s.2.1 < sc_v k (Int32.ofInt l)
        · rw [if_pos z2, if_pos (c := s.1 = -2 ∨ s.2.1 < sc_v k (Int32.ofInt l)) (.inr z2)]
        · rw [if_neg z2, if_neg (c := s.1 = -2 ∨ s.2.1 < sc_v k (Int32.ofInt l)) (fun h => h.elim z1 z2)]
    by_cases k0 : k = 0
    · rw [if_neg (c := k ≠ 0) (fun z => z k0)]
      exact fin _ (by unfold sc_v; rw [if_neg (c := k ≠ 0) (fun z => z k0)])
    · rw [if_pos (c := k ≠ 0) k0]
      by_cases k1 : k = 1
      · rw [if_neg (c := k ≠ 1) (fun z => z k1)]
        exact fin _ (by unfold sc_v; rw [if_pos (c := k ≠ 0) k0, if_neg (c := k ≠ 1) (fun z => z k1)])
      · rw [if_pos (c := k ≠ 1) k1]
        exact fin _ (by unfold sc_v fn_227; rw [if_pos (c := k ≠ 0) k0, if_pos (c := k ≠ 1) k1])
theorem ck_122 {g : aa_G} (W : wd_g g) (a k : Int32) : (fn_122 g a k).1 = sp_23 (g 541) a k := by
  unfold fn_122 sp_23
  rcases ct_at W a with ⟨t, ht, rfl, ht2, e1, -⟩ | ⟨n1, e1, -⟩
  · rw [e1]
    dsimp only
    by_cases zk : fn_14 k 0 3 ≠ 0
    · have hk : 0 ≤ k.toInt ∧ k.toInt ≤ 3 := ti_14n.mp zk
      rw [if_pos zk, if_neg (c := ¬ (0 ≤ (Int32.ofNat t).toInt ∧ (Int32.ofNat t).toInt < (g 541 0).toInt) ∨ ¬ (0 ≤ k.toInt ∧ k.toInt ≤ 3)) (by rw [zz_ofN (by omega)]; omega), zz_ofN (by omega), show ((t : Int).toNat) = t by omega]
      unfold fn_122_37
      exact hp_loop (B := fun z : (aa_G × Int32 × Int32 × Int32 × Int32) => fn_122_37b z.1 k (5 * t + 14) z.2.1 z.2.2.1 z.2.2.2.1 z.2.2.2.2) (enc := fun X (s : Int32 × Int32 × Int32) d => (X, s.1, s.2.1, s.2.2, Int32.ofNat d)) (F := se_f (g 541) t k) (E := fun s : Int32 × Int32 × Int32 => if k ≠ 3 then s.1 else s.2.2) (n := 360) (P := fun X => wd_g X ∧ X 541 = g 541) (I := fun _ _ => True)
        (fun X s d p _ hd => by
          obtain ⟨Y, y1, y2, y3⟩ := c23_day (k := k) p.1 (by rw [p.2]; exact ht2) hd s
          rw [p.2] at y1 y3
          exact ⟨Y, y1, ⟨y2, y3⟩, trivial⟩)
        (fun X s p _ => by
          refine ⟨X, ?_⟩
          show fn_122_37b X k (5 * t + 14) s.1 s.2.1 s.2.2 (Int32.ofNat 360) = _
          unfold fn_122_37b
          rw [if_pos (c := (360 : Int32) ≤ Int32.ofNat 360) (by decide)]
          by_cases k3 : k ≠ 3
          · rw [if_pos k3, if_pos k3]
          · rw [if_neg k3, if_neg k3]) 360 0 g (-2, 0, 0) ⟨W, rfl⟩ trivial rfl
    · rw [if_neg zk, if_pos (.inr (fun h => zk (ti_14n.mpr h)))]
  · rw [e1, if_pos (c := ¬ (0 ≤ a.toInt ∧ a.toInt < (g 541 0).toInt) ∨ ¬ (0 ≤ k.toInt ∧ k.toInt ≤ 3)) (.inl n1)]
theorem mk_226 {g : aa_G} (W : wd_g g) (a k : Int32) : (fn_226 g a k).1 = sp_23 (g 541) a k := by
  unfold fn_226 sp_23
  rcases ct_at W a with ⟨t, ht, rfl, ht2, -, e1⟩ | ⟨n1, -, e1⟩
  · rw [if_neg (c := fn_192 g (Int32.ofNat t) = 0) (by rw [e1]; decide)]
    by_cases zk : fn_154 k 0 3 ≠ 0
    · have hk : 0 ≤ k.toInt ∧ k.toInt ≤ 3 := ti_154n.mp zk
      rw [if_pos zk, if_neg (c := ¬ (0 ≤ (Int32.ofNat t).toInt ∧ (Int32.ofNat t).toInt < (g 541 0).toInt) ∨ ¬ (0 ≤ k.toInt ∧ k.toInt ≤ 3)) (by rw [zz_ofN (by omega)]; omega), zz_ofN (by omega), show ((t : Int).toNat) = t by omega]
      unfold fn_226_31
      exact hp_loop (B := fun z : (aa_G × Int32 × Int32 × Int32 × Int32) => fn_226_31b z.1 (Int32.ofNat t) k z.2.1 z.2.2.1 z.2.2.2.1 z.2.2.2.2) (enc := fun X (s : Int32 × Int32 × Int32) d => (X, s.1, s.2.1, s.2.2, Int32.ofNat d)) (F := se_f (g 541) t k) (E := fun s : Int32 × Int32 × Int32 => if k ≠ 3 then s.1 else s.2.2) (n := 360) (P := fun X => wd_g X ∧ X 541 = g 541) (I := fun _ _ => True)
        (fun X s d p _ hd => by
          obtain ⟨Y, y1, y2, y3⟩ := m23_day (k := k) p.1 (by rw [p.2]; exact ht2) hd s
          rw [p.2] at y1 y3
          exact ⟨Y, y1, ⟨y2, y3⟩, trivial⟩)
        (fun X s p _ => by
          refine ⟨X, ?_⟩
          show fn_226_31b X (Int32.ofNat t) k s.1 s.2.1 s.2.2 (Int32.ofNat 360) = _
          unfold fn_226_31b
          rw [if_pos (c := (360 : Int32) ≤ Int32.ofNat 360) (by decide)]
          by_cases k3 : k ≠ 3
          · rw [if_pos k3, if_pos k3]
          · rw [if_neg k3, if_neg k3]) 360 0 g (-2, 0, 0) ⟨W, rfl⟩ trivial rfl
    · rw [if_neg zk, if_pos (.inr (fun h => zk (ti_154n.mpr h)))]
  · rw [if_pos (c := fn_192 g a = 0) e1, if_pos (.inl n1)]
theorem lq_122 {g : aa_G} {a0 a1 : Int32} (hi : aa_inv g) (hφ : aa_Phi g) (hR : lr_R g) : lq_ok true 122 226 [.int a0, .int a1] g :=
  lq_ask (y := fn_226 (fn_122 g a0 a1).2 a0 a1) hi hφ hR (ko_fw (ko_122 hi hφ) fun _ _ _ r => dn_122 r) (fun i1 p1 => ko_fw (ko_226 i1 p1) fun _ _ _ r => dn_226 r) (by decide +kernel) (by decide +kernel) (by decide +kernel) (by decide +kernel) (by decide +kernel) (by decide +kernel) fun W W2 e => by rw [ck_122 W, mk_226 W2, e]
end
section
/-! (96, 230): both sides say the same -/
def sp_m (h k : Int32) : Option (Int × Int) → Int
  | none => -1000000
  | some (u, l) => if k = 0 then u + l / 2 else if h = 0 then u + l / 2 - 43200 else u + l / 2 - 86400
noncomputable def sp_25 (T : Nat → Int32) (a b h k : Int32) : Int := if ¬ (0 ≤ a.toInt ∧ a.toInt < (T 0).toInt) ∨ ¬ (0 ≤ b.toInt ∧ b.toInt ≤ 35999) ∨ ¬ (0 ≤ h.toInt ∧ h.toInt ≤ 1) ∨ ¬ (0 ≤ k.toInt ∧ k.toInt ≤ 1) then -1000000 else
  sp_m h k (hv_t T a.toInt.toNat b.toInt h.toInt)
theorem sm_two {x y : Int32} {u l : Int} (hx : x.toInt = u) (hy : y.toInt = l) (h0 : 0 ≤ u ∧ u ≤ 86399) (h1 : 1 ≤ l ∧ l ≤ 172798) : (x + y / 2).toInt = u + l / 2 ∧ (x + y / 2 - 43200).toInt = u + l / 2 - 43200 ∧ (x + y / 2 - 86400).toInt = u + l / 2 - 86400 := by
  have e1 : (y / 2).toInt = l / 2 := by rw [ti_div (by omega) (by decide), hy]; rfl
  have e2 : (x + y / 2).toInt = u + l / 2 := by rw [aa_add32 (by omega) (by omega), e1, hx]
  refine ⟨e2, ?_, ?_⟩
  · rw [aa_sub32 (by rw [e2, show (43200 : Int32).toInt = 43200 from rfl]; omega) (by rw [e2, show (43200 : Int32).toInt = 43200 from rfl]; omega), e2]; rfl
  · rw [aa_sub32 (by rw [e2, show (86400 : Int32).toInt = 86400 from rfl]; omega) (by rw [e2, show (86400 : Int32).toInt = 86400 from rfl]; omega), e2]; rfl
theorem hv_bb {g : aa_G} {t : Nat} (W : wd_g g) (ht : (t : Int) < (g 541 0).toInt) {d h u l : Int} (e : hv_t (g 541) t d h = some (u, l)) : (0 ≤ u ∧ u ≤ 86399) ∧ (1 ≤ l ∧ l ≤ 172798) := by
  obtain ⟨v1, v2, v3, v4, v5⟩ := hv_b W ht e
  by_cases z : h = 1
  · have := v5 z
    omega
  · have := v4 z
    omega
theorem ck_96 {g : aa_G} (W : wd_g g) (a b h k : Int32) : (fn_96 g a b h k).1.toInt = sp_25 (g 541) a b h k := by
  unfold fn_96 sp_25
  rcases ct_at W a with ⟨t, ht, rfl, ht2, e1, -⟩ | ⟨n1, e1, -⟩
  · rw [e1]
    dsimp only
    by_cases zb : fn_77 b = 0
    · rw [if_pos zb, if_pos (.inr (.inl (ti_77z.mp zb)))]
      rfl
    · have hb := ti_77n.mp zb
      rw [if_neg zb]
      by_cases zh : fn_14 h 0 1 = 0
      · have hh : ¬ (0 ≤ h.toInt ∧ h.toInt ≤ 1) := ti_14z.mp zh
        rw [if_pos zh, if_pos (.inr (.inr (.inl hh)))]
        rfl
      · have hh : 0 ≤ h.toInt ∧ h.toInt ≤ 1 := ti_14n.mp zh
        rw [if_neg zh]
        by_cases zk : fn_14 k 0 1 ≠ 0
        · have hk : 0 ≤ k.toInt ∧ k.toInt ≤ 1 := ti_14n.mp zk
          have hn : ¬ (¬ (0 ≤ (Int32.ofNat t).toInt ∧ (Int32.ofNat t).toInt < (g 541 0).toInt) ∨ ¬ (0 ≤ b.toInt ∧ b.toInt ≤ 35999) ∨ ¬ (0 ≤ h.toInt ∧ h.toInt ≤ 1) ∨ ¬ (0 ≤ k.toInt ∧ k.toInt ≤ 1)) := by
            rw [zz_ofN (by omega)]
            omega
          rw [if_pos zk, if_neg hn, zz_ofN (by omega), show ((t : Int).toNat) = t by omega]
          obtain ⟨-, -, -, m⟩ := (ck_look (g := g) (P := 461) (d := b) (h := h) W ht2 (by omega) (h01 hh)).1
          generalize fn_78 g 461 (some (5 * t + 14)) b h = G at m ⊢
          unfold fn_96_55
          cases hq : hv_t (g 541) t b.toInt h.toInt with
          | none =>
            rw [hq] at m
            rw [if_neg (c := G 461 0 ≠ 0) (fun z => z m.1)]
            rfl
          | some r =>
            obtain ⟨u, l⟩ := r
            rw [hq] at m
            obtain ⟨m1, m2, m3⟩ := m
            obtain ⟨w1, w2⟩ := hv_bb W ht2 hq
            obtain ⟨s1, s2, s3⟩ := sm_two m2 m3 w1 w2
            rw [if_pos (c := G 461 0 ≠ 0) (by rw [m1]; decide)]
            unfold sp_m
            dsimp only
            by_cases k0 : k = 0
            · rw [if_neg (c := k ≠ 0) (fun z => z k0), if_pos k0]
              exact s1
            · rw [if_pos (c := k ≠ 0) k0, if_neg k0]
              by_cases h0 : h = 0
              · rw [if_neg (c := h ≠ 0) (fun z => z h0), if_pos h0]
                exact s2
              · rw [if_pos (c := h ≠ 0) h0, if_neg h0]
                exact s3
        · rw [if_neg zk, if_pos (.inr (.inr (.inr (fun h => zk (ti_14n.mpr h)))))]
          rfl
  · have hz : ¬ (0 ≤ a.toInt ∧ a.toInt < (g 541 0).toInt) ∨ ¬ (0 ≤ b.toInt ∧ b.toInt ≤ 35999) ∨ ¬ (0 ≤ h.toInt ∧ h.toInt ≤ 1) ∨ ¬ (0 ≤ k.toInt ∧ k.toInt ≤ 1) := .inl n1
    rw [e1, if_pos hz]
    rfl
theorem mk_230 {g : aa_G} (W : wd_g g) (a b h k : Int32) : (fn_230 g a b h k).1.toInt = sp_25 (g 541) a b h k := by
  unfold fn_230 sp_25
  rcases ct_at W a with ⟨t, ht, rfl, ht2, -, e1⟩ | ⟨n1, -, e1⟩
  · by_cases hb : 0 ≤ b.toInt ∧ b.toInt ≤ 35999
    · rw [if_neg (c := fn_191 g (Int32.ofNat t) b = 0) (fun z => (ti_191.mp z).elim (fun y => by rw [e1] at y; exact absurd y (by decide)) (fun y => y hb))]
      by_cases zh : fn_154 h 0 1 = 0
      · have hh : ¬ (0 ≤ h.toInt ∧ h.toInt ≤ 1) := ti_154z.mp zh
        rw [if_pos zh, if_pos (.inr (.inr (.inl hh)))]
        rfl
      · have hh : 0 ≤ h.toInt ∧ h.toInt ≤ 1 := ti_154n.mp zh
        rw [if_neg zh]
        by_cases zk : fn_154 k 0 1 = 0
        · have hk : ¬ (0 ≤ k.toInt ∧ k.toInt ≤ 1) := ti_154z.mp zk
          rw [if_pos zk, if_pos (.inr (.inr (.inr hk)))]
          rfl
        · have hk : 0 ≤ k.toInt ∧ k.toInt ≤ 1 := ti_154n.mp zk
          have hn : ¬ (¬ (0 ≤ (Int32.ofNat t).toInt ∧ (Int32.ofNat t).toInt < (g 541 0).toInt) ∨ ¬ (0 ≤ b.toInt ∧ b.toInt ≤ 35999) ∨ ¬ (0 ≤ h.toInt ∧ h.toInt ≤ 1) ∨ ¬ (0 ≤ k.toInt ∧ k.toInt ≤ 1)) := by
            rw [zz_ofN (by omega)]
            omega
          rw [if_neg zk, if_neg hn, zz_ofN (by omega), show ((t : Int).toNat) = t by omega]
          generalize hg : fn_194 g (Int32.ofNat t) b h = G
          obtain ⟨v, G⟩ := G
          obtain ⟨-, m⟩ := mk_half W ht2 (h01 hh) hg
          unfold fn_230_35
          dsimp only
          cases hq : hv_t (g 541) t b.toInt h.toInt with
          | none =>
            rw [hq] at m
            have m : v = 0 := m
            rw [if_neg (c := v ≠ 0) (fun z => z m)]
            rfl
          | some r =>
            obtain ⟨u, l⟩ := r
            rw [hq] at m
            obtain ⟨m1, m2, m3⟩ := m
            obtain ⟨w1, w2⟩ := hv_bb W ht2 hq
            obtain ⟨s1, s2, s3⟩ := sm_two m2 m3 w1 w2
            rw [if_pos (c := v ≠ 0) (by rw [m1]; decide)]
            unfold sp_m
            dsimp only
            by_cases k0 : k = 0
            · rw [if_neg (c := k ≠ 0) (fun z => z k0), if_pos k0]
              exact s1
            · rw [if_pos (c := k ≠ 0) k0, if_neg k0]
              by_cases h0 : h = 0
              · rw [if_neg (c := h ≠ 0) (fun z => z h0), if_pos h0]
                exact s2
              · rw [if_pos (c := h ≠ 0) h0, if_neg h0]
                exact s3
    · rw [if_pos (c := fn_191 g (Int32.ofNat t) b = 0) (ti_191.mpr (.inr hb)), if_pos (.inr (.inl hb))]
      rfl
  · rw [if_pos (c := fn_191 g a b = 0) (ti_191.mpr (.inl e1)), if_pos (.inl n1)]
    rfl
theorem lq_96 {g : aa_G} {a0 a1 a2 a3 : Int32} (hi : aa_inv g) (hφ : aa_Phi g) (hR : lr_R g) : lq_ok true 96 230 [.int a0, .int a1, .int a2, .int a3] g :=
  lq_ask (y := fn_230 (fn_96 g a0 a1 a2 a3).2 a0 a1 a2 a3) hi hφ hR (ko_fw (ko_96 hi hφ) fun _ _ _ r => dn_96 r) (fun i1 p1 => ko_fw (ko_230 i1 p1) fun _ _ _ r => dn_230 r) (by decide +kernel) (by decide +kernel) (by decide +kernel) (by decide +kernel) (by decide +kernel) (by decide +kernel) fun W W2 e => ti_eq.mpr (by rw [ck_96 W, mk_230 W2, e])
end
section
/-! (97, 231): both sides say the same -/
theorem fr_90 {g : aa_G} (W : wd_g g) (a b h n : Int32) : ∀ k j, k ≠ 461 → (fn_90 g a b h n).2 k j = g k j := by
  intro k j z
  unfold fn_90
  rcases ct_at W a with ⟨t, ht, rfl, ht2, e1, -⟩ | ⟨n1, e1, -⟩
  · rw [e1]
    dsimp only
    by_cases zb : fn_77 b = 0
    · rw [if_pos zb]
    · rw [if_neg zb]
      by_cases z1 : fn_91 g h n ≠ 0
      · rw [if_pos z1]
        have hh : h = 0 ∨ h = 1 := by
          unfold fn_91 at z1
          by_cases zh : fn_14 h 0 1 = 0
          · rw [if_pos zh] at z1
            exact absurd rfl z1
          · exact h01 (ti_14n.mp zh)
        have f := (ck_look (g := g) (P := 461) (d := b) (h := h) W ht2 (by omega) hh).1.1
        unfold fn_90_45
        exact f k j (by omega)
      · rw [if_neg z1]
  · rw [e1]
theorem mk_205 {g : aa_G} {t : Nat} {b h n : Int32} (W : wd_g g) (ht : (t : Int) < (g 541 0).toInt) (hh : 0 ≤ h.toInt ∧ h.toInt ≤ 1) (hn : 0 ≤ n.toInt ∧ n.toInt ≤ 12 * (g 541 1).toInt - 1) : (fn_205 g (Int32.ofNat t) b h n).1 = sp_b (g 541 1) n (hv_t (g 541) t b.toInt h.toInt) ∧ ∀ k j, ¬ (k = 540 ∧ 13 ≤ j ∧ j ≤ 18 ∧ j ≠ 16) → (fn_205 g (Int32.ofNat t) b h n).2 k j = g k j := by
  have hq := W.2.1
  unfold fn_205
  generalize hg : fn_194 g (Int32.ofNat t) b h = G
  obtain ⟨v, G⟩ := G
  obtain ⟨f, m⟩ := mk_half W ht (h01 hh) hg
  have q : G 541 1 = g 541 1 := f 541 1 (by omega)
  unfold fn_205_7
  dsimp only
  cases hv : hv_t (g 541) t b.toInt h.toInt with
  | none =>
    rw [hv] at m
    have m : v = 0 := m
    rw [if_neg (c := v ≠ 0) (fun z => z m)]
    exact ⟨rfl, f⟩
  | some r =>
    obtain ⟨u, l⟩ := r
    rw [hv] at m
    obtain ⟨m1, m2, m3⟩ := m
    obtain ⟨w1, w2⟩ := hv_bb W ht hv
    have hl : 1 ≤ (Int32.ofInt l).toInt ∧ (Int32.ofInt l).toInt ≤ 172798 := by
      rw [← of_ti m3, m3]
      omega
    obtain ⟨s1, s2, s3⟩ := sp_nb hq hl hn
    have e6 : fn_206 G n = (sp_n (g 541 1) (Int32.ofInt l) n).toInt32 := by
      unfold fn_206 sp_n
      rw [show (1 : Int32).toNatClampNeg = 1 from rfl, q, of_ti m3]
    rw [if_pos (c := v ≠ 0) (by rw [m1]; decide), e6, of_ti m2]
    have e : G 540 18 ≤ (sp_n (g 541 1) (Int32.ofInt l) n).toInt32 ↔ l ≤ (sp_n (g 541 1) (Int32.ofInt l) n).toInt := by
      rw [aa_le32, s1, m3]
    unfold sp_b
    dsimp only
    by_cases z : l ≤ (sp_n (g 541 1) (Int32.ofInt l) n).toInt
    · rw [if_pos (e.mpr z), if_pos z]
      exact ⟨rfl, f⟩
    · rw [if_neg (mt e.mp z), if_neg z]
      exact ⟨rfl, f⟩
/-- a moment, or -2 -/
theorem sp_bb {g : aa_G} {t : Nat} {n : Int32} {b h : Int} (W : wd_g g) (ht : (t : Int) < (g 541 0).toInt) (hn : 0 ≤ n.toInt ∧ n.toInt ≤ 12 * (g 541 1).toInt - 1) : sp_b (g 541 1) n (hv_t (g 541) t b h) = -2 ∨ 0 ≤ (sp_b (g 541 1) n (hv_t (g 541) t b h)).toInt := by
  have hq := W.2.1
  cases hv : hv_t (g 541) t b h with
  | none => exact .inl rfl
  | some r =>
    obtain ⟨u, l⟩ := r
    obtain ⟨w1, w2⟩ := hv_bb W ht hv
    have el : (Int32.ofInt l).toInt = l := Int32.toInt_ofInt_of_le (by omega) (by omega)
    have eu : (Int32.ofInt u).toInt = u := Int32.toInt_ofInt_of_le (by omega) (by omega)
    obtain ⟨s1, s2, s3⟩ := sp_nb hq (l := Int32.ofInt l) (by rw [el]; exact w2) hn
    unfold sp_b
    dsimp only
    by_cases z : l ≤ (sp_n (g 541 1) (Int32.ofInt l) n).toInt
    · rw [if_pos z]
      exact .inl rfl
    · rw [if_neg z]
      refine .inr ?_
      rw [aa_add32 (by rw [s1, eu]; omega) (by rw [s1, eu]; omega), s1, eu]
      omega
def sp_d (p q : Int32) : Int32 := if p = -2 then -1000000 else if q ≠ -2 then q - p else -1000000
noncomputable def sp_26 (T : Nat → Int32) (a b h n m : Int32) : Int32 := if ¬ (0 ≤ a.toInt ∧ a.toInt < (T 0).toInt) ∨ ¬ (0 ≤ b.toInt ∧ b.toInt ≤ 35999) ∨ ¬ (0 ≤ h.toInt ∧ h.toInt ≤ 1) ∨ ¬ (0 ≤ n.toInt ∧ n.toInt ≤ 12 * (T 1).toInt - 1) ∨ ¬ (0 ≤ m.toInt ∧ m.toInt ≤ 12 * (T 1).toInt - 1) then -1000000 else
  sp_d (sp_b (T 1) n (hv_t T a.toInt.toNat b.toInt h.toInt)) (sp_b (T 1) m (hv_t T a.toInt.toNat b.toInt h.toInt))
theorem ck_97 {g : aa_G} (W : wd_g g) (a b h n m : Int32) : (fn_97 g a b h n m).1 = sp_26 (g 541) a b h n m := by
  have f1 := fr_90 W a b h n
  have W2 : wd_g (fn_90 g a b h n).2 := wd_of W (fun k j z => f1 k j (by omega))
  have e541 : (fn_90 g a b h n).2 541 = g 541 := funext fun j => f1 541 j (by omega)
  have v1 := ck_90 W a b h n
  have v2 := ck_90 W2 a b h m
  rw [e541] at v2
  unfold fn_97 fn_97_9 fn_97_20
  rw [v1, v2]
  unfold sp_26
  have neg : ∀ x : Int32, x = -1 ∨ x = -2 → x < 0 := fun x h => h.elim (fun e => by rw [e]; decide) (fun e => by rw [e]; decide)
  by_cases z : ¬ (0 ≤ a.toInt ∧ a.toInt < (g 541 0).toInt) ∨ ¬ (0 ≤ b.toInt ∧ b.toInt ≤ 35999) ∨ ¬ (0 ≤ h.toInt ∧ h.toInt ≤ 1) ∨ ¬ (0 ≤ n.toInt ∧ n.toInt ≤ 12 * (g 541 1).toInt - 1)
  · have e : sp_90 (g 541) a b h n = -1 := by unfold sp_90; rw [if_pos z]
    rw [e, if_pos (c := (-1 : Int32) < 0) (by decide), if_pos (by omega)]
  · have e : sp_90 (g 541) a b h n = sp_b (g 541 1) n (hv_t (g 541) a.toInt.toNat b.toInt h.toInt) := by unfold sp_90; rw [if_neg z]
    have ht : ((a.toInt.toNat : Nat) : Int) < (g 541 0).toInt := by omega
    rw [e]
    by_cases z2 : 0 ≤ m.toInt ∧ m.toInt ≤ 12 * (g 541 1).toInt - 1
    · have e2 : sp_90 (g 541) a b h m = sp_b (g 541 1) m (hv_t (g 541) a.toInt.toNat b.toInt h.toInt) := by unfold sp_90; rw [if_neg (by omega)]
      rw [e2, if_neg (c := ¬ (0 ≤ a.toInt ∧ a.toInt < (g 541 0).toInt) ∨ ¬ (0 ≤ b.toInt ∧ b.toInt ≤ 35999) ∨ ¬ (0 ≤ h.toInt ∧ h.toInt ≤ 1) ∨ ¬ (0 ≤ n.toInt ∧ n.toInt ≤ 12 * (g 541 1).toInt - 1) ∨ ¬ (0 ≤ m.toInt ∧ m.toInt ≤ 12 * (g 541 1).toInt - 1)) (by omega)]
      have b1 := sp_bb (b := b.toInt) (h := h.toInt) W ht (n := n) (by omega)
      have b2 := sp_bb (b := b.toInt) (h := h.toInt) W ht (n := m) z2
      generalize sp_b (g 541 1) n (hv_t (g 541) a.toInt.toNat b.toInt h.toInt) = p at b1 ⊢
      generalize sp_b (g 541 1) m (hv_t (g 541) a.toInt.toNat b.toInt h.toInt) = q at b2 ⊢
      unfold sp_d
      by_cases p2 : p = -2
      · rw [if_pos p2, if_pos (c := p < 0) (neg p (.inr p2))]
      · have b1 := b1.resolve_left p2
        rw [if_neg p2, if_neg (c := p < 0) (fun h => by have := ti_lt.mp h; rw [show (0 : Int32).toInt = 0 from rfl] at this; omega)]
        by_cases q2 : q = -2
        · rw [if_neg (c := q ≠ -2) (fun z => z q2), if_neg (c := (0 : Int32) ≤ q) (by rw [q2]; decide)]
        · have b2 := b2.resolve_left q2
          rw [if_pos (c := q ≠ -2) q2, if_pos (c := (0 : Int32) ≤ q) (aa_le32.mpr b2)]
    · have e2 : sp_90 (g 541) a b h m = -1 := by unfold sp_90; rw [if_pos (.inr (.inr (.inr z2)))]
      rw [e2, if_pos (c := ¬ (0 ≤ a.toInt ∧ a.toInt < (g 541 0).toInt) ∨ ¬ (0 ≤ b.toInt ∧ b.toInt ≤ 35999) ∨ ¬ (0 ≤ h.toInt ∧ h.toInt ≤ 1) ∨ ¬ (0 ≤ n.toInt ∧ n.toInt ≤ 12 * (g 541 1).toInt - 1) ∨ ¬ (0 ≤ m.toInt ∧ m.toInt ≤ 12 * (g 541 1).toInt - 1)) (.inr (.inr (.inr (.inr z2))))]
      split
      · rfl
      · rw [if_neg (c := (0 : Int32) ≤ -1) (by decide)]
theorem ti_204 {g : aa_G} {h n : Int32} (hq : 1 ≤ (g 541 1).toInt ∧ (g 541 1).toInt ≤ 3600) : fn_204 g h n = 0 ↔ ¬ ((0 ≤ h.toInt ∧ h.toInt ≤ 1) ∧ (0 ≤ n.toInt ∧ n.toInt ≤ 12 * (g 541 1).toInt - 1)) := by
  unfold fn_204
  rw [show (1 : Int32).toNatClampNeg = 1 from rfl]
  by_cases zh : fn_154 h 0 1 = 0
  · have hh : ¬ (0 ≤ h.toInt ∧ h.toInt ≤ 1) := ti_154z.mp zh
    rw [if_pos zh]
    exact ⟨fun _ k => hh k.1, fun _ => rfl⟩
  · have hh : 0 ≤ h.toInt ∧ h.toInt ≤ 1 := ti_154n.mp zh
    rw [if_neg zh]
    have E : fn_154 n 0 (12 * g 541 1 - 1) = 0 ↔ ¬ (0 ≤ n.toInt ∧ n.toInt ≤ 12 * (g 541 1).toInt - 1) := by rw [ti_154z, q12 hq, show (0 : Int32).toInt = 0 from rfl]
    by_cases zn : fn_154 n 0 (12 * g 541 1 - 1) = 0
    · rw [if_pos zn]
      exact ⟨fun _ k => E.mp zn k.2, fun _ => rfl⟩
    · rw [if_neg zn]
      exact ⟨fun h => absurd h (by decide), fun k => absurd ⟨hh, Decidable.not_not.mp (mt E.mpr zn)⟩ k⟩
theorem mk_231 {g : aa_G} (W : wd_g g) (a b h n m : Int32) : (fn_231 g a b h n m).1 = sp_26 (g 541) a b h n m := by
  have hq := W.2.1
  unfold fn_231 sp_26
  rcases ct_at W a with ⟨t, ht, rfl, ht2, -, e1⟩ | ⟨n1, -, e1⟩
  · by_cases hb : 0 ≤ b.toInt ∧ b.toInt ≤ 35999
    · rw [if_neg (c := fn_191 g (Int32.ofNat t) b = 0) (fun z => (ti_191.mp z).elim (fun y => by rw [e1] at y; exact absurd y (by decide)) (fun y => y hb))]
      by_cases z1 : fn_204 g h n = 0
      · have k := (ti_204 hq).mp z1
        rw [if_pos z1, if_pos (c := ¬ (0 ≤ (Int32.ofNat t).toInt ∧ (Int32.ofNat t).toInt < (g 541 0).toInt) ∨ ¬ (0 ≤ b.toInt ∧ b.toInt ≤ 35999) ∨ ¬ (0 ≤ h.toInt ∧ h.toInt ≤ 1) ∨ ¬ (0 ≤ n.toInt ∧ n.toInt ≤ 12 * (g 541 1).toInt - 1) ∨ ¬ (0 ≤ m.toInt ∧ m.toInt ≤ 12 * (g 541 1).toInt - 1)) (by omega)]
      · have k := Decidable.not_not.mp (mt (ti_204 hq).mpr z1)
        rw [if_neg z1]
        by_cases z2 : fn_204 g h m = 0
        · have k2 := (ti_204 hq).mp z2
          rw [if_neg (c := fn_204 g h m ≠ 0) (fun z => z z2), if_pos (c := ¬ (0 ≤ (Int32.ofNat t).toInt ∧ (Int32.ofNat t).toInt < (g 541 0).toInt) ∨ ¬ (0 ≤ b.toInt ∧ b.toInt ≤ 35999) ∨ ¬ (0 ≤ h.toInt ∧ h.toInt ≤ 1) ∨ ¬ (0 ≤ n.toInt ∧ n.toInt ≤ 12 * (g 541 1).toInt - 1) ∨ ¬ (0 ≤ m.toInt ∧ m.toInt ≤ 12 * (g 541 1).toInt - 1)) (by omega)]
        · have k2 := Decidable.not_not.mp (mt (ti_204 hq).mpr z2)
          rw [if_pos (c := fn_204 g h m ≠ 0) z2, if_neg (c := ¬ (0 ≤ (Int32.ofNat t).toInt ∧ (Int32.ofNat t).toInt < (g 541 0).toInt) ∨ ¬ (0 ≤ b.toInt ∧ b.toInt ≤ 35999) ∨ ¬ (0 ≤ h.toInt ∧ h.toInt ≤ 1) ∨ ¬ (0 ≤ n.toInt ∧ n.toInt ≤ 12 * (g 541 1).toInt - 1) ∨ ¬ (0 ≤ m.toInt ∧ m.toInt ≤ 12 * (g 541 1).toInt - 1)) (by rw [zz_ofN (by omega)]; omega), zz_ofN (by omega), show ((t : Int).toNat) = t by omega]
          obtain ⟨v1, f1⟩ := mk_205 (b := b) W ht2 k.1 k.2
          have W2 : wd_g (fn_205 g (Int32.ofNat t) b h n).2 := wd_of W (fun k j z => f1 k j (by omega))
          have e541 : (fn_205 g (Int32.ofNat t) b h n).2 541 = g 541 := funext fun j => f1 541 j (by omega)
          obtain ⟨v2, -⟩ := mk_205 (b := b) (n := m) W2 (by rw [e541]; exact ht2) k.1 (by rw [e541]; exact k2.2)
          rw [e541] at v2
          unfold fn_231_42 fn_231_53
          rw [v1, v2]
          unfold sp_d
          repeat' split
          all_goals rfl
    · rw [if_pos (c := fn_191 g (Int32.ofNat t) b = 0) (ti_191.mpr (.inr hb)), if_pos (.inr (.inl hb))]
  · rw [if_pos (c := fn_191 g a b = 0) (ti_191.mpr (.inl e1)), if_pos (.inl n1)]
theorem lq_97 {g : aa_G} {a0 a1 a2 a3 a4 : Int32} (hi : aa_inv g) (hφ : aa_Phi g) (hR : lr_R g) : lq_ok true 97 231 [.int a0, .int a1, .int a2, .int a3, .int a4] g :=
  lq_ask (y := fn_231 (fn_97 g a0 a1 a2 a3 a4).2 a0 a1 a2 a3 a4) hi hφ hR (ko_fw (ko_97 hi hφ) fun _ _ _ r => dn_97 r) (fun i1 p1 => ko_fw (ko_231 i1 p1) fun _ _ _ r => dn_231 r) (by decide +kernel) (by decide +kernel) (by decide +kernel) (by decide +kernel) (by decide +kernel) (by decide +kernel) fun W W2 e => by rw [ck_97 W, mk_231 W2, e]
end
section
/-! TWO LOOPS SIDE BY SIDE; GUARDS; LOOKS: what the comparing of askers needs -/
theorem lp_two {σ τ ρ κ : Type} {d : ρ} {e : κ} {f : σ → σ ⊕ ρ} {m : τ → τ ⊕ κ} {Q : ρ → κ → Prop} (R : Nat → σ → τ → Prop)
    (h : ∀ n s t, R (n + 1) s t → (∃ s' t', f s = .inl s' ∧ m t = .inl t' ∧ R n s' t') ∨ (∃ t', m t = .inl t' ∧ R n s t') ∨ (∃ s', f s = .inl s' ∧ R n s' t) ∨ (∃ r k, f s = .inr r ∧ m t = .inr k ∧ Q r k))
    (h0 : ∀ s t, R 0 s t → ∃ r k, f s = .inr r ∧ m t = .inr k ∧ Q r k) : ∀ (n : Nat) (s : σ) (t : τ), R n s t → Q (lp_f d f s) (lp_f e m t) := by
  intro n
  induction n with
  | zero =>
    intro s t hr
    obtain ⟨r, k, e1, e2, q⟩ := h0 s t hr
    rw [lp_r e1, lp_r e2]
    exact q
  | succ n ih =>
    intro s t hr
    rcases h n s t hr with ⟨s', t', e1, e2, q⟩ | ⟨t', e2, q⟩ | ⟨s', e1, q⟩ | ⟨r, k, e1, e2, q⟩
    · rw [lp_l e1, lp_l e2]
      exact ih _ _ q
    · rw [lp_l e2]
      exact ih _ _ q
    · rw [lp_l e1]
      exact ih _ _ q
    · rw [lp_r e1, lp_r e2]
      exact q
theorem lp_two1 {σ τ : Type} {d e : Int32 × aa_G} {f : σ → σ ⊕ (Int32 × aa_G)} {m : τ → τ ⊕ (Int32 × aa_G)} (R : Nat → σ → τ → Prop)
    (h : ∀ n s t, R (n + 1) s t → (∃ s' t', f s = .inl s' ∧ m t = .inl t' ∧ R n s' t') ∨ (∃ t', m t = .inl t' ∧ R n s t') ∨ (∃ s', f s = .inl s' ∧ R n s' t) ∨ (∃ r k, f s = .inr r ∧ m t = .inr k ∧ r.1 = k.1))
    (h0 : ∀ s t, R 0 s t → ∃ r k, f s = .inr r ∧ m t = .inr k ∧ r.1 = k.1) (n : Nat) (s : σ) (t : τ) (hr : R n s t) : (lp_f d f s).1 = (lp_f e m t).1 :=
  lp_two (Q := fun (r k : Int32 × aa_G) => r.1 = k.1) R h h0 n s t hr
theorem gd_66z {c : Int32} : fn_66 c = 0 ↔ ¬ (0 ≤ c.toInt ∧ c.toInt ≤ 86399) := ti_14z
theorem gd_199z {c : Int32} : fn_199 c = 0 ↔ ¬ (0 ≤ c.toInt ∧ c.toInt ≤ 86399) := ti_154z
theorem gd_192z {g : aa_G} (W : wd_g g) {a : Int32} : fn_192 g a = 0 ↔ ¬ (0 ≤ a.toInt ∧ a.toInt < (g 541 0).toInt) := by
  rcases ct_at W a with ⟨t, ht, rfl, ht2, -, e⟩ | ⟨n, -, e⟩
  · rw [e, zz_ofN (by omega)]
    exact ⟨fun h => absurd h (by decide), fun h => absurd ⟨by omega, ht2⟩ h⟩
  · rw [e]
    exact ⟨fun _ => n, fun _ => rfl⟩
theorem gd_191z {g : aa_G} (W : wd_g g) {a b : Int32} : fn_191 g a b = 0 ↔ ¬ ((0 ≤ a.toInt ∧ a.toInt < (g 541 0).toInt) ∧ (0 ≤ b.toInt ∧ b.toInt ≤ 35999)) := by
  rw [ti_191, gd_192z W]
  omega
theorem gd_91z {g : aa_G} (W : wd_g g) {h n : Int32} : fn_91 g h n = 0 ↔ ¬ ((0 ≤ h.toInt ∧ h.toInt ≤ 1) ∧ (0 ≤ n.toInt ∧ n.toInt ≤ 12 * (g 541 1).toInt - 1)) := by
  have e : fn_91 g h n = fn_204 g h n := by
    unfold fn_91 fn_204
    rw [W.2.2.2.1]
    rfl
  rw [e, ti_204 W.2.1]
theorem gt_s {g : aa_G} (W : wd_g g) {a : Int32} (h : 0 ≤ a.toInt ∧ a.toInt < (g 541 0).toInt) : ∃ t : Nat, t < 4 ∧ a = Int32.ofNat t ∧ (t : Int) < (g 541 0).toInt ∧ fn_31 g a = some (5 * t + 14) ∧ fn_192 g a = 1 := by
  rcases ct_at W a with ⟨t, ht, e, ht2, e1, e2⟩ | ⟨n, -, -⟩
  · exact ⟨t, ht, e, ht2, e1, e2⟩
  · exact absurd h n
theorem gt_n {g : aa_G} (W : wd_g g) {a : Int32} (h : ¬ (0 ≤ a.toInt ∧ a.toInt < (g 541 0).toInt)) : fn_31 g a = none := by
  rcases ct_at W a with ⟨t, ht, e, ht2, -, -⟩ | ⟨-, e1, -⟩
  · rw [e, zz_ofN (by omega)] at h
    exact absurd ⟨by omega, ht2⟩ h
  · exact e1
/-- literals -/
theorem i_0 : (0 : Int32).toInt = 0 := rfl
theorem i_1 : (1 : Int32).toInt = 1 := rfl
theorem i_2 : (2 : Int32).toInt = 2 := rfl
theorem i_3 : (3 : Int32).toInt = 3 := rfl
theorem i_11 : (11 : Int32).toInt = 11 := rfl
theorem i_12n : (12 : Int32).toInt = 12 := rfl
theorem i_15 : (15 : Int32).toInt = 15 := rfl
theorem i_23 : (23 : Int32).toInt = 23 := rfl
theorem i_60 : (60 : Int32).toInt = 60 := rfl
theorem i_360 : (360 : Int32).toInt = 360 := rfl
theorem i_864 : (86400 : Int32).toInt = 86400 := rfl
theorem i_8640 : (864000 : Int32).toInt = 864000 := rfl
theorem i_35 : (35999 : Int32).toInt = 35999 := rfl
theorem i_36 : (36000 : Int32).toInt = 36000 := rfl
theorem i_m1 : (-1 : Int32).toInt = -1 := rfl
theorem i_m2 : (-2 : Int32).toInt = -2 := rfl
theorem i_m6 : (-1000000 : Int32).toInt = -1000000 := rfl
theorem i_10 : ((1 : Int32) = 0) = False := eq_false (by decide)
/-- looks of the class and of the model, packed -/
def lv_c (Y : aa_G) (P : Nat) : Option (Int × Int) → Prop
  | none => Y P 0 = 0 ∧ Y P 3 = 0 ∧ Y P 4 = 0
  | some (b, l) => Y P 0 = 1 ∧ (Y P 3).toInt = b ∧ (Y P 4).toInt = l
def lv_m (v : Int32) (Y : aa_G) : Option (Int × Int) → Prop
  | none => v = 0
  | some (b, l) => v = 1 ∧ (Y 540 17).toInt = b ∧ (Y 540 18).toInt = l
def lv_l (v : Int32) : Option (Int × Int) → Prop
  | none => v = -1
  | some (_, l) => v.toInt = l
theorem lv_look {X : aa_G} {t : Nat} (P : Nat) (d h : Int32) (W : wd_g X) (ht : (t : Int) < (X 541 0).toInt) (hP : 461 ≤ P ∧ P < 540) (hh : h = 0 ∨ h = 1) : wd_g (fn_78 X P (some (5 * t + 14)) d h) ∧ (fn_78 X P (some (5 * t + 14)) d h) 541 = X 541 ∧ (∀ k j, k ≠ P → (fn_78 X P (some (5 * t + 14)) d h) k j = X k j) ∧ lv_c (fn_78 X P (some (5 * t + 14)) d h) P (hv_t (X 541) t d.toInt h.toInt) ∧ (fn_78 X P (some (5 * t + 14)) d h) P 1 = d := by
  obtain ⟨f, q1, -, m⟩ := (ck_look (g := X) (P := P) (d := d) (h := h) W ht hP.1 hh).1
  refine ⟨wd_of W (fun k j z => f k j (by omega)), funext fun j => f 541 j (by omega), fun k j z => f k j (by omega), ?_, q1⟩
  cases hq : hv_t (X 541) t d.toInt h.toInt with
  | none =>
    rw [hq] at m
    exact m
  | some r =>
    rw [hq] at m
    exact m
theorem lv_half {X : aa_G} {t : Nat} (d h : Int32) (W : wd_g X) (ht : (t : Int) < (X 541 0).toInt) (hh : h = 0 ∨ h = 1) : wd_g (fn_194 X (Int32.ofNat t) d h).2 ∧ (fn_194 X (Int32.ofNat t) d h).2 541 = X 541 ∧ (∀ k j, ¬ (k = 540 ∧ 13 ≤ j ∧ j ≤ 18 ∧ j ≠ 16) → (fn_194 X (Int32.ofNat t) d h).2 k j = X k j) ∧ lv_m (fn_194 X (Int32.ofNat t) d h).1 (fn_194 X (Int32.ofNat t) d h).2 (hv_t (X 541) t d.toInt h.toInt) := by
  generalize hg : fn_194 X (Int32.ofNat t) d h = Z
  obtain ⟨v, Z⟩ := Z
  obtain ⟨f, m⟩ := mk_half W ht hh hg
  refine ⟨wd_of W (fun k j z => f k j (by omega)), funext fun j => f 541 j (by omega), f, ?_⟩
  cases hq : hv_t (X 541) t d.toInt h.toInt with
  | none =>
    rw [hq] at m
    exact m
  | some r =>
    rw [hq] at m
    exact m
theorem lv_len {X : aa_G} {t : Nat} (d : Int32) (W : wd_g X) (ht : (t : Int) < (X 541 0).toInt) : wd_g (fn_222 X (Int32.ofNat t) d).2 ∧ (fn_222 X (Int32.ofNat t) d).2 541 = X 541 ∧ (∀ k j, ¬ (k = 540 ∧ 13 ≤ j ∧ j ≤ 18 ∧ j ≠ 16) → (fn_222 X (Int32.ofNat t) d).2 k j = X k j) ∧ lv_l (fn_222 X (Int32.ofNat t) d).1 (hv_t (X 541) t d.toInt 0) := by
  obtain ⟨f, m⟩ := mk_222 (d := d) W ht
  refine ⟨wd_of W (fun k j z => f k j (by omega)), funext fun j => f 541 j (by omega), f, ?_⟩
  cases hq : hv_t (X 541) t d.toInt 0 with
  | none =>
    rw [hq] at m
    exact ti_eq.mpr m
  | some r =>
    rw [hq] at m
    exact m
/-- a class's look and a model's look of the same half -/
theorem lv_3 {Y : aa_G} {P : Nat} {v : Int32} {Z : aa_G} {b l : Int} (h : lv_c Y P (some (b, l))) (k : lv_m v Z (some (b, l))) : Y P 3 = Z 540 17 := ti_eq.mpr (h.2.1.trans k.2.1.symm)
theorem lv_4 {Y : aa_G} {P : Nat} {v : Int32} {Z : aa_G} {b l : Int} (h : lv_c Y P (some (b, l))) (k : lv_m v Z (some (b, l))) : Y P 4 = Z 540 18 := ti_eq.mpr (h.2.2.trans k.2.2.symm)
theorem lv_c0 {Y : aa_G} {P : Nat} (h : lv_c Y P none) : Y P 0 = 0 := h.1
theorem lv_c1 {Y : aa_G} {P : Nat} {r : Int × Int} (h : lv_c Y P (some r)) : Y P 0 = 1 := h.1
theorem lv_m0 {v : Int32} {Z : aa_G} (h : lv_m v Z none) : v = 0 := h
theorem lv_m1 {v : Int32} {Z : aa_G} {r : Int × Int} (h : lv_m v Z (some r)) : v = 1 := h.1
theorem i_sub {u p q : Int32} : (u + p) - (u + q) = p - q := by
  rw [← Int32.sub_sub, Int32.add_comm u p, Int32.add_sub_cancel]
theorem i_121 {x : Int32} : x + 12 - 1 = x + 11 := by
  rw [Int32.sub_eq_add_neg, Int32.add_assoc, show (12 + -1 : Int32) = 11 from by decide]
/-- BACK of a PLACE on the class's side -/
theorem ck_92 {g Y : aa_G} {t P : Nat} {n : Int32} {d h : Int} (W : wd_g g) (ht : (t : Int) < (g 541 0).toInt) (hn : 0 ≤ n.toInt ∧ n.toInt ≤ 12 * (g 541 1).toInt - 1) (hv : lv_c Y P (hv_t (g 541) t d h)) : fn_92 Y P n (g 541 1) = sp_b (g 541 1) n (hv_t (g 541) t d h) := by
  have hq := W.2.1
  unfold fn_92
  cases hr : hv_t (g 541) t d h with
  | none =>
    rw [hr] at hv
    rw [if_pos (c := Y P 0 = 0) (lv_c0 hv)]
    rfl
  | some r =>
    obtain ⟨u, l⟩ := r
    rw [hr] at hv
    obtain ⟨m1, m2, m3⟩ := hv
    obtain ⟨w1, w2⟩ := hv_bb W ht hr
    have hl : 1 ≤ (Int32.ofInt l).toInt ∧ (Int32.ofInt l).toInt ≤ 172798 := by
      rw [← of_ti m3, m3]
      omega
    obtain ⟨s1, s2, s3⟩ := sp_nb hq hl hn
    rw [if_neg (c := Y P 0 = 0) (by rw [m1]; decide), if_pos (c := (1 : Int32) ≤ g 541 1) (aa_le32.mpr hq.1), of_ti m2, of_ti m3]
    unfold sp_b
    show (if 0 ≤ lg_cmp (sp_n (g 541 1) (Int32.ofInt l) n) (Int32.ofInt l).toInt64 then (-2 : Int32) else Int32.ofInt u + (sp_n (g 541 1) (Int32.ofInt l) n).toInt32) = _
    have e : 0 ≤ lg_cmp (sp_n (g 541 1) (Int32.ofInt l) n) (Int32.ofInt l).toInt64 ↔ l ≤ (sp_n (g 541 1) (Int32.ofInt l) n).toInt := by
      rw [l_cmp, l_of, ← of_ti m3, m3]
    dsimp only
    by_cases z : l ≤ (sp_n (g 541 1) (Int32.ofInt l) n).toInt
    · rw [if_pos (e.mpr z), if_pos z]
    · rw [if_neg (mt e.mp z), if_neg z]
theorem sp_bu {g : aa_G} {t : Nat} {n : Int32} {b h : Int} (W : wd_g g) (ht : (t : Int) < (g 541 0).toInt) (hn : 0 ≤ n.toInt ∧ n.toInt ≤ 12 * (g 541 1).toInt - 1) : sp_b (g 541 1) n (hv_t (g 541) t b h) = -2 ∨ (0 ≤ (sp_b (g 541 1) n (hv_t (g 541) t b h)).toInt ∧ (sp_b (g 541 1) n (hv_t (g 541) t b h)).toInt ≤ 259198) := by
  have hq := W.2.1
  cases hv : hv_t (g 541) t b h with
  | none => exact .inl rfl
  | some r =>
    obtain ⟨u, l⟩ := r
    obtain ⟨w1, w2⟩ := hv_bb W ht hv
    have el : (Int32.ofInt l).toInt = l := Int32.toInt_ofInt_of_le (by omega) (by omega)
    have eu : (Int32.ofInt u).toInt = u := Int32.toInt_ofInt_of_le (by omega) (by omega)
    obtain ⟨s1, s2, s3⟩ := sp_nb hq (l := Int32.ofInt l) (by rw [el]; exact w2) hn
    unfold sp_b
    dsimp only
    by_cases z : l ≤ (sp_n (g 541 1) (Int32.ofInt l) n).toInt
    · rw [if_pos z]
      exact .inl rfl
    · rw [if_neg z]
      refine .inr ?_
      rw [aa_add32 (by rw [s1, eu]; omega) (by rw [s1, eu]; omega), s1, eu]
      omega
/-- the last day of a search -/
theorem fn_234_v {b : Int32} (hb : 0 ≤ b.toInt ∧ b.toInt ≤ 35999) : (fn_234 b).toInt = if b.toInt + 359 ≤ 35999 then b.toInt + 359 else 35999 := by
  have e1 : (b + 360).toInt = b.toInt + 360 := aa_add32 (by rw [i_360]; omega) (by rw [i_360]; omega)
  have e2 : (b + 360 - 1).toInt = b.toInt + 359 := by rw [aa_sub32 (by rw [e1, i_1]; omega) (by rw [e1, i_1]; omega), e1, i_1]; omega
  unfold fn_234
  by_cases z : b.toInt + 359 ≤ 35999
  · rw [if_pos z, if_pos (c := b + 360 - 1 ≤ 35999) (aa_le32.mpr (by rw [e2, i_35]; exact z)), e2]
  · rw [if_neg z, if_neg (c := b + 360 - 1 ≤ 35999) (fun h => z (by have := aa_le32.mp h; rw [e2, i_35] at this; exact this))]
    rfl
/-- the next number -/
theorem i_suc {i : Int32} (h0 : -2147483648 ≤ i.toInt) (h : i.toInt < 2147483647) : (i + 1).toInt = i.toInt + 1 := aa_add32 (by rw [i_1]; omega) (by rw [i_1]; omega)
/-- two towns by a key -/
theorem gk_at {g : aa_G} (W : wd_g g) (a : Int32) : (∃ t1 t2 : Nat, (t1 < 4 ∧ a / 4 = Int32.ofNat t1 ∧ (t1 : Int) < (g 541 0).toInt) ∧ (t2 < 4 ∧ a - a / 4 * 4 = Int32.ofNat t2 ∧ (t2 : Int) < (g 541 0).toInt) ∧ (fn_133 g a = some (5 * t1 + 14) ∧ fn_134 g a = some (5 * t2 + 14)) ∧ (0 ≤ a.toInt ∧ a.toInt ≤ 15) ∧ (0 ≤ (a / 4).toInt ∧ (a / 4).toInt < (g 541 0).toInt) ∧ (0 ≤ (a - a / 4 * 4).toInt ∧ (a - a / 4 * 4).toInt < (g 541 0).toInt)) ∨ ((fn_133 g a = none ∨ fn_134 g a = none) ∧ ¬ ((0 ≤ a.toInt ∧ a.toInt ≤ 15) ∧ (0 ≤ (a / 4).toInt ∧ (a / 4).toInt < (g 541 0).toInt) ∧ (0 ≤ (a - a / 4 * 4).toInt ∧ (a - a / 4 * 4).toInt < (g 541 0).toInt))) := by
  by_cases zk : fn_14 a 0 15 = 0
  · refine .inr ⟨.inl ?_, fun h => ti_14z.mp zk h.1⟩
    unfold fn_133
    rw [if_pos zk]
  · have hk : 0 ≤ a.toInt ∧ a.toInt ≤ 15 := ti_14n.mp zk
    have e1 : (a / 4).toInt = a.toInt / 4 := ti_div hk.1 (by decide)
    have e2 : (a - a / 4 * 4).toInt = a.toInt % 4 := ti_rem hk.1 (by decide)
    by_cases h1 : 0 ≤ (a / 4).toInt ∧ (a / 4).toInt < (g 541 0).toInt
    · by_cases h2 : 0 ≤ (a - a / 4 * 4).toInt ∧ (a - a / 4 * 4).toInt < (g 541 0).toInt
      · obtain ⟨t1, x1, x2, x3, x4, -⟩ := gt_s W h1
        obtain ⟨t2, y1, y2, y3, y4, -⟩ := gt_s W h2
        refine .inl ⟨t1, t2, ⟨x1, x2, x3⟩, ⟨y1, y2, y3⟩, ⟨?_, ?_⟩, hk, h1, h2⟩
        · unfold fn_133
          rw [if_neg zk, x4]
        · unfold fn_134
          rw [if_neg zk, y4]
      · refine .inr ⟨.inr ?_, fun h => h2 h.2.2⟩
        unfold fn_134
        rw [if_neg zk, gt_n W h2]
    · refine .inr ⟨.inl ?_, fun h => h1 h.2.1⟩
      unfold fn_133
      rw [if_neg zk, gt_n W h1]
theorem gd_239z {g : aa_G} (W : wd_g g) {a : Int32} : fn_239 g a = 0 ↔ ¬ ((0 ≤ a.toInt ∧ a.toInt ≤ 15) ∧ (0 ≤ (a / 4).toInt ∧ (a / 4).toInt < (g 541 0).toInt) ∧ (0 ≤ (a - a / 4 * 4).toInt ∧ (a - a / 4 * 4).toInt < (g 541 0).toInt)) := by
  unfold fn_239
  by_cases z1 : fn_154 a 0 15 = 0
  · rw [if_pos z1]
    exact ⟨fun _ h => ti_154z.mp z1 h.1, fun _ => rfl⟩
  · have k1 : 0 ≤ a.toInt ∧ a.toInt ≤ 15 := ti_154n.mp z1
    rw [if_neg z1]
    by_cases z2 : fn_192 g (a / 4) = 0
    · rw [if_pos z2]
      exact ⟨fun _ h => (gd_192z W).mp z2 h.2.1, fun _ => rfl⟩
    · have k2 := Decidable.not_not.mp (mt (gd_192z W).mpr z2)
      rw [if_neg z2]
      by_cases z3 : fn_192 g (a - a / 4 * 4) = 0
      · rw [if_pos z3]
        exact ⟨fun _ h => (gd_192z W).mp z3 h.2.2, fun _ => rfl⟩
      · have k3 := Decidable.not_not.mp (mt (gd_192z W).mpr z3)
        rw [if_neg z3]
        exact ⟨fun h => absurd h (by decide), fun h => absurd ⟨k1, k2, k3⟩ h⟩
/-- an hour of a half, on the model's side -/
def lv_h (v : Int32) (Z : aa_G) (x : Int32) : Option (Int × Int) → Prop
  | none => v = 0
  | some (b, l) => v = 1 ∧ ∃ p q : Int32, p.toInt = b ∧ q.toInt = l ∧ Z 540 29 = p + (x * q + 11) / 12 ∧ Z 540 30 = p + ((x + 1) * q + 11) / 12
theorem lv_hour {X : aa_G} {t : Nat} (d x : Int32) (W : wd_g X) (ht : (t : Int) < (X 541 0).toInt) (hh : x / 12 = 0 ∨ x / 12 = 1) : wd_g (fn_229 X (Int32.ofNat t) d x).2 ∧ (fn_229 X (Int32.ofNat t) d x).2 541 = X 541 ∧ lv_h (fn_229 X (Int32.ofNat t) d x).1 (fn_229 X (Int32.ofNat t) d x).2 (x - x / 12 * 12) (hv_t (X 541) t d.toInt (x / 12).toInt) := by
  obtain ⟨w1, w2, -, m⟩ := lv_half d (x / 12) W ht hh
  unfold fn_229
  generalize fn_194 X (Int32.ofNat t) d (x / 12) = Z at w1 w2 m ⊢
  obtain ⟨v, Z⟩ := Z
  unfold fn_229_10
  dsimp only at w1 w2 m ⊢
  cases hq : hv_t (X 541) t d.toInt (x / 12).toInt with
  | none =>
    rw [hq] at m
    rw [if_neg (c := v ≠ 0) (fun z => z (lv_m0 m))]
    exact ⟨w1, w2, rfl⟩
  | some r =>
    obtain ⟨b, l⟩ := r
    rw [hq] at m
    obtain ⟨m1, m2, m3⟩ := m
    rw [if_pos (c := v ≠ 0) (by rw [m1]; decide)]
    generalize hy : zz_w Z 540 29 (Z 540 17 + fn_225 Z (x - x / 12 * 12)) = Y
    have y18 : Y 540 18 = Z 540 18 := by rw [← hy, aa_w_ne _ _ (by omega)]
    have y29 : Y 540 29 = Z 540 17 + fn_225 Z (x - x / 12 * 12) := by rw [← hy, aa_w_at]
    have fY : ∀ k j, ¬ (k = 540 ∧ j = 29) → Y k j = Z k j := fun k j z => by rw [← hy, aa_w_ne _ _ z]
    generalize hu : zz_w Y 540 30 (Z 540 17 + fn_225 Y (x - x / 12 * 12 + 1)) = U
    have fU : ∀ k j, ¬ (k = 540 ∧ j = 30) → U k j = Y k j := fun k j z => by rw [← hu, aa_w_ne _ _ z]
    dsimp only
    refine ⟨wd_of w1 (fun k j z => (fU k j (by omega)).trans (fY k j (by omega))), (funext fun j => (fU 541 j (by omega)).trans (fY 541 j (by omega))).trans w2, rfl, Z 540 17, Z 540 18, m2, m3, ?_, ?_⟩
    · rw [fU 540 29 (by omega), y29]
      rfl
    · rw [← hu, aa_w_at]
      unfold fn_225
      rw [y18]
end
section
/-! (124, 232): both sides say the same -/
theorem h_same {Y Z : aa_G} {P : Nat} {v x : Int32} {b l : Int} (h : lv_c Y P (some (b, l))) (k : lv_h v Z x (some (b, l))) : fn_100 Y P x = Z 540 29 ∧ fn_100 Y P (x + 1) = Z 540 30 := by
  obtain ⟨-, p, q, e1, e2, e3, e4⟩ := k
  have a1 : Y P 3 = p := ti_eq.mpr (h.2.1.trans e1.symm)
  have a2 : Y P 4 = q := ti_eq.mpr (h.2.2.trans e2.symm)
  unfold fn_100
  rw [e3, e4, a1, a2, i_121, i_121]
  exact ⟨rfl, rfl⟩
theorem h_low {x : Int32} (hx : 0 ≤ x.toInt ∧ x.toInt ≤ 11) : x / 12 = 0 ∧ x - x / 12 * 12 = x := by
  have e1 : x / 12 = 0 := ti_eq.mpr (by rw [ti_div hx.1 (by decide), i_12n, i_0]; omega)
  rw [e1, Int32.zero_mul, Int32.sub_zero]
  exact ⟨rfl, rfl⟩
theorem ak_124 {g g2 : aa_G} (W : wd_g g) (W2 : wd_g g2) (e : g2 541 = g 541) (a b m h k : Int32) : (fn_124 g a b m h k).1 = (fn_232 g2 a b m h k).1 := by
  have e0 : g2 541 0 = g 541 0 := by rw [e]
  have e1 : g2 541 1 = g 541 1 := by rw [e]
  by_cases ha : 0 ≤ a.toInt ∧ a.toInt < (g 541 0).toInt
  · obtain ⟨t, ht, hat, ht2, c1, -⟩ := gt_s W ha
    by_cases hG : (0 ≤ b.toInt ∧ b.toInt ≤ 35999) ∧ (1 ≤ m.toInt ∧ m.toInt ≤ 360) ∧ (0 ≤ h.toInt ∧ h.toInt ≤ 11) ∧ (0 ≤ k.toInt ∧ k.toInt ≤ 2)
    · have hG0 := hG
      obtain ⟨hb, hm, hh, hk⟩ := hG0
      have E1 : fn_124 g a b m h k = fn_124_68 g b m h k (5 * t + 14) (-2) 0 b := by
        unfold fn_124
        rw [c1]
        dsimp only
        simp only [gd_91z W, ne_eq, ti_77z, ti_193z, ti_14z, ti_154z, gd_66z, gd_199z, Decidable.not_not, i_0, i_1, i_2, i_3, i_11, i_12n, i_15, i_23, i_60, i_360, i_864, i_8640, i_35, eq_self, not_true_eq_false, not_false_eq_true, and_self, or_self, if_true, if_false, hb, hm, hh, hk]
      have E2 : fn_232 g2 a b m h k = fn_232_59 g2 a b m h k (-2) 0 b := by
        unfold fn_232
        simp only [gd_191z W2, gd_192z W2, ti_204 W2.2.1, ne_eq, ti_77z, ti_193z, ti_14z, ti_154z, gd_66z, gd_199z, Decidable.not_not, i_0, i_1, i_2, i_3, i_11, i_12n, i_15, i_23, i_60, i_360, i_864, i_8640, i_35, eq_self, not_true_eq_false, not_false_eq_true, and_self, or_self, if_true, if_false, e0, e1, ha, hb, hm, hh, hk]
      rw [E1, E2]
      rw [hat]
      obtain ⟨h1, h2⟩ := h_low hh
      unfold fn_124_68 fn_232_59
      have eb : (b + m).toInt = b.toInt + m.toInt := aa_add32 (by omega) (by omega)
      refine lp_two1 (fun (n' : Nat) (s t' : aa_G × Int32 × Int32 × Int32) => t'.2.2.2.toInt + n' = b.toInt + m.toInt ∧ (b.toInt ≤ s.2.2.2.toInt ∧ s.2.2.2.toInt ≤ 36000) ∧ (s.2.1 = t'.2.1 ∧ s.2.2.1 = t'.2.2.1) ∧ (s.2.2.2.toInt = t'.2.2.2.toInt ∨ (36000 ≤ s.2.2.2.toInt ∧ s.2.2.2.toInt ≤ t'.2.2.2.toInt)) ∧ (wd_g s.1 ∧ s.1 541 = g 541) ∧ (wd_g t'.1 ∧ t'.1 541 = g 541)) ?_ ?_ m.toInt.toNat _ _ ⟨by first | omega | (dsimp only; omega), by first | omega | (dsimp only; omega), ⟨rfl, rfl⟩, .inl rfl, ⟨W, rfl⟩, ⟨W2, e⟩⟩
      · rintro n' ⟨X, c, w, i⟩ ⟨Y, c', w', j⟩ ⟨r1, r2, ⟨r3, r4⟩, r5, ⟨w1, w2⟩, w3, w4⟩
        dsimp only at r1 r2 r3 r4 r5 w1 w2 w3 w4 ⊢
        subst r3 r4
        have n3 : ¬ b + m ≤ j := fun z => by have := aa_le32.mp z; omega
        have es : (j + 1).toInt = j.toInt + 1 := i_suc (by omega) (by omega)
        obtain ⟨z1, z2, v3⟩ := lv_hour j h w3 (by rw [w4]; exact ht2) (.inl h1)
        rw [w4, h2, h1, i_0] at v3
        unfold fn_232_59b
        rw [if_neg n3]
        generalize fn_229 Y (Int32.ofNat t) j h = Y' at z1 z2 v3 ⊢
        by_cases hi : i.toInt < 36000
        · have r5 : i.toInt = j.toInt := by omega
          have r5 : i = j := ti_eq.mpr r5
          subst r5
          have n1 : ¬ (36000 : Int32) ≤ i := fun z => by have := aa_le32.mp z; rw [i_36] at this; omega
          obtain ⟨x1, x2, x3, v1, -⟩ := lv_look 461 i 0 w1 (by rw [w2]; exact ht2) (by omega) (.inl rfl)
          rw [w2, i_0] at v1
          unfold fn_124_68b
          rw [if_neg n3, if_neg n1]
          generalize fn_78 X 461 (some (5 * t + 14)) i 0 = X' at x1 x2 x3 v1 ⊢
          unfold fn_124_96 fn_124_147 fn_124_155 fn_232_76 fn_232_117 fn_232_136 fn_232_144
          cases hr : hv_t (g 541) t i.toInt 0 with
          | none =>
            rw [hr] at v1 v3
            have v3 : Y'.1 = 0 := v3
            rw [if_pos (lv_c0 v1), if_neg (c := Y'.1 ≠ 0) (fun z => z v3)]
            exact .inl ⟨_, _, rfl, rfl, by first | omega | (dsimp only; omega), by first | omega | (dsimp only; omega), ⟨rfl, rfl⟩, .inl rfl, ⟨x1, x2.trans w2⟩, z1, z2.trans w4⟩
          | some r =>
            obtain ⟨u', l'⟩ := r
            rw [hr] at v1 v3
            obtain ⟨s1, s2⟩ := h_same v1 v3
            rw [if_neg (c := X' 461 0 = 0) (by rw [lv_c1 v1]; decide), if_pos (c := Y'.1 ≠ 0) (by rw [v3.1]; decide), s1, s2]
            have ew : (if k ≠ 0 then if k ≠ 1 then (if c = -2 then (Sum.inl (Y'.2, i, Y'.2 540 29, i + 1) : (aa_G × Int32 × Int32 × Int32) ⊕ (Int32 × aa_G)) else if w < Y'.2 540 29 then .inl (Y'.2, i, Y'.2 540 29, i + 1) else .inl (Y'.2, c, w, i + 1)) else (if c = -2 then .inl (Y'.2, i, -(Y'.2 540 29), i + 1) else if w < -(Y'.2 540 29) then .inl (Y'.2, i, -(Y'.2 540 29), i + 1) else .inl (Y'.2, c, w, i + 1)) else (if c = -2 then .inl (Y'.2, i, Y'.2 540 30 - Y'.2 540 29, i + 1) else if w < Y'.2 540 30 - Y'.2 540 29 then .inl (Y'.2, i, Y'.2 540 30 - Y'.2 540 29, i + 1) else .inl (Y'.2, c, w, i + 1))) = if c = -2 then .inl (Y'.2, i, fn_125 (Y'.2 540 29) (Y'.2 540 30) k, i + 1) else if w < fn_125 (Y'.2 540 29) (Y'.2 540 30) k then .inl (Y'.2, i, fn_125 (Y'.2 540 29) (Y'.2 540 30) k, i + 1) else .inl (Y'.2, c, w, i + 1) := by
              unfold fn_125
              by_cases k0 : k = 0
              · simp only [k0, ne_eq, eq_self, not_true_eq_false, if_false]
              · by_cases k1 : k = 1
                · simp only [k1, i_10, ne_eq, eq_self, not_true_eq_false, not_false_eq_true, if_false, if_true]
                · simp only [k0, k1, ne_eq, not_false_eq_true, if_true]
            rw [ew]
            generalize fn_125 (Y'.2 540 29) (Y'.2 540 30) k = y
            by_cases c2 : c = -2
            · rw [if_pos c2, if_pos c2]
              exact .inl ⟨_, _, rfl, rfl, by first | omega | (dsimp only; omega), by first | omega | (dsimp only; omega), ⟨rfl, rfl⟩, .inl rfl, ⟨x1, x2.trans w2⟩, z1, z2.trans w4⟩
            · rw [if_neg c2, if_neg c2]
              by_cases z : y ≤ w
              · rw [if_pos z, if_neg (c := w < y) (fun h => Int32.not_le.mpr h z)]
                exact .inl ⟨_, _, rfl, rfl, by first | omega | (dsimp only; omega), by first | omega | (dsimp only; omega), ⟨rfl, rfl⟩, .inl rfl, ⟨x1, x2.trans w2⟩, z1, z2.trans w4⟩
              · rw [if_neg z, if_pos (c := w < y) (Int32.not_le.mp z)]
                exact .inl ⟨_, _, rfl, rfl, by first | omega | (dsimp only; omega), by first | omega | (dsimp only; omega), ⟨rfl, rfl⟩, .inl rfl, ⟨x1, x2.trans w2⟩, z1, z2.trans w4⟩
        · have hn : hv_t (g 541) t j.toInt 0 = none := by
            unfold hv_t tw_H
            rw [if_pos (by omega)]
          rw [hn] at v3
          have v3 : Y'.1 = 0 := v3
          unfold fn_232_76 fn_232_144
          rw [if_neg (c := Y'.1 ≠ 0) (fun z => z v3)]
          exact .inr (.inl ⟨_, rfl, by first | omega | (dsimp only; omega), by first | omega | (dsimp only; omega), ⟨rfl, rfl⟩, .inr (by first | omega | (dsimp only; omega)), ⟨w1, w2⟩, z1, z2.trans w4⟩)
      · rintro ⟨X, c, w, i⟩ ⟨Y, c', w', j⟩ ⟨r1, r2, ⟨r3, r4⟩, r5, -⟩
        dsimp only at r1 r2 r3 r4 r5 ⊢
        subst r3 r4
        unfold fn_124_68b fn_232_59b
        rw [if_pos (c := b + m ≤ j) (aa_le32.mpr (by omega))]
        by_cases n1 : b + m ≤ i
        · rw [if_pos n1]
          exact ⟨_, _, rfl, rfl, rfl⟩
        · rw [if_neg n1, if_pos (c := (36000 : Int32) ≤ i) (aa_le32.mpr (by rw [i_36]; have := mt aa_le32.mpr n1; omega))]
          exact ⟨_, _, rfl, rfl, rfl⟩
    · have E1 : (fn_124 g a b m h k).1 = -1 := by
        unfold fn_124
        rw [c1]
        dsimp only
        simp only [gd_91z W, ne_eq, ti_77z, ti_193z, ti_14z, ti_154z, gd_66z, gd_199z, Decidable.not_not, i_0, i_1, i_2, i_3, i_11, i_12n, i_15, i_23, i_60, i_360, i_864, i_8640, i_35, eq_self, not_true_eq_false, not_false_eq_true, and_self, or_self, if_true, if_false]
        repeat' split
        all_goals first | rfl | (exfalso; omega)
      have E2 : (fn_232 g2 a b m h k).1 = -1 := by
        unfold fn_232
        simp only [gd_191z W2, gd_192z W2, ti_204 W2.2.1, ne_eq, ti_77z, ti_193z, ti_14z, ti_154z, gd_66z, gd_199z, Decidable.not_not, i_0, i_1, i_2, i_3, i_11, i_12n, i_15, i_23, i_60, i_360, i_864, i_8640, i_35, eq_self, not_true_eq_false, not_false_eq_true, and_self, or_self, if_true, if_false, e0, e1, ha]
        repeat' split
        all_goals first | rfl | (exfalso; omega)
      rw [E1, E2]
  · have E1 : (fn_124 g a b m h k).1 = -1 := by
      unfold fn_124
      simp only [gt_n W ha]
    have E2 : (fn_232 g2 a b m h k).1 = -1 := by
      unfold fn_232
      simp only [gd_191z W2, gd_192z W2, ti_204 W2.2.1, ne_eq, ti_77z, ti_193z, ti_14z, ti_154z, gd_66z, gd_199z, Decidable.not_not, i_0, i_1, i_2, i_3, i_11, i_12n, i_15, i_23, i_60, i_360, i_864, i_8640, i_35, eq_self, not_true_eq_false, not_false_eq_true, and_self, or_self, if_true, if_false, e0, e1]
      repeat' split
      all_goals first | rfl | (exfalso; omega)
    rw [E1, E2]
theorem lq_124 {g : aa_G} {a0 a1 a2 a3 a4 : Int32} (hi : aa_inv g) (hφ : aa_Phi g) (hR : lr_R g) : lq_ok true 124 232 [.int a0, .int a1, .int a2, .int a3, .int a4] g :=
  lq_ask (y := fn_232 (fn_124 g a0 a1 a2 a3 a4).2 a0 a1 a2 a3 a4) hi hφ hR (ko_fw (ko_124 hi hφ) fun _ _ _ r => dn_124 r) (fun i1 p1 => ko_fw (ko_232 i1 p1) fun _ _ _ r => dn_232 r) (by decide +kernel) (by decide +kernel) (by decide +kernel) (by decide +kernel) (by decide +kernel) (by decide +kernel) fun W W2 e => ak_124 W W2 e a0 a1 a2 a3 a4
end
section
/-! (140, 251): both sides say the same -/
theorem i_lc {a b c : Int32} : a + (b + c) = b + (a + c) := by rw [← Int32.add_assoc, Int32.add_comm a b, Int32.add_assoc]
theorem i_ng {a b : Int32} : -(a + b) = -a + -b := by rw [Int32.neg_add, Int32.sub_eq_add_neg]
theorem i_lag {s b p q : Int32} : s - b - (q - p) = s - q - b + p := by
  simp only [Int32.sub_eq_add_neg, i_ng, Int32.neg_neg, Int32.add_assoc, Int32.add_comm, i_lc]
theorem of_209 {g : aa_G} (t : Nat) (ht : t < 4) : fn_209 g (Int32.ofNat t) = g 541 (50 * t + 3) := by
  unfold fn_209
  rw [ml_ta, zz_toN (by omega)]
theorem neg_1 : (-1 : Int32) < 0 := by decide
theorem neg_2 : (-2 : Int32) < 0 := by decide
theorem ak_140 {g g2 : aa_G} (W : wd_g g) (W2 : wd_g g2) (e : g2 541 = g 541) (a b h n : Int32) : (fn_140 g a b h n).1 = (fn_251 g2 a b h n).1 := by
  have e0 : g2 541 0 = g 541 0 := by rw [e]
  have e1 : g2 541 1 = g 541 1 := by rw [e]
  rcases gk_at W a with ⟨t1, t2, ⟨ht1, hat1, hu1⟩, ⟨ht2, hat2, hu2⟩, ⟨c1, c2⟩, ha1, ha2, ha3⟩ | ⟨c1, hk⟩
  · have k0 : ¬ fn_239 g2 a = 0 := fun z => (gd_239z W2).mp z (by rw [e0]; exact ⟨ha1, ha2, ha3⟩)
    have f1 := fr_90 W (a / 4) b h n
    have W3 : wd_g (fn_90 g (a / 4) b h n).2 := wd_of W (fun k j z => f1 k j (by omega))
    have e3 : (fn_90 g (a / 4) b h n).2 541 = g 541 := funext fun j => f1 541 j (by omega)
    have v1 := ck_90 W (a / 4) b h n
    have v2 := ck_90 W3 (a - a / 4 * 4) b h n
    rw [e3] at v2
    have f2 := fr_90 W3 (a - a / 4 * 4) b h n
    unfold fn_140
    rw [c1, c2]
    dsimp only
    unfold fn_140_38 fn_140_51
    rw [v1, v2]
    by_cases hG : (0 ≤ b.toInt ∧ b.toInt ≤ 35999) ∧ (0 ≤ h.toInt ∧ h.toInt ≤ 1) ∧ (0 ≤ n.toInt ∧ n.toInt ≤ 12 * (g 541 1).toInt - 1)
    · have hG0 := hG
      obtain ⟨hb, hh, hn⟩ := hG0
      have n1 : (a / 4).toInt.toNat = t1 := by rw [hat1, zz_ofN (by omega)]; omega
      have n2 : (a - a / 4 * 4).toInt.toNat = t2 := by rw [hat2, zz_ofN (by omega)]; omega
      have p1 : sp_90 (g 541) (a / 4) b h n = sp_b (g 541 1) n (hv_t (g 541) t1 b.toInt h.toInt) := by
        unfold sp_90
        rw [if_neg (by omega), n1]
      have p2 : sp_90 (g 541) (a - a / 4 * 4) b h n = sp_b (g 541 1) n (hv_t (g 541) t2 b.toInt h.toInt) := by
        unfold sp_90
        rw [if_neg (by omega), n2]
      have E2 : fn_251 g2 a b h n = fn_251_40 (fn_205 g2 (a / 4) b h n).2 a b h n (fn_205 g2 (a / 4) b h n).1 := by
        unfold fn_251
        simp only [k0, ti_204 W2.2.1, ne_eq, ti_77z, ti_193z, ti_14z, ti_154z, gd_66z, gd_199z, Decidable.not_not, i_0, i_1, i_2, i_3, i_11, i_12n, i_15, i_23, i_60, i_360, i_864, i_8640, i_35, eq_self, not_true_eq_false, not_false_eq_true, and_self, or_self, if_true, if_false, e0, e1, hb, hh, hn]
      obtain ⟨q1, r1⟩ := mk_205 (b := b) (h := h) (n := n) W2 (t := t1) (by rw [e0]; exact hu1) hh (by rw [e1]; exact hn)
      have W4 : wd_g (fn_205 g2 (Int32.ofNat t1) b h n).2 := wd_of W2 (fun k j z => r1 k j (by omega))
      have e4 : (fn_205 g2 (Int32.ofNat t1) b h n).2 541 = g 541 := (funext fun j => r1 541 j (by omega)).trans e
      obtain ⟨q2, r2⟩ := mk_205 (b := b) (h := h) (n := n) W4 (t := t2) (by rw [e4]; exact hu2) hh (by rw [e4]; exact hn)
      rw [e] at q1
      rw [e4] at q2
      have e5 : (fn_205 (fn_205 g2 (Int32.ofNat t1) b h n).2 (Int32.ofNat t2) b h n).2 541 = g 541 := (funext fun j => r2 541 j (by omega)).trans e4
      rw [E2, p1, p2]
      unfold fn_251_40 fn_251_53
      rw [hat2, hat1, q1, q2, of_209 t1 ht1, of_209 t2 ht2, e5]
      have b1 := sp_bb (b := b.toInt) (h := h.toInt) W hu1 hn
      have b2 := sp_bb (b := b.toInt) (h := h.toInt) W hu2 hn
      have o : fn_94 (fn_90 (fn_90 g (Int32.ofNat t1) b h n).2 (Int32.ofNat t2) b h n).2 (5 * t1 + 14) (5 * t2 + 14) = g 541 (50 * t2 + 3) - g 541 (50 * t1 + 3) := by
        rw [hat2, hat1] at f2
        rw [hat1] at f1
        unfold fn_94
        rw [f2 _ _ (by omega), f2 _ _ (by omega), f1 _ _ (by omega), f1 _ _ (by omega), (W.2.2.2.2.2 t1 hu1).1, (W.2.2.2.2.2 t2 hu2).1]
      rw [o]
      generalize sp_b (g 541 1) n (hv_t (g 541) t1 b.toInt h.toInt) = p at b1 ⊢
      generalize sp_b (g 541 1) n (hv_t (g 541) t2 b.toInt h.toInt) = q at b2 ⊢
      by_cases z1 : p = -2
      · rw [z1, if_pos neg_2, if_pos rfl]
      · have b1 := b1.resolve_left z1
        rw [if_neg (c := p < 0) (fun z => by have := ti_lt.mp z; rw [i_0] at this; omega), if_neg z1]
        by_cases z2 : q = -2
        · rw [z2, if_neg (c := (0 : Int32) ≤ -2) (by decide), if_neg (c := (-2 : Int32) ≠ -2) (fun z => z rfl)]
        · have b2 := b2.resolve_left z2
          rw [if_pos (c := (0 : Int32) ≤ q) (aa_le32.mpr b2), if_pos (c := q ≠ -2) z2]
          exact i_lag
    · have p1 : sp_90 (g 541) (a / 4) b h n = -1 := by
        unfold sp_90
        rw [if_pos (by omega)]
      have E2 : (fn_251 g2 a b h n).1 = -1000000 := by
        unfold fn_251
        simp only [k0, ti_204 W2.2.1, ne_eq, ti_77z, ti_193z, ti_14z, ti_154z, gd_66z, gd_199z, Decidable.not_not, i_0, i_1, i_2, i_3, i_11, i_12n, i_15, i_23, i_60, i_360, i_864, i_8640, i_35, eq_self, not_true_eq_false, not_false_eq_true, and_self, or_self, if_true, if_false, e0, e1]
        repeat' split
        all_goals first | rfl | (exfalso; omega)
      rw [E2, p1, if_pos neg_1]
  · have E1 : (fn_140 g a b h n).1 = -1000000 := by
      unfold fn_140
      rcases c1 with c1 | c1
      · rw [c1]
        cases fn_134 g a <;> rfl
      · rw [c1]
        cases fn_133 g a <;> rfl
    have k0 : fn_239 g2 a = 0 := (gd_239z W2).mpr (by rw [e0]; exact hk)
    have E2 : (fn_251 g2 a b h n).1 = -1000000 := by
      unfold fn_251
      rw [if_pos k0]
    rw [E1, E2]
theorem lq_140 {g : aa_G} {a0 a1 a2 a3 : Int32} (hi : aa_inv g) (hφ : aa_Phi g) (hR : lr_R g) : lq_ok true 140 251 [.int a0, .int a1, .int a2, .int a3] g :=
  lq_ask (y := fn_251 (fn_140 g a0 a1 a2 a3).2 a0 a1 a2 a3) hi hφ hR (ko_fw (ko_140 hi hφ) fun _ _ _ r => dn_140 r) (fun i1 p1 => ko_fw (ko_251 i1 p1) fun _ _ _ r => dn_251 r) (by decide +kernel) (by decide +kernel) (by decide +kernel) (by decide +kernel) (by decide +kernel) (by decide +kernel) fun W W2 e => ak_140 W W2 e a0 a1 a2 a3
end
section
/-! (135, 235): both sides say the same -/
theorem sh_max {p x : Int32} : (if x ≤ p then p else x) = if p < x then x else p := by
  by_cases z : x ≤ p
  · rw [if_pos z, if_neg (fun h => Int32.not_le.mpr h z)]
  · rw [if_neg z, if_pos (Int32.not_le.mp z)]
theorem sh_min {q y : Int32} : (if q ≤ y then q else y) = if y < q then y else q := by
  by_cases z : q ≤ y
  · rw [if_pos z, if_neg (fun h => Int32.not_le.mpr h z)]
  · rw [if_neg z, if_pos (Int32.not_le.mp z)]
theorem sh_ap {α : Type} {c : Prop} {ip : Decidable c} {f : Int32 → α} {x y : Int32} : @ite α c ip (f x) (f y) = f (@ite Int32 c ip x y) := by
  by_cases z : c
  · rw [if_pos z, if_pos z]
  · rw [if_neg z, if_neg z]
theorem i_lat {x o p : Int32} : x - (o - p) = x - o + p := by
  simp only [Int32.sub_eq_add_neg, i_ng, Int32.neg_neg, Int32.add_assoc, Int32.add_comm, i_lc]
theorem ak_135 {g g2 : aa_G} (W : wd_g g) (W2 : wd_g g2) (e : g2 541 = g 541) (a b k : Int32) : (fn_135 g a b k).1 = (fn_235 g2 a b k).1 := by
  have e0 : g2 541 0 = g 541 0 := by rw [e]
  have e1 : g2 541 1 = g 541 1 := by rw [e]
  rcases gk_at W a with ⟨t1, t2, ⟨ht1, hat1, hu1⟩, ⟨ht2, hat2, hu2⟩, ⟨c1, c2⟩, ha1, ha2, ha3⟩ | ⟨c1, hk⟩
  · have k0 : ¬ fn_239 g2 a = 0 := fun z => (gd_239z W2).mp z (by rw [e0]; exact ⟨ha1, ha2, ha3⟩)
    by_cases hG : (0 ≤ b.toInt ∧ b.toInt ≤ 35999) ∧ (0 ≤ k.toInt ∧ k.toInt ≤ 1)
    · have hG0 := hG
      obtain ⟨hb, hk⟩ := hG0
      have E1 : fn_135 g a b k = fn_135_53 (fn_78 g 461 (some (5 * t1 + 14)) b 0) b k (5 * t1 + 14) (5 * t2 + 14) := by
        unfold fn_135
        rw [c1, c2]
        dsimp only
        simp only [gd_91z W, ne_eq, ti_77z, ti_193z, ti_14z, ti_154z, gd_66z, gd_199z, Decidable.not_not, i_0, i_1, i_2, i_3, i_11, i_12n, i_15, i_23, i_60, i_360, i_864, i_8640, i_35, eq_self, not_true_eq_false, not_false_eq_true, and_self, or_self, if_true, if_false, hb, hk]
      have E2 : fn_235 g2 a b k = fn_235_57 (fn_194 g2 (a / 4) b 0).2 a b k (fn_194 g2 (a / 4) b 0).1 := by
        unfold fn_235
        simp only [gd_192z W2, k0, ti_204 W2.2.1, ne_eq, ti_77z, ti_193z, ti_14z, ti_154z, gd_66z, gd_199z, Decidable.not_not, i_0, i_1, i_2, i_3, i_11, i_12n, i_15, i_23, i_60, i_360, i_864, i_8640, i_35, eq_self, not_true_eq_false, not_false_eq_true, and_self, or_self, if_true, if_false, e0, e1, ha1, ha2, ha3, hb, hk]
      rw [E1, E2]
      rw [hat1]
      obtain ⟨w1, w2, -, v1, -⟩ := lv_look 461 b 0 W hu1 (by omega) (.inl rfl)
      obtain ⟨y1, y2, -, v2⟩ := lv_half b 0 W2 (t := t1) (by rw [e0]; exact hu1) (.inl rfl)
      rw [e, i_0] at v2
      rw [i_0] at v1
      have y2 := y2.trans e
      generalize fn_78 g 461 (some (5 * t1 + 14)) b 0 = X0 at w1 w2 v1 ⊢
      generalize fn_194 g2 (Int32.ofNat t1) b 0 = Y0 at y1 y2 v2 ⊢
      unfold fn_135_53 fn_135_62 fn_235_57
      cases hq : hv_t (g 541) t1 b.toInt 0 with
      | none =>
        rw [hq] at v1 v2
        rw [if_neg (c := Y0.1 ≠ 0) (fun z => z (lv_m0 v2)), lp_r (r := (0, X0)) (by
          dsimp only
          unfold fn_135_62b fn_135_195
          rw [if_neg (c := (1 : Int32) < -1) (by decide), if_pos (lv_c0 v1)]
          split <;> rfl)]
      | some r =>
        obtain ⟨u, l⟩ := r
        rw [hq] at v1 v2
        obtain ⟨m1, m3, m4⟩ := v1
        obtain ⟨n1, n3, n4⟩ := v2
        have hu := hv_b W hu1 hq
        have hu4 := hu.2.2.2.1 (by decide)
        have q3 : X0 461 3 = Y0.2 540 17 := ti_eq.mpr (m3.trans n3.symm)
        have q4 : X0 461 4 = Y0.2 540 18 := ti_eq.mpr (m4.trans n4.symm)
        rw [if_pos (c := Y0.1 ≠ 0) (by rw [n1]; decide)]
        unfold fn_235_90
        have ox := (W.2.2.2.2.2 t1 hu1).2.2.1
        have oy := (W.2.2.2.2.2 t2 hu2).2.2.1
        have pu : (Y0.2 540 17).toInt = u := n3
        have epq : (Y0.2 540 17 + Y0.2 540 18).toInt = u + l := by rw [aa_add32 (by omega) (by omega), n3, n4]
        refine lp_two1 (fun (n' : Nat) (s t' : aa_G × Int32 × Int32 × Int32) => s.2.2.2.toInt + n' = 2 ∧ -1 ≤ s.2.2.2.toInt ∧ (s.2.1 = t'.2.1 ∧ s.2.2.1 = t'.2.2.1) ∧ t'.2.2.2 = b + s.2.2.2 ∧ (wd_g s.1 ∧ s.1 541 = g 541 ∧ s.1 461 0 = 1 ∧ s.1 461 3 = Y0.2 540 17 ∧ s.1 461 4 = Y0.2 540 18) ∧ (wd_g t'.1 ∧ t'.1 541 = g 541)) ?_ ?_ 3 _ _ ⟨by first | decide | (dsimp only; decide), by first | decide | (dsimp only; decide), ⟨rfl, rfl⟩, by show b - 1 = b + -1; rw [Int32.sub_eq_add_neg], ⟨w1, w2, m1, q3, q4⟩, y1, y2⟩
        · rintro n' ⟨X, c, w, i⟩ ⟨Y, c', w', j⟩ ⟨r1, r2, ⟨r3, r4⟩, r5, ⟨w1, w2, x0, x3, x4⟩, w3, w4⟩
          dsimp only at r1 r2 r3 r4 r5 w1 w2 x0 x3 x4 w3 w4 ⊢
          subst r3 r4 r5
          have ei : (b + i).toInt = b.toInt + i.toInt := aa_add32 (by omega) (by omega)
          have ef : (b + 1).toInt = b.toInt + 1 := aa_add32 (by rw [i_1]; omega) (by rw [i_1]; omega)
          have es : (i + 1).toInt = i.toInt + 1 := i_suc (by omega) (by omega)
          have n1 : ¬ (1 : Int32) < i := fun z => by have := ti_lt.mp z; rw [i_1] at this; omega
          have n2 : ¬ b + 1 < b + i := fun z => by have := ti_lt.mp z; omega
          have n3 : ¬ X 461 0 = 0 := by rw [x0]; decide
          obtain ⟨p1, p2, p3, v1, -⟩ := lv_look 462 (b + i) 0 w1 (t := t2) (by rw [w2]; exact hu2) (by omega) (.inl rfl)
          obtain ⟨z1, z2, -, v2⟩ := lv_half (b + i) 0 w3 (t := t2) (by rw [w4]; exact hu2) (.inl rfl)
          rw [w2, i_0] at v1
          rw [w4, i_0] at v2
          unfold fn_135_62b fn_235_90b
          rw [if_neg n1, if_neg n2, if_neg n3, hat2]
          have o : fn_94 (fn_78 X 462 (some (5 * t2 + 14)) (b + i) 0) (5 * t1 + 14) (5 * t2 + 14) = g 541 (50 * t2 + 3) - g 541 (50 * t1 + 3) := by
            unfold fn_94
            rw [p3 _ _ (by omega), p3 _ _ (by omega), (w1.2.2.2.2.2 t1 (by rw [w2]; exact hu1)).1, (w1.2.2.2.2.2 t2 (by rw [w2]; exact hu2)).1, w2]
          have x0' := (p3 461 0 (by omega)).trans x0
          have x3' := (p3 461 3 (by omega)).trans x3
          have x4' := (p3 461 4 (by omega)).trans x4
          have p2 := p2.trans w2
          have z2 := z2.trans w4
          unfold fn_135_92 fn_135_129 fn_135_159 fn_135_189 fn_235_108
          rw [o, x3', x4', hat2, hat1, of_209 t1 ht1, of_209 t2 ht2, z2]
          generalize fn_78 X 462 (some (5 * t2 + 14)) (b + i) 0 = X' at p1 p2 v1 x0' x3' x4' ⊢
          generalize fn_194 Y (Int32.ofNat t2) (b + i) 0 = Y' at z1 z2 v2 ⊢
          have eb : b + i - b = i := by rw [Int32.add_comm, Int32.add_sub_cancel]
          have ea : b + i + 1 = b + (i + 1) := Int32.add_assoc b i 1
          rw [eb, i_lat]
          cases hr : hv_t (g 541) t2 (b + i).toInt 0 with
          | none =>
            rw [hr] at v1 v2
            unfold fn_235_203
            rw [if_pos (lv_c0 v1), if_neg (c := Y'.1 ≠ 0) (fun z => z (lv_m0 v2)), ea]
            exact .inl ⟨_, _, rfl, rfl, by first | omega | (dsimp only; omega), by first | omega | (dsimp only; omega), ⟨rfl, rfl⟩, rfl, ⟨p1, p2, x0', x3', x4'⟩, z1, z2⟩
          | some r =>
            obtain ⟨u', l'⟩ := r
            rw [hr] at v1 v2
            have hv := hv_b W hu2 hr
            have hv4 := hv.2.2.2.1 (by decide)
            rw [if_neg (c := X' 462 0 = 0) (by rw [lv_c1 v1]; decide), if_pos (c := Y'.1 ≠ 0) (by rw [lv_m1 v2]; decide), lv_3 v1 v2, lv_4 v1 v2]
            obtain ⟨-, k3, k4⟩ := v2
            have m1 : (i * 86400).toInt = i.toInt * 86400 := by rw [ti_mul (by rw [i_864]; omega) (by rw [i_864]; omega), i_864]
            have m2 : (Y'.2 540 17 + i * 86400).toInt = u' + i.toInt * 86400 := by rw [aa_add32 (by omega) (by omega), m1, k3]
            have m3 : (Y'.2 540 17 + i * 86400 - g 541 (50 * t2 + 3)).toInt = u' + i.toInt * 86400 - (g 541 (50 * t2 + 3)).toInt := by rw [aa_sub32 (by omega) (by omega), m2]
            have m4 : (Y'.2 540 17 + i * 86400 - g 541 (50 * t2 + 3) + g 541 (50 * t1 + 3)).toInt = u' + i.toInt * 86400 - (g 541 (50 * t2 + 3)).toInt + (g 541 (50 * t1 + 3)).toInt := by rw [aa_add32 (by omega) (by omega), m3]
            generalize Y'.2 540 17 + i * 86400 - g 541 (50 * t2 + 3) + g 541 (50 * t1 + 3) = x at m4 ⊢
            have m5 : (x + Y'.2 540 18).toInt = x.toInt + l' := by rw [aa_add32 (by omega) (by omega), k4]
            generalize x + Y'.2 540 18 = y at m5 ⊢
            generalize hp : Y0.2 540 17 = p at pu epq ⊢
            generalize hpq : p + Y0.2 540 18 = pq at epq ⊢
            unfold fn_235_168
            rw [sh_ap (f := fun s1 => if x ≤ p then fn_235_182 Y'.2 a b k p pq c w (b + i) p s1 else fn_235_182 Y'.2 a b k p pq c w (b + i) x s1), sh_min]
            rw [sh_ap (f := fun s0 => fn_235_182 Y'.2 a b k p pq c w (b + i) s0 (if y < pq then y else pq)), sh_max]
            unfold fn_235_182 fn_235_203
            have f1 : (if p < x then x else p).toInt = if p.toInt < x.toInt then x.toInt else p.toInt := by
              by_cases z : p < x
              · rw [if_pos z, if_pos (ti_lt.mp z)]
              · rw [if_neg z, if_neg (mt ti_lt.mpr z)]
            have f2 : (if y < pq then y else pq).toInt = if y.toInt < pq.toInt then y.toInt else pq.toInt := by
              by_cases z : y < pq
              · rw [if_pos z, if_pos (ti_lt.mp z)]
              · rw [if_neg z, if_neg (mt ti_lt.mpr z)]
            generalize (if p < x then x else p) = F at f1 ⊢
            generalize (if y < pq then y else pq) = T at f2 ⊢
            have F1 : -1000000 ≤ F.toInt ∧ F.toInt ≤ 1000000 := by rw [f1]; split <;> omega
            have T1 : -1000000 ≤ T.toInt ∧ T.toInt ≤ 1000000 := by rw [f2]; split <;> omega
            have d1 : (T - F).toInt = T.toInt - F.toInt := aa_sub32 (by omega) (by omega)
            rw [ea]
            by_cases z : T ≤ F
            · have := aa_le32.mp z
              rw [if_pos z, if_neg (c := (0 : Int32) < T - F) (fun h => by have := ti_lt.mp h; rw [d1, i_0] at this; omega)]
              exact .inl ⟨_, _, rfl, rfl, by first | omega | (dsimp only; omega), by first | omega | (dsimp only; omega), ⟨rfl, rfl⟩, rfl, ⟨p1, p2, x0', by rw [hp] at x3'; exact x3', x4'⟩, z1, z2⟩
            · have := mt aa_le32.mpr z
              rw [if_neg z, if_pos (c := (0 : Int32) < T - F) (ti_lt.mpr (by rw [d1, i_0]; omega))]
              exact .inl ⟨_, _, rfl, rfl, by first | omega | (dsimp only; omega), by first | omega | (dsimp only; omega), ⟨rfl, rfl⟩, rfl, ⟨p1, p2, x0', by rw [hp] at x3'; exact x3', x4'⟩, z1, z2⟩
        · rintro ⟨X, c, w, i⟩ ⟨Y, c', w', j⟩ ⟨r1, r2, ⟨r3, r4⟩, r5, -⟩
          dsimp only at r1 r2 r3 r4 r5 ⊢
          subst r3 r4 r5
          have ei : (b + i).toInt = b.toInt + i.toInt := aa_add32 (by omega) (by omega)
          have ef : (b + 1).toInt = b.toInt + 1 := aa_add32 (by rw [i_1]; omega) (by rw [i_1]; omega)
          unfold fn_135_62b fn_235_90b fn_135_195
          rw [if_pos (c := (1 : Int32) < i) (ti_lt.mpr (by rw [i_1]; omega)), if_pos (c := b + 1 < b + i) (ti_lt.mpr (by omega))]
          by_cases k0 : k = 0
          · rw [if_neg (fun z => z k0), if_neg (fun z => z k0)]
            exact ⟨_, _, rfl, rfl, rfl⟩
          · rw [if_pos k0, if_pos k0]
            exact ⟨_, _, rfl, rfl, rfl⟩
    · have E1 : (fn_135 g a b k).1 = -1 := by
        unfold fn_135
        rw [c1, c2]
        dsimp only
        simp only [gd_91z W, ne_eq, ti_77z, ti_193z, ti_14z, ti_154z, gd_66z, gd_199z, Decidable.not_not, i_0, i_1, i_2, i_3, i_11, i_12n, i_15, i_23, i_60, i_360, i_864, i_8640, i_35, eq_self, not_true_eq_false, not_false_eq_true, and_self, or_self, if_true, if_false]
        repeat' split
        all_goals first | rfl | (exfalso; omega)
      have E2 : (fn_235 g2 a b k).1 = -1 := by
        unfold fn_235
        simp only [gd_192z W2, k0, ti_204 W2.2.1, ne_eq, ti_77z, ti_193z, ti_14z, ti_154z, gd_66z, gd_199z, Decidable.not_not, i_0, i_1, i_2, i_3, i_11, i_12n, i_15, i_23, i_60, i_360, i_864, i_8640, i_35, eq_self, not_true_eq_false, not_false_eq_true, and_self, or_self, if_true, if_false, e0, e1, ha1, ha2, ha3]
        repeat' split
        all_goals first | rfl | (exfalso; omega)
      rw [E1, E2]
  · have E1 : (fn_135 g a b k).1 = -1 := by
      unfold fn_135
      rcases c1 with c1 | c1
      · rw [c1]
        cases fn_134 g a <;> rfl
      · rw [c1]
        cases fn_133 g a <;> rfl
    have k0 : fn_239 g2 a = 0 := (gd_239z W2).mpr (by rw [e0]; exact hk)
    have E2 : (fn_235 g2 a b k).1 = -1 := by
      unfold fn_235
      simp only [gd_192z W2, k0, ne_eq, ti_77z, ti_193z, ti_14z, ti_154z, gd_66z, gd_199z, Decidable.not_not, i_0, i_1, i_2, i_3, i_11, i_12n, i_15, i_23, i_60, i_360, i_864, i_8640, i_35, eq_self, not_true_eq_false, not_false_eq_true, and_self, or_self, if_true, if_false, e0, e1]
      repeat' split
      all_goals first | rfl | (exfalso; omega)
    rw [E1, E2]
theorem lq_135 {g : aa_G} {a0 a1 a2 : Int32} (hi : aa_inv g) (hφ : aa_Phi g) (hR : lr_R g) : lq_ok true 135 235 [.int a0, .int a1, .int a2] g :=
  lq_ask (y := fn_235 (fn_135 g a0 a1 a2).2 a0 a1 a2) hi hφ hR (ko_fw (ko_135 hi hφ) fun _ _ _ r => dn_135 r) (fun i1 p1 => ko_fw (ko_235 i1 p1) fun _ _ _ r => dn_235 r) (by decide +kernel) (by decide +kernel) (by decide +kernel) (by decide +kernel) (by decide +kernel) (by decide +kernel) fun W W2 e => ak_135 W W2 e a0 a1 a2
end
section
/-! (136, 238), (137, 240): both sides say the same -/
/-- the model's way from one town's time to another one's -/
theorem mk_208x {g : aa_G} {t t2 : Nat} {b : Int32} {c : Int64} (W : wd_g g) (ht : (t : Int) < (g 541 0).toInt) (ht2 : (t2 : Int) < (g 541 0).toInt) (hb : 0 ≤ b.toInt ∧ b.toInt ≤ 35999) (hc : 0 ≤ c.toInt ∧ c.toInt ≤ 2000000) : ((fn_208 g (Int32.ofNat t) b.toInt64 c (Int32.ofNat t2)) 540 22).toInt = b.toInt + (c.toInt + ((g 541 (50 * t2 + 3)).toInt - (g 541 (50 * t + 3)).toInt)) / 86400 ∧ ((fn_208 g (Int32.ofNat t) b.toInt64 c (Int32.ofNat t2)) 540 23).toInt = (c.toInt + ((g 541 (50 * t2 + 3)).toInt - (g 541 (50 * t + 3)).toInt)) % 86400 ∧ ∀ k j, ¬ (k = 540 ∧ 22 ≤ j ∧ j ≤ 23) → (fn_208 g (Int32.ofNat t) b.toInt64 c (Int32.ofNat t2)) k j = g k j := by
  have n4 := W.1
  have o1 := (W.2.2.2.2.2 t ht).2.2.1
  have o2 := (W.2.2.2.2.2 t2 ht2).2.2.1
  have t0 : (86400 : Int64).toInt = 86400 := rfl
  have e9 : fn_209 g (Int32.ofNat t) = g 541 (50 * t + 3) := of_209 t (by omega)
  have e9' : fn_209 g (Int32.ofNat t2) = g 541 (50 * t2 + 3) := of_209 t2 (by omega)
  generalize hG : fn_208 g (Int32.ofNat t) b.toInt64 c (Int32.ofNat t2) = G
  unfold fn_208 at hG
  rw [e9, e9'] at hG
  have x1 : (b.toInt64 * 86400).toInt = b.toInt * 86400 := by rw [l_mul (by rw [t0, l_of]; omega) (by rw [t0, l_of]; omega), t0, l_of]
  have x2 : (b.toInt64 * 86400 + c).toInt = b.toInt * 86400 + c.toInt := by rw [l_add (by rw [x1]; omega) (by rw [x1]; omega), x1]
  have x3 : (b.toInt64 * 86400 + c - (g 541 (50 * t + 3)).toInt64).toInt = b.toInt * 86400 + c.toInt - (g 541 (50 * t + 3)).toInt := by rw [l_sub (by rw [x2, l_of]; omega) (by rw [x2, l_of]; omega), x2, l_of]
  have x4 : (b.toInt64 * 86400 + c - (g 541 (50 * t + 3)).toInt64 + (g 541 (50 * t2 + 3)).toInt64).toInt = b.toInt * 86400 + c.toInt - (g 541 (50 * t + 3)).toInt + (g 541 (50 * t2 + 3)).toInt := by rw [l_add (by rw [x3, l_of]; omega) (by rw [x3, l_of]; omega), x3, l_of]
  generalize b.toInt64 * 86400 + c - (g 541 (50 * t + 3)).toInt64 + (g 541 (50 * t2 + 3)).toInt64 = X at hG x4
  obtain ⟨s, hs, hG2⟩ := l_floor (by omega) (by omega) G hG.symm
  rw [hG2]
  unfold fn_208_54
  have y1 : (s * 86400).toInt = s.toInt * 86400 := by rw [l_mul (by rw [t0]; omega) (by rw [t0]; omega), t0]
  have y2 : (X - s * 86400).toInt = X.toInt - s.toInt * 86400 := by rw [l_sub (by omega) (by omega), y1]
  refine ⟨?_, ?_, fun k j z => ?_⟩
  · rw [aa_w_ne _ _ (by omega), aa_w_at, l_to (by omega) (by omega), hs, x4]
    omega
  · rw [aa_w_at, l_to (by omega) (by omega), y2, hs, x4]
    omega
  · rw [aa_w_ne _ _ (by omega), aa_w_ne _ _ (by omega)]
theorem tn_198 {G : aa_G} {t : Nat} {d s k : Int32} (W : wd_g G) (ht : t < 4) (ht2 : (t : Int) < (G 541 0).toInt) (hd : 0 ≤ d.toInt ∧ d.toInt ≤ 35999) (hs : 0 ≤ s.toInt ∧ s.toInt ≤ 86399) (hk : 0 ≤ k.toInt ∧ k.toInt ≤ 5) : (fn_198_35 (fn_200 G (Int32.ofNat t) d s).2 k (fn_200 G (Int32.ofNat t) d s).1).1 = sp_12 (G 541) (Int32.ofNat t) d s k := by
  have ha : 0 ≤ (Int32.ofNat t).toInt ∧ (Int32.ofNat t).toInt < (G 541 0).toInt := by rw [zz_ofN (by omega)]; omega
  rw [← mk_198 W]
  have E : fn_198 G (Int32.ofNat t) d s k = fn_198_35 (fn_200 G (Int32.ofNat t) d s).2 k (fn_200 G (Int32.ofNat t) d s).1 := by
    unfold fn_198
    rw [if_neg (c := fn_191 G (Int32.ofNat t) d = 0) (fun z => (gd_191z W).mp z ⟨ha, hd⟩), if_neg (c := fn_199 s = 0) (fun z => gd_199z.mp z hs), if_pos (c := fn_154 k 0 5 ≠ 0) (ti_154n.mpr hk)]
  rw [E]
theorem of_94 {X : aa_G} {t1 t2 : Nat} (W : wd_g X) (h1 : (t1 : Int) < (X 541 0).toInt) (h2 : (t2 : Int) < (X 541 0).toInt) : fn_94 X (5 * t1 + 14) (5 * t2 + 14) = X 541 (50 * t2 + 3) - X 541 (50 * t1 + 3) := by
  unfold fn_94
  rw [(W.2.2.2.2.2 t1 h1).1, (W.2.2.2.2.2 t2 h2).1]
/-- the class's way -/
theorem go_c {g : aa_G} {t1 t2 : Nat} {b c : Int32} (W : wd_g g) (h1 : (t1 : Int) < (g 541 0).toInt) (h2 : (t2 : Int) < (g 541 0).toInt) (hb : 0 ≤ b.toInt ∧ b.toInt ≤ 35999) (hc : 0 ≤ c.toInt ∧ c.toInt ≤ 2000000) : (b + fn_82 (c + (g 541 (50 * t2 + 3) - g 541 (50 * t1 + 3))) 86400).toInt = b.toInt + (c.toInt + ((g 541 (50 * t2 + 3)).toInt - (g 541 (50 * t1 + 3)).toInt)) / 86400 ∧ (fn_81 (c + (g 541 (50 * t2 + 3) - g 541 (50 * t1 + 3))) 86400).toInt = (c.toInt + ((g 541 (50 * t2 + 3)).toInt - (g 541 (50 * t1 + 3)).toInt)) % 86400 := by
  have o1 := (W.2.2.2.2.2 t1 h1).2.2.1
  have o2 := (W.2.2.2.2.2 t2 h2).2.2.1
  have d1 : (g 541 (50 * t2 + 3) - g 541 (50 * t1 + 3)).toInt = (g 541 (50 * t2 + 3)).toInt - (g 541 (50 * t1 + 3)).toInt := aa_sub32 (by omega) (by omega)
  have d2 : (c + (g 541 (50 * t2 + 3) - g 541 (50 * t1 + 3))).toInt = c.toInt + ((g 541 (50 * t2 + 3)).toInt - (g 541 (50 * t1 + 3)).toInt) := by rw [aa_add32 (by omega) (by omega), d1]
  have d3 : (fn_82 (c + (g 541 (50 * t2 + 3) - g 541 (50 * t1 + 3))) 86400).toInt = (c.toInt + ((g 541 (50 * t2 + 3)).toInt - (g 541 (50 * t1 + 3)).toInt)) / 86400 := by rw [ti_82 (by omega) (by decide), d2, i_864]
  exact ⟨by rw [aa_add32 (by omega) (by omega), d3], by rw [ti_81 (by omega) (by decide), d2, i_864]⟩
theorem ak_136 {g g2 : aa_G} (W : wd_g g) (W2 : wd_g g2) (e : g2 541 = g 541) (a b c m k : Int32) : (fn_136 g a b c m k).1 = (fn_238 g2 a b c m k).1 := by
  have e0 : g2 541 0 = g 541 0 := by rw [e]
  have e1 : g2 541 1 = g 541 1 := by rw [e]
  rcases gk_at W a with ⟨t1, t2, ⟨ht1, hat1, hu1⟩, ⟨ht2, hat2, hu2⟩, ⟨c1, c2⟩, ha1, ha2, ha3⟩ | ⟨c1, hk⟩
  · have k0 : ¬ fn_239 g2 a = 0 := fun z => (gd_239z W2).mp z (by rw [e0]; exact ⟨ha1, ha2, ha3⟩)
    by_cases hG : (0 ≤ b.toInt ∧ b.toInt ≤ 35999) ∧ (0 ≤ c.toInt ∧ c.toInt ≤ 86399) ∧ (0 ≤ m.toInt ∧ m.toInt ≤ 864000) ∧ (0 ≤ k.toInt ∧ k.toInt ≤ 3)
    · have hG0 := hG
      obtain ⟨hb, hc, hm, hk⟩ := hG0
      have E1 : fn_136 g a b c m k = (if (fn_77 (b + fn_82 (c + m + fn_94 g (5 * t1 + 14) (5 * t2 + 14)) 86400)) ≠ 0 then if k ≠ 0 then if k ≠ 1 then ((fn_85 g (a - a / 4 * 4) (b + fn_82 (c + m + fn_94 g (5 * t1 + 14) (5 * t2 + 14)) 86400) (fn_81 (c + m + fn_94 g (5 * t1 + 14) (5 * t2 + 14)) 86400) (k - 1)).1, (fn_85 g (a - a / 4 * 4) (b + fn_82 (c + m + fn_94 g (5 * t1 + 14) (5 * t2 + 14)) 86400) (fn_81 (c + m + fn_94 g (5 * t1 + 14) (5 * t2 + 14)) 86400) (k - 1)).2) else ((fn_81 (c + m + fn_94 g (5 * t1 + 14) (5 * t2 + 14)) 86400), g) else ((b + fn_82 (c + m + fn_94 g (5 * t1 + 14) (5 * t2 + 14)) 86400), g) else (-2, g)) := by
        unfold fn_136
        rw [c1, c2]
        dsimp only
        simp only [gd_91z W, ne_eq, ti_77z, ti_193z, ti_14z, ti_154z, gd_66z, gd_199z, Decidable.not_not, i_0, i_1, i_2, i_3, i_11, i_12n, i_15, i_23, i_60, i_360, i_864, i_8640, i_35, eq_self, not_true_eq_false, not_false_eq_true, and_self, or_self, if_true, if_false, hb, hc, hm, hk]
      have E2 : fn_238 g2 a b c m k = fn_238_63 (fn_208 g2 (a / 4) b.toInt64 ((c + m).toInt64) (a - a / 4 * 4)) a k := by
        unfold fn_238
        simp only [gd_192z W2, k0, ti_204 W2.2.1, ne_eq, ti_77z, ti_193z, ti_14z, ti_154z, gd_66z, gd_199z, Decidable.not_not, i_0, i_1, i_2, i_3, i_11, i_12n, i_15, i_23, i_60, i_360, i_864, i_8640, i_35, eq_self, not_true_eq_false, not_false_eq_true, and_self, or_self, if_true, if_false, e0, e1, ha1, ha2, ha3, hb, hc, hm, hk]
      rw [E1, E2]
      rw [of_94 W hu1 hu2]
      have d1 : (c + m).toInt = c.toInt + m.toInt := aa_add32 (by omega) (by omega)
      obtain ⟨p1, p2⟩ := go_c (b := b) (c := c + m) W hu1 hu2 hb (by omega)
      obtain ⟨q1, q2, f⟩ := mk_208x (g := g2) (t := t1) (t2 := t2) (b := b) (c := (c + m).toInt64) W2 (by rw [e0]; exact hu1) (by rw [e0]; exact hu2) hb (by rw [l_of]; omega)
      rw [l_of, e] at q1 q2
      rw [hat2, hat1]
      rw [hat2] at ha3
      generalize fn_208 g2 (Int32.ofNat t1) b.toInt64 (c + m).toInt64 (Int32.ofNat t2) = G at q1 q2 f ⊢
      have x1 := ti_eq.mpr (p1.trans q1.symm)
      have x2 := ti_eq.mpr (p2.trans q2.symm)
      rw [x1, x2]
      have W3 : wd_g G := wd_of W2 (fun k j z => f k j (by omega))
      have e3 : G 541 = g 541 := (funext fun j => f 541 j (by omega)).trans e
      have hs : 0 ≤ (G 540 23).toInt ∧ (G 540 23).toInt ≤ 86399 := by rw [q2]; omega
      unfold fn_238_63
      by_cases z : 0 ≤ (G 540 22).toInt ∧ (G 540 22).toInt ≤ 35999
      · rw [if_pos (c := fn_77 (G 540 22) ≠ 0) (ti_77n.mpr z), if_pos (c := fn_193 (G 540 22) ≠ 0) (ti_193n.mpr z)]
        by_cases k0 : k = 0
        · subst k0
          rw [if_neg (c := (0 : Int32) ≠ 0) (fun h => h rfl), if_neg (c := (2 : Int32) ≤ 0) (by decide), if_neg (c := (0 : Int32) ≠ 0) (fun h => h rfl)]
        · rw [if_pos (c := k ≠ 0) k0]
          by_cases k1 : k = 1
          · subst k1
            rw [if_neg (c := (1 : Int32) ≠ 1) (fun h => h rfl), if_neg (c := (2 : Int32) ≤ 1) (by decide), if_pos (c := (1 : Int32) ≠ 0) (by decide)]
          · have k0' := ti_ne.mp k0
            have k1' := ti_ne.mp k1
            rw [i_0] at k0'
            rw [i_1] at k1'
            have ek : (k - 1).toInt = k.toInt - 1 := aa_sub32 (by rw [i_1]; omega) (by rw [i_1]; omega)
            rw [if_pos (c := k ≠ 1) k1, if_pos (c := (2 : Int32) ≤ k) (aa_le32.mpr (by rw [i_2]; omega)), hat2]
            have T := tn_198 (k := k - 1) W3 ht2 (by rw [e3]; exact hu2) z hs (by omega)
            rw [e3] at T
            exact (ck_85 W _ _ _ _).trans T.symm
      · rw [if_neg (c := fn_77 (G 540 22) ≠ 0) (mt ti_77n.mp z), if_neg (c := fn_193 (G 540 22) ≠ 0) (mt ti_193n.mp z)]
    · have E1 : (fn_136 g a b c m k).1 = -1 := by
        unfold fn_136
        rw [c1, c2]
        dsimp only
        by_cases z1 : fn_77 b = 0
        · rw [if_pos z1]
        · rw [if_neg z1]
          by_cases z2 : fn_66 c ≠ 0
          · rw [if_pos z2]
            by_cases z3 : fn_14 m 0 864000 = 0
            · rw [if_pos z3]
            · rw [if_neg z3]
              by_cases z4 : fn_14 k 0 3 ≠ 0
              · exact absurd ⟨ti_77n.mp z1, ti_14n.mp z2, ti_14n.mp z3, ti_14n.mp z4⟩ hG
              · rw [if_neg z4]
          · rw [if_neg z2]
      have E2 : (fn_238 g2 a b c m k).1 = -1 := by
        unfold fn_238
        simp only [gd_192z W2, k0, ti_204 W2.2.1, ne_eq, ti_77z, ti_193z, ti_14z, ti_154z, gd_66z, gd_199z, Decidable.not_not, i_0, i_1, i_2, i_3, i_11, i_12n, i_15, i_23, i_60, i_360, i_864, i_8640, i_35, eq_self, not_true_eq_false, not_false_eq_true, and_self, or_self, if_true, if_false, e0, e1, ha1, ha2, ha3]
        repeat' split
        all_goals first | (exfalso; omega) | rfl
      rw [E1, E2]
  · have E1 : (fn_136 g a b c m k).1 = -1 := by
      unfold fn_136
      rcases c1 with c1 | c1
      · rw [c1]
        cases fn_134 g a <;> rfl
      · rw [c1]
        cases fn_133 g a <;> rfl
    have k0 : fn_239 g2 a = 0 := (gd_239z W2).mpr (by rw [e0]; exact hk)
    have E2 : (fn_238 g2 a b c m k).1 = -1 := by
      unfold fn_238
      simp only [gd_192z W2, k0, ne_eq, ti_77z, ti_193z, ti_14z, ti_154z, gd_66z, gd_199z, Decidable.not_not, i_0, i_1, i_2, i_3, i_11, i_12n, i_15, i_23, i_60, i_360, i_864, i_8640, i_35, eq_self, not_true_eq_false, not_false_eq_true, and_self, or_self, if_true, if_false, e0, e1]
      repeat' split
      all_goals first | (exfalso; omega) | rfl
    rw [E1, E2]
theorem lq_136 {g : aa_G} {a0 a1 a2 a3 a4 : Int32} (hi : aa_inv g) (hφ : aa_Phi g) (hR : lr_R g) : lq_ok true 136 238 [.int a0, .int a1, .int a2, .int a3, .int a4] g :=
  lq_ask (y := fn_238 (fn_136 g a0 a1 a2 a3 a4).2 a0 a1 a2 a3 a4) hi hφ hR (ko_fw (ko_136 hi hφ) fun _ _ _ r => dn_136 r) (fun i1 p1 => ko_fw (ko_238 i1 p1) fun _ _ _ r => dn_238 r) (by decide +kernel) (by decide +kernel) (by decide +kernel) (by decide +kernel) (by decide +kernel) (by decide +kernel) fun W W2 e => ak_136 W W2 e a0 a1 a2 a3 a4
theorem ak_137 {g g2 : aa_G} (W : wd_g g) (W2 : wd_g g2) (e : g2 541 = g 541) (a b h n w : Int32) : (fn_137 g a b h n w).1 = (fn_240 g2 a b h n w).1 := by
  have e0 : g2 541 0 = g 541 0 := by rw [e]
  have e1 : g2 541 1 = g 541 1 := by rw [e]
  rcases gk_at W a with ⟨t1, t2, ⟨ht1, hat1, hu1⟩, ⟨ht2, hat2, hu2⟩, ⟨c1, c2⟩, ha1, ha2, ha3⟩ | ⟨c1, hk⟩
  · have k0 : ¬ fn_239 g2 a = 0 := fun z => (gd_239z W2).mp z (by rw [e0]; exact ⟨ha1, ha2, ha3⟩)
    unfold fn_137
    rw [c1, c2]
    dsimp only
    by_cases hw : 0 ≤ w.toInt ∧ w.toInt ≤ 2
    · rw [if_pos (c := fn_14 w 0 2 ≠ 0) (ti_14n.mpr hw)]
      have f1 := fr_90 W (a / 4) b h n
      have W3 : wd_g (fn_90 g (a / 4) b h n).2 := wd_of W (fun k j z => f1 k j (by omega))
      have e3 : (fn_90 g (a / 4) b h n).2 541 = g 541 := funext fun j => f1 541 j (by omega)
      have v1 := ck_90 W (a / 4) b h n
      unfold fn_137_47 fn_137_116
      rw [v1]
      by_cases hG : (0 ≤ b.toInt ∧ b.toInt ≤ 35999) ∧ (0 ≤ h.toInt ∧ h.toInt ≤ 1) ∧ (0 ≤ n.toInt ∧ n.toInt ≤ 12 * (g 541 1).toInt - 1)
      · have hG0 := hG
        obtain ⟨hb, hh, hn⟩ := hG0
        have n1 : (a / 4).toInt.toNat = t1 := by rw [hat1, zz_ofN (by omega)]; omega
        have p1 : sp_90 (g 541) (a / 4) b h n = sp_b (g 541 1) n (hv_t (g 541) t1 b.toInt h.toInt) := by
          unfold sp_90
          rw [if_neg (by omega), n1]
        have E2 : fn_240 g2 a b h n w = fn_240_48 (fn_205 g2 (a / 4) b h n).2 a b w (fn_205 g2 (a / 4) b h n).1 := by
          unfold fn_240
          simp only [k0, ti_204 W2.2.1, ne_eq, ti_77z, ti_193z, ti_14z, ti_154z, gd_66z, gd_199z, Decidable.not_not, i_0, i_1, i_2, i_3, i_11, i_12n, i_15, i_23, i_60, i_360, i_864, i_8640, i_35, eq_self, not_true_eq_false, not_false_eq_true, and_self, or_self, if_true, if_false, e0, e1, hb, hh, hn, hw]
        obtain ⟨q1, r1⟩ := mk_205 (b := b) (h := h) (n := n) W2 (t := t1) (by rw [e0]; exact hu1) hh (by rw [e1]; exact hn)
        have W4 : wd_g (fn_205 g2 (Int32.ofNat t1) b h n).2 := wd_of W2 (fun k j z => r1 k j (by omega))
        have e4 : (fn_205 g2 (Int32.ofNat t1) b h n).2 541 = g 541 := (funext fun j => r1 541 j (by omega)).trans e
        rw [e] at q1
        rw [E2, p1]
        unfold fn_240_48 fn_240_75
        have bd := sp_bu (b := b.toInt) (h := h.toInt) W hu1 hn
        rw [hat1] at W3 e3
        rw [hat2, hat1, q1]
        generalize sp_b (g 541 1) n (hv_t (g 541) t1 b.toInt h.toInt) = p at bd ⊢
        generalize (fn_90 g (Int32.ofNat t1) b h n).2 = X at W3 e3 ⊢
        generalize (fn_205 g2 (Int32.ofNat t1) b h n).2 = Y at W4 e4 ⊢
        by_cases z1 : p = -2
        · rw [z1, if_neg (c := (0 : Int32) ≤ -2) (by decide), if_neg (c := (-2 : Int32) ≠ -2) (fun z => z rfl)]
        · have bd := bd.resolve_left z1
          rw [if_pos (c := (0 : Int32) ≤ p) (aa_le32.mpr bd.1), if_pos (c := p ≠ -2) z1, of_94 W3 (by rw [e3]; exact hu1) (by rw [e3]; exact hu2)]
          obtain ⟨u1, u2⟩ := go_c (b := b) (c := p) W3 (t1 := t1) (t2 := t2) (by rw [e3]; exact hu1) (by rw [e3]; exact hu2) hb (by omega)
          obtain ⟨q1, q2, f⟩ := mk_208x (g := Y) (t := t1) (t2 := t2) (b := b) (c := p.toInt64) W4 (by rw [e4]; exact hu1) (by rw [e4]; exact hu2) hb (by rw [l_of]; omega)
          rw [l_of, e4] at q1 q2
          rw [e3] at u1 u2 ⊢
          generalize fn_208 Y (Int32.ofNat t1) b.toInt64 p.toInt64 (Int32.ofNat t2) = G at q1 q2 f ⊢
          have x1 := ti_eq.mpr (u1.trans q1.symm)
          have x2 := ti_eq.mpr (u2.trans q2.symm)
          rw [x1, x2]
          have W5 : wd_g G := wd_of W4 (fun k j z => f k j (by omega))
          have e5 : G 541 = g 541 := (funext fun j => f 541 j (by omega)).trans e4
          have hs : 0 ≤ (G 540 23).toInt ∧ (G 540 23).toInt ≤ 86399 := by rw [q2]; omega
          unfold fn_240_90 fn_240_106
          by_cases z : 0 ≤ (G 540 22).toInt ∧ (G 540 22).toInt ≤ 35999
          · rw [if_pos (c := fn_77 (G 540 22) ≠ 0) (ti_77n.mpr z)]
            have T : ∀ k : Int32, 0 ≤ k.toInt ∧ k.toInt ≤ 5 → (fn_85 X (Int32.ofNat t2) (G 540 22) (G 540 23) k).1 = (if (fn_200 G (Int32.ofNat t2) (G 540 22) (G 540 23)).1 = 0 then (-2, (fn_200 G (Int32.ofNat t2) (G 540 22) (G 540 23)).2) else (fn_201 (fn_200 G (Int32.ofNat t2) (G 540 22) (G 540 23)).2 k, (fn_200 G (Int32.ofNat t2) (G 540 22) (G 540 23)).2) : Int32 × aa_G).1 := by
              intro k hk
              have T := tn_198 (k := k) W5 ht2 (by rw [e5]; exact hu2) z hs hk
              unfold fn_198_35 at T
              rw [T, ck_85 W3, e3, e5]
            by_cases w2 : w = 2
            · subst w2
              rw [if_neg (c := (2 : Int32) ≠ 2) (fun h => h rfl), if_neg (c := (2 : Int32) ≠ 2) (fun h => h rfl)]
              exact T 4 (by decide)
            · rw [if_pos (c := w ≠ 2) w2, if_pos (c := w ≠ 2) w2]
              exact T w (by omega)
          · have z3 : (fn_200 G (Int32.ofNat t2) (G 540 22) (G 540 23)).1 = 0 := by
              unfold fn_200
              rw [if_pos (c := fn_193 (G 540 22) = 0) (ti_193z.mpr z)]
            rw [if_neg (c := fn_77 (G 540 22) ≠ 0) (mt ti_77n.mp z), if_pos z3]
      · have p1 : sp_90 (g 541) (a / 4) b h n = -1 := by
          unfold sp_90
          rw [if_pos (by omega)]
        have E2 : (fn_240 g2 a b h n w).1 = -1 := by
          unfold fn_240
          simp only [k0, ti_204 W2.2.1, ne_eq, ti_77z, ti_193z, ti_14z, ti_154z, gd_66z, gd_199z, Decidable.not_not, i_0, i_1, i_2, i_3, i_11, i_12n, i_15, i_23, i_60, i_360, i_864, i_8640, i_35, eq_self, not_true_eq_false, not_false_eq_true, and_self, or_self, if_true, if_false, e0, e1]
          repeat' split
          all_goals first | (exfalso; omega) | rfl
        rw [E2, p1, if_neg (c := (0 : Int32) ≤ -1) (by decide)]
    · rw [if_neg (c := fn_14 w 0 2 ≠ 0) (mt ti_14n.mp hw)]
      have E2 : (fn_240 g2 a b h n w).1 = -1 := by
        unfold fn_240
        simp only [k0, ti_204 W2.2.1, ne_eq, ti_77z, ti_193z, ti_14z, ti_154z, gd_66z, gd_199z, Decidable.not_not, i_0, i_1, i_2, i_3, i_11, i_12n, i_15, i_23, i_60, i_360, i_864, i_8640, i_35, eq_self, not_true_eq_false, not_false_eq_true, and_self, or_self, if_true, if_false, e0, e1]
        repeat' split
        all_goals first | (exfalso; omega) | rfl
      rw [E2]
  · have E1 : (fn_137 g a b h n w).1 = -1 := by
      unfold fn_137
      rcases c1 with c1 | c1
      · rw [c1]
        cases fn_134 g a <;> rfl
      · rw [c1]
        cases fn_133 g a <;> rfl
    have k0 : fn_239 g2 a = 0 := (gd_239z W2).mpr (by rw [e0]; exact hk)
    have E2 : (fn_240 g2 a b h n w).1 = -1 := by
      unfold fn_240
      rw [if_pos k0]
    rw [E1, E2]
theorem lq_137 {g : aa_G} {a0 a1 a2 a3 a4 : Int32} (hi : aa_inv g) (hφ : aa_Phi g) (hR : lr_R g) : lq_ok true 137 240 [.int a0, .int a1, .int a2, .int a3, .int a4] g :=
  lq_ask (y := fn_240 (fn_137 g a0 a1 a2 a3 a4).2 a0 a1 a2 a3 a4) hi hφ hR (ko_fw (ko_137 hi hφ) fun _ _ _ r => dn_137 r) (fun i1 p1 => ko_fw (ko_240 i1 p1) fun _ _ _ r => dn_240 r) (by decide +kernel) (by decide +kernel) (by decide +kernel) (by decide +kernel) (by decide +kernel) (by decide +kernel) fun W W2 e => ak_137 W W2 e a0 a1 a2 a3 a4
end
section
/-! MEET, what its two loops do with a window -/
theorem hv_night {T : Nat → Int32} {t : Nat} {d u l : Int} (e : hv_t T t d 1 = some (u, l)) : (0 ≤ d ∧ d ≤ 35998) ∧ pv_t T t ((d + 1) % 360) = -1 ∧ u + l = 86400 + tw_D (av_t T t) ((d + 1) % 360) (av_c T t) 2 ∧ u = tw_D (av_t T t) (d % 360) (av_c T t) 3 := by
  unfold hv_t tw_H at e
  unfold pv_t
  by_cases z1 : ¬ (0 ≤ d ∧ d ≤ 35999)
  · rw [if_pos z1] at e; cases e
  · rw [if_neg z1] at e
    by_cases z2 : (1 : Int) = 1 ∧ d = 35999
    · rw [if_pos z2] at e; cases e
    · rw [if_neg z2] at e
      by_cases z3 : tw_P (av_t T t) (d % 360) (av_c T t) ≠ -1
      · rw [if_pos z3] at e; cases e
      · rw [if_neg z3, if_pos rfl] at e
        by_cases z4 : tw_P (av_t T t) ((d + 1) % 360) (av_c T t) ≠ -1
        · rw [if_pos z4] at e; cases e
        · rw [if_neg z4] at e
          have e := Option.some.inj e
          have e5 := congrArg Prod.fst e
          have e6 := congrArg Prod.snd e
          dsimp only at e5 e6
          exact ⟨by omega, Decidable.not_not.mp z4, by omega, e5.symm⟩
/-- one half ends ahead of the like one of a later day -/
theorem hv_ord {g : aa_G} {t : Nat} (W : wd_g g) (ht : (t : Int) < (g 541 0).toInt) {d d' h u l u' l' : Int} (hh : h = 0 ∨ h = 1) (e : hv_t (g 541) t d h = some (u, l)) (e' : hv_t (g 541) t d' h = some (u', l')) (hd : d < d') : u + l + 86400 * d ≤ u' + 86400 * d' := by
  obtain ⟨v1, v2, v3, v4, v5⟩ := hv_b W ht e
  obtain ⟨w1, w2, w3, w4, w5⟩ := hv_b W ht e'
  rcases hh with rfl | rfl
  · have v4 := v4 (by decide)
    omega
  · have v5 := v5 rfl
    by_cases z : d' = d + 1
    · subst z
      obtain ⟨a1, a2, a3, a4⟩ := hv_night e
      obtain ⟨b1, b2, b3, b4⟩ := hv_night e'
      have P := tw_D_b (W.2.2.2.2.2 t ht).2.2.2.2.1 (v := (d + 1) % 360) (tw_P0 a2) (by omega) a2
      omega
    · omega
/-- an hour of a half, where it begins and where it ends -/
theorem ho_b {y l : Int} (hy : 0 ≤ y ∧ y ≤ 11) (hl : 1 ≤ l ∧ l ≤ 172798) : 0 ≤ y * l ∧ (y + 1) * l ≤ 12 * l ∧ y * l ≤ (y + 1) * l ∧ 0 ≤ (y * l + 11) / 12 ∧ (y * l + 11) / 12 ≤ ((y + 1) * l + 11) / 12 ∧ ((y + 1) * l + 11) / 12 ≤ l := by
  have h1 : 0 ≤ y * l := Int.mul_nonneg hy.1 (by omega)
  have h2 : (y + 1) * l ≤ 12 * l := Int.mul_le_mul_of_nonneg_right (by omega) (by omega)
  have h3 : (y + 1) * l = y * l + l := by rw [Int.add_mul, Int.one_mul]
  omega
theorem ho_v {p q x : Int32} {u l y : Int} (hx : x.toInt = y) (hy : 0 ≤ y ∧ y ≤ 11) (hp : p.toInt = u) (hq : q.toInt = l) (hu : 0 ≤ u ∧ u ≤ 86399) (hl : 1 ≤ l ∧ l ≤ 172798) : (p + (x * q + 11) / 12).toInt = u + (y * l + 11) / 12 ∧ (p + ((x + 1) * q + 11) / 12).toInt = u + ((y + 1) * l + 11) / 12 := by
  obtain ⟨b1, b2, b3, b4, b5, b6⟩ := ho_b hy hl
  have hx1 : (x + 1).toInt = y + 1 := by rw [i_suc (by omega) (by omega), hx]
  have c : ∀ (a : Int32) (z : Int), a.toInt = z → 0 ≤ z * l → z * l ≤ 12 * l → ((a * q + 11) / 12).toInt = (z * l + 11) / 12 := by
    intro a z ha h0 h1
    have e1 : (a * q).toInt = z * l := by rw [ti_mul (by rw [ha, hq]; omega) (by rw [ha, hq]; omega), ha, hq]
    have e2 : (a * q + 11).toInt = z * l + 11 := by rw [aa_add32 (by rw [e1, i_11]; omega) (by rw [e1, i_11]; omega), e1, i_11]
    rw [ti_div (by omega) (by decide), e2, i_12n]
  have c1 := c x y hx b1 (by omega)
  have c2 := c (x + 1) (y + 1) hx1 (by omega) b2
  exact ⟨by rw [aa_add32 (by rw [hp, c1]; omega) (by rw [hp, c1]; omega), hp, c1], by rw [aa_add32 (by rw [hp, c2]; omega) (by rw [hp, c2]; omega), hp, c2]⟩
/-- of two numbers the greater, the lesser one -/
def mx_2 (p x : Int32) : Int32 := if p < x then x else p
def mn_2 (x p : Int32) : Int32 := if x < p then x else p
theorem mx_v {p x : Int32} : (mx_2 p x).toInt = if p.toInt < x.toInt then x.toInt else p.toInt := by
  unfold mx_2
  by_cases z : p < x
  · rw [if_pos z, if_pos (ti_lt.mp z)]
  · rw [if_neg z, if_neg (mt ti_lt.mpr z)]
theorem mn_v {p x : Int32} : (mn_2 x p).toInt = if x.toInt < p.toInt then x.toInt else p.toInt := by
  unfold mn_2
  by_cases z : x < p
  · rw [if_pos z, if_pos (ti_lt.mp z)]
  · rw [if_neg z, if_neg (mt ti_lt.mpr z)]
/-- the model's look at a window: what it does with it -/
theorem mw_win {Y : aa_G} {a b k p q c w y j z1 b11 : Int32} : (if z1 + b11 ≤ p then fn_228_190 Y a y b k p q c w j b11 p else fn_228_190 Y a y b k p q c w j b11 (z1 + b11)) = fn_228_190 Y a y b k p q c w j b11 (mx_2 p (z1 + b11)) := by
  unfold mx_2
  by_cases z : z1 + b11 ≤ p
  · rw [if_pos z, if_neg (fun h => Int32.not_le.mpr h z)]
  · rw [if_neg z, if_pos (Int32.not_le.mp z)]
theorem mw_win2 {Y : aa_G} {a b k p q c w y j b11 F : Int32} : fn_228_190 Y a y b k p q c w j b11 F = fn_228_216 Y a y b k p q c w j F (mn_2 (Y 540 30 + b11) q) := by
  unfold fn_228_190 mn_2
  by_cases z : q ≤ Y 540 30 + b11
  · rw [if_pos z, if_neg (fun h => Int32.not_le.mpr h z)]
  · rw [if_neg z, if_pos (Int32.not_le.mp z)]
/-- a window of the other town: where it begins and ends, by the first one's time -/
def wn_F (u l y sh o : Int) : Int := u + (y * l + 11) / 12 + sh * 86400 - o
def wn_T (u l y sh o : Int) : Int := u + ((y + 1) * l + 11) / 12 + sh * 86400 - o
theorem h_of {x : Int32} (hx : 0 ≤ x.toInt ∧ x.toInt ≤ 23) : (x / 12 = 0 ∨ x / 12 = 1) ∧ 0 ≤ (x - x / 12 * 12).toInt ∧ (x - x / 12 * 12).toInt ≤ 11 := by
  have e1 : (x / 12).toInt = x.toInt / 12 := ti_div hx.1 (by decide)
  have e2 : (x - x / 12 * 12).toInt = x.toInt % 12 := ti_rem hx.1 (by decide)
  refine ⟨h01 (by omega), ?_⟩
  omega
/-- the class's case of a window -/
theorem cm_day {X : aa_G} {y b k p q i : Int32} {t1 t2 : Nat} (W : wd_g X) (h1 : (t1 : Int) < (X 541 0).toInt) (h2 : (t2 : Int) < (X 541 0).toInt) (hy : 0 ≤ y.toInt ∧ y.toInt ≤ 23) (n1 : ¬ (3 : Int32) < i) (n2 : ¬ X 461 0 = 0) : ∃ Y : aa_G, wd_g Y ∧ Y 541 = X 541 ∧ Y 461 = X 461 ∧
    (match hv_t (X 541) t2 (b + i).toInt (y / 12).toInt with
    | none => fn_132_115b X y b k (5 * t1 + 14) (5 * t2 + 14) p q i = .inl (Y, i + 1)
    | some (u, l) => ∃ P Q : Int32, P.toInt = u ∧ Q.toInt = l ∧ fn_132_115b X y b k (5 * t1 + 14) (5 * t2 + 14) p q i = (fun F T : Int32 => if T ≤ F then .inl (Y, i + 1) else .inr (if k ≠ 0 then T - F else F, Y)) (mx_2 p (P + ((y - y / 12 * 12) * Q + 11) / 12 + (i * 86400 - (X 541 (50 * t2 + 3) - X 541 (50 * t1 + 3))))) (mn_2 (P + ((y - y / 12 * 12 + 1) * Q + 11) / 12 + (i * 86400 - (X 541 (50 * t2 + 3) - X 541 (50 * t1 + 3)))) q)) := by
  obtain ⟨hh, -, -⟩ := h_of hy
  obtain ⟨p1, p2, p3, v1, -⟩ := lv_look 462 (b + i) (y / 12) W h2 (by omega) hh
  have o : fn_94 (fn_78 X 462 (some (5 * t2 + 14)) (b + i) (y / 12)) (5 * t1 + 14) (5 * t2 + 14) = X 541 (50 * t2 + 3) - X 541 (50 * t1 + 3) := by
    rw [of_94 p1 (by rw [p2]; exact h1) (by rw [p2]; exact h2), p2]
  refine ⟨fn_78 X 462 (some (5 * t2 + 14)) (b + i) (y / 12), p1, p2, funext fun j => p3 461 j (by omega), ?_⟩
  unfold fn_132_115b
  rw [if_neg n1, if_neg n2]
  unfold fn_132_149 fn_132_185 fn_132_208 fn_132_241
  rw [o]
  generalize fn_78 X 462 (some (5 * t2 + 14)) (b + i) (y / 12) = Y at p1 p2 v1 ⊢
  cases hr : hv_t (X 541) t2 (b + i).toInt (y / 12).toInt with
  | none =>
    rw [hr] at v1
    dsimp only
    rw [if_pos (lv_c0 v1)]
  | some r =>
    obtain ⟨u, l⟩ := r
    rw [hr] at v1
    dsimp only
    refine ⟨Y 462 3, Y 462 4, v1.2.1, v1.2.2, ?_⟩
    rw [if_neg (c := Y 462 0 = 0) (by rw [lv_c1 v1]; decide)]
    unfold fn_100 mx_2 mn_2
    rw [i_121, i_121]
    generalize (if p < Y 462 3 + ((y - y / 12 * 12) * Y 462 4 + 11) / 12 + (i * 86400 - (X 541 (50 * t2 + 3) - X 541 (50 * t1 + 3))) then Y 462 3 + ((y - y / 12 * 12) * Y 462 4 + 11) / 12 + (i * 86400 - (X 541 (50 * t2 + 3) - X 541 (50 * t1 + 3))) else p) = F
    generalize (if Y 462 3 + ((y - y / 12 * 12 + 1) * Y 462 4 + 11) / 12 + (i * 86400 - (X 541 (50 * t2 + 3) - X 541 (50 * t1 + 3))) < q then Y 462 3 + ((y - y / 12 * 12 + 1) * Y 462 4 + 11) / 12 + (i * 86400 - (X 541 (50 * t2 + 3) - X 541 (50 * t1 + 3))) else q) = T
    by_cases z : T ≤ F
    · rw [if_pos z, if_pos z]
    · rw [if_neg z, if_neg z]
      by_cases k0 : k = 0
      · rw [if_neg (fun z => z k0), if_neg (fun z => z k0)]
      · rw [if_pos k0, if_pos k0]
/-- the model's case of a window -/
theorem mm_day {Y : aa_G} {a y b k p q c w j : Int32} {t1 t2 : Nat} (W : wd_g Y) (g1 : t1 < 4) (g2 : t2 < 4) (x1 : a / 4 = Int32.ofNat t1) (x2 : a - a / 4 * 4 = Int32.ofNat t2) (h2 : (t2 : Int) < (Y 541 0).toInt) (hy : 0 ≤ y.toInt ∧ y.toInt ≤ 23) (n1 : ¬ b + 4 < j) : ∃ Z : aa_G, wd_g Z ∧ Z 541 = Y 541 ∧
    (match hv_t (Y 541) t2 j.toInt (y / 12).toInt with
    | none => fn_228_115b Y a y b k p q c w j = .inl (Z, c, w, j + 1)
    | some (u, l) => ∃ P Q : Int32, P.toInt = u ∧ Q.toInt = l ∧ fn_228_115b Y a y b k p q c w j = (fun F T : Int32 => if T ≤ F then .inl (Z, c, w, j + 1) else if c = -1000000 ∨ F < c then .inl (Z, F, T - F, j + 1) else .inl (Z, c, w, j + 1)) (mx_2 p (P + ((y - y / 12 * 12) * Q + 11) / 12 + ((j - b) * 86400 - Y 541 (50 * t2 + 3) + Y 541 (50 * t1 + 3)))) (mn_2 (P + ((y - y / 12 * 12 + 1) * Q + 11) / 12 + ((j - b) * 86400 - Y 541 (50 * t2 + 3) + Y 541 (50 * t1 + 3))) q)) := by
  obtain ⟨hh, -, -⟩ := h_of hy
  obtain ⟨z1, z2, v⟩ := lv_hour j y W h2 hh
  refine ⟨(fn_229 Y (Int32.ofNat t2) j y).2, z1, z2, ?_⟩
  unfold fn_228_115b
  rw [if_neg n1, x2]
  generalize fn_229 Y (Int32.ofNat t2) j y = Z at z1 z2 v ⊢
  unfold fn_228_134
  rw [mw_win, mw_win2, x2, x1, of_209 t1 g1, of_209 t2 g2, z2]
  unfold fn_228_216 fn_228_243 fn_228_254
  cases hr : hv_t (Y 541) t2 j.toInt (y / 12).toInt with
  | none =>
    rw [hr] at v
    have v : Z.1 = 0 := v
    dsimp only
    rw [if_neg (c := Z.1 ≠ 0) (fun z => z v)]
  | some r =>
    obtain ⟨u, l⟩ := r
    rw [hr] at v
    obtain ⟨v1, P, Q, v2, v3, v4, v5⟩ := v
    dsimp only
    refine ⟨P, Q, v2, v3, ?_⟩
    rw [if_pos (c := Z.1 ≠ 0) (by rw [v1]; decide), v4, v5]
    generalize mx_2 p (P + ((y - y / 12 * 12) * Q + 11) / 12 + ((j - b) * 86400 - Y 541 (50 * t2 + 3) + Y 541 (50 * t1 + 3))) = F
    generalize mn_2 (P + ((y - y / 12 * 12 + 1) * Q + 11) / 12 + ((j - b) * 86400 - Y 541 (50 * t2 + 3) + Y 541 (50 * t1 + 3))) q = T
    by_cases z : T ≤ F
    · rw [if_pos z, if_pos z]
    · rw [if_neg z, if_neg z]
      by_cases c0 : c = -1000000
      · rw [if_pos c0, if_pos (.inl c0)]
      · rw [if_neg c0]
        by_cases c1 : F < c
        · rw [if_pos c1, if_pos (.inr c1)]
        · rw [if_neg c1, if_neg (fun h => h.elim c0 c1)]
theorem mt_same {P x i o2 o1 : Int32} : P + x + (i * 86400 - o2 + o1) = P + x + (i * 86400 - (o2 - o1)) := by rw [i_lat]
theorem mt_v {A i o2 o1 : Int32} {s : Int} (h : A.toInt = s) (hs : 0 ≤ s ∧ s ≤ 259198) (hi : -4 ≤ i.toInt ∧ i.toInt ≤ 4) (h2 : -43200 ≤ o2.toInt ∧ o2.toInt ≤ 43200) (h1 : -43200 ≤ o1.toInt ∧ o1.toInt ≤ 43200) : (A + (i * 86400 - (o2 - o1))).toInt = s + i.toInt * 86400 - (o2.toInt - o1.toInt) := by
  have m1 : (i * 86400).toInt = i.toInt * 86400 := by rw [ti_mul (by rw [i_864]; omega) (by rw [i_864]; omega), i_864]
  have m2 : (o2 - o1).toInt = o2.toInt - o1.toInt := aa_sub32 (by omega) (by omega)
  have m3 : (i * 86400 - (o2 - o1)).toInt = i.toInt * 86400 - (o2.toInt - o1.toInt) := by rw [aa_sub32 (by omega) (by omega), m1, m2]
  rw [aa_add32 (by omega) (by omega), m3, h]
  omega
end
section
/-! (132, 228): both sides say the same -/
theorem cm_f {g X : aa_G} {y b k p q i : Int32} {t1 t2 : Nat} (W0 : wd_g g) (W : wd_g X) (eX : X 541 = g 541) (h1 : (t1 : Int) < (g 541 0).toInt) (h2 : (t2 : Int) < (g 541 0).toInt) (hy : 0 ≤ y.toInt ∧ y.toInt ≤ 23) (hi : -3 ≤ i.toInt ∧ i.toInt ≤ 3) (n2 : X 461 0 = 1) : ∃ Y : aa_G, wd_g Y ∧ Y 541 = g 541 ∧ Y 461 = X 461 ∧
    ((hv_t (g 541) t2 (b + i).toInt (y / 12).toInt = none ∧ fn_132_115b X y b k (5 * t1 + 14) (5 * t2 + 14) p q i = .inl (Y, i + 1)) ∨
    (∃ (u l : Int) (A B : Int32), hv_t (g 541) t2 (b + i).toInt (y / 12).toInt = some (u, l) ∧ A.toInt = u + ((y - y / 12 * 12).toInt * l + 11) / 12 + i.toInt * 86400 - ((g 541 (50 * t2 + 3)).toInt - (g 541 (50 * t1 + 3)).toInt) ∧ B.toInt = u + (((y - y / 12 * 12).toInt + 1) * l + 11) / 12 + i.toInt * 86400 - ((g 541 (50 * t2 + 3)).toInt - (g 541 (50 * t1 + 3)).toInt) ∧ fn_132_115b X y b k (5 * t1 + 14) (5 * t2 + 14) p q i = if mn_2 B q ≤ mx_2 p A then .inl (Y, i + 1) else .inr (if k ≠ 0 then mn_2 B q - mx_2 p A else mx_2 p A, Y))) := by
  have o1 := (W0.2.2.2.2.2 t1 h1).2.2.1
  have o2 := (W0.2.2.2.2.2 t2 h2).2.2.1
  obtain ⟨hh, hy1, hy2⟩ := h_of hy
  obtain ⟨Y, a1, a2, a3, a4⟩ := cm_day (X := X) (y := y) (b := b) (k := k) (p := p) (q := q) (i := i) (t1 := t1) (t2 := t2) W (by rw [eX]; exact h1) (by rw [eX]; exact h2) hy (fun z => by have := ti_lt.mp z; rw [i_3] at this; omega) (by rw [n2]; decide)
  rw [eX] at a4
  refine ⟨Y, a1, a2.trans eX, a3, ?_⟩
  cases hr : hv_t (g 541) t2 (b + i).toInt (y / 12).toInt with
  | none =>
    rw [hr] at a4
    exact .inl ⟨rfl, a4⟩
  | some r =>
    obtain ⟨u, l⟩ := r
    rw [hr] at a4
    obtain ⟨P, Q, k2, k3, k4⟩ := a4
    obtain ⟨w1, w2⟩ := hv_bb W0 h2 hr
    obtain ⟨b1, b2, b3, b4, b5, b6⟩ := ho_b (y := (y - y / 12 * 12).toInt) ⟨hy1, hy2⟩ w2
    obtain ⟨P1, P2⟩ := ho_v (x := y - y / 12 * 12) rfl ⟨hy1, hy2⟩ k2 k3 w1 w2
    refine .inr ⟨u, l, _, _, rfl, mt_v P1 (by omega) (by omega) o2 o1, mt_v P2 (by omega) (by omega) o2 o1, k4⟩
theorem mm_f {g Y : aa_G} {a y b k p q c w j i : Int32} {t1 t2 : Nat} (W0 : wd_g g) (W : wd_g Y) (eY : Y 541 = g 541) (h1 : (t1 : Int) < (g 541 0).toInt) (h2 : (t2 : Int) < (g 541 0).toInt) (x1 : a / 4 = Int32.ofNat t1) (x2 : a - a / 4 * 4 = Int32.ofNat t2) (hy : 0 ≤ y.toInt ∧ y.toInt ≤ 23) (hb : 0 ≤ b.toInt ∧ b.toInt ≤ 35999) (hi : -4 ≤ i.toInt ∧ i.toInt ≤ 4) (hj : j.toInt = b.toInt + i.toInt) : ∃ Z : aa_G, wd_g Z ∧ Z 541 = g 541 ∧
    ((hv_t (g 541) t2 j.toInt (y / 12).toInt = none ∧ fn_228_115b Y a y b k p q c w j = .inl (Z, c, w, j + 1)) ∨
    (∃ (u l : Int) (A B : Int32), hv_t (g 541) t2 j.toInt (y / 12).toInt = some (u, l) ∧ A.toInt = u + ((y - y / 12 * 12).toInt * l + 11) / 12 + i.toInt * 86400 - ((g 541 (50 * t2 + 3)).toInt - (g 541 (50 * t1 + 3)).toInt) ∧ B.toInt = u + (((y - y / 12 * 12).toInt + 1) * l + 11) / 12 + i.toInt * 86400 - ((g 541 (50 * t2 + 3)).toInt - (g 541 (50 * t1 + 3)).toInt) ∧ fn_228_115b Y a y b k p q c w j = if mn_2 B q ≤ mx_2 p A then .inl (Z, c, w, j + 1) else if c = -1000000 ∨ mx_2 p A < c then .inl (Z, mx_2 p A, mn_2 B q - mx_2 p A, j + 1) else .inl (Z, c, w, j + 1))) := by
  have n4 := W0.1
  have o1 := (W0.2.2.2.2.2 t1 h1).2.2.1
  have o2 := (W0.2.2.2.2.2 t2 h2).2.2.1
  obtain ⟨hh, hy1, hy2⟩ := h_of hy
  have e4 : (b + 4).toInt = b.toInt + 4 := aa_add32 (by rw [show (4 : Int32).toInt = 4 from rfl]; omega) (by rw [show (4 : Int32).toInt = 4 from rfl]; omega)
  have ej : j - b = i := ti_eq.mpr (by rw [aa_sub32 (by omega) (by omega)]; omega)
  obtain ⟨Z, a1, a2, a4⟩ := mm_day (Y := Y) (a := a) (y := y) (b := b) (k := k) (p := p) (q := q) (c := c) (w := w) (j := j) (t1 := t1) (t2 := t2) W (by omega) (by omega) x1 x2 (by rw [eY]; exact h2) hy (fun z => by have := ti_lt.mp z; omega)
  rw [eY, ej] at a4
  refine ⟨Z, a1, a2.trans eY, ?_⟩
  cases hr : hv_t (g 541) t2 j.toInt (y / 12).toInt with
  | none =>
    rw [hr] at a4
    exact .inl ⟨rfl, a4⟩
  | some r =>
    obtain ⟨u, l⟩ := r
    rw [hr] at a4
    obtain ⟨P, Q, k2, k3, k4⟩ := a4
    obtain ⟨w1, w2⟩ := hv_bb W0 h2 hr
    obtain ⟨b1, b2, b3, b4, b5, b6⟩ := ho_b (y := (y - y / 12 * 12).toInt) ⟨hy1, hy2⟩ w2
    obtain ⟨P1, P2⟩ := ho_v (x := y - y / 12 * 12) rfl ⟨hy1, hy2⟩ k2 k3 w1 w2
    rw [mt_same, mt_same] at k4
    refine .inr ⟨u, l, _, _, rfl, mt_v P1 (by omega) (by omega) o2 o1, mt_v P2 (by omega) (by omega) o2 o1, k4⟩
/-- where both loops stand -/
def me_A (T : Nat → Int32) (b p : Int32) (s : aa_G × Int32) (t : aa_G × Int32 × Int32 × Int32) : Prop := t.2.1 = -1000000 ∧ s.1 461 0 = 1 ∧ ((-3 ≤ s.2.toInt ∧ s.2.toInt ≤ 3 ∧ t.2.2.2.toInt = b.toInt + s.2.toInt) ∨ (s.2.toInt = -3 ∧ t.2.2.2.toInt = b.toInt - 4) ∨ (s.2.toInt = 4 ∧ b.toInt + 4 ≤ t.2.2.2.toInt))
def me_B (T : Nat → Int32) (f : aa_G × Int32 → (aa_G × Int32) ⊕ (Int32 × aa_G)) (t2 : Nat) (b k : Int32) (h o : Int) (s : aa_G × Int32) (t : aa_G × Int32 × Int32 × Int32) : Prop := ∃ (F V : Int32) (U : aa_G), f s = .inr (if k ≠ 0 then V - F else F, U) ∧ t.2.1 = F ∧ t.2.2.1 = V - F ∧ ¬ F = -1000000 ∧ ∃ i u l : Int, hv_t T t2 (b.toInt + i) h = some (u, l) ∧ b.toInt + i < t.2.2.2.toInt ∧ F.toInt < u + l + 86400 * i - o
theorem ak_132 {g g2 : aa_G} (W : wd_g g) (W2 : wd_g g2) (e : g2 541 = g 541) (a x y b k : Int32) : (fn_132 g a x y b k).1 = (fn_228 g2 a x y b k).1 := by
  have e0 : g2 541 0 = g 541 0 := by rw [e]
  have e1 : g2 541 1 = g 541 1 := by rw [e]
  rcases gk_at W a with ⟨t1, t2, ⟨ht1, hat1, hu1⟩, ⟨ht2, hat2, hu2⟩, ⟨c1, c2⟩, ha1, ha2, ha3⟩ | ⟨c1, hk⟩
  · have k0 : ¬ fn_239 g2 a = 0 := fun z => (gd_239z W2).mp z (by rw [e0]; exact ⟨ha1, ha2, ha3⟩)
    by_cases hG : (0 ≤ x.toInt ∧ x.toInt ≤ 23) ∧ (0 ≤ y.toInt ∧ y.toInt ≤ 23) ∧ (0 ≤ b.toInt ∧ b.toInt ≤ 35999) ∧ (0 ≤ k.toInt ∧ k.toInt ≤ 1)
    · have hG0 := hG
      obtain ⟨hx, hy, hb, hk⟩ := hG0
      have E1 : fn_132 g a x y b k = fn_132_83 (fn_78 g 461 (some (5 * t1 + 14)) b (x / 12)) x y b k (5 * t1 + 14) (5 * t2 + 14) := by
        unfold fn_132
        rw [c1, c2]
        dsimp only
        simp only [gd_91z W, ne_eq, ti_77z, ti_193z, ti_14z, ti_154z, gd_66z, gd_199z, Decidable.not_not, i_0, i_1, i_2, i_3, i_11, i_12n, i_15, i_23, i_60, i_360, i_864, i_8640, i_35, eq_self, not_true_eq_false, not_false_eq_true, and_self, or_self, if_true, if_false, hx, hy, hb, hk]
      have E2 : fn_228 g2 a x y b k = fn_228_82 (fn_229 g2 (a / 4) b x).2 a y b k (fn_229 g2 (a / 4) b x).1 := by
        unfold fn_228
        simp only [gd_192z W2, k0, ti_204 W2.2.1, ne_eq, ti_77z, ti_193z, ti_14z, ti_154z, gd_66z, gd_199z, Decidable.not_not, i_0, i_1, i_2, i_3, i_11, i_12n, i_15, i_23, i_60, i_360, i_864, i_8640, i_35, eq_self, not_true_eq_false, not_false_eq_true, and_self, or_self, if_true, if_false, e0, e1, ha1, ha2, ha3, hx, hy, hb, hk]
      rw [E1, E2]
      have n4 := W.1
      have hat0 := hat1
      rw [hat1]
      obtain ⟨hx1, hx2, hx3⟩ := h_of hx
      obtain ⟨w1, w2, -, v1, -⟩ := lv_look 461 b (x / 12) W hu1 (by omega) hx1
      obtain ⟨y1, y2, v2⟩ := lv_hour b x W2 (t := t1) (by rw [e0]; exact hu1) hx1
      rw [e] at v2
      have y2 := y2.trans e
      generalize fn_78 g 461 (some (5 * t1 + 14)) b (x / 12) = X0 at w1 w2 v1 ⊢
      generalize fn_229 g2 (Int32.ofNat t1) b x = Y0 at y1 y2 v2 ⊢
      unfold fn_132_83 fn_132_115 fn_228_82
      cases hq : hv_t (g 541) t1 b.toInt (x / 12).toInt with
      | none =>
        rw [hq] at v1 v2
        have v2 : Y0.1 = 0 := v2
        rw [if_neg (c := Y0.1 ≠ 0) (fun z => z v2), lp_r (r := (-1000000, X0)) (by
          dsimp only
          unfold fn_132_115b
          rw [if_neg (c := (3 : Int32) < -3) (by decide), if_pos (lv_c0 v1)])]
      | some r =>
        obtain ⟨u, l⟩ := r
        rw [hq] at v1 v2
        obtain ⟨s1, s2⟩ := h_same v1 v2
        obtain ⟨hu, hl⟩ := hv_bb W hu1 hq
        obtain ⟨-, -, -, hub1, hub2⟩ := hv_b W hu1 hq
        have hub : u + l ≤ 172798 := by
          by_cases z : (x / 12).toInt = 1
          · have := hub2 z
            omega
          · have := hub1 z
            omega
        obtain ⟨k1, P, Q, k2, k3, k4, k5⟩ := v2
        obtain ⟨P1, P2⟩ := ho_v (x := x - x / 12 * 12) rfl ⟨hx2, hx3⟩ k2 k3 hu hl
        obtain ⟨b1, b2, b3, b4, b5, b6⟩ := ho_b (y := (x - x / 12 * 12).toInt) ⟨hx2, hx3⟩ hl
        rw [← k4] at P1
        rw [← k5] at P2
        have m1 : X0 461 0 = 1 := lv_c1 v1
        rw [if_pos (c := Y0.1 ≠ 0) (by rw [k1]; decide), s1, s2]
        unfold fn_228_115
        have bp : 0 ≤ (Y0.2 540 29).toInt := by omega
        have bq : (Y0.2 540 30).toInt ≤ 172798 := by omega
        clear k4 k5 P1 P2 s1 s2 b1 b2 b3 b4 b5 b6
        generalize Y0.2 540 29 = p at bp ⊢
        generalize Y0.2 540 30 = q at bq ⊢
        have o1 := (W.2.2.2.2.2 t1 hu1).2.2.1
        have o2 := (W.2.2.2.2.2 t2 hu2).2.2.1
        obtain ⟨hh, hy1, hy2⟩ := h_of hy
        have e4 : (b + 4).toInt = b.toInt + 4 := aa_add32 (by rw [show (4 : Int32).toInt = 4 from rfl]; omega) (by rw [show (4 : Int32).toInt = 4 from rfl]; omega)
        have em4 : (b - 4).toInt = b.toInt - 4 := aa_sub32 (by rw [show (4 : Int32).toInt = 4 from rfl]; omega) (by rw [show (4 : Int32).toInt = 4 from rfl]; omega)
        have bw : ∀ {d u' l' : Int}, hv_t (g 541) t2 d (y / 12).toInt = some (u', l') → (0 ≤ u' ∧ u' ≤ 86399) ∧ u' + l' ≤ 172798 ∧ 0 ≤ ((y - y / 12 * 12).toInt * l' + 11) / 12 ∧ (((y - y / 12 * 12).toInt + 1) * l' + 11) / 12 ≤ l' := by
          intro d u' l' h
          obtain ⟨r1, r2⟩ := hv_bb W hu2 h
          obtain ⟨-, -, -, r3, r4⟩ := hv_b W hu2 h
          obtain ⟨-, -, -, r5, -, r6⟩ := ho_b (y := (y - y / 12 * 12).toInt) ⟨hy1, hy2⟩ r2
          refine ⟨r1, ?_, r5, r6⟩
          by_cases z : (y / 12).toInt = 1
          · have := r4 z
            omega
          · have := r3 z
            omega
        have hh1 : (y / 12).toInt = 0 ∨ (y / 12).toInt = 1 := hh.elim (fun z => .inl (by rw [z]; rfl)) (fun z => .inr (by rw [z]; rfl))
        refine lp_two1 (fun (n' : Nat) (s : aa_G × Int32) (t' : aa_G × Int32 × Int32 × Int32) => t'.2.2.2.toInt + n' = b.toInt + 5 ∧ b.toInt - 4 ≤ t'.2.2.2.toInt ∧ (wd_g s.1 ∧ s.1 541 = g 541) ∧ (wd_g t'.1 ∧ t'.1 541 = g 541) ∧ (me_A (g 541) b p s t' ∨ me_B (g 541) (fun z => fn_132_115b z.1 y b k (5 * t1 + 14) (5 * t2 + 14) p q z.2) t2 b k (y / 12).toInt ((g 541 (50 * t2 + 3)).toInt - (g 541 (50 * t1 + 3)).toInt) s t')) ?_ ?_ 9 _ _ ⟨by show (b - 4).toInt + _ = _; omega, by show _ ≤ (b - 4).toInt; omega, ⟨w1, w2⟩, ⟨y1, y2⟩, .inl ⟨rfl, m1, .inr (.inl ⟨rfl, em4⟩)⟩⟩
        · rintro n' ⟨X, i⟩ ⟨Y, c, w, j⟩ ⟨r1, r2, ⟨w1, w2⟩, ⟨w3, w4⟩, r3⟩
          dsimp only at r1 r2 w1 w2 w3 w4 r3 ⊢
          have es : (j + 1).toInt = j.toInt + 1 := i_suc (by omega) (by omega)
          have ejb : (j - b).toInt = j.toInt - b.toInt := aa_sub32 (by omega) (by omega)
          obtain ⟨Z, z1, z2, zm⟩ := mm_f (a := a) (k := k) (p := p) (q := q) (c := c) (w := w) (j := j) (i := j - b) W w3 w4 hu1 hu2 hat0 hat2 hy hb (by omega) (by omega)
          rcases r3 with ⟨a1, a2, a3⟩ | ⟨F, V, U, f1, f2, f3, f4, i0, u0, l0, f5, f6, f7⟩
          · dsimp only at a1 a2 a3
            subst a1
            rcases a3 with ⟨a3, a4, a5⟩ | a3
            · have ei : (b + i).toInt = j.toInt := by rw [aa_add32 (by omega) (by omega)]; omega
              have ej : j - b = i := ti_eq.mpr (by omega)
              rw [ej] at zm
              have esi : (i + 1).toInt = i.toInt + 1 := i_suc (by omega) (by omega)
              obtain ⟨Y', x1, x2, x3, xm⟩ := cm_f (b := b) (k := k) (p := p) (q := q) (i := i) W w1 w2 hu1 hu2 hy ⟨a3, a4⟩ a2
              rw [ei] at xm
              have nx : me_A (g 541) b p (Y', i + 1) (Z, -1000000, w, j + 1) := ⟨rfl, by dsimp only; rw [x3]; exact a2, by first | omega | (dsimp only; omega)⟩
              rcases zm with ⟨h0, zf⟩ | ⟨u', l', A, B, h0, hA, hB, zf⟩
              · rcases xm with ⟨-, xf⟩ | ⟨u2, l2, A2, B2, h2, -⟩
                · exact .inl ⟨_, _, xf, zf, by first | omega | (dsimp only; omega), by first | omega | (dsimp only; omega), ⟨x1, x2⟩, ⟨z1, z2⟩, .inl nx⟩
                · rw [h0] at h2
                  cases h2
              · rcases xm with ⟨h2, -⟩ | ⟨u2, l2, A2, B2, h2, hA2, hB2, xf⟩
                · rw [h0] at h2
                  cases h2
                · have e5 : (u', l') = (u2, l2) := Option.some.inj (h0.symm.trans h2)
                  obtain ⟨rfl, rfl⟩ := Prod.mk.inj e5
                  have eA : A2 = A := ti_eq.mpr (hA2.trans hA.symm)
                  have eB : B2 = B := ti_eq.mpr (hB2.trans hB.symm)
                  subst eA eB
                  by_cases z : mn_2 B2 q ≤ mx_2 p A2
                  · rw [if_pos z] at xf zf
                    exact .inl ⟨_, _, xf, zf, by first | omega | (dsimp only; omega), by first | omega | (dsimp only; omega), ⟨x1, x2⟩, ⟨z1, z2⟩, .inl nx⟩
                  · rw [if_neg z] at xf zf
                    rw [if_pos (.inl rfl)] at zf
                    obtain ⟨q1, q2, q3, q4⟩ := bw h0
                    have mF := mx_v (p := p) (x := A2)
                    have mT := mn_v (p := q) (x := B2)
                    have z' := mt aa_le32.mpr z
                    have hF : mx_2 p A2 ≠ -1000000 := fun h => by rw [h, i_m6] at mF; split at mF <;> omega
                    refine .inr (.inl ⟨_, zf, by first | omega | (dsimp only; omega), by first | omega | (dsimp only; omega), ⟨w1, w2⟩, ⟨z1, z2⟩, .inr ⟨mx_2 p A2, mn_2 B2 q, Y', xf, rfl, rfl, hF, i.toInt, u', l', by rw [← a5]; exact h0, by first | omega | (dsimp only; omega), ?_⟩⟩)
                    have : (mn_2 B2 q).toInt ≤ B2.toInt := by rw [mT]; split <;> omega
                    omega
            · -- the class waits
              have wait : me_A (g 541) b p (X, i) (Z, -1000000, w, j + 1) := ⟨rfl, a2, by first | omega | (dsimp only; omega)⟩
              rcases zm with ⟨h0, zf⟩ | ⟨u', l', A, B, h0, hA, hB, zf⟩
              · exact .inr (.inl ⟨_, zf, by first | omega | (dsimp only; omega), by first | omega | (dsimp only; omega), ⟨w1, w2⟩, ⟨z1, z2⟩, .inl wait⟩)
              · obtain ⟨q1, q2, q3, q4⟩ := bw h0
                have mF := mx_v (p := p) (x := A)
                have mT := mn_v (p := q) (x := B)
                have g1 : A.toInt ≤ (mx_2 p A).toInt ∧ p.toInt ≤ (mx_2 p A).toInt := by rw [mF]; split <;> omega
                have g3 : (mn_2 B q).toInt ≤ B.toInt ∧ (mn_2 B q).toInt ≤ q.toInt := by rw [mT]; split <;> omega
                have z : mn_2 B q ≤ mx_2 p A := aa_le32.mpr (by omega)
                rw [if_pos z] at zf
                exact .inr (.inl ⟨_, zf, by first | omega | (dsimp only; omega), by first | omega | (dsimp only; omega), ⟨w1, w2⟩, ⟨z1, z2⟩, .inl wait⟩)
          · dsimp only at f2 f3 f6
            subst f2 f3
            have stay : me_B (g 541) (fun z => fn_132_115b z.1 y b k (5 * t1 + 14) (5 * t2 + 14) p q z.2) t2 b k (y / 12).toInt ((g 541 (50 * t2 + 3)).toInt - (g 541 (50 * t1 + 3)).toInt) (X, i) (Z, c, V - c, j + 1) := ⟨c, V, U, f1, rfl, rfl, f4, i0, u0, l0, f5, by first | omega | (dsimp only; omega), f7⟩
            rcases zm with ⟨h0, zf⟩ | ⟨u', l', A, B, h0, hA, hB, zf⟩
            · exact .inr (.inl ⟨_, zf, by first | omega | (dsimp only; omega), by first | omega | (dsimp only; omega), ⟨w1, w2⟩, ⟨z1, z2⟩, .inr stay⟩)
            · obtain ⟨q1, q2, q3, q4⟩ := bw h0
              have ord := hv_ord W hu2 hh1 f5 h0 (by omega)
              have mF := mx_v (p := p) (x := A)
              have g1 : A.toInt ≤ (mx_2 p A).toInt := by rw [mF]; split <;> omega
              have z : ¬ (c = -1000000 ∨ mx_2 p A < c) := fun h => h.elim f4 fun h => by have := ti_lt.mp h; omega
              rw [if_neg z] at zf
              have zf : fn_228_115b Y a y b k p q c (V - c) j = .inl (Z, c, V - c, j + 1) := by
                rw [zf]
                split <;> rfl
              exact .inr (.inl ⟨_, zf, by first | omega | (dsimp only; omega), by first | omega | (dsimp only; omega), ⟨w1, w2⟩, ⟨z1, z2⟩, .inr stay⟩)
        · rintro ⟨X, i⟩ ⟨Y, c, w, j⟩ ⟨r1, r2, -, -, r3⟩
          dsimp only at r1 r2 r3 ⊢
          have n1 : b + 4 < j := ti_lt.mpr (by omega)
          unfold fn_228_115b
          rw [if_pos n1]
          rcases r3 with ⟨a1, a2, a3⟩ | ⟨F, V, U, f1, f2, f3, f4, -⟩
          · dsimp only at a1 a3
            subst a1
            unfold fn_132_115b
            rw [if_pos (c := (3 : Int32) < i) (ti_lt.mpr (by rw [i_3]; omega)), if_neg (c := (-1000000 : Int32) ≠ -1000000) (fun z => z rfl)]
            refine ⟨_, (-1000000, Y), rfl, ?_, rfl⟩
            split <;> rfl
          · dsimp only at f1 f2 f3
            subst f2 f3
            rw [f1]
            by_cases k0 : k = 0
            · rw [if_pos k0, if_neg (fun z => z k0)]
              exact ⟨_, _, rfl, rfl, rfl⟩
            · rw [if_neg k0, if_pos f4, if_pos k0]
              exact ⟨_, _, rfl, rfl, rfl⟩
    · have E1 : (fn_132 g a x y b k).1 = -1000000 := by
        unfold fn_132
        rw [c1, c2]
        dsimp only
        simp only [gd_91z W, ne_eq, ti_77z, ti_193z, ti_14z, ti_154z, gd_66z, gd_199z, Decidable.not_not, i_0, i_1, i_2, i_3, i_11, i_12n, i_15, i_23, i_60, i_360, i_864, i_8640, i_35, eq_self, not_true_eq_false, not_false_eq_true, and_self, or_self, if_true, if_false]
        repeat' split
        all_goals first | (exfalso; omega) | rfl
      have E2 : (fn_228 g2 a x y b k).1 = -1000000 := by
        unfold fn_228
        simp only [gd_192z W2, k0, ti_204 W2.2.1, ne_eq, ti_77z, ti_193z, ti_14z, ti_154z, gd_66z, gd_199z, Decidable.not_not, i_0, i_1, i_2, i_3, i_11, i_12n, i_15, i_23, i_60, i_360, i_864, i_8640, i_35, eq_self, not_true_eq_false, not_false_eq_true, and_self, or_self, if_true, if_false, e0, e1, ha1, ha2, ha3]
        repeat' split
        all_goals first | (exfalso; omega) | rfl
      rw [E1, E2]
  · have E1 : (fn_132 g a x y b k).1 = -1000000 := by
      unfold fn_132
      rcases c1 with c1 | c1
      · rw [c1]
        cases fn_134 g a <;> rfl
      · rw [c1]
        cases fn_133 g a <;> rfl
    have k0 : fn_239 g2 a = 0 := (gd_239z W2).mpr (by rw [e0]; exact hk)
    have E2 : (fn_228 g2 a x y b k).1 = -1000000 := by
      unfold fn_228
      simp only [gd_192z W2, k0, ne_eq, ti_77z, ti_193z, ti_14z, ti_154z, gd_66z, gd_199z, Decidable.not_not, i_0, i_1, i_2, i_3, i_11, i_12n, i_15, i_23, i_60, i_360, i_864, i_8640, i_35, eq_self, not_true_eq_false, not_false_eq_true, and_self, or_self, if_true, if_false, e0, e1]
      repeat' split
      all_goals first | (exfalso; omega) | rfl
    rw [E1, E2]
theorem lq_132 {g : aa_G} {a0 a1 a2 a3 a4 : Int32} (hi : aa_inv g) (hφ : aa_Phi g) (hR : lr_R g) : lq_ok true 132 228 [.int a0, .int a1, .int a2, .int a3, .int a4] g :=
  lq_ask (y := fn_228 (fn_132 g a0 a1 a2 a3 a4).2 a0 a1 a2 a3 a4) hi hφ hR (ko_fw (ko_132 hi hφ) fun _ _ _ r => dn_132 r) (fun i1 p1 => ko_fw (ko_228 i1 p1) fun _ _ _ r => dn_228 r) (by decide +kernel) (by decide +kernel) (by decide +kernel) (by decide +kernel) (by decide +kernel) (by decide +kernel) fun W W2 e => ak_132 W W2 e a0 a1 a2 a3 a4
end
