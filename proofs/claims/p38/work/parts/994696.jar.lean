/-! JAR (120, 221): both sides say the same -/
theorem s_88 {G : aa_G} {P : Nat} {e : Int32} (hl : 1 ≤ (G P 4).toInt) (he : 0 ≤ e.toInt ∧ e.toInt ≤ 172798) : (fn_88 G P e 1).toInt = e.toInt * 12 / (G P 4).toInt := by
  have t12 : (12 : Int64).toInt = 12 := rfl
  have t1 : (1 : Int32).toInt64.toInt = 1 := rfl
  unfold fn_88
  rw [if_neg (c := G P 4 ≤ 0) (fun z => by have := aa_le32.mp z; rw [show (0 : Int32).toInt = 0 from rfl] at this; omega)]
  have e1 : (e.toInt64 * 12).toInt = e.toInt * 12 := by rw [l_mul (by rw [t12, l_of]; omega) (by rw [t12, l_of]; omega), t12, l_of]
  have e2 : (e.toInt64 * 12 * (1 : Int32).toInt64).toInt = e.toInt * 12 := by rw [l_mul (by rw [t1, e1]; omega) (by rw [t1, e1]; omega), t1, e1, Int.mul_one]
  have e3 : (e.toInt64 * 12 * (1 : Int32).toInt64 / (G P 4).toInt64).toInt = e.toInt * 12 / (G P 4).toInt := by rw [l_div (by omega) (by rw [l_of]; omega), e2, l_of]
  have b0 : 0 ≤ e.toInt * 12 / (G P 4).toInt := Int.ediv_nonneg (by omega) (by omega)
  have b1 : e.toInt * 12 / (G P 4).toInt ≤ e.toInt * 12 := Int.ediv_le_self _ (by omega)
  rw [l_to (by omega) (by omega), e3]
theorem s_m {e l : Int32} (hl : 1 ≤ l.toInt) (he : 0 ≤ e.toInt ∧ e.toInt ≤ 172798) : ((e * 12) / l).toInt = e.toInt * 12 / l.toInt := by
  have t12 : (12 : Int32).toInt = 12 := rfl
  have e1 : (e * 12).toInt = e.toInt * 12 := by rw [ti_mul (by rw [t12]; omega) (by rw [t12]; omega), t12]
  rw [ti_div (by omega) (by omega), e1]
def sp_j (c k : Int32) : Option (Int × Int) → Option (Int × Int) → Int
  | none, _ => -100
  | some _, none => -100
  | some (_, l), some (u2, l2) => if ¬ (u2 ≤ c.toInt ∧ c.toInt < u2 + l2) then -100 else (if 12 < (c.toInt - u2) * 12 / l then 12 else (c.toInt - u2) * 12 / l) - (if k = 0 then 0 else (c.toInt - u2) * 12 / l2)
noncomputable def sp_21 (T : Nat → Int32) (a b d c k : Int32) : Int := if ¬ (0 ≤ a.toInt ∧ a.toInt < (T 0).toInt) ∨ ¬ (0 ≤ b.toInt ∧ b.toInt ≤ 35999) ∨ ¬ (0 ≤ d.toInt ∧ d.toInt ≤ 35999) ∨ ¬ (0 ≤ c.toInt ∧ c.toInt ≤ 86399) ∨ ¬ (0 ≤ k.toInt ∧ k.toInt ≤ 1) then -1000 else
  sp_j c k (hv_t T a.toInt.toNat b.toInt 0) (hv_t T a.toInt.toNat d.toInt 0)
theorem i_if {p : Prop} {ip : Decidable p} {a b : Int32} : (@ite Int32 p ip a b).toInt = @ite Int p ip a.toInt b.toInt := by
  by_cases z : p
  · rw [if_pos z, if_pos z]
  · rw [if_neg z, if_neg z]
theorem ck_120 {g : aa_G} (W : wd_g g) (a b d c k : Int32) : (fn_120 g a b d c k).1.toInt = sp_21 (g 541) a b d c k := by
  unfold fn_120 sp_21
  rcases ct_at W a with ⟨t, ht, rfl, ht2, e1, -⟩ | ⟨n1, e1, -⟩
  · rw [e1]
    dsimp only
    by_cases zb : fn_77 b = 0
    · rw [if_pos zb, if_pos (.inr (.inl (ti_77z.mp zb)))]
      rfl
    · have hb := ti_77n.mp zb
      rw [if_neg zb]
      by_cases zd : fn_77 d = 0
      · rw [if_pos zd, if_pos (.inr (.inr (.inl (ti_77z.mp zd))))]
        rfl
      · have hd := ti_77n.mp zd
        rw [if_neg zd]
        by_cases zc : fn_66 c = 0
        · have hc : ¬ (0 ≤ c.toInt ∧ c.toInt ≤ 86399) := ti_14z.mp zc
          rw [if_pos zc, if_pos (.inr (.inr (.inr (.inl hc))))]
          rfl
        · have hc : 0 ≤ c.toInt ∧ c.toInt ≤ 86399 := ti_14n.mp zc
          rw [if_neg zc]
          by_cases zk : fn_14 k 0 1 ≠ 0
          · have hk : 0 ≤ k.toInt ∧ k.toInt ≤ 1 := ti_14n.mp zk
            have hn : ¬ (¬ (0 ≤ (Int32.ofNat t).toInt ∧ (Int32.ofNat t).toInt < (g 541 0).toInt) ∨ ¬ (0 ≤ b.toInt ∧ b.toInt ≤ 35999) ∨ ¬ (0 ≤ d.toInt ∧ d.toInt ≤ 35999) ∨ ¬ (0 ≤ c.toInt ∧ c.toInt ≤ 86399) ∨ ¬ (0 ≤ k.toInt ∧ k.toInt ≤ 1)) := by
              rw [zz_ofN (by omega)]
              omega
            rw [if_pos zk, if_neg hn, zz_ofN (by omega), show ((t : Int).toNat) = t by omega]
            obtain ⟨f1, -, -, m⟩ := (ck_look (g := g) (P := 461) (d := b) (h := 0) W ht2 (by omega) (.inl rfl)).1
            generalize fn_78 g 461 (some (5 * t + 14)) b 0 = G at f1 m ⊢
            have W2 : wd_g G := wd_of W (fun k j z => f1 k j (by omega))
            have e541 : G 541 = g 541 := funext fun j => f1 541 j (by omega)
            obtain ⟨f2, -, -, m2⟩ := (ck_look (g := G) (P := 462) (d := d) (h := 0) W2 (by rw [e541]; exact ht2) (by omega) (.inl rfl)).1
            unfold fn_120_62
            generalize fn_78 G 462 (some (5 * t + 14)) d 0 = Y at f2 m2 ⊢
            have y : ∀ j, Y 461 j = G 461 j := fun j => f2 461 j (by omega)
            rw [e541] at m2
            rw [show (0 : Int32).toInt = 0 from rfl] at m m2
            unfold fn_120_73
            cases hq : hv_t (g 541) t b.toInt 0 with
            | none =>
              rw [hq] at m
              rw [if_pos (c := Y 461 0 = 0) (by rw [y]; exact m.1)]
              rfl
            | some r =>
              obtain ⟨u, l⟩ := r
              rw [hq] at m
              obtain ⟨m11, m12, m13⟩ := m
              obtain ⟨v1, v2, v3, v4, -⟩ := hv_b W ht2 hq
              have v4 := v4 (by decide)
              rw [if_neg (c := Y 461 0 = 0) (by rw [y, m11]; decide)]
              cases hr : hv_t (g 541) t d.toInt 0 with
              | none =>
                rw [hr] at m2
                rw [if_pos (c := Y 462 0 = 0) m2.1]
                rfl
              | some r =>
                obtain ⟨u2, l2⟩ := r
                rw [hr] at m2
                obtain ⟨m21, m22, m23⟩ := m2
                obtain ⟨w1, w2, w3, w4, -⟩ := hv_b W ht2 hr
                have w4 := w4 (by decide)
                rw [if_neg (c := Y 462 0 = 0) (by rw [m21]; decide)]
                have y4 : (Y 461 4).toInt = l := by rw [y, m13]
                have s1 : (c - Y 462 3).toInt = c.toInt - u2 := by rw [aa_sub32 (by omega) (by omega), m22]
                have s2 : (Y 462 4 - 1).toInt = l2 - 1 := by rw [aa_sub32 (by rw [show (1 : Int32).toInt = 1 from rfl]; omega) (by rw [show (1 : Int32).toInt = 1 from rfl]; omega), m23]; rfl
                have E : fn_14 (c - Y 462 3) 0 (Y 462 4 - 1) ≠ 0 ↔ (u2 ≤ c.toInt ∧ c.toInt < u2 + l2) := by
                  rw [ti_14n, s1, s2, show (0 : Int32).toInt = 0 from rfl]
                  omega
                unfold sp_j
                dsimp only
                by_cases z : u2 ≤ c.toInt ∧ c.toInt < u2 + l2
                · rw [if_pos (E.mpr z), if_neg (c := ¬ (u2 ≤ c.toInt ∧ c.toInt < u2 + l2)) (fun h => h z)]
                  have x1 : (fn_88 Y 461 (c - Y 462 3) 1).toInt = (c.toInt - u2) * 12 / l := by rw [s_88 (by omega) (by omega), s1, y4]
                  have x2 : (fn_88 Y 462 (c - Y 462 3) 1).toInt = (c.toInt - u2) * 12 / l2 := by rw [s_88 (by omega) (by omega), s1, m23]
                  have x3 : (if 12 < fn_88 Y 461 (c - Y 462 3) 1 then 12 else fn_88 Y 461 (c - Y 462 3) 1 : Int32).toInt = if 12 < (c.toInt - u2) * 12 / l then 12 else (c.toInt - u2) * 12 / l := by
                    by_cases q : 12 < (c.toInt - u2) * 12 / l
                    · rw [if_pos q, if_pos (Int32.lt_iff_toInt_lt.mpr (by rw [x1]; exact q))]
                      rfl
                    · rw [if_neg q, if_neg (fun h => q (by have := Int32.lt_iff_toInt_lt.mp h; rw [x1] at this; exact this)), x1]
                  have b0 : 0 ≤ (c.toInt - u2) * 12 / l := Int.ediv_nonneg (by omega) (by omega)
                  have b2 : 0 ≤ (c.toInt - u2) * 12 / l2 := Int.ediv_nonneg (by omega) (by omega)
                  have b3 : (c.toInt - u2) * 12 / l2 ≤ (c.toInt - u2) * 12 := Int.ediv_le_self _ (by omega)
                  by_cases k0 : k = 0
                  · rw [if_neg (c := k ≠ 0) (fun h => h k0), if_pos k0]
                    show (if 12 < fn_88 Y 461 (c - Y 462 3) 1 then 12 else fn_88 Y 461 (c - Y 462 3) 1 : Int32).toInt = _
                    rw [x3, Int.sub_zero]
                  · rw [if_pos (c := k ≠ 0) k0, if_neg k0]
                    show ((if 12 < fn_88 Y 461 (c - Y 462 3) 1 then 12 else fn_88 Y 461 (c - Y 462 3) 1 : Int32) - fn_88 Y 462 (c - Y 462 3) 1).toInt = _
                    have x4 : (0 : Int) ≤ (if 12 < (c.toInt - u2) * 12 / l then 12 else (c.toInt - u2) * 12 / l) ∧ (if 12 < (c.toInt - u2) * 12 / l then 12 else (c.toInt - u2) * 12 / l) ≤ 12 := by
                      split <;> omega
                    rw [aa_sub32 (by rw [x3, x2]; omega) (by rw [x3, x2]; omega), x3, x2]
                · rw [if_neg (mt E.mp z), if_pos (c := ¬ (u2 ≤ c.toInt ∧ c.toInt < u2 + l2)) z]
                  rfl
          · rw [if_neg zk, if_pos (.inr (.inr (.inr (.inr (fun h => zk (ti_14n.mpr h))))))]
            rfl
  · have hz : ¬ (0 ≤ a.toInt ∧ a.toInt < (g 541 0).toInt) ∨ ¬ (0 ≤ b.toInt ∧ b.toInt ≤ 35999) ∨ ¬ (0 ≤ d.toInt ∧ d.toInt ≤ 35999) ∨ ¬ (0 ≤ c.toInt ∧ c.toInt ≤ 86399) ∨ ¬ (0 ≤ k.toInt ∧ k.toInt ≤ 1) := .inl n1
    rw [e1, if_pos hz]
    rfl
theorem mk_222 {g : aa_G} {t : Nat} {d : Int32} (W : wd_g g) (ht : (t : Int) < (g 541 0).toInt) : (∀ k j, ¬ (k = 540 ∧ 13 ≤ j ∧ j ≤ 18 ∧ j ≠ 16) → (fn_222 g (Int32.ofNat t) d).2 k j = g k j) ∧ (fn_222 g (Int32.ofNat t) d).1.toInt = (match hv_t (g 541) t d.toInt 0 with
    | none => -1
    | some (_, l) => l) := by
  unfold fn_222
  generalize hg : fn_194 g (Int32.ofNat t) d 0 = G
  obtain ⟨v, G⟩ := G
  obtain ⟨f, m⟩ := mk_half W ht (.inl rfl) hg
  rw [show (0 : Int32).toInt = 0 from rfl] at m
  unfold fn_222_7
  dsimp only
  cases hq : hv_t (g 541) t d.toInt 0 with
  | none =>
    rw [hq] at m
    have m : v = 0 := m
    rw [if_pos m]
    exact ⟨f, rfl⟩
  | some r =>
    obtain ⟨u, l⟩ := r
    rw [hq] at m
    obtain ⟨m1, m2, m3⟩ := m
    rw [if_neg (c := v = 0) (by rw [m1]; decide)]
    exact ⟨f, m3⟩
theorem mk_221 {g : aa_G} (W : wd_g g) (a b d c k : Int32) : (fn_221 g a b d c k).1.toInt = sp_21 (g 541) a b d c k := by
  unfold fn_221 sp_21
  rcases ct_at W a with ⟨t, ht, rfl, ht2, -, e1⟩ | ⟨n1, -, e1⟩
  · by_cases hb : 0 ≤ b.toInt ∧ b.toInt ≤ 35999
    · rw [if_neg (c := fn_191 g (Int32.ofNat t) b = 0) (fun z => (ti_191.mp z).elim (fun y => by rw [e1] at y; exact absurd y (by decide)) (fun y => y hb))]
      by_cases zd : fn_193 d = 0
      · rw [if_pos zd, if_pos (.inr (.inr (.inl (ti_193z.mp zd))))]
        rfl
      · have hd : 0 ≤ d.toInt ∧ d.toInt ≤ 35999 := ti_154n.mp zd
        rw [if_neg zd]
        by_cases zc : fn_199 c = 0
        · have hc : ¬ (0 ≤ c.toInt ∧ c.toInt ≤ 86399) := ti_154z.mp zc
          rw [if_pos zc, if_pos (.inr (.inr (.inr (.inl hc))))]
          rfl
        · have hc : 0 ≤ c.toInt ∧ c.toInt ≤ 86399 := ti_154n.mp zc
          rw [if_neg zc]
          by_cases zk : fn_154 k 0 1 ≠ 0
          · have hk : 0 ≤ k.toInt ∧ k.toInt ≤ 1 := ti_154n.mp zk
            have hn : ¬ (¬ (0 ≤ (Int32.ofNat t).toInt ∧ (Int32.ofNat t).toInt < (g 541 0).toInt) ∨ ¬ (0 ≤ b.toInt ∧ b.toInt ≤ 35999) ∨ ¬ (0 ≤ d.toInt ∧ d.toInt ≤ 35999) ∨ ¬ (0 ≤ c.toInt ∧ c.toInt ≤ 86399) ∨ ¬ (0 ≤ k.toInt ∧ k.toInt ≤ 1)) := by
              rw [zz_ofN (by omega)]
              omega
            rw [if_pos zk, if_neg hn, zz_ofN (by omega), show ((t : Int).toNat) = t by omega]
            obtain ⟨f1, m⟩ := mk_222 (d := b) W ht2
            generalize fn_222 g (Int32.ofNat t) b = G at f1 m ⊢
            obtain ⟨s, G⟩ := G
            dsimp only at f1 m ⊢
            have W2 : wd_g G := wd_of W (fun k j z => f1 k j (by omega))
            have e541 : G 541 = g 541 := funext fun j => f1 541 j (by omega)
            unfold fn_221_44
            cases hq : hv_t (g 541) t b.toInt 0 with
            | none =>
              rw [hq] at m
              have m : s = -1 := ti_eq.mpr m
              rw [if_pos m]
              rfl
            | some r =>
              obtain ⟨u, l⟩ := r
              rw [hq] at m
              have m : s.toInt = l := m
              obtain ⟨v1, v2, v3, v4, -⟩ := hv_b W ht2 hq
              have v4 := v4 (by decide)
              rw [if_neg (c := s = -1) (fun z => by rw [z] at m; have : (-1 : Int) = l := m; omega)]
              generalize hg : fn_194 G (Int32.ofNat t) d 0 = Y
              obtain ⟨v, Y⟩ := Y
              obtain ⟨f2, m2⟩ := mk_half W2 (by rw [e541]; exact ht2) (.inl rfl) hg
              rw [e541, show (0 : Int32).toInt = 0 from rfl] at m2
              unfold fn_221_59
              dsimp only
              cases hr : hv_t (g 541) t d.toInt 0 with
              | none =>
                rw [hr] at m2
                have m2 : v = 0 := m2
                rw [if_pos m2]
                rfl
              | some r =>
                obtain ⟨u2, l2⟩ := r
                rw [hr] at m2
                obtain ⟨m21, m22, m23⟩ := m2
                obtain ⟨w1, w2, w3, w4, -⟩ := hv_b W ht2 hr
                have w4 := w4 (by decide)
                rw [if_neg (c := v = 0) (by rw [m21]; decide)]
                have s1 : (c - Y 540 17).toInt = c.toInt - u2 := by rw [aa_sub32 (by omega) (by omega), m22]
                have s2 : (Y 540 17 + Y 540 18).toInt = u2 + l2 := by rw [aa_add32 (by omega) (by omega), m22, m23]
                unfold sp_j
                dsimp only
                by_cases z1 : c < Y 540 17
                · have z1' := Int32.lt_iff_toInt_lt.mp z1
                  rw [if_pos z1, if_pos (c := ¬ (u2 ≤ c.toInt ∧ c.toInt < u2 + l2)) (by omega)]
                  rfl
                · have z1' := mt Int32.lt_iff_toInt_lt.mpr z1
                  rw [if_neg z1]
                  by_cases z2 : c < Y 540 17 + Y 540 18
                  · have z2' := Int32.lt_iff_toInt_lt.mp z2
                    rw [if_pos z2, if_neg (c := ¬ (u2 ≤ c.toInt ∧ c.toInt < u2 + l2)) (by omega)]
                    have x1 : ((c - Y 540 17) * 12 / s).toInt = (c.toInt - u2) * 12 / l := by rw [s_m (by omega) (by omega), s1, m]
                    have x2 : ((c - Y 540 17) * 12 / Y 540 18).toInt = (c.toInt - u2) * 12 / l2 := by rw [s_m (by omega) (by omega), s1, m23]
                    have b0 : 0 ≤ (c.toInt - u2) * 12 / l := Int.ediv_nonneg (by omega) (by omega)
                    have b2 : 0 ≤ (c.toInt - u2) * 12 / l2 := Int.ediv_nonneg (by omega) (by omega)
                    have b3 : (c.toInt - u2) * 12 / l2 ≤ (c.toInt - u2) * 12 := Int.ediv_le_self _ (by omega)
                    have fin : ∀ (x : Int32) (X : Int), x.toInt = X → 0 ≤ X → X ≤ 12 → (fn_221_117 Y c k x).1.toInt = X - (if k = 0 then 0 else (c.toInt - u2) * 12 / l2) := by
                      intro x X h1 h2 h3
                      unfold fn_221_117
                      by_cases k0 : k = 0
                      · rw [if_neg (c := k ≠ 0) (fun h => h k0), if_pos k0, Int.sub_zero]
                        exact h1
                      · rw [if_pos (c := k ≠ 0) k0, if_neg k0]
                        show (x - (c - Y 540 17) * 12 / Y 540 18).toInt = _
                        rw [aa_sub32 (by omega) (by omega), h1, x2]
                    by_cases q : 12 < (c.toInt - u2) * 12 / l
                    · rw [if_pos q, if_neg (c := (c - Y 540 17) * 12 / s ≤ 12) (fun h => by have := aa_le32.mp h; rw [x1, show (12 : Int32).toInt = 12 from rfl] at this; omega)]
                      exact fin 12 12 rfl (by omega) (by omega)
                    · rw [if_neg q, if_pos (c := (c - Y 540 17) * 12 / s ≤ 12) (aa_le32.mpr (by rw [x1, show (12 : Int32).toInt = 12 from rfl]; omega))]
                      exact fin _ _ x1 b0 (by omega)
                  · have z2' := mt Int32.lt_iff_toInt_lt.mpr z2
                    rw [if_neg z2, if_pos (c := ¬ (u2 ≤ c.toInt ∧ c.toInt < u2 + l2)) (by omega)]
                    rfl
          · rw [if_neg zk, if_pos (.inr (.inr (.inr (.inr (fun h => zk (ti_154n.mpr h))))))]
            rfl
    · rw [if_pos (c := fn_191 g (Int32.ofNat t) b = 0) (ti_191.mpr (.inr hb)), if_pos (.inr (.inl hb))]
      rfl
  · rw [if_pos (c := fn_191 g a b = 0) (ti_191.mpr (.inl e1)), if_pos (.inl n1)]
    rfl
theorem lq_120 {g : aa_G} {a0 a1 a2 a3 a4 : Int32} (hi : aa_inv g) (hφ : aa_Phi g) (hR : lr_R g) : lq_ok true 120 221 [.int a0, .int a1, .int a2, .int a3, .int a4] g :=
  lq_ask (y := fn_221 (fn_120 g a0 a1 a2 a3 a4).2 a0 a1 a2 a3 a4) hi hφ hR (ko_fw (ko_120 hi hφ) fun _ _ _ r => dn_120 r) (fun i1 p1 => ko_fw (ko_221 i1 p1) fun _ _ _ r => dn_221 r) (by decide +kernel) (by decide +kernel) (by decide +kernel) (by decide +kernel) (by decide +kernel) (by decide +kernel) fun W W2 e => ti_eq.mpr (by rw [ck_120 W, mk_221 W2, e])
