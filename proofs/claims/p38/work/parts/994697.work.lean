/-! WORK (121, 223): both sides say the same -/
def sm_i (f : Nat → Int) : Nat → Nat → Int
  | _, 0 => 0
  | i, k + 1 => f i + sm_i f (i + 1) k
noncomputable def ww_d (T : Nat → Int32) (t : Nat) (x y : Int) (d : Nat) : Int := match hv_t T t (d : Int) 0 with
  | none => 0
  | some (_, l) => (y * l + 11) / 12 - (x * l + 11) / 12
theorem ww_b {x y l : Int} (hx : 0 ≤ x) (hxy : x ≤ y) (hy : y ≤ 12) (hl : 0 ≤ l ∧ l ≤ 86399) : 0 ≤ x * l ∧ x * l ≤ y * l ∧ y * l ≤ 1036788 := by
  have h1 : 0 ≤ x * l := Int.mul_nonneg hx hl.1
  have h2 : x * l ≤ y * l := Int.mul_le_mul_of_nonneg_right hxy hl.1
  have h3 : y * l ≤ 12 * 86399 := Int.mul_le_mul hy hl.2 hl.1 (by omega)
  exact ⟨h1, h2, by omega⟩
theorem ww_db {g : aa_G} (W : wd_g g) {t d : Nat} (ht : (t : Int) < (g 541 0).toInt) {x y : Int} (hx : 0 ≤ x) (hxy : x ≤ y) (hy : y ≤ 12) : 0 ≤ ww_d (g 541) t x y d ∧ ww_d (g 541) t x y d ≤ 86400 := by
  unfold ww_d
  cases hq : hv_t (g 541) t (d : Int) 0 with
  | none => exact ⟨Int.le_refl 0, (by omega : (0 : Int) ≤ 86400)⟩
  | some r =>
    obtain ⟨u, l⟩ := r
    obtain ⟨v1, v2, v3, v4, -⟩ := hv_b W ht hq
    have v4 := v4 (by decide)
    obtain ⟨h1, h2, h3⟩ := ww_b hx hxy hy (l := l) ⟨by omega, by omega⟩
    dsimp only
    omega
theorem ww_c {a l : Int32} {x L : Int} (ha : a.toInt = x) (hl : l.toInt = L) (h0 : 0 ≤ x * L) (h1 : x * L ≤ 1036788) : ((a * l + 12 - 1) / 12).toInt = (x * L + 11) / 12 ∧ ((a * l + 11) / 12).toInt = (x * L + 11) / 12 := by
  have t12 : (12 : Int32).toInt = 12 := rfl
  have t11 : (11 : Int32).toInt = 11 := rfl
  have t1 : (1 : Int32).toInt = 1 := rfl
  have e1 : (a * l).toInt = x * L := by rw [ti_mul (by rw [ha, hl]; omega) (by rw [ha, hl]; omega), ha, hl]
  have e2 : (a * l + 12).toInt = x * L + 12 := by rw [aa_add32 (by omega) (by omega), e1, t12]
  have e3 : (a * l + 12 - 1).toInt = x * L + 11 := by rw [aa_sub32 (by omega) (by omega), e2, t1]; omega
  have e4 : (a * l + 11).toInt = x * L + 11 := by rw [aa_add32 (by omega) (by omega), e1, t11]
  exact ⟨by rw [ti_div (by omega) (by decide), e3, t12], by rw [ti_div (by omega) (by decide), e4, t12]⟩
theorem cw_day {X : aa_G} {t d : Nat} {e a b : Int32} {x y : Int} (W : wd_g X) (ht : (t : Int) < (X 541 0).toInt) (hd : d ≤ 35999) (ha : a.toInt = x) (hb : b.toInt = y) (hx : 0 ≤ x) (hxy : x ≤ y) (hy : y ≤ 12) (he : ¬ e < Int32.ofNat d) (s : Int32) (hs : 0 ≤ s.toInt ∧ s.toInt ≤ 100000000) : ∃ (Y : aa_G) (s' : Int32), fn_121_81b X e a b (5 * t + 14) s (Int32.ofNat d) = .inl (Y, s', Int32.ofNat (d + 1)) ∧ wd_g Y ∧ Y 541 = X 541 ∧ s'.toInt = s.toInt + ww_d (X 541) t x y d := by
  obtain ⟨f, -, -, m⟩ := (ck_look (g := X) (P := 461) (d := Int32.ofNat d) (h := 0) W ht (by omega) (.inl rfl)).1
  rw [show (0 : Int32).toInt = 0 from rfl, zz_ofN (by omega)] at m
  unfold fn_121_81b
  rw [if_neg he]
  generalize fn_78 X 461 (some (5 * t + 14)) (Int32.ofNat d) 0 = Y at f m ⊢
  unfold fn_121_99 fn_121_133 ww_d
  rw [mb_add d 1 (v := 1) rfl]
  refine ⟨Y, if Y 461 0 = 0 then s else s + (fn_100 Y 461 b - fn_100 Y 461 a), ?_, wd_of W (fun k j z => f k j (by omega)), funext fun j => f 541 j (by omega), ?_⟩
  · by_cases z : Y 461 0 = 0
    · rw [if_pos z, if_pos z]
    · rw [if_neg z, if_neg z]
  · cases hq : hv_t (X 541) t (d : Int) 0 with
    | none =>
      rw [hq] at m
      rw [if_pos (c := Y 461 0 = 0) m.1]
      exact (Int.add_zero _).symm
    | some r =>
      obtain ⟨u, l⟩ := r
      rw [hq] at m
      obtain ⟨m1, m2, m3⟩ := m
      obtain ⟨v1, v2, v3, v4, -⟩ := hv_b W ht hq
      have v4 := v4 (by decide)
      obtain ⟨h1, h2, h3⟩ := ww_b hx hxy hy (l := l) ⟨by omega, by omega⟩
      rw [if_neg (c := Y 461 0 = 0) (by rw [m1]; decide)]
      have c1 := (ww_c ha m3 h1 (by omega)).1
      have c2 := (ww_c hb m3 (by omega) h3).1
      have d1 : (fn_100 Y 461 a).toInt = u + (x * l + 11) / 12 := by
        unfold fn_100
        rw [aa_add32 (by rw [c1]; omega) (by rw [c1]; omega), c1, m2]
      have d2 : (fn_100 Y 461 b).toInt = u + (y * l + 11) / 12 := by
        unfold fn_100
        rw [aa_add32 (by rw [c2]; omega) (by rw [c2]; omega), c2, m2]
      have d3 : (fn_100 Y 461 b - fn_100 Y 461 a).toInt = (y * l + 11) / 12 - (x * l + 11) / 12 := by rw [aa_sub32 (by omega) (by omega), d1, d2]; omega
      rw [aa_add32 (by omega) (by omega), d3]
theorem mw_day {X : aa_G} {t d : Nat} {e a b : Int32} {x y : Int} (W : wd_g X) (ht : (t : Int) < (X 541 0).toInt) (hd : d ≤ 35999) (ha : a.toInt = x) (hb : b.toInt = y) (hx : 0 ≤ x) (hxy : x ≤ y) (hy : y ≤ 12) (he : ¬ e < Int32.ofNat d) (s : Int32) (hs : 0 ≤ s.toInt ∧ s.toInt ≤ 100000000) : ∃ (Y : aa_G) (s' : Int32), fn_223_52b X (Int32.ofNat t) e a b s (Int32.ofNat d) = .inl (Y, s', Int32.ofNat (d + 1)) ∧ wd_g Y ∧ Y 541 = X 541 ∧ s'.toInt = s.toInt + ww_d (X 541) t x y d := by
  unfold fn_223_52b
  rw [if_neg he]
  generalize hg : fn_194 X (Int32.ofNat t) (Int32.ofNat d) 0 = Y
  obtain ⟨v, Y⟩ := Y
  obtain ⟨f, m⟩ := mk_half W ht (.inl rfl) hg
  rw [show (0 : Int32).toInt = 0 from rfl, zz_ofN (by omega)] at m
  unfold fn_223_68 fn_223_88 ww_d
  dsimp only
  rw [mb_add d 1 (v := 1) rfl]
  refine ⟨Y, s + (if v = 0 then 0 else fn_225 Y b - fn_225 Y a), ?_, wd_of W (fun k j z => f k j (by omega)), funext fun j => f 541 j (by omega), ?_⟩
  · by_cases z : v = 0
    · rw [if_pos z, if_pos z]
    · rw [if_neg z, if_neg z]
  · cases hq : hv_t (X 541) t (d : Int) 0 with
    | none =>
      rw [hq] at m
      have m : v = 0 := m
      rw [if_pos m, Int32.add_zero]
      exact (Int.add_zero _).symm
    | some r =>
      obtain ⟨u, l⟩ := r
      rw [hq] at m
      obtain ⟨m1, m2, m3⟩ := m
      obtain ⟨v1, v2, v3, v4, -⟩ := hv_b W ht hq
      have v4 := v4 (by decide)
      obtain ⟨h1, h2, h3⟩ := ww_b hx hxy hy (l := l) ⟨by omega, by omega⟩
      rw [if_neg (c := v = 0) (by rw [m1]; decide)]
      have c1 : (fn_225 Y a).toInt = (x * l + 11) / 12 := (ww_c ha m3 h1 (by omega)).2
      have c2 : (fn_225 Y b).toInt = (y * l + 11) / 12 := (ww_c hb m3 (by omega) h3).2
      have d3 : (fn_225 Y b - fn_225 Y a).toInt = (y * l + 11) / 12 - (x * l + 11) / 12 := by rw [aa_sub32 (by omega) (by omega), c1, c2]
      rw [aa_add32 (by omega) (by omega), d3]
/-- the loop over days -/
theorem ww_loop {g : aa_G} {t : Nat} {B : aa_G × Int32 × Int32 → (aa_G × Int32 × Int32) ⊕ (Int32 × aa_G)} {dd : Int32 × aa_G} {x y : Int} {n : Nat} (W0 : wd_g g) (ht : (t : Int) < (g 541 0).toInt) (hx : 0 ≤ x) (hxy : x ≤ y) (hy : y ≤ 12)
    (h1 : ∀ (X : aa_G) (s : Int32) (d : Nat), wd_g X → X 541 = g 541 → d < n → 0 ≤ s.toInt ∧ s.toInt ≤ 100000000 → ∃ (Y : aa_G) (s' : Int32), B (X, s, Int32.ofNat d) = .inl (Y, s', Int32.ofNat (d + 1)) ∧ wd_g Y ∧ Y 541 = X 541 ∧ s'.toInt = s.toInt + ww_d (X 541) t x y d)
    (h2 : ∀ (X : aa_G) (s : Int32), B (X, s, Int32.ofNat n) = .inr (s, X)) : ∀ (k d : Nat) (X : aa_G) (s : Int32), wd_g X → X 541 = g 541 → d + k = n → 0 ≤ s.toInt → s.toInt + 86400 * k ≤ 100000000 → (lp_f dd B (X, s, Int32.ofNat d)).1.toInt = s.toInt + sm_i (ww_d (g 541) t x y) d k := by
  intro k
  induction k with
  | zero =>
    intro d X s _ _ e _ _
    obtain rfl : d = n := by omega
    rw [lp_r (h2 X s)]
    exact (Int.add_zero _).symm
  | succ k ih =>
    intro d X s W e1 e s0 s1
    obtain ⟨Y, s', y1, y2, y3, y4⟩ := h1 X s d W e1 (by omega) ⟨s0, by omega⟩
    have b := ww_db (d := d) W0 ht hx hxy hy
    rw [e1] at y4
    rw [lp_l y1, ih (d + 1) Y s' y2 (y3.trans e1) (by omega) (by omega) (by omega), y4]
    show _ = s.toInt + (ww_d (g 541) t x y d + sm_i (ww_d (g 541) t x y) (d + 1) k)
    omega
noncomputable def sp_22 (T : Nat → Int32) (a b d p q : Int32) : Int := if ¬ (0 ≤ a.toInt ∧ a.toInt < (T 0).toInt) ∨ ¬ (0 ≤ b.toInt ∧ b.toInt ≤ 35999) ∨ ¬ (0 ≤ d.toInt ∧ d.toInt ≤ 35999) ∨ ¬ (b.toInt ≤ d.toInt ∧ d.toInt ≤ b.toInt + 359) ∨ ¬ (0 ≤ p.toInt ∧ p.toInt < q.toInt ∧ q.toInt ≤ 12) then -1 else
  sm_i (ww_d T a.toInt.toNat p.toInt q.toInt) b.toInt.toNat (d.toInt.toNat + 1 - b.toInt.toNat)
theorem ti_lt {a b : Int32} : a < b ↔ a.toInt < b.toInt := Int32.lt_iff_toInt_lt
theorem ck_121 {g : aa_G} (W : wd_g g) (a b d p q : Int32) : (fn_121 g a b d p q).1.toInt = sp_22 (g 541) a b d p q := by
  unfold fn_121 sp_22
  rcases ct_at W a with ⟨t, ht, rfl, ht2, e1, -⟩ | ⟨n1, e1, -⟩
  · rw [e1]
    dsimp only
    by_cases zb : fn_77 b = 0
    · rw [if_pos zb, if_pos (.inr (.inl (ti_77z.mp zb)))]
      rfl
    · have hb := ti_77n.mp zb
      rw [if_neg zb]
      by_cases zd : fn_77 d = 0
      · rw [if_pos zd, if_pos (.inr (.inr (.inl (ti_77z.mp zd))))]
        rfl
      · have hd := ti_77n.mp zd
        rw [if_neg zd]
        have s1 : (d - b).toInt = d.toInt - b.toInt := aa_sub32 (by omega) (by omega)
        have E : fn_14 (d - b) 0 359 ≠ 0 ↔ (b.toInt ≤ d.toInt ∧ d.toInt ≤ b.toInt + 359) := by
          rw [ti_14n, s1, show (0 : Int32).toInt = 0 from rfl, show (359 : Int32).toInt = 359 from rfl]
          omega
        by_cases zr : b.toInt ≤ d.toInt ∧ d.toInt ≤ b.toInt + 359
        · rw [if_pos (E.mpr zr)]
          have E2 : (fn_14 p 0 12 = 0 ∨ fn_14 q 0 12 = 0 ∨ ¬ p < q) ↔ ¬ (0 ≤ p.toInt ∧ p.toInt < q.toInt ∧ q.toInt ≤ 12) := by
            rw [ti_14z, ti_14z, ti_lt, show (0 : Int32).toInt = 0 from rfl, show (12 : Int32).toInt = 12 from rfl]
            omega
          by_cases zp : 0 ≤ p.toInt ∧ p.toInt < q.toInt ∧ q.toInt ≤ 12
          · have k1 : ¬ fn_14 p 0 12 = 0 := fun h => E2.mp (.inl h) zp
            have k2 : ¬ fn_14 q 0 12 = 0 := fun h => E2.mp (.inr (.inl h)) zp
            have k3 : p < q := ti_lt.mpr zp.2.1
            have hn : ¬ (¬ (0 ≤ (Int32.ofNat t).toInt ∧ (Int32.ofNat t).toInt < (g 541 0).toInt) ∨ ¬ (0 ≤ b.toInt ∧ b.toInt ≤ 35999) ∨ ¬ (0 ≤ d.toInt ∧ d.toInt ≤ 35999) ∨ ¬ (b.toInt ≤ d.toInt ∧ d.toInt ≤ b.toInt + 359) ∨ ¬ (0 ≤ p.toInt ∧ p.toInt < q.toInt ∧ q.toInt ≤ 12)) := by
              rw [zz_ofN (by omega)]
              omega
            rw [if_neg k1, if_neg k2, if_pos k3, if_neg hn, zz_ofN (by omega), show ((t : Int).toNat) = t by omega]
            unfold fn_121_81
            have eb : b = Int32.ofNat b.toInt.toNat := aa_eqN (by omega) (by omega)
            have L := ww_loop (g := g) (t := t) (B := fun z : (aa_G × Int32 × Int32) => fn_121_81b z.1 d p q (5 * t + 14) z.2.1 z.2.2) (dd := (0, g)) (x := p.toInt) (y := q.toInt) (n := d.toInt.toNat + 1) W ht2 zp.1 (by omega) zp.2.2 (fun X s dn w1 w2 w3 w4 => cw_day w1 (by rw [w2]; exact ht2) (by omega) rfl rfl zp.1 (by omega) zp.2.2 (fun h => by have := ti_lt.mp h; rw [zz_ofN (by omega)] at this; omega) s w4) (fun X s => by
              show fn_121_81b X d p q (5 * t + 14) s (Int32.ofNat (d.toInt.toNat + 1)) = _
              unfold fn_121_81b
              rw [if_pos (c := d < Int32.ofNat (d.toInt.toNat + 1)) (ti_lt.mpr (by rw [zz_ofN (by omega)]; omega))]) (d.toInt.toNat + 1 - b.toInt.toNat) b.toInt.toNat g 0 W rfl (by omega) (by decide) (by rw [show (0 : Int32).toInt = 0 from rfl]; omega)
            rw [← eb, show (0 : Int32).toInt = 0 from rfl, Int.zero_add] at L
            exact L
          · have hz := E2.mpr zp
            rw [if_pos (c := ¬ (0 ≤ (Int32.ofNat t).toInt ∧ (Int32.ofNat t).toInt < (g 541 0).toInt) ∨ ¬ (0 ≤ b.toInt ∧ b.toInt ≤ 35999) ∨ ¬ (0 ≤ d.toInt ∧ d.toInt ≤ 35999) ∨ ¬ (b.toInt ≤ d.toInt ∧ d.toInt ≤ b.toInt + 359) ∨ ¬ (0 ≤ p.toInt ∧ p.toInt < q.toInt ∧ q.toInt ≤ 12)) (.inr (.inr (.inr (.inr zp))))]
            by_cases y1 : fn_14 p 0 12 = 0
            · rw [if_pos y1]
              rfl
            · rw [if_neg y1]
              by_cases y2 : fn_14 q 0 12 = 0
              · rw [if_pos y2]
                rfl
              · rw [if_neg y2, if_neg (c := p < q) (fun h => (hz.resolve_left y1).resolve_left y2 h)]
                rfl
        · rw [if_neg (mt E.mp zr), if_pos (.inr (.inr (.inr (.inl zr))))]
          rfl
  · have hz : ¬ (0 ≤ a.toInt ∧ a.toInt < (g 541 0).toInt) ∨ ¬ (0 ≤ b.toInt ∧ b.toInt ≤ 35999) ∨ ¬ (0 ≤ d.toInt ∧ d.toInt ≤ 35999) ∨ ¬ (b.toInt ≤ d.toInt ∧ d.toInt ≤ b.toInt + 359) ∨ ¬ (0 ≤ p.toInt ∧ p.toInt < q.toInt ∧ q.toInt ≤ 12) := .inl n1
    rw [e1, if_pos hz]
    rfl
theorem ti_224 {b d : Int32} {n : Int32} : fn_224 b d n = 0 ↔ ¬ ((0 ≤ b.toInt ∧ b.toInt ≤ 35999) ∧ (0 ≤ d.toInt ∧ d.toInt ≤ 35999) ∧ (b.toInt ≤ d.toInt ∧ d.toInt ≤ b.toInt + n.toInt)) := by
  unfold fn_224
  by_cases z1 : fn_193 b = 0
  · rw [if_pos z1]
    have := ti_193z.mp z1
    exact ⟨fun _ h => this h.1, fun _ => rfl⟩
  · have h1 : 0 ≤ b.toInt ∧ b.toInt ≤ 35999 := ti_154n.mp z1
    rw [if_neg z1]
    by_cases z2 : fn_193 d = 0
    · rw [if_pos z2]
      have := ti_193z.mp z2
      exact ⟨fun _ h => this h.2.1, fun _ => rfl⟩
    · have h2 : 0 ≤ d.toInt ∧ d.toInt ≤ 35999 := ti_154n.mp z2
      rw [if_neg z2]
      have s1 : (d - b).toInt = d.toInt - b.toInt := aa_sub32 (by omega) (by omega)
      have E : fn_154 (d - b) 0 n = 0 ↔ ¬ (b.toInt ≤ d.toInt ∧ d.toInt ≤ b.toInt + n.toInt) := by
        rw [ti_154z, s1, show (0 : Int32).toInt = 0 from rfl]
        omega
      by_cases z3 : fn_154 (d - b) 0 n = 0
      · rw [if_pos z3]
        exact ⟨fun _ h => E.mp z3 h.2.2, fun _ => rfl⟩
      · rw [if_neg z3]
        exact ⟨fun h => absurd h (by decide), fun h => absurd ⟨h1, h2, Decidable.not_not.mp (mt E.mpr z3)⟩ h⟩
theorem mk_223 {g : aa_G} (W : wd_g g) (a b d p q : Int32) : (fn_223 g a b d p q).1.toInt = sp_22 (g 541) a b d p q := by
  unfold fn_223 sp_22
  rcases ct_at W a with ⟨t, ht, rfl, ht2, -, e1⟩ | ⟨n1, -, e1⟩
  · rw [if_neg (c := fn_192 g (Int32.ofNat t) = 0) (by rw [e1]; decide)]
    by_cases zr : fn_224 b d 359 = 0
    · have k := ti_224.mp zr
      rw [show (359 : Int32).toInt = 359 from rfl] at k
      rw [if_pos zr, if_pos (c := ¬ (0 ≤ (Int32.ofNat t).toInt ∧ (Int32.ofNat t).toInt < (g 541 0).toInt) ∨ ¬ (0 ≤ b.toInt ∧ b.toInt ≤ 35999) ∨ ¬ (0 ≤ d.toInt ∧ d.toInt ≤ 35999) ∨ ¬ (b.toInt ≤ d.toInt ∧ d.toInt ≤ b.toInt + 359) ∨ ¬ (0 ≤ p.toInt ∧ p.toInt < q.toInt ∧ q.toInt ≤ 12)) (by omega)]
      rfl
    · have k := mt ti_224.mpr zr
      rw [show (359 : Int32).toInt = 359 from rfl] at k
      have k := Decidable.not_not.mp k
      obtain ⟨hb, hd, hr⟩ := k
      rw [if_neg zr]
      by_cases zp : fn_154 p 0 11 = 0
      · have k := ti_154z.mp zp
        have k : ¬ (0 ≤ p.toInt ∧ p.toInt ≤ 11) := k
        rw [if_pos zp, if_pos (c := ¬ (0 ≤ (Int32.ofNat t).toInt ∧ (Int32.ofNat t).toInt < (g 541 0).toInt) ∨ ¬ (0 ≤ b.toInt ∧ b.toInt ≤ 35999) ∨ ¬ (0 ≤ d.toInt ∧ d.toInt ≤ 35999) ∨ ¬ (b.toInt ≤ d.toInt ∧ d.toInt ≤ b.toInt + 359) ∨ ¬ (0 ≤ p.toInt ∧ p.toInt < q.toInt ∧ q.toInt ≤ 12)) (by omega)]
        rfl
      · have hp : 0 ≤ p.toInt ∧ p.toInt ≤ 11 := ti_154n.mp zp
        rw [if_neg zp]
        have s1 : (p + 1).toInt = p.toInt + 1 := aa_add32 (by rw [show (1 : Int32).toInt = 1 from rfl]; omega) (by rw [show (1 : Int32).toInt = 1 from rfl]; omega)
        by_cases zq : fn_154 q (p + 1) 12 ≠ 0
        · have k := ti_154n.mp zq
          rw [s1] at k
          have k : p.toInt + 1 ≤ q.toInt ∧ q.toInt ≤ 12 := k
          have hn : ¬ (¬ (0 ≤ (Int32.ofNat t).toInt ∧ (Int32.ofNat t).toInt < (g 541 0).toInt) ∨ ¬ (0 ≤ b.toInt ∧ b.toInt ≤ 35999) ∨ ¬ (0 ≤ d.toInt ∧ d.toInt ≤ 35999) ∨ ¬ (b.toInt ≤ d.toInt ∧ d.toInt ≤ b.toInt + 359) ∨ ¬ (0 ≤ p.toInt ∧ p.toInt < q.toInt ∧ q.toInt ≤ 12)) := by
            rw [zz_ofN (by omega)]
            omega
          rw [if_pos zq, if_neg hn, zz_ofN (by omega), show ((t : Int).toNat) = t by omega]
          unfold fn_223_52
          have eb : b = Int32.ofNat b.toInt.toNat := aa_eqN (by omega) (by omega)
          have L := ww_loop (g := g) (t := t) (B := fun z : (aa_G × Int32 × Int32) => fn_223_52b z.1 (Int32.ofNat t) d p q z.2.1 z.2.2) (dd := (0, g)) (x := p.toInt) (y := q.toInt) (n := d.toInt.toNat + 1) W ht2 hp.1 (by omega) k.2 (fun X s dn w1 w2 w3 w4 => mw_day w1 (by rw [w2]; exact ht2) (by omega) rfl rfl hp.1 (by omega) k.2 (fun h => by have := ti_lt.mp h; rw [zz_ofN (by omega)] at this; omega) s w4) (fun X s => by
            show fn_223_52b X (Int32.ofNat t) d p q s (Int32.ofNat (d.toInt.toNat + 1)) = _
            unfold fn_223_52b
            rw [if_pos (c := d < Int32.ofNat (d.toInt.toNat + 1)) (ti_lt.mpr (by rw [zz_ofN (by omega)]; omega))]) (d.toInt.toNat + 1 - b.toInt.toNat) b.toInt.toNat g 0 W rfl (by omega) (by decide) (by rw [show (0 : Int32).toInt = 0 from rfl]; omega)
          rw [← eb, show (0 : Int32).toInt = 0 from rfl, Int.zero_add] at L
          exact L
        · have k := mt ti_154n.mpr zq
          rw [s1] at k
          have k : ¬ (p.toInt + 1 ≤ q.toInt ∧ q.toInt ≤ 12) := k
          rw [if_neg zq, if_pos (c := ¬ (0 ≤ (Int32.ofNat t).toInt ∧ (Int32.ofNat t).toInt < (g 541 0).toInt) ∨ ¬ (0 ≤ b.toInt ∧ b.toInt ≤ 35999) ∨ ¬ (0 ≤ d.toInt ∧ d.toInt ≤ 35999) ∨ ¬ (b.toInt ≤ d.toInt ∧ d.toInt ≤ b.toInt + 359) ∨ ¬ (0 ≤ p.toInt ∧ p.toInt < q.toInt ∧ q.toInt ≤ 12)) (by omega)]
          rfl
  · rw [if_pos (c := fn_192 g a = 0) e1, if_pos (.inl n1)]
    rfl
theorem lq_121 {g : aa_G} {a0 a1 a2 a3 a4 : Int32} (hi : aa_inv g) (hφ : aa_Phi g) (hR : lr_R g) : lq_ok true 121 223 [.int a0, .int a1, .int a2, .int a3, .int a4] g :=
  lq_ask (y := fn_223 (fn_121 g a0 a1 a2 a3 a4).2 a0 a1 a2 a3 a4) hi hφ hR (ko_fw (ko_121 hi hφ) fun _ _ _ r => dn_121 r) (fun i1 p1 => ko_fw (ko_223 i1 p1) fun _ _ _ r => dn_223 r) (by decide +kernel) (by decide +kernel) (by decide +kernel) (by decide +kernel) (by decide +kernel) (by decide +kernel) fun W W2 e => ti_eq.mpr (by rw [ck_121 W, mk_223 W2, e])
