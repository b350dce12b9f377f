/-! QUESTIONS TOLD IN NUMBERS: what each answers where its arguments are such as the law gives -/
theorem y_ceq {a b : Int32} (e : a = b) : zz_cmp .eq a b = true := decide_eq_true e
theorem y_cne {a b : Int32} (e : zz_cmp .ne a b = true) : a ≠ b := of_decide_eq_true e
theorem y_ofn {t : Nat} (ht : t ≤ 2147483647) : (Int32.ofInt (t : Int)).toInt = t := yi_T (by omega)
noncomputable def s_11 (a : Nat → Int32) (t : Nat) (day i : Int) : Int := if i = 5 then -1 else if i = 4 then pv_t a t (day % 360) else match hv_t a t day (if i = 3 then 1 else 0) with
  | none => -2
  | some (u, l) => if i = 0 then u else if i = 1 then u + l else l
noncomputable def s_12 (a : Nat → Int32) (t : Nat) (day s i : Int) : Int := match wt_T a t day s with
  | none => -2
  | some (d, f, b, l) => if i = 0 then d else if i = 1 then f else if i = 2 then (s + 86400 * (day - d) - b) * 12 * (a 1).toInt / l / (a 1).toInt else if i = 3 then (s + 86400 * (day - d) - b) * 12 * (a 1).toInt / l % (a 1).toInt else if i = 4 then (s + 86400 * (day - d) - b) * 12 * (a 1).toInt / l else s + 86400 * (day - d) - b
noncomputable def s_b (q n : Int) : Option (Int × Int) → Int
  | none => -2
  | some (u, l) => if yk q n l = l then -2 else u + yk q n l
noncomputable def s_90 (a : Nat → Int32) (t : Nat) (day f n : Int) : Int := s_b (a 1).toInt n (hv_t a t day f)
noncomputable def s_95 (a : Nat → Int32) (t : Nat) (day s k : Int) : Int := if k = 4 then -1 else if k = 0 then day else if k = 3 then (if s < 43200 then day - 1 else day) else match hv_t a t day 0 with
  | none => -2
  | some (u, l) => if k = 1 then (if s < u then day - 1 else day) else if s < u + l then day else day + 1
noncomputable def s_14 (a : Nat → Int32) (t t2 : Nat) (day s k : Int) : Int := if k = 0 then (day * 86400 + s - (a (50 * t + 3)).toInt + (a (50 * t2 + 3)).toInt + 86400000) / 86400 - 1000 else (day * 86400 + s - (a (50 * t + 3)).toInt + (a (50 * t2 + 3)).toInt + 86400000) % 86400
noncomputable def s_21 (a : Nat → Int32) (t : Nat) (day d2 s k : Int) : Int := match hv_t a t day 0, hv_t a t d2 0 with
  | none, _ => -100
  | some _, none => -100
  | some (_, l), some (u2, l2) => if ¬ (u2 ≤ s ∧ s < u2 + l2) then -100 else (if 12 < (s - u2) * 12 / l then 12 else (s - u2) * 12 / l) - (if k = 0 then 0 else (s - u2) * 12 / l2)
noncomputable def s_25 (a : Nat → Int32) (t : Nat) (day f k : Int) : Int := match hv_t a t day f with
  | none => -1000000
  | some (u, l) => if k = 0 then u + l / 2 else if f = 0 then u + l / 2 - 43200 else u + l / 2 - 86400
noncomputable def s_26 (a : Nat → Int32) (t : Nat) (day f n m : Int) : Int := if s_90 a t day f n = -2 then -1000000 else if s_90 a t day f m ≠ -2 then s_90 a t day f m - s_90 a t day f n else -1000000
section YW75
variable {a : Nat → Int32} {t t2 : Nat} {day d2 s f i k n m : Int}
theorem w_11 (B : yWb a) (ht : (t : Int) < (a 0).toInt) (hd : 0 ≤ day ∧ day ≤ 35999) (hi : 0 ≤ i ∧ i ≤ 5) : sp_11 a (Int32.ofInt (t : Int)) (Int32.ofInt day) (Int32.ofInt i) = s_11 a t day i := by
  have n4 := B.1
  unfold sp_11 s_11
  rw [y_ofn (show t ≤ 2147483647 by omega), yi_T (a := day) (by omega), yi_T (a := i) (by omega)]
  by_cases h5 : i = 5
  · rw [if_pos (by omega), if_pos h5]
  · rw [if_neg (by omega), if_neg h5, Int.toNat_natCast]
    rfl
theorem hv_bnd (B : yWb a) (ht : (t : Int) < (a 0).toInt) {d f b l : Int} (e : hv_t a t d f = some (b, l)) : 0 ≤ b ∧ b ≤ 86399 ∧ 1 ≤ l ∧ (f ≠ 1 → b + l ≤ 86399) ∧ (f = 1 → 1 ≤ b ∧ 86400 ≤ b + l ∧ b + l ≤ 172798) := tw_H_b (B.2.2 t ht).2 e
theorem hv_bnd2 (B : yWb a) (ht : (t : Int) < (a 0).toInt) {d f b l : Int} (e : hv_t a t d f = some (b, l)) : (0 ≤ b ∧ b ≤ 86399) ∧ 1 ≤ l ∧ l ≤ 172798 ∧ b + l ≤ 172798 := by
  obtain ⟨h1, h2, h3, h4, h5⟩ := hv_bnd B ht e
  by_cases c : f = 1
  · have := h5 c
    omega
  · have := h4 c
    omega
/-- what a second belongs to: bounds -/
theorem wt_bnd (B : yWb a) (ht : (t : Int) < (a 0).toInt) {d s d' f b l : Int} (hs : 0 ≤ s ∧ s ≤ 86399) (e : wt_T a t d s = some (d', f, b, l)) : (d' = d ∨ d' = d - 1) ∧ (f = 0 ∨ f = 1) ∧ hv_t a t d' f = some (b, l) ∧ (0 ≤ b ∧ b ≤ 86399) ∧ (1 ≤ l ∧ l ≤ 172798) ∧ 0 ≤ s + 86400 * (d - d') - b ∧ s + 86400 * (d - d') - b < l := by
  unfold wt_T at e
  cases h0 : hv_t a t d 0 with
  | none => rw [h0] at e; cases e
  | some r =>
    obtain ⟨b0, l0⟩ := r
    obtain ⟨v1, v2, v3, v4, v5⟩ := hv_bnd B ht h0
    have v4 := v4 (by decide)
    rw [h0] at e
    dsimp only at e
    by_cases z1 : s < b0
    · rw [if_pos z1] at e
      cases h1 : hv_t a t (d - 1) 1 with
      | none => rw [h1] at e; exact absurd e (by unfold wk_r; exact fun z => by cases z)
      | some r =>
        obtain ⟨b1, l1⟩ := r
        obtain ⟨w1, w2, w3, w4, w5⟩ := hv_bnd B ht h1
        have w5 := w5 rfl
        obtain ⟨-, b2, l2, g1, g2⟩ := tw_H_1 h1
        have g1 : hv_t a t (d - 1 + 1) 0 = some (b2, l2) := g1
        rw [show d - 1 + 1 = d by omega, h0] at g1
        cases g1
        rw [h1] at e
        unfold wk_r at e
        cases e
        exact ⟨.inr rfl, .inr rfl, h1, by omega, by omega, by omega, by omega⟩
    · rw [if_neg z1] at e
      by_cases z2 : s < b0 + l0
      · rw [if_pos z2] at e
        cases e
        exact ⟨.inl rfl, .inl rfl, h0, by omega, by omega, by omega, by omega⟩
      · rw [if_neg z2] at e
        cases h1 : hv_t a t d 1 with
        | none => rw [h1] at e; exact absurd e (by unfold wk_r; exact fun z => by cases z)
        | some r =>
          obtain ⟨b1, l1⟩ := r
          obtain ⟨w1, w2, w3, w4, w5⟩ := hv_bnd B ht h1
          have w5 := w5 rfl
          obtain ⟨⟨b2, l2, g1, g2⟩, -⟩ := tw_H_1 h1
          have g1 : hv_t a t d 0 = some (b2, l2) := g1
          rw [h0] at g1
          cases g1
          rw [h1] at e
          unfold wk_r at e
          cases e
          exact ⟨.inl rfl, .inr rfl, h1, by omega, by omega, by omega, by omega⟩
theorem y_spx {q e l : Int} (hq : 1 ≤ q ∧ q ≤ 3600) (he : 0 ≤ e ∧ e ≤ l) (hl : 1 ≤ l ∧ l ≤ 172798) : sp_x (Int32.ofInt q) (Int32.ofInt e) (Int32.ofInt l) = Int32.ofInt (e * 12 * q / l) := by
  unfold sp_x
  have m1 := yi_pb (a := e * 12) (b := q) (x := 172798 * 12) (y := 3600) (by omega) (by omega)
  have m0 : 0 ≤ e * 12 * q := Int.mul_nonneg (by omega) (by omega)
  rw [yl_i2l (a := e) (by omega), yl_i2l (a := q) (by omega), yl_i2l (a := l) (by omega), show (12 : Int64) = Int64.ofInt 12 from rfl, yl_mul, yl_mul, yl_div (by omega) (by omega), yl_l2i]
theorem w_12 (B : yWb a) (ht : (t : Int) < (a 0).toInt) (hd : 0 ≤ day ∧ day ≤ 35999) (hs : 0 ≤ s ∧ s ≤ 86399) (hi : 0 ≤ i ∧ i ≤ 5) : sp_12 a (Int32.ofInt (t : Int)) (Int32.ofInt day) (Int32.ofInt s) (Int32.ofInt i) = Int32.ofInt (s_12 a t day s i) := by
  have n4 := B.1
  have hq := B.2.1
  unfold sp_12 s_12
  rw [y_ofn (show t ≤ 2147483647 by omega), yi_T (a := day) (by omega), yi_T (a := s) (by omega), yi_T (a := i) (by omega), if_neg (by omega), Int.toNat_natCast]
  cases e : wt_T a t day s with
  | none => rfl
  | some p =>
    obtain ⟨d, f, b, l⟩ := p
    obtain ⟨-, -, -, -, b5, b6, b7⟩ := wt_bnd B ht hs e
    have pb := yp_b (q := (a 1).toInt) (l := l) (s := s + 86400 * (day - d) - b) hq b5.1 ⟨b6, by omega⟩
    show sp_k (a 1) (Int32.ofInt d) (Int32.ofInt f) (Int32.ofInt (s + 86400 * (day - d) - b)) (Int32.ofInt l) (Int32.ofInt i) = _
    have ex : sp_x (a 1) (Int32.ofInt (s + 86400 * (day - d) - b)) (Int32.ofInt l) = Int32.ofInt ((s + 86400 * (day - d) - b) * 12 * (a 1).toInt / l) := by
      have h9 := y_spx hq (e := s + 86400 * (day - d) - b) (l := l) ⟨b6, by omega⟩ b5
      rw [yi_of] at h9
      exact h9
    dsimp only
    unfold sp_k
    rw [yi_T (a := i) (by omega), ex]
    have eq1 : Int32.ofInt ((s + 86400 * (day - d) - b) * 12 * (a 1).toInt / l) / a 1 = Int32.ofInt ((s + 86400 * (day - d) - b) * 12 * (a 1).toInt / l / (a 1).toInt) := by
      have h9 := yi_div (a := (s + 86400 * (day - d) - b) * 12 * (a 1).toInt / l) (b := (a 1).toInt) (by omega) (by omega)
      rw [yi_of] at h9
      exact h9
    have eq2 : Int32.ofInt ((s + 86400 * (day - d) - b) * 12 * (a 1).toInt / l) - Int32.ofInt ((s + 86400 * (day - d) - b) * 12 * (a 1).toInt / l) / a 1 * a 1 = Int32.ofInt ((s + 86400 * (day - d) - b) * 12 * (a 1).toInt / l % (a 1).toInt) := by
      have h9 := yi_rem (a := (s + 86400 * (day - d) - b) * 12 * (a 1).toInt / l) (b := (a 1).toInt) (by omega) (by omega)
      rw [yi_of] at h9
      exact h9
    rw [eq2, eq1]
    by_cases c0 : i = 0
    · rw [if_pos c0, if_pos c0]
    · rw [if_neg c0, if_neg c0]
      by_cases c1 : i = 1
      · rw [if_pos c1, if_pos c1]
      · rw [if_neg c1, if_neg c1]
        by_cases c2 : i = 2
        · rw [if_pos c2, if_pos c2]
        · rw [if_neg c2, if_neg c2]
          by_cases c3 : i = 3
          · rw [if_pos c3, if_pos c3]
          · rw [if_neg c3, if_neg c3]
            by_cases c4 : i = 4
            · rw [if_pos c4, if_pos c4]
            · rw [if_neg c4, if_neg c4]
/-- the class's first second of a place, and W's -/
theorem y_spn {q l n : Int} (hq : 1 ≤ q ∧ q ≤ 3600) (hl : 1 ≤ l ∧ l ≤ 172798) (hn : 0 ≤ n ∧ n ≤ 12 * q - 1) : (sp_n (Int32.ofInt q) (Int32.ofInt l) (Int32.ofInt n)).toInt = (n * l + 12 * q - 1) / (12 * q) ∧ (sp_n (Int32.ofInt q) (Int32.ofInt l) (Int32.ofInt n)).toInt32 = Int32.ofInt ((n * l + 12 * q - 1) / (12 * q)) := by
  have m0 : 0 ≤ n * l := Int.mul_nonneg hn.1 (by omega)
  have m1 : n * l ≤ 43200 * 172798 := Int.mul_le_mul (by omega) hl.2 (by omega) (by omega)
  have e : sp_n (Int32.ofInt q) (Int32.ofInt l) (Int32.ofInt n) = Int64.ofInt ((n * l + 12 * q - 1) / (12 * q)) := by
    unfold sp_n
    rw [yl_i2l (a := n) (by omega), yl_i2l (a := q) (by omega), yl_i2l (a := l) (by omega), show (12 : Int64) = Int64.ofInt 12 from rfl, show (1 : Int64) = Int64.ofInt 1 from rfl, yl_mul, yl_mul, yl_add, yl_sub, yl_div (by omega) (by omega)]
  have b0 : 0 ≤ (n * l + 12 * q - 1) / (12 * q) := Int.ediv_nonneg (by omega) (by omega)
  have b1 : (n * l + 12 * q - 1) / (12 * q) ≤ n * l + 12 * q - 1 := Int.ediv_le_self _ (by omega)
  rw [e, yl_T (by omega), yl_l2i]
  exact ⟨rfl, rfl⟩
theorem y_spb {o : Option (Int × Int)} {q n : Int} (ho : ∀ u l, o = some (u, l) → 1 ≤ l ∧ l ≤ 172798) (hq : 1 ≤ q ∧ q ≤ 3600) (hn : 0 ≤ n ∧ n ≤ 12 * q - 1) : sp_b (Int32.ofInt q) (Int32.ofInt n) o = Int32.ofInt (s_b q n o) := by
  cases o with
  | none => rfl
  | some p =>
    obtain ⟨u, l⟩ := p
    have hl := ho u l rfl
    obtain ⟨e1, e2⟩ := y_spn hq hl hn
    show (if l ≤ (sp_n (Int32.ofInt q) (Int32.ofInt l) (Int32.ofInt n)).toInt then -2 else Int32.ofInt u + (sp_n (Int32.ofInt q) (Int32.ofInt l) (Int32.ofInt n)).toInt32) = Int32.ofInt (if yk q n l = l then -2 else u + yk q n l)
    rw [e1, e2]
    unfold yk
    by_cases c : l ≤ (n * l + 12 * q - 1) / (12 * q)
    · rw [if_pos c, if_pos (by omega)]
      rfl
    · rw [if_neg c, if_neg (by omega), yi_add, show min l ((n * l + 12 * q - 1) / (12 * q)) = (n * l + 12 * q - 1) / (12 * q) by omega]
theorem hv_ho (B : yWb a) (ht : (t : Int) < (a 0).toInt) {d f : Int} : ∀ u l, hv_t a t d f = some (u, l) → 1 ≤ l ∧ l ≤ 172798 := fun u l e => by
  have := hv_bnd2 B ht e
  omega
theorem w_90 (B : yWb a) (ht : (t : Int) < (a 0).toInt) (hd : 0 ≤ day ∧ day ≤ 35999) (hf : f = 0 ∨ f = 1) (hn : 0 ≤ n ∧ n ≤ 12 * (a 1).toInt - 1) : sp_90 a (Int32.ofInt (t : Int)) (Int32.ofInt day) (Int32.ofInt f) (Int32.ofInt n) = Int32.ofInt (s_90 a t day f n) := by
  have n4 := B.1
  have hq := B.2.1
  unfold sp_90 s_90
  rw [y_ofn (show t ≤ 2147483647 by omega), yi_T (a := day) (by omega), yi_T (a := f) (by omega), yi_T (a := n) (by omega), if_neg (by omega), Int.toNat_natCast]
  have h9 := y_spb (o := hv_t a t day f) (q := (a 1).toInt) (n := n) (hv_ho B ht) hq hn
  rw [yi_of] at h9
  exact h9
theorem s_b_b {o : Option (Int × Int)} {q n : Int} (ho : ∀ u l, o = some (u, l) → (0 ≤ u ∧ u ≤ 86399) ∧ 1 ≤ l ∧ l ≤ 172798) (hq : 1 ≤ q) (hn : 0 ≤ n) : s_b q n o = -2 ∨ (0 ≤ s_b q n o ∧ s_b q n o ≤ 259197) := by
  cases o with
  | none => exact Or.inl rfl
  | some p =>
    obtain ⟨u, l⟩ := p
    have h := ho u l rfl
    have k := yk_b (q := q) (n := n) (l := l) hq h.2.1 hn
    show (if yk q n l = l then (-2 : Int) else u + yk q n l) = -2 ∨ _
    by_cases c : yk q n l = l
    · rw [if_pos c]
      exact Or.inl rfl
    · rw [if_neg c]
      refine Or.inr ⟨?_, ?_⟩
      · show 0 ≤ (if yk q n l = l then (-2 : Int) else u + yk q n l)
        rw [if_neg c]
        omega
      · show (if yk q n l = l then (-2 : Int) else u + yk q n l) ≤ 259197
        rw [if_neg c]
        omega
theorem s_90_b (B : yWb a) (ht : (t : Int) < (a 0).toInt) (hn : 0 ≤ n) : s_90 a t day f n = -2 ∨ (0 ≤ s_90 a t day f n ∧ s_90 a t day f n ≤ 259197) := s_b_b (fun u l e => by have := hv_bnd2 B ht e; omega) B.2.1.1 hn
theorem w_26 (B : yWb a) (ht : (t : Int) < (a 0).toInt) (hd : 0 ≤ day ∧ day ≤ 35999) (hf : f = 0 ∨ f = 1) (hn : 0 ≤ n ∧ n ≤ 12 * (a 1).toInt - 1) (hm : 0 ≤ m ∧ m ≤ 12 * (a 1).toInt - 1) : sp_26 a (Int32.ofInt (t : Int)) (Int32.ofInt day) (Int32.ofInt f) (Int32.ofInt n) (Int32.ofInt m) = Int32.ofInt (s_26 a t day f n m) := by
  have n4 := B.1
  have hq := B.2.1
  have b1 := s_90_b (day := day) (f := f) B ht hn.1
  have b2 := s_90_b (day := day) (f := f) B ht hm.1
  unfold sp_26 s_26
  rw [y_ofn (show t ≤ 2147483647 by omega), yi_T (a := day) (by omega), yi_T (a := f) (by omega), yi_T (a := n) (by omega), yi_T (a := m) (by omega), if_neg (by omega), Int.toNat_natCast]
  have h9 := y_spb (o := hv_t a t day f) (q := (a 1).toInt) (n := n) (hv_ho B ht) hq hn
  have h8 := y_spb (o := hv_t a t day f) (q := (a 1).toInt) (n := m) (hv_ho B ht) hq hm
  rw [yi_of] at h9 h8
  rw [h9, h8]
  have u1 : s_b (a 1).toInt n (hv_t a t day f) = s_90 a t day f n := rfl
  have u2 : s_b (a 1).toInt m (hv_t a t day f) = s_90 a t day f m := rfl
  rw [u1, u2]
  unfold sp_d
  have z1 : Int32.ofInt (s_90 a t day f n) = -2 ↔ s_90 a t day f n = -2 := yi_eq (b := -2) (by omega) (by omega)
  have z2 : Int32.ofInt (s_90 a t day f m) = -2 ↔ s_90 a t day f m = -2 := yi_eq (b := -2) (by omega) (by omega)
  by_cases c1 : s_90 a t day f n = -2
  · rw [if_pos (z1.mpr c1), if_pos c1]
    rfl
  · rw [if_neg (mt z1.mp c1), if_neg c1]
    by_cases c2 : s_90 a t day f m = -2
    · rw [if_neg (fun z => z (z2.mpr c2)), if_neg (fun z => z c2)]
      rfl
    · rw [if_pos (mt z2.mp c2), if_pos c2, yi_sub]
theorem w_95 (B : yWb a) (ht : (t : Int) < (a 0).toInt) (hd : 0 ≤ day ∧ day ≤ 35999) (hs : 0 ≤ s ∧ s ≤ 86399) (hk : 0 ≤ k ∧ k ≤ 4) : sp_95 a (Int32.ofInt (t : Int)) (Int32.ofInt day) (Int32.ofInt s) (Int32.ofInt k) = Int32.ofInt (s_95 a t day s k) := by
  have n4 := B.1
  unfold sp_95 s_95
  rw [y_ofn (show t ≤ 2147483647 by omega), yi_T (a := day) (by omega), yi_T (a := s) (by omega), yi_T (a := k) (by omega)]
  have z0 : Int32.ofInt k = 0 ↔ k = 0 := yi_eq (b := 0) (by omega) (by omega)
  have z1 : Int32.ofInt k = 1 ↔ k = 1 := yi_eq (b := 1) (by omega) (by omega)
  have z3 : Int32.ofInt k = 3 ↔ k = 3 := yi_eq (b := 3) (by omega) (by omega)
  have zs : Int32.ofInt s < 43200 ↔ s < 43200 := yi_lt (b := 43200) (by omega) (by omega)
  have m1 : Int32.ofInt day - 1 = Int32.ofInt (day - 1) := yi_sub day 1
  have p1 : Int32.ofInt day + 1 = Int32.ofInt (day + 1) := yi_add day 1
  by_cases h4 : k = 4
  · rw [if_pos (by omega), if_pos h4]
    rfl
  rw [if_neg (by omega), if_neg h4, Int.toNat_natCast]
  by_cases c0 : k = 0
  · rw [if_pos (z0.mpr c0), if_pos c0]
  rw [if_neg (mt z0.mp c0), if_neg c0]
  by_cases c3 : k = 3
  · rw [if_pos (z3.mpr c3), if_pos c3]
    by_cases cs : s < 43200
    · rw [if_pos (zs.mpr cs), if_pos cs, m1]
    · rw [if_neg (mt zs.mp cs), if_neg cs]
  rw [if_neg (mt z3.mp c3), if_neg c3]
  unfold sp_15
  rw [yi_T (a := s) (by omega)]
  cases e : hv_t a t day 0 with
  | none => rfl
  | some p =>
    obtain ⟨u, l⟩ := p
    dsimp only
    by_cases c1 : k = 1
    · rw [if_pos (z1.mpr c1), if_pos c1]
      by_cases cs : s < u
      · rw [if_pos cs, if_pos cs, m1]
      · rw [if_neg cs, if_neg cs]
    · rw [if_neg (mt z1.mp c1), if_neg c1]
      by_cases cs : s < u + l
      · rw [if_pos cs, if_pos cs]
      · rw [if_neg cs, if_neg cs, p1]
theorem w_14 (B : yWb a) (ht : (t : Int) < (a 0).toInt) (ht2 : (t2 : Int) < (a 0).toInt) (hd : 0 ≤ day ∧ day ≤ 35999) (hs : 0 ≤ s ∧ s ≤ 86399) (hk : k = 0 ∨ k = 1) : sp_14 a (Int32.ofInt (t : Int)) (Int32.ofInt day) (Int32.ofInt s) (Int32.ofInt (t2 : Int)) (Int32.ofInt k) = s_14 a t t2 day s k := by
  have n4 := B.1
  unfold sp_14 s_14
  rw [y_ofn (show t ≤ 2147483647 by omega), y_ofn (show t2 ≤ 2147483647 by omega), yi_T (a := day) (by omega), yi_T (a := s) (by omega), yi_T (a := k) (by omega), if_neg (by omega), Int.toNat_natCast, Int.toNat_natCast]
  have z0 : Int32.ofInt k = 0 ↔ k = 0 := yi_eq (b := 0) (by omega) (by omega)
  by_cases c0 : k = 0
  · rw [if_pos (z0.mpr c0), if_pos c0]
    omega
  · rw [if_neg (mt z0.mp c0), if_neg c0]
    omega
theorem w_21 (B : yWb a) (ht : (t : Int) < (a 0).toInt) (hd : 0 ≤ day ∧ day ≤ 35999) (hd2 : 0 ≤ d2 ∧ d2 ≤ 35999) (hs : 0 ≤ s ∧ s ≤ 86399) (hk : k = 0 ∨ k = 1) : sp_21 a (Int32.ofInt (t : Int)) (Int32.ofInt day) (Int32.ofInt d2) (Int32.ofInt s) (Int32.ofInt k) = s_21 a t day d2 s k := by
  have n4 := B.1
  unfold sp_21 s_21
  rw [y_ofn (show t ≤ 2147483647 by omega), yi_T (a := day) (by omega), yi_T (a := d2) (by omega), yi_T (a := s) (by omega), yi_T (a := k) (by omega), if_neg (by omega), Int.toNat_natCast]
  have z0 : Int32.ofInt k = 0 ↔ k = 0 := yi_eq (b := 0) (by omega) (by omega)
  unfold sp_j
  rw [yi_T (a := s) (by omega)]
  cases e : hv_t a t day 0 with
  | none => rfl
  | some p =>
    cases e2 : hv_t a t d2 0 with
    | none => rfl
    | some p2 =>
      dsimp only
      by_cases c0 : k = 0
      · rw [if_pos (z0.mpr c0), if_pos c0]
      · rw [if_neg (mt z0.mp c0), if_neg c0]
theorem w_25 (B : yWb a) (ht : (t : Int) < (a 0).toInt) (hd : 0 ≤ day ∧ day ≤ 35999) (hf : f = 0 ∨ f = 1) (hk : k = 0 ∨ k = 1) : sp_25 a (Int32.ofInt (t : Int)) (Int32.ofInt day) (Int32.ofInt f) (Int32.ofInt k) = s_25 a t day f k := by
  have n4 := B.1
  unfold sp_25 s_25
  rw [y_ofn (show t ≤ 2147483647 by omega), yi_T (a := day) (by omega), yi_T (a := f) (by omega), yi_T (a := k) (by omega), if_neg (by omega), Int.toNat_natCast]
  have z0 : Int32.ofInt k = 0 ↔ k = 0 := yi_eq (b := 0) (by omega) (by omega)
  have zf : Int32.ofInt f = 0 ↔ f = 0 := yi_eq (b := 0) (by omega) (by omega)
  unfold sp_m
  cases e : hv_t a t day f with
  | none => rfl
  | some p =>
    dsimp only
    by_cases c0 : k = 0
    · rw [if_pos (z0.mpr c0), if_pos c0]
    · rw [if_neg (mt z0.mp c0), if_neg c0]
      by_cases cf : f = 0
      · rw [if_pos (zf.mpr cf), if_pos cf]
      · rw [if_neg (mt zf.mp cf), if_neg cf]
end YW75
