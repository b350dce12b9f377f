/-! QUESTIONS OF MANY DAYS, by the model's words: spread, best, growth, candle, alike -/
theorem hp_loop2 {τ : Type} {B : τ → τ ⊕ (Int32 × aa_G)} {dd : Int32 × aa_G} {x : Int32} (P : Nat → τ → Prop) (h : ∀ n s, P n s → (∃ s', B s = .inl s' ∧ ∃ m, m < n ∧ P m s') ∨ ∃ Y, B s = .inr (x, Y)) : ∀ (n : Nat) (s : τ), P n s → (lp_f dd B s).1 = x := by
  intro n
  induction n using Nat.strongRecOn with
  | _ n ih =>
    intro s p
    rcases h n s p with ⟨s', e, m, hm, p'⟩ | ⟨Y, e⟩
    · rw [lp_l e]
      exact ih m hm s' p'
    · rw [lp_r e]
/-- length of a light, -1 -/
def s_l (a : Nat → Int32) (t : Nat) (d : Int) : Int := y_el (hv_t a t d 0) (-1) (fun _ l => l)
section YM84
variable {Y : aa_G} {a : Nat → Int32} {t : Nat} {day : Int}
theorem s_l_b (B : yWb a) (ht : (t : Int) < (a 0).toInt) {d : Int} : s_l a t d = -1 ∨ (1 ≤ s_l a t d ∧ s_l a t d ≤ 86399) := by
  unfold s_l
  cases e : hv_t a t d 0 with
  | none => exact Or.inl rfl
  | some p =>
    obtain ⟨u, l⟩ := p
    have h := hv_bnd B ht e
    have := h.2.2.2.1 (by decide)
    refine Or.inr ?_
    show 1 ≤ l ∧ l ≤ 86399
    omega
theorem s_l_no {d : Int} (h : ¬ (0 ≤ d ∧ d ≤ 35999)) : s_l a t d = -1 := by
  have e : hv_t a t d 0 = none := by
    unfold hv_t tw_H
    exact if_pos h
  unfold s_l
  rw [e]
  rfl
theorem y_222 {Z : aa_G} (W : wd_g Z) (e : Z 541 = a) (ht : (t : Int) < (a 0).toInt) (hd : -2147483648 ≤ day ∧ day ≤ 2147483647) : (fn_222 Z (Int32.ofNat t) (Int32.ofInt day)).1 = Int32.ofInt (s_l a t day) ∧ wd_g (fn_222 Z (Int32.ofNat t) (Int32.ofInt day)).2 ∧ (fn_222 Z (Int32.ofNat t) (Int32.ofInt day)).2 541 = a := by
  subst e
  obtain ⟨w1, w2, -, w4⟩ := lv_len (t := t) (Int32.ofInt day) W ht
  rw [yi_T hd] at w4
  refine ⟨?_, w1, w2⟩
  generalize (fn_222 Z (Int32.ofNat t) (Int32.ofInt day)).1 = v at w4
  unfold s_l
  cases e : hv_t (Z 541) t day 0 with
  | none =>
    rw [e] at w4
    exact w4
  | some p =>
    rw [e] at w4
    have w4 : v.toInt = p.2 := w4
    rw [← yi_of v, w4]
    rfl
/-- an hour's two ends, on the model's side -/
theorem y_229 {Z : aa_G} (W : wd_g Z) (e : Z 541 = a) (ht : (t : Int) < (a 0).toInt) (hd : -2147483648 ≤ day ∧ day ≤ 2147483647) {f x : Int} (hf : f = 0 ∨ f = 1) (hx : 0 ≤ x ∧ x ≤ 11) : wd_g (fn_229 Z (Int32.ofNat t) (Int32.ofInt day) (Int32.ofInt (12 * f + x))).2 ∧ (fn_229 Z (Int32.ofNat t) (Int32.ofInt day) (Int32.ofInt (12 * f + x))).2 541 = a ∧ ((hv_t a t day f = none ∧ (fn_229 Z (Int32.ofNat t) (Int32.ofInt day) (Int32.ofInt (12 * f + x))).1 = 0) ∨ ∃ u l, hv_t a t day f = some (u, l) ∧ (fn_229 Z (Int32.ofNat t) (Int32.ofInt day) (Int32.ofInt (12 * f + x))).1 = 1 ∧ (fn_229 Z (Int32.ofNat t) (Int32.ofInt day) (Int32.ofInt (12 * f + x))).2 540 29 = Int32.ofInt (u + s_h x l) ∧ (fn_229 Z (Int32.ofNat t) (Int32.ofInt day) (Int32.ofInt (12 * f + x))).2 540 30 = Int32.ofInt (u + s_h (x + 1) l)) := by
  subst e
  have e12 : Int32.ofInt (12 * f + x) / 12 = Int32.ofInt f := by
    rw [show (12 : Int32) = Int32.ofInt 12 from rfl, yi_div (by omega) (by omega)]
    congr 1
    omega
  have em : Int32.ofInt (12 * f + x) - Int32.ofInt f * 12 = Int32.ofInt x := by
    rw [show (12 : Int32) = Int32.ofInt 12 from rfl, yi_mul, yi_sub]
    congr 1
    omega
  obtain ⟨w1, w2, w3⟩ := lv_hour (t := t) (Int32.ofInt day) (Int32.ofInt (12 * f + x)) W ht (by rw [e12]; rcases hf with rfl | rfl; exact .inl rfl; exact .inr rfl)
  rw [e12, em, yi_T hd, yi_T (a := f) (by omega)] at w3
  refine ⟨w1, w2, ?_⟩
  generalize fn_229 Z (Int32.ofNat t) (Int32.ofInt day) (Int32.ofInt (12 * f + x)) = G at w3 ⊢
  cases e : hv_t (Z 541) t day f with
  | none =>
    rw [e] at w3
    exact Or.inl ⟨rfl, w3⟩
  | some p =>
    obtain ⟨u, l⟩ := p
    have hl := hv_bnd2 (yWb_of W) ht e
    rw [e] at w3
    obtain ⟨v1, p, q, v2, v3, v4, v5⟩ := w3
    have m0 : 0 ≤ x * l := Int.mul_nonneg hx.1 (by omega)
    have m1 := yi_pb (a := x) (b := l) (x := 11) (y := 172798) (by omega) (by omega)
    have m2 : (x + 1) * l = x * l + l := by rw [Int.add_mul, Int.one_mul]
    refine Or.inr ⟨u, l, rfl, v1, ?_, ?_⟩
    · rw [v4, show p = Int32.ofInt u by rw [← v2, yi_of], show q = Int32.ofInt l by rw [← v3, yi_of], show (11 : Int32) = Int32.ofInt 11 from rfl, show (12 : Int32) = Int32.ofInt 12 from rfl, yi_mul, yi_add, yi_div (by omega) (by omega), yi_add]
      rfl
    · rw [v5, show p = Int32.ofInt u by rw [← v2, yi_of], show q = Int32.ofInt l by rw [← v3, yi_of], show (11 : Int32) = Int32.ofInt 11 from rfl, show (12 : Int32) = Int32.ofInt 12 from rfl, show (1 : Int32) = Int32.ofInt 1 from rfl, yi_add, yi_mul, yi_add, yi_div (by omega) (by omega), yi_add]
      rfl
/-- best -/
def bs_v (hour i u l : Int) : Int := if i = 0 then s_h (hour + 1) l - s_h hour l else if i = 1 then -(u + s_h hour l) else u + s_h hour l
noncomputable def bs_f (a : Nat → Int32) (t : Nat) (hour i : Int) (d : Nat) (s : Int × Int) : Int × Int := match hv_t a t (d : Int) 0 with
  | none => s
  | some (u, l) => if s.1 ≠ -2 ∧ bs_v hour i u l ≤ s.2 then s else ((d : Int), bs_v hour i u l)
theorem s_h_b {x l : Int} (hx : 0 ≤ x ∧ x ≤ 12) (hl : 0 ≤ l ∧ l ≤ 172798) : 0 ≤ s_h x l ∧ s_h x l ≤ l := by
  have m0 : 0 ≤ x * l := Int.mul_nonneg hx.1 hl.1
  have m1 : x * l ≤ 12 * l := Int.mul_le_mul_of_nonneg_right hx.2 hl.1
  unfold s_h
  omega
theorem bs_v_b (B : yWb a) (ht : (t : Int) < (a 0).toInt) {d hour i u l : Int} (hh : 0 ≤ hour ∧ hour ≤ 11) (e : hv_t a t d 0 = some (u, l)) : -200000 ≤ bs_v hour i u l ∧ bs_v hour i u l ≤ 200000 := by
  have h := hv_bnd B ht e
  have h4 := h.2.2.2.1 (by decide)
  have k1 := s_h_b (x := hour) (l := l) (by omega) (by omega)
  have k2 := s_h_b (x := hour + 1) (l := l) (by omega) (by omega)
  unfold bs_v
  split
  · omega
  · split <;> omega
theorem m_232 (W : wd_g Y) (ht : (t : Int) < (Y 541 0).toInt) (hd : 0 ≤ day ∧ day ≤ 35999) {many hour i : Int} (hm : 1 ≤ many ∧ many ≤ 360) (hh : 0 ≤ hour ∧ hour ≤ 11) (hi : 0 ≤ i ∧ i ≤ 2) : (fn_232 Y (Int32.ofInt (t : Int)) (Int32.ofInt day) (Int32.ofInt many) (Int32.ofInt hour) (Int32.ofInt i)).1 = Int32.ofInt (fd_i (bs_f (Y 541) t hour i) day.toNat many.toNat (-2, 0)).1 := by
  have B := yWb_of W
  unfold fn_232
  rw [← yi_n t, if_neg (y_192 W ht), if_neg (show ¬ fn_154 (Int32.ofInt many) 1 360 = 0 from y_154 (a := many) (lo := 1) (hi := 360) (by omega) (by omega) (by omega) hm), if_neg (y_193 hd), if_neg (show ¬ fn_154 (Int32.ofInt hour) 0 11 = 0 from y_154 (a := hour) (lo := 0) (hi := 11) (by omega) (by omega) (by omega) hh), if_pos (show ¬ fn_154 (Int32.ofInt i) 0 2 = 0 from y_154 (a := i) (lo := 0) (hi := 2) (by omega) (by omega) (by omega) hi)]
  unfold fn_232_59
  have en : Int32.ofInt day + Int32.ofInt many = Int32.ofInt (day + many) := yi_add day many
  have z0 : Int32.ofInt i = 0 ↔ i = 0 := yi_eq (b := 0) (by omega) (by omega)
  have z1 : Int32.ofInt i = 1 ↔ i = 1 := yi_eq (b := 1) (by omega) (by omega)
  refine Eq.trans ?_ (hp_loop (dd := (0, Y)) (B := fun z : (aa_G × Int32 × Int32 × Int32) => fn_232_59b z.1 (Int32.ofNat t) (Int32.ofInt day) (Int32.ofInt many) (Int32.ofInt hour) (Int32.ofInt i) z.2.1 z.2.2.1 z.2.2.2) (enc := fun X (s : Int × Int) d => (X, Int32.ofInt s.1, Int32.ofInt s.2, Int32.ofInt (d : Int))) (F := bs_f (Y 541) t hour i) (E := fun s => Int32.ofInt s.1) (n := day.toNat + many.toNat) (P := fun X => wd_g X ∧ X 541 = Y 541) (I := fun d s => day.toNat ≤ d ∧ (-2 ≤ s.1 ∧ s.1 ≤ 40000) ∧ (-200000 ≤ s.2 ∧ s.2 ≤ 200000)) ?_ ?_ many.toNat day.toNat Y (-2, 0) ⟨W, rfl⟩ ⟨Nat.le_refl _, by omega, by omega⟩ (by omega))
  · dsimp only
    rw [show ((day.toNat : Nat) : Int) = day by omega]
    rfl
  · rintro X ⟨b, m⟩ d ⟨p1, p2⟩ ⟨i1, i2, i3⟩ hdn
    dsimp only at i2 i3
    obtain ⟨w1, w2, w3⟩ := y_229 (t := t) (day := (d : Int)) (f := 0) (x := hour) p1 p2 ht (by omega) (Or.inl rfl) hh
    rw [show 12 * (0 : Int) + hour = hour by omega] at w1 w2 w3
    have kd : ¬ Int32.ofInt (day + many) ≤ Int32.ofInt (d : Int) := mt (yi_le (by omega) (by omega)).mp (by omega)
    have es : Int32.ofInt (d : Int) + 1 = Int32.ofInt ((d + 1 : Nat) : Int) := yi_add d 1
    dsimp only
    unfold fn_232_59b
    rw [en, if_neg kd]
    generalize fn_229 X (Int32.ofNat t) (Int32.ofInt (d : Int)) (Int32.ofInt hour) = G at w1 w2 w3 ⊢
    refine ⟨G.2, ?_, ⟨w1, w2⟩, by omega, ?_⟩
    · unfold fn_232_76 fn_232_117 fn_232_136 fn_232_144 bs_f
      rw [es]
      rcases w3 with ⟨e1, e2⟩ | ⟨u, l, e1, e2, e3, e4⟩
      · rw [e1, if_neg (fun z => z e2)]
      · rw [e1, if_pos (by rw [e2]; decide), e3, e4]
        have vb := bs_v_b (i := i) B ht hh e1
        have ev : (if Int32.ofInt i ≠ 0 then if Int32.ofInt i ≠ 1 then Int32.ofInt (u + s_h hour l) else -Int32.ofInt (u + s_h hour l) else Int32.ofInt (u + s_h (hour + 1) l) - Int32.ofInt (u + s_h hour l)) = Int32.ofInt (bs_v hour i u l) := by
          unfold bs_v
          by_cases c0 : i = 0
          · rw [if_neg (fun z => z (z0.mpr c0)), if_pos c0, yi_sub]
            congr 1
            omega
          · rw [if_pos (mt z0.mp c0), if_neg c0]
            by_cases c1 : i = 1
            · rw [if_neg (fun z => z (z1.mpr c1)), if_pos c1, yi_neg]
            · rw [if_pos (mt z1.mp c1), if_neg c1]
        have e9 : ∀ v : Int32, v = Int32.ofInt (bs_v hour i u l) → (if Int32.ofInt b = -2 then (Sum.inl (G.2, Int32.ofInt (d : Int), v, Int32.ofInt ((d + 1 : Nat) : Int)) : (aa_G × Int32 × Int32 × Int32) ⊕ (Int32 × aa_G)) else if Int32.ofInt m < v then Sum.inl (G.2, Int32.ofInt (d : Int), v, Int32.ofInt ((d + 1 : Nat) : Int)) else Sum.inl (G.2, Int32.ofInt b, Int32.ofInt m, Int32.ofInt ((d + 1 : Nat) : Int))) = Sum.inl (G.2, Int32.ofInt (if b ≠ -2 ∧ bs_v hour i u l ≤ m then (b, m) else ((d : Int), bs_v hour i u l)).1, Int32.ofInt (if b ≠ -2 ∧ bs_v hour i u l ≤ m then (b, m) else ((d : Int), bs_v hour i u l)).2, Int32.ofInt ((d + 1 : Nat) : Int)) := by
          rintro v rfl
          have zb : Int32.ofInt b = -2 ↔ b = -2 := yi_eq (b := -2) (by omega) (by omega)
          have zm : Int32.ofInt m < Int32.ofInt (bs_v hour i u l) ↔ m < bs_v hour i u l := yi_lt (by omega) (by omega)
          by_cases c : b = -2
          · rw [if_pos (zb.mpr c), if_neg (fun z => z.1 c)]
          · rw [if_neg (mt zb.mp c)]
            by_cases c2 : bs_v hour i u l ≤ m
            · rw [if_neg (mt zm.mp (by omega)), if_pos ⟨c, c2⟩]
            · rw [if_pos (zm.mpr (by omega)), if_neg (fun z => c2 z.2)]
        dsimp only
        by_cases c0 : i = 0
        · rw [if_neg (fun z => z (z0.mpr c0))]
          rw [if_neg (fun z => z (z0.mpr c0))] at ev
          exact e9 _ ev
        · rw [if_pos (mt z0.mp c0)]
          rw [if_pos (mt z0.mp c0)] at ev
          by_cases c1 : i = 1
          · rw [if_neg (fun z => z (z1.mpr c1))]
            rw [if_neg (fun z => z (z1.mpr c1))] at ev
            exact e9 _ ev
          · rw [if_pos (mt z1.mp c1)]
            rw [if_pos (mt z1.mp c1)] at ev
            exact e9 _ ev
    · unfold bs_f
      cases e1 : hv_t (Y 541) t (d : Int) 0 with
      | none => exact ⟨i2, i3⟩
      | some p =>
        obtain ⟨u, l⟩ := p
        have vb := bs_v_b (i := i) B ht hh e1
        dsimp only
        split
        · exact ⟨i2, i3⟩
        · dsimp only
          omega
  · rintro X ⟨b, m⟩ ⟨p1, p2⟩ ⟨i1, i2, i3⟩
    refine ⟨X, ?_⟩
    dsimp only
    unfold fn_232_59b
    rw [en, if_pos ((yi_le (by omega) (by omega)).mpr (by omega))]
/-- growth: together, the most, on which day -/
noncomputable def gr_f (a : Nat → Int32) (t : Nat) (d : Nat) (s : Int × Int × Int) : Int × Int × Int := if s_l a t (d : Int) = -1 ∨ s_l a t ((d : Int) - 1) = -1 then s else (s.1 + (s_l a t (d : Int) - s_l a t ((d : Int) - 1)), if s_l a t (d : Int) - s_l a t ((d : Int) - 1) ≤ s.2.1 then s.2 else (s_l a t (d : Int) - s_l a t ((d : Int) - 1), (d : Int)))
theorem m_243 (W : wd_g Y) (ht : (t : Int) < (Y 541 0).toInt) (hd : 0 ≤ day ∧ day ≤ 35999) {many i : Int} (hm : 1 ≤ many ∧ many ≤ 360) (hi : 0 ≤ i ∧ i ≤ 2) : (fn_243 Y (Int32.ofInt (t : Int)) (Int32.ofInt day) (Int32.ofInt many) (Int32.ofInt i)).1 = Int32.ofInt ((fun s : Int × Int × Int => if i = 0 then s.1 else if i = 1 then s.2.1 else s.2.2) (fd_i (gr_f (Y 541) t) day.toNat many.toNat (0, -1000000, -2))) := by
  have B := yWb_of W
  unfold fn_243
  rw [← yi_n t, if_neg (y_192 W ht), if_neg (show ¬ fn_154 (Int32.ofInt many) 1 360 = 0 from y_154 (a := many) (lo := 1) (hi := 360) (by omega) (by omega) (by omega) hm), if_neg (y_193 hd), if_pos (show ¬ fn_154 (Int32.ofInt i) 0 2 = 0 from y_154 (a := i) (lo := 0) (hi := 2) (by omega) (by omega) (by omega) hi)]
  unfold fn_243_55
  have en : Int32.ofInt day + Int32.ofInt many = Int32.ofInt (day + many) := yi_add day many
  have z0 : Int32.ofInt i = 0 ↔ i = 0 := yi_eq (b := 0) (by omega) (by omega)
  have z1 : Int32.ofInt i = 1 ↔ i = 1 := yi_eq (b := 1) (by omega) (by omega)
  refine Eq.trans ?_ (hp_loop (dd := (0, Y)) (B := fun z : (aa_G × Int32 × Int32 × Int32 × Int32) => fn_243_55b z.1 (Int32.ofNat t) (Int32.ofInt day) (Int32.ofInt many) (Int32.ofInt i) z.2.1 z.2.2.1 z.2.2.2.1 z.2.2.2.2) (enc := fun X (s : Int × Int × Int) d => (X, Int32.ofInt s.1, Int32.ofInt s.2.1, Int32.ofInt s.2.2, Int32.ofInt (d : Int))) (F := gr_f (Y 541) t) (E := fun s => Int32.ofInt (if i = 0 then s.1 else if i = 1 then s.2.1 else s.2.2)) (n := day.toNat + many.toNat) (P := fun X => wd_g X ∧ X 541 = Y 541) (I := fun d s => day.toNat ≤ d ∧ (-100000 * ((d : Int) - day) ≤ s.1 ∧ s.1 ≤ 100000 * ((d : Int) - day)) ∧ (-1000000 ≤ s.2.1 ∧ s.2.1 ≤ 200000)) ?_ ?_ many.toNat day.toNat Y (0, -1000000, -2) ⟨W, rfl⟩ ⟨Nat.le_refl _, by dsimp only; omega, by dsimp only; omega⟩ (by omega))
  · dsimp only
    rw [show ((day.toNat : Nat) : Int) = day by omega]
    rfl
  · rintro X ⟨b, m, o⟩ d ⟨p1, p2⟩ ⟨i1, i2, i3⟩ hdn
    dsimp only at i2 i3
    obtain ⟨w1, w2, w3⟩ := y_222 (t := t) (day := (d : Int)) p1 p2 ht (by omega)
    have l1 := s_l_b (d := (d : Int)) B ht
    have l2 := s_l_b (d := (d : Int) - 1) B ht
    have kd : ¬ Int32.ofInt (day + many) ≤ Int32.ofInt (d : Int) := mt (yi_le (by omega) (by omega)).mp (by omega)
    have es : Int32.ofInt (d : Int) + 1 = Int32.ofInt ((d + 1 : Nat) : Int) := yi_add d 1
    have em : Int32.ofInt (d : Int) - 1 = Int32.ofInt ((d : Int) - 1) := yi_sub d 1
    dsimp only
    unfold fn_243_55b
    rw [en, if_neg kd]
    generalize fn_222 X (Int32.ofNat t) (Int32.ofInt (d : Int)) = G at w1 w2 w3 ⊢
    unfold fn_243_70
    rw [em]
    obtain ⟨v1, v2, v3⟩ := y_222 (t := t) (day := (d : Int) - 1) w2 w3 ht (by omega)
    generalize fn_222 G.2 (Int32.ofNat t) (Int32.ofInt ((d : Int) - 1)) = H at v1 v2 v3 ⊢
    unfold gr_f
    rw [w1, v1]
    generalize s_l (Y 541) t (d : Int) = A at l1 ⊢
    generalize s_l (Y 541) t ((d : Int) - 1) = C at l2 ⊢
    refine ⟨H.2, ?_, ⟨v2, v3⟩, by omega, ?_⟩
    · unfold fn_243_81 fn_243_132
      have zA : Int32.ofInt A = -1 ↔ A = -1 := yi_eq (b := -1) (by omega) (by omega)
      have zC : Int32.ofInt C = -1 ↔ C = -1 := yi_eq (b := -1) (by omega) (by omega)
      have zm : Int32.ofInt m < Int32.ofInt (A - C) ↔ m < A - C := yi_lt (by omega) (by omega)
      rw [es, yi_sub, yi_add]
      by_cases cA : A = -1
      · rw [if_pos (zA.mpr cA), if_pos (Or.inl cA)]
      · rw [if_neg (mt zA.mp cA)]
        by_cases cC : C = -1
        · rw [if_neg (fun z => z (zC.mpr cC)), if_pos (Or.inr cC)]
        · rw [if_pos (mt zC.mp cC), if_neg (show ¬ (A = -1 ∨ C = -1) by omega)]
          by_cases c : A - C ≤ m
          · rw [if_neg (mt zm.mp (by omega))]
            dsimp only
            rw [if_pos c]
          · rw [if_pos (zm.mpr (by omega))]
            dsimp only
            rw [if_neg c]
    · split
      · dsimp only
        omega
      · dsimp only
        split
        · dsimp only
          omega
        · dsimp only
          omega
  · rintro X ⟨b, m, o⟩ ⟨p1, p2⟩ ⟨i1, i2, i3⟩
    refine ⟨X, ?_⟩
    dsimp only
    unfold fn_243_55b
    rw [en, if_pos ((yi_le (by omega) (by omega)).mpr (by omega))]
    by_cases c0 : i = 0
    · rw [if_neg (fun z => z (z0.mpr c0)), if_pos c0]
    · rw [if_pos (mt z0.mp c0), if_neg c0]
      by_cases c1 : i = 1
      · rw [if_neg (fun z => z (z1.mpr c1)), if_pos c1]
      · rw [if_pos (mt z1.mp c1), if_neg c1]
/-- candle: what is left as a day begins; the day -/
noncomputable def cd_g (a : Nat → Int32) (t : Nat) : Nat → Int → Int → Int
  | 0, _, _ => -2
  | n + 1, d, left => if 35999 < d then -2 else if s_l a t d = -1 then cd_g a t n (d + 1) left else if left ≤ s_l a t d / 12 then d else cd_g a t n (d + 1) (left - s_l a t d / 12)
noncomputable def s_126 (a : Nat → Int32) (t : Nat) (one day : Int) : Int := if s_l a t one = -1 then -2 else cd_g a t 360 day (s_l a t one)
theorem y_234 (hd : 0 ≤ day ∧ day ≤ 35999) : fn_234 (Int32.ofInt day) = Int32.ofInt (min (day + 359) 35999) := by
  unfold fn_234
  rw [show (360 : Int32) = Int32.ofInt 360 from rfl, show (1 : Int32) = Int32.ofInt 1 from rfl, yi_add, yi_sub, show day + 360 - 1 = day + 359 by omega]
  have z : Int32.ofInt (day + 359) ≤ 35999 ↔ day + 359 ≤ 35999 := yi_le (b := 35999) (by omega) (by omega)
  by_cases c : day + 359 ≤ 35999
  · rw [if_pos (z.mpr c), show min (day + 359) 35999 = day + 359 by omega]
  · rw [if_neg (mt z.mp c), show min (day + 359) 35999 = 35999 by omega]
    rfl
theorem m_233 (W : wd_g Y) (ht : (t : Int) < (Y 541 0).toInt) {one : Int} (ho : 0 ≤ one ∧ one ≤ 35999) (hd : 0 ≤ day ∧ day ≤ 35999) : (fn_233 Y (Int32.ofInt (t : Int)) (Int32.ofInt one) (Int32.ofInt day)).1 = Int32.ofInt (s_126 (Y 541) t one day) := by
  have B := yWb_of W
  unfold fn_233
  rw [← yi_n t, if_neg (y_191 W ht ho), if_pos (y_193 hd)]
  obtain ⟨w1, w2, w3⟩ := y_222 (t := t) (day := one) W rfl ht (by omega)
  have l0 := s_l_b (d := one) B ht
  generalize fn_222 Y (Int32.ofNat t) (Int32.ofInt one) = G at w1 w2 w3 ⊢
  unfold fn_233_24 s_126
  rw [w1]
  generalize s_l (Y 541) t one = v at l0 ⊢
  have key : ∀ (n : Nat) (X : aa_G) (left : Int) (d : Int), wd_g X → X 541 = Y 541 → (left = -1 ∨ (0 ≤ left ∧ left ≤ 86399)) → d + n = day + 360 → day ≤ d → (fn_233_29 X (Int32.ofNat t) (Int32.ofInt day) (Int32.ofInt left) (Int32.ofInt d)).1 = Int32.ofInt (if left = -1 then -2 else cd_g (Y 541) t n d left) := by
    intro n
    induction n with
    | zero =>
      intro X left d p1 p2 hl e hd2
      have e0 : (if left = -1 then (-2 : Int) else cd_g (Y 541) t 0 d left) = -2 := by split <;> rfl
      rw [e0]
      refine congrArg Prod.fst (?_ : _ = ((-2 : Int32), X))
      unfold fn_233_29
      refine lp_r ?_
      dsimp only
      unfold fn_233_29b
      rw [y_234 hd, if_pos ((yi_lt (by omega) (by omega)).mpr (by omega))]
    | succ n ih =>
      intro X left d p1 p2 hl e hd2
      have zl : Int32.ofInt left = -1 ↔ left = -1 := yi_eq (b := -1) (by omega) (by omega)
      have zd : Int32.ofInt (min (day + 359) 35999) < Int32.ofInt d ↔ 35999 < d := (yi_lt (by omega) (by omega)).trans (by omega)
      have es : Int32.ofInt d + 1 = Int32.ofInt (d + 1) := yi_add d 1
      by_cases cl : left = -1
      · rw [if_pos cl]
        refine congrArg Prod.fst (?_ : _ = ((-2 : Int32), X))
        unfold fn_233_29
        refine lp_r ?_
        dsimp only
        unfold fn_233_29b
        rw [if_pos (zl.mpr cl)]
        split <;> rfl
      · rw [if_neg cl]
        show _ = Int32.ofInt (if 35999 < d then -2 else if s_l (Y 541) t d = -1 then cd_g (Y 541) t n (d + 1) left else if left ≤ s_l (Y 541) t d / 12 then d else cd_g (Y 541) t n (d + 1) (left - s_l (Y 541) t d / 12))
        by_cases cd : 35999 < d
        · rw [if_pos cd]
          refine congrArg Prod.fst (?_ : _ = ((-2 : Int32), X))
          unfold fn_233_29
          refine lp_r ?_
          dsimp only
          unfold fn_233_29b
          rw [y_234 hd, if_pos (zd.mpr cd)]
        · rw [if_neg cd]
          obtain ⟨u1, u2, u3⟩ := y_222 (t := t) (day := d) p1 p2 ht (by omega)
          have l1 := s_l_b (d := d) B ht
          have body : fn_233_29b X (Int32.ofNat t) (Int32.ofInt day) (Int32.ofInt left) (Int32.ofInt d) = fn_233_51 (fn_222 X (Int32.ofNat t) (Int32.ofInt d)).2 (Int32.ofNat t) (Int32.ofInt day) (Int32.ofInt left) (Int32.ofInt d) (fn_222 X (Int32.ofNat t) (Int32.ofInt d)).1 := by
            unfold fn_233_29b
            rw [y_234 hd, if_neg (mt zd.mp cd), if_neg (mt zl.mp cl)]
          generalize fn_222 X (Int32.ofNat t) (Int32.ofInt d) = H at u1 u2 u3 body ⊢
          unfold fn_233_51 fn_233_85 at body
          rw [u1, es] at body
          generalize s_l (Y 541) t d = w at l1 body ⊢
          have zw : Int32.ofInt w = -1 ↔ w = -1 := yi_eq (b := -1) (by omega) (by omega)
          by_cases cw : w = -1
          · rw [if_neg (fun z => z (zw.mpr cw))] at body
            rw [if_pos cw]
            have h9 := ih H.2 left (d + 1) u2 u3 hl (by omega) (by omega)
            rw [if_neg cl] at h9
            rw [← h9]
            refine congrArg Prod.fst ?_
            unfold fn_233_29
            exact lp_l body
          · rw [if_pos (mt zw.mp cw)] at body
            rw [if_neg cw]
            have e12 : Int32.ofInt w / 12 = Int32.ofInt (w / 12) := yi_div (b := 12) (by omega) (by omega)
            have zc : Int32.ofInt (w / 12) < Int32.ofInt left ↔ w / 12 < left := yi_lt (by omega) (by omega)
            rw [e12] at body
            by_cases c : left ≤ w / 12
            · rw [if_neg (mt zc.mp (by omega))] at body
              rw [if_pos c]
              refine congrArg Prod.fst (?_ : _ = (Int32.ofInt d, H.2))
              unfold fn_233_29
              exact lp_r body
            · rw [if_pos (zc.mpr (by omega)), yi_sub] at body
              rw [if_neg c]
              have h9 := ih H.2 (left - w / 12) (d + 1) u2 u3 (by omega) (by omega) (by omega)
              rw [if_neg (by omega)] at h9
              rw [← h9]
              refine congrArg Prod.fst ?_
              unfold fn_233_29
              exact lp_l body
  exact key 360 G.2 v day w2 w3 (by omega) (by omega) (Int.le_refl _)
/-- alike: the first day whose light is as long -/
noncomputable def al_g (a : Nat → Int32) (t : Nat) (v : Int) : Nat → Int → Int
  | 0, _ => -2
  | n + 1, d => if 35999 < d then -2 else if s_l a t d = v then d else al_g a t v n (d + 1)
noncomputable def s_127 (a : Nat → Int32) (t : Nat) (one day : Int) : Int := if s_l a t one = -1 then -2 else al_g a t (s_l a t one) 360 day
theorem m_242 (W : wd_g Y) (ht : (t : Int) < (Y 541 0).toInt) {one : Int} (ho : 0 ≤ one ∧ one ≤ 35999) (hd : 0 ≤ day ∧ day ≤ 35999) : (fn_242 Y (Int32.ofInt (t : Int)) (Int32.ofInt one) (Int32.ofInt day)).1 = Int32.ofInt (s_127 (Y 541) t one day) := by
  have B := yWb_of W
  unfold fn_242
  rw [← yi_n t, if_neg (y_191 W ht ho), if_pos (y_193 hd)]
  obtain ⟨w1, w2, w3⟩ := y_222 (t := t) (day := one) W rfl ht (by omega)
  have l0 := s_l_b (d := one) B ht
  generalize fn_222 Y (Int32.ofNat t) (Int32.ofInt one) = G at w1 w2 w3 ⊢
  unfold fn_242_24 s_127
  rw [w1]
  generalize s_l (Y 541) t one = v at l0 ⊢
  have zl : Int32.ofInt v = -1 ↔ v = -1 := yi_eq (b := -1) (by omega) (by omega)
  have key : ∀ (n : Nat) (X : aa_G) (d : Int), wd_g X → X 541 = Y 541 → d + n = day + 360 → day ≤ d → (fn_242_29 X (Int32.ofNat t) (Int32.ofInt day) (Int32.ofInt v) (Int32.ofInt d)).1 = Int32.ofInt (if v = -1 then -2 else al_g (Y 541) t v n d) := by
    intro n
    induction n with
    | zero =>
      intro X d p1 p2 e hd2
      have e0 : (if v = -1 then (-2 : Int) else al_g (Y 541) t v 0 d) = -2 := by split <;> rfl
      rw [e0]
      refine congrArg Prod.fst (?_ : _ = ((-2 : Int32), X))
      unfold fn_242_29
      refine lp_r ?_
      dsimp only
      unfold fn_242_29b
      rw [y_234 hd, if_pos ((yi_lt (by omega) (by omega)).mpr (by omega))]
    | succ n ih =>
      intro X d p1 p2 e hd2
      have zd : Int32.ofInt (min (day + 359) 35999) < Int32.ofInt d ↔ 35999 < d := (yi_lt (by omega) (by omega)).trans (by omega)
      have es : Int32.ofInt d + 1 = Int32.ofInt (d + 1) := yi_add d 1
      by_cases cl : v = -1
      · rw [if_pos cl]
        refine congrArg Prod.fst (?_ : _ = ((-2 : Int32), X))
        unfold fn_242_29
        refine lp_r ?_
        dsimp only
        unfold fn_242_29b
        rw [if_pos (zl.mpr cl)]
        split <;> rfl
      · rw [if_neg cl]
        show _ = Int32.ofInt (if 35999 < d then -2 else if s_l (Y 541) t d = v then d else al_g (Y 541) t v n (d + 1))
        by_cases cd : 35999 < d
        · rw [if_pos cd]
          refine congrArg Prod.fst (?_ : _ = ((-2 : Int32), X))
          unfold fn_242_29
          refine lp_r ?_
          dsimp only
          unfold fn_242_29b
          rw [y_234 hd, if_pos (zd.mpr cd)]
        · rw [if_neg cd]
          obtain ⟨u1, u2, u3⟩ := y_222 (t := t) (day := d) p1 p2 ht (by omega)
          have l1 := s_l_b (d := d) B ht
          have body : fn_242_29b X (Int32.ofNat t) (Int32.ofInt day) (Int32.ofInt v) (Int32.ofInt d) = fn_242_51 (fn_222 X (Int32.ofNat t) (Int32.ofInt d)).2 (Int32.ofNat t) (Int32.ofInt day) (Int32.ofInt v) (Int32.ofInt d) (fn_222 X (Int32.ofNat t) (Int32.ofInt d)).1 := by
            unfold fn_242_29b
            rw [y_234 hd, if_neg (mt zd.mp cd), if_neg (mt zl.mp cl)]
          generalize fn_222 X (Int32.ofNat t) (Int32.ofInt d) = H at u1 u2 u3 body ⊢
          unfold fn_242_51 at body
          rw [u1, es] at body
          generalize s_l (Y 541) t d = w at l1 body ⊢
          have zw : Int32.ofInt w = Int32.ofInt v ↔ w = v := yi_eq (by omega) (by omega)
          by_cases cw : w = v
          · rw [if_neg (fun z => z (zw.mpr cw))] at body
            rw [if_pos cw]
            refine congrArg Prod.fst (?_ : _ = (Int32.ofInt d, H.2))
            unfold fn_242_29
            exact lp_r body
          · rw [if_pos (mt zw.mp cw)] at body
            rw [if_neg cw]
            have h9 := ih H.2 (d + 1) u2 u3 (by omega) (by omega)
            rw [if_neg cl] at h9
            rw [← h9]
            refine congrArg Prod.fst ?_
            unfold fn_242_29
            exact lp_l body
  exact key 360 G.2 day w2 w3 (by omega) (Int.le_refl _)
end YM84
