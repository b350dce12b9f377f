/-! QUESTIONS OF TWO TOWNS, by the model's words: shared, meet -/
section YM87
variable {Y : aa_G} {a : Nat → Int32} {t t2 : Nat} {day : Int}
theorem y_194 {Z : aa_G} (W : wd_g Z) (e : Z 541 = a) (ht : (t : Int) < (a 0).toInt) (hd : -2147483648 ≤ day ∧ day ≤ 2147483647) : wd_g (fn_194 Z (Int32.ofNat t) (Int32.ofInt day) 0).2 ∧ (fn_194 Z (Int32.ofNat t) (Int32.ofInt day) 0).2 541 = a ∧ ((hv_t a t day 0 = none ∧ (fn_194 Z (Int32.ofNat t) (Int32.ofInt day) 0).1 = 0) ∨ ∃ u l, hv_t a t day 0 = some (u, l) ∧ (fn_194 Z (Int32.ofNat t) (Int32.ofInt day) 0).1 = 1 ∧ (fn_194 Z (Int32.ofNat t) (Int32.ofInt day) 0).2 540 17 = Int32.ofInt u ∧ (fn_194 Z (Int32.ofNat t) (Int32.ofInt day) 0).2 540 18 = Int32.ofInt l) := by
  subst e
  obtain ⟨w1, w2, -, w4⟩ := lv_half (t := t) (Int32.ofInt day) 0 W ht (Or.inl rfl)
  rw [yi_T hd] at w4
  have w4 : lv_m (fn_194 Z (Int32.ofNat t) (Int32.ofInt day) 0).1 (fn_194 Z (Int32.ofNat t) (Int32.ofInt day) 0).2 (hv_t (Z 541) t day 0) := w4
  refine ⟨w1, w2, ?_⟩
  generalize fn_194 Z (Int32.ofNat t) (Int32.ofInt day) 0 = G at w4 ⊢
  cases e : hv_t (Z 541) t day 0 with
  | none =>
    rw [e] at w4
    exact Or.inl ⟨rfl, lv_m0 w4⟩
  | some p =>
    obtain ⟨u, l⟩ := p
    rw [e] at w4
    obtain ⟨v1, v2, v3⟩ := w4
    exact Or.inr ⟨u, l, rfl, v1, by rw [← v2, yi_of], by rw [← v3, yi_of]⟩
/-- from one town's day to another's -/
noncomputable def y_by (a : Nat → Int32) (t t2 : Nat) (day d : Int) : Int := 86400 * (d - day) - (a (50 * t2 + 3)).toInt + (a (50 * t + 3)).toInt
def sh_d (x l L0 L1 : Int) : Int := (if L1 ≤ x + l then L1 else x + l) - (if x ≤ L0 then L0 else x)
noncomputable def sh_f (a : Nat → Int32) (t t2 : Nat) (day L0 L1 : Int) (j : Nat) (s : Int × Int) : Int × Int := match hv_t a t2 (day - 1 + j) 0 with
  | none => s
  | some (u, l) => if 0 < sh_d (u + y_by a t t2 day (day - 1 + j)) l L0 L1 then (s.1 + sh_d (u + y_by a t t2 day (day - 1 + j)) l L0 L1, s.2 + 1) else s
noncomputable def s_135 (a : Nat → Int32) (t t2 : Nat) (day i : Int) : Int := match hv_t a t day 0 with
  | none => 0
  | some (u, l) => (fun s : Int × Int => if i = 0 then s.1 else s.2) (fd_i (sh_f a t t2 day u (u + l)) 0 3 (0, 0))
theorem y_off {Z : aa_G} (e : Z 541 = a) (ht : t < 4) : fn_209 Z (Int32.ofNat t) = Int32.ofInt (a (50 * t + 3)).toInt := by rw [y_209 ht, e, yi_of]
theorem m_235 (W : wd_g Y) (ht : (t : Int) < (Y 541 0).toInt) (ht2 : (t2 : Int) < (Y 541 0).toInt) (hd : 0 ≤ day ∧ day ≤ 35999) {i : Int} (hi : i = 0 ∨ i = 1) : (fn_235 Y (Int32.ofInt (4 * (t : Int) + t2)) (Int32.ofInt day) (Int32.ofInt i)).1 = Int32.ofInt (s_135 (Y 541) t t2 day i) := by
  have n4 := W.1
  have B := yWb_of W
  obtain ⟨k1, k2⟩ := y_key (t := t) (t2 := t2) (by omega) (by omega)
  have o1 := (B.2.2 t ht).1
  have o2 := (B.2.2 t2 ht2).1
  unfold fn_235
  rw [if_neg (show ¬ fn_154 (Int32.ofInt (4 * (t : Int) + t2)) 0 15 = 0 from y_154 (a := 4 * (t : Int) + t2) (lo := 0) (hi := 15) (by omega) (by omega) (by omega) (by omega)), k1, k2, if_neg (y_192 W ht), if_neg (y_192 W ht2), if_neg (y_193 hd), if_pos (show ¬ fn_154 (Int32.ofInt i) 0 1 = 0 from y_154 (a := i) (lo := 0) (hi := 1) (by omega) (by omega) (by omega) (by omega))]
  obtain ⟨w1, w2, w3⟩ := y_194 (t := t) (day := day) W rfl ht (by omega)
  generalize fn_194 Y (Int32.ofNat t) (Int32.ofInt day) 0 = G at w1 w2 w3 ⊢
  unfold fn_235_57 s_135
  rcases w3 with ⟨e1, e2⟩ | ⟨u, l, e1, e2, e3, e4⟩
  · rw [e1, e2, if_neg (fun z => z rfl)]
    rfl
  · have hl := hv_bnd B ht e1
    have hl4 := hl.2.2.2.1 (by decide)
    rw [e1, e2, if_pos (by decide), e3, e4, yi_add, show Int32.ofInt day - 1 = Int32.ofInt (day - 1) from yi_sub day 1]
    dsimp only
    unfold fn_235_90
    have z0 : Int32.ofInt i = 0 ↔ i = 0 := yi_eq (b := 0) (by omega) (by omega)
    have e9 : Int32.ofInt day + 1 = Int32.ofInt (day + 1) := yi_add day 1
    refine Eq.trans ?_ (hp_loop (dd := (0, G.2)) (B := fun z : (aa_G × Int32 × Int32 × Int32) => fn_235_90b z.1 (Int32.ofInt (4 * (t : Int) + t2)) (Int32.ofInt day) (Int32.ofInt i) (Int32.ofInt u) (Int32.ofInt (u + l)) z.2.1 z.2.2.1 z.2.2.2) (enc := fun X (s : Int × Int) j => (X, Int32.ofInt s.1, Int32.ofInt s.2, Int32.ofInt (day - 1 + (j : Int)))) (F := sh_f (Y 541) t t2 day u (u + l)) (E := fun s => Int32.ofInt (if i = 0 then s.1 else s.2)) (n := 3) (P := fun X => wd_g X ∧ X 541 = Y 541) (I := fun _ _ => True) ?_ ?_ 3 0 G.2 (0, 0) ⟨w1, w2⟩ trivial rfl)
    · try dsimp only
      rw [show day - 1 + ((0 : Nat) : Int) = day - 1 by omega]
      rfl
    · rintro X ⟨A, C⟩ j ⟨p1, p2⟩ - hj
      obtain ⟨d, ed⟩ : ∃ d, d = day - 1 + (j : Int) := ⟨_, rfl⟩
      have es : Int32.ofInt d + 1 = Int32.ofInt (day - 1 + ((j + 1 : Nat) : Int)) := (yi_add d 1).trans (congrArg Int32.ofInt (by omega))
      have kd : ¬ Int32.ofInt (day + 1) < Int32.ofInt d := mt (yi_lt (by omega) (by omega)).mp (by omega)
      obtain ⟨v1, v2, v3⟩ := y_194 (t := t2) (day := d) p1 p2 ht2 (by omega)
      dsimp only
      unfold sh_f
      rw [← ed]
      unfold fn_235_90b
      rw [e9, if_neg kd, k1, k2]
      generalize fn_194 X (Int32.ofNat t2) (Int32.ofInt d) 0 = H at v1 v2 v3 ⊢
      refine ⟨H.2, ?_, ⟨v1, v2⟩, trivial⟩
      unfold fn_235_108 fn_235_168 fn_235_182 fn_235_203
      rcases v3 with ⟨q1, q2⟩ | ⟨x, y, q1, q2, q3, q4⟩
      · rw [q1, q2, if_neg (fun z => z rfl), es]
      · have hx := hv_bnd B ht2 q1
        have hx4 := hx.2.2.2.1 (by decide)
        have hby : -259200 ≤ y_by (Y 541) t t2 day d ∧ y_by (Y 541) t t2 day d ≤ 259200 := by
          unfold y_by
          omega
        have eb : Int32.ofInt x + (Int32.ofInt d - Int32.ofInt day) * 86400 - fn_209 H.2 (Int32.ofNat t2) + fn_209 H.2 (Int32.ofNat t) = Int32.ofInt (x + y_by (Y 541) t t2 day d) := by
          rw [y_off v2 (by omega), y_off v2 (by omega), show (86400 : Int32) = Int32.ofInt 86400 from rfl, yi_sub, yi_mul, yi_add, yi_sub, yi_add]
          congr 1
          unfold y_by
          omega
        rw [q1, q2, if_pos (by decide), q3, q4, k1, k2, eb]
        dsimp only
        have hX0 : -400000 ≤ x + y_by (Y 541) t t2 day d ∧ x + y_by (Y 541) t t2 day d ≤ 400000 := by omega
        generalize x + y_by (Y 541) t t2 day d = X0 at *
        rw [yi_add, es]
        have c1 : Int32.ofInt (u + l) ≤ Int32.ofInt (X0 + y) ↔ u + l ≤ X0 + y := yi_le (by omega) (by omega)
        have c2 : Int32.ofInt X0 ≤ Int32.ofInt u ↔ X0 ≤ u := yi_le (by omega) (by omega)
        have fin_ : ∀ hi lo : Int, -1000000 ≤ hi ∧ hi ≤ 1000000 → -1000000 ≤ lo ∧ lo ≤ 1000000 → (if 0 < Int32.ofInt hi - Int32.ofInt lo then (Sum.inl (H.2, Int32.ofInt A + (Int32.ofInt hi - Int32.ofInt lo), Int32.ofInt C + 1, Int32.ofInt (day - 1 + ((j + 1 : Nat) : Int))) : (aa_G × Int32 × Int32 × Int32) ⊕ (Int32 × aa_G)) else Sum.inl (H.2, Int32.ofInt A, Int32.ofInt C, Int32.ofInt (day - 1 + ((j + 1 : Nat) : Int)))) = Sum.inl (H.2, Int32.ofInt (if 0 < hi - lo then (A + (hi - lo), C + 1) else (A, C)).1, Int32.ofInt (if 0 < hi - lo then (A + (hi - lo), C + 1) else (A, C)).2, Int32.ofInt (day - 1 + ((j + 1 : Nat) : Int))) := by
          intro hi lo h1 h2
          have z : (0 : Int32) < Int32.ofInt (hi - lo) ↔ 0 < hi - lo := yi_lt (a := 0) (by omega) (by omega)
          rw [yi_sub]
          by_cases c : 0 < hi - lo
          · rw [if_pos (z.mpr c), if_pos c, yi_add, show Int32.ofInt C + 1 = Int32.ofInt (C + 1) from yi_add C 1]
          · rw [if_neg (mt z.mp c), if_neg c]
        unfold sh_d
        by_cases h1 : u + l ≤ X0 + y
        · rw [if_pos (c1.mpr h1), if_pos h1]
          by_cases h2 : X0 ≤ u
          · rw [if_pos (c2.mpr h2), if_pos h2]
            exact fin_ _ _ (by omega) (by omega)
          · rw [if_neg (mt c2.mp h2), if_neg h2]
            exact fin_ _ _ (by omega) (by omega)
        · rw [if_neg (mt c1.mp h1), if_neg h1]
          by_cases h2 : X0 ≤ u
          · rw [if_pos (c2.mpr h2), if_pos h2]
            exact fin_ _ _ (by omega) (by omega)
          · rw [if_neg (mt c2.mp h2), if_neg h2]
            exact fin_ _ _ (by omega) (by omega)
    · rintro X ⟨A, C⟩ ⟨p1, p2⟩ -
      refine ⟨X, ?_⟩
      dsimp only
      unfold fn_235_90b
      rw [e9, if_pos ((yi_lt (by omega) (by omega)).mpr (by omega))]
      by_cases c0 : i = 0
      · rw [if_neg (fun z => z (z0.mpr c0)), if_pos c0]
      · rw [if_pos (mt z0.mp c0), if_neg c0]
/-- meet -/
def me_v (lo hi : Int) (s : Int × Int) : Int × Int := if hi ≤ lo then s else if s.1 = -1000000 ∨ lo < s.1 then (lo, hi - lo) else s
theorem me_v_b {lo hi : Int} {s : Int × Int} (h : -1000000 ≤ s.1 ∧ s.1 ≤ 1000000) (hl : -1000000 ≤ lo ∧ lo ≤ 1000000) : -1000000 ≤ (me_v lo hi s).1 ∧ (me_v lo hi s).1 ≤ 1000000 := by
  unfold me_v
  split
  · exact h
  · split
    · exact hl
    · exact h
noncomputable def me_f (a : Nat → Int32) (t t2 : Nat) (day A0 A1 f x : Int) (j : Nat) (s : Int × Int) : Int × Int := match hv_t a t2 (day - 4 + j) f with
  | none => s
  | some (u, l) => me_v (if u + s_h x l + y_by a t t2 day (day - 4 + j) ≤ A0 then A0 else u + s_h x l + y_by a t t2 day (day - 4 + j)) (if A1 ≤ u + s_h (x + 1) l + y_by a t t2 day (day - 4 + j) then A1 else u + s_h (x + 1) l + y_by a t t2 day (day - 4 + j)) s
noncomputable def s_132 (a : Nat → Int32) (t t2 : Nat) (f1 x1 f2 x2 day i : Int) : Int := match hv_t a t day f1 with
  | none => -1000000
  | some (u, l) => (fun s : Int × Int => if i = 0 then s.1 else if s.1 = -1000000 then -1000000 else s.2) (fd_i (me_f a t t2 day (u + s_h x1 l) (u + s_h (x1 + 1) l) f2 x2) 0 9 (-1000000, 0))
theorem m_228 (W : wd_g Y) (ht : (t : Int) < (Y 541 0).toInt) (ht2 : (t2 : Int) < (Y 541 0).toInt) (hd : 0 ≤ day ∧ day ≤ 35999) {f1 x1 f2 x2 i : Int} (hf1 : f1 = 0 ∨ f1 = 1) (hx1 : 0 ≤ x1 ∧ x1 ≤ 11) (hf2 : f2 = 0 ∨ f2 = 1) (hx2 : 0 ≤ x2 ∧ x2 ≤ 11) (hi : i = 0 ∨ i = 1) : (fn_228 Y (Int32.ofInt (4 * (t : Int) + t2)) (Int32.ofInt (12 * f1 + x1)) (Int32.ofInt (12 * f2 + x2)) (Int32.ofInt day) (Int32.ofInt i)).1 = Int32.ofInt (s_132 (Y 541) t t2 f1 x1 f2 x2 day i) := by
  have n4 := W.1
  have B := yWb_of W
  obtain ⟨k1, k2⟩ := y_key (t := t) (t2 := t2) (by omega) (by omega)
  have o1 := (B.2.2 t ht).1
  have o2 := (B.2.2 t2 ht2).1
  unfold fn_228
  rw [if_neg (show ¬ fn_154 (Int32.ofInt (4 * (t : Int) + t2)) 0 15 = 0 from y_154 (a := 4 * (t : Int) + t2) (lo := 0) (hi := 15) (by omega) (by omega) (by omega) (by omega)), k1, k2, if_neg (y_192 W ht), if_neg (y_192 W ht2), if_neg (show ¬ fn_154 (Int32.ofInt (12 * f1 + x1)) 0 23 = 0 from y_154 (a := 12 * f1 + x1) (lo := 0) (hi := 23) (by omega) (by omega) (by omega) (by omega)), if_neg (show ¬ fn_154 (Int32.ofInt (12 * f2 + x2)) 0 23 = 0 from y_154 (a := 12 * f2 + x2) (lo := 0) (hi := 23) (by omega) (by omega) (by omega) (by omega)), if_neg (y_193 hd), if_pos (show ¬ fn_154 (Int32.ofInt i) 0 1 = 0 from y_154 (a := i) (lo := 0) (hi := 1) (by omega) (by omega) (by omega) (by omega))]
  obtain ⟨w1, w2, w3⟩ := y_229 (t := t) (day := day) (f := f1) (x := x1) W rfl ht (by omega) hf1 hx1
  generalize fn_229 Y (Int32.ofNat t) (Int32.ofInt day) (Int32.ofInt (12 * f1 + x1)) = G at w1 w2 w3 ⊢
  unfold fn_228_82 s_132
  rcases w3 with ⟨e1, e2⟩ | ⟨u, l, e1, e2, e3, e4⟩
  · rw [e1, e2, if_neg (fun z => z rfl)]
    rfl
  · have hl := hv_bnd2 B ht e1
    have hA := s_h_b (x := x1) (l := l) (by omega) (by omega)
    have hA' := s_h_b (x := x1 + 1) (l := l) (by omega) (by omega)
    rw [e1, e2, if_pos (by decide), e3, e4, show Int32.ofInt day - 4 = Int32.ofInt (day - 4) from yi_sub day 4]
    dsimp only
    have hA0 : 0 ≤ u + s_h x1 l ∧ u + s_h x1 l ≤ 300000 := by omega
    have hA1 : 0 ≤ u + s_h (x1 + 1) l ∧ u + s_h (x1 + 1) l ≤ 300000 := by omega
    generalize u + s_h x1 l = A0 at *
    generalize u + s_h (x1 + 1) l = A1 at *
    unfold fn_228_115
    have z0 : Int32.ofInt i = 0 ↔ i = 0 := yi_eq (b := 0) (by omega) (by omega)
    have e9 : Int32.ofInt day + 4 = Int32.ofInt (day + 4) := yi_add day 4
    refine Eq.trans ?_ (hp_loop (dd := (0, G.2)) (B := fun z : (aa_G × Int32 × Int32 × Int32) => fn_228_115b z.1 (Int32.ofInt (4 * (t : Int) + t2)) (Int32.ofInt (12 * f2 + x2)) (Int32.ofInt day) (Int32.ofInt i) (Int32.ofInt A0) (Int32.ofInt A1) z.2.1 z.2.2.1 z.2.2.2) (enc := fun X (s : Int × Int) j => (X, Int32.ofInt s.1, Int32.ofInt s.2, Int32.ofInt (day - 4 + (j : Int)))) (F := me_f (Y 541) t t2 day A0 A1 f2 x2) (E := fun s => Int32.ofInt (if i = 0 then s.1 else if s.1 = -1000000 then -1000000 else s.2)) (n := 9) (P := fun X => wd_g X ∧ X 541 = Y 541) (I := fun _ s => -1000000 ≤ s.1 ∧ s.1 ≤ 1000000) ?_ ?_ 9 0 G.2 (-1000000, 0) ⟨w1, w2⟩ ⟨by decide, by decide⟩ rfl)
    · try dsimp only
      rw [show day - 4 + ((0 : Nat) : Int) = day - 4 by omega]
      rfl
    · rintro X ⟨A, C⟩ j ⟨p1, p2⟩ hI hj
      dsimp only at hI
      obtain ⟨d, ed⟩ : ∃ d, d = day - 4 + (j : Int) := ⟨_, rfl⟩
      have es : Int32.ofInt d + 1 = Int32.ofInt (day - 4 + ((j + 1 : Nat) : Int)) := (yi_add d 1).trans (congrArg Int32.ofInt (by omega))
      have kd : ¬ Int32.ofInt (day + 4) < Int32.ofInt d := mt (yi_lt (by omega) (by omega)).mp (by omega)
      obtain ⟨v1, v2, v3⟩ := y_229 (t := t2) (day := d) (f := f2) (x := x2) p1 p2 ht2 (by omega) hf2 hx2
      dsimp only
      unfold me_f
      rw [← ed]
      unfold fn_228_115b
      rw [e9, if_neg kd, k1, k2]
      generalize fn_229 X (Int32.ofNat t2) (Int32.ofInt d) (Int32.ofInt (12 * f2 + x2)) = H at v1 v2 v3 ⊢
      refine ⟨H.2, ?_, ⟨v1, v2⟩, ?_⟩
      · unfold fn_228_134 fn_228_190 fn_228_216 fn_228_243 fn_228_254
        rcases v3 with ⟨q1, q2⟩ | ⟨x, y, q1, q2, q3, q4⟩
        · rw [q1, q2, if_neg (fun z => z rfl), es]
        · have hx := hv_bnd2 B ht2 q1
          have hB := s_h_b (x := x2) (l := y) (by omega) (by omega)
          have hB' := s_h_b (x := x2 + 1) (l := y) (by omega) (by omega)
          have hby : -500000 ≤ y_by (Y 541) t t2 day d ∧ y_by (Y 541) t t2 day d ≤ 500000 := by
            unfold y_by
            omega
          have eb : (Int32.ofInt d - Int32.ofInt day) * 86400 - fn_209 H.2 (Int32.ofNat t2) + fn_209 H.2 (Int32.ofNat t) = Int32.ofInt (y_by (Y 541) t t2 day d) := by
            rw [y_off v2 (by omega), y_off v2 (by omega), show (86400 : Int32) = Int32.ofInt 86400 from rfl, yi_sub, yi_mul, yi_sub, yi_add]
            congr 1
            unfold y_by
            omega
          rw [q1, q2, if_pos (by decide), q3, q4, k1, k2, eb]
          dsimp only
          rw [yi_add, yi_add, es]
          have hP : -900000 ≤ x + s_h x2 y + y_by (Y 541) t t2 day d ∧ x + s_h x2 y + y_by (Y 541) t t2 day d ≤ 900000 := by omega
          have hQ : -900000 ≤ x + s_h (x2 + 1) y + y_by (Y 541) t t2 day d ∧ x + s_h (x2 + 1) y + y_by (Y 541) t t2 day d ≤ 900000 := by omega
          generalize x + s_h x2 y + y_by (Y 541) t t2 day d = P at *
          generalize x + s_h (x2 + 1) y + y_by (Y 541) t t2 day d = Q at *
          have c1 : Int32.ofInt P ≤ Int32.ofInt A0 ↔ P ≤ A0 := yi_le (by omega) (by omega)
          have c2 : Int32.ofInt A1 ≤ Int32.ofInt Q ↔ A1 ≤ Q := yi_le (by omega) (by omega)
          have fin_ : ∀ lo hi : Int, -1000000 ≤ hi ∧ hi ≤ 1000000 → -1000000 ≤ lo ∧ lo ≤ 1000000 → (if Int32.ofInt hi ≤ Int32.ofInt lo then (Sum.inl (H.2, Int32.ofInt A, Int32.ofInt C, Int32.ofInt (day - 4 + ((j + 1 : Nat) : Int))) : (aa_G × Int32 × Int32 × Int32) ⊕ (Int32 × aa_G)) else if Int32.ofInt A = -1000000 then Sum.inl (H.2, Int32.ofInt lo, Int32.ofInt hi - Int32.ofInt lo, Int32.ofInt (day - 4 + ((j + 1 : Nat) : Int))) else if Int32.ofInt lo < Int32.ofInt A then Sum.inl (H.2, Int32.ofInt lo, Int32.ofInt hi - Int32.ofInt lo, Int32.ofInt (day - 4 + ((j + 1 : Nat) : Int))) else Sum.inl (H.2, Int32.ofInt A, Int32.ofInt C, Int32.ofInt (day - 4 + ((j + 1 : Nat) : Int)))) = Sum.inl (H.2, Int32.ofInt (me_v lo hi (A, C)).1, Int32.ofInt (me_v lo hi (A, C)).2, Int32.ofInt (day - 4 + ((j + 1 : Nat) : Int))) := by
            intro lo hi h1 h2
            have y1 : Int32.ofInt hi ≤ Int32.ofInt lo ↔ hi ≤ lo := yi_le (by omega) (by omega)
            have y2 : Int32.ofInt A = -1000000 ↔ A = -1000000 := yi_eq (b := -1000000) (by omega) (by omega)
            have y3 : Int32.ofInt lo < Int32.ofInt A ↔ lo < A := yi_lt (by omega) (by omega)
            unfold me_v
            rw [yi_sub]
            by_cases b1 : hi ≤ lo
            · rw [if_pos (y1.mpr b1), if_pos b1]
            · rw [if_neg (mt y1.mp b1), if_neg b1]
              by_cases b2 : A = -1000000
              · rw [if_pos (y2.mpr b2), if_pos (Or.inl b2)]
              · rw [if_neg (mt y2.mp b2)]
                by_cases b3 : lo < A
                · rw [if_pos (y3.mpr b3), if_pos (Or.inr b3)]
                · rw [if_neg (mt y3.mp b3), if_neg (show ¬ (A = -1000000 ∨ lo < A) by omega)]
          by_cases h1 : P ≤ A0
          · rw [if_pos (c1.mpr h1), if_pos h1]
            by_cases h2 : A1 ≤ Q
            · rw [if_pos (c2.mpr h2), if_pos h2]
              exact fin_ _ _ (by omega) (by omega)
            · rw [if_neg (mt c2.mp h2), if_neg h2]
              exact fin_ _ _ (by omega) (by omega)
          · rw [if_neg (mt c1.mp h1), if_neg h1]
            by_cases h2 : A1 ≤ Q
            · rw [if_pos (c2.mpr h2), if_pos h2]
              exact fin_ _ _ (by omega) (by omega)
            · rw [if_neg (mt c2.mp h2), if_neg h2]
              exact fin_ _ _ (by omega) (by omega)
      · cases q1 : hv_t (Y 541) t2 d f2 with
        | none => exact hI
        | some p =>
          obtain ⟨x, y⟩ := p
          have hx := hv_bnd2 B ht2 q1
          have hB := s_h_b (x := x2) (l := y) (by omega) (by omega)
          have hby : -500000 ≤ y_by (Y 541) t t2 day d ∧ y_by (Y 541) t t2 day d ≤ 500000 := by
            unfold y_by
            omega
          have hP : -900000 ≤ x + s_h x2 y + y_by (Y 541) t t2 day d ∧ x + s_h x2 y + y_by (Y 541) t t2 day d ≤ 900000 := by omega
          dsimp only
          generalize x + s_h x2 y + y_by (Y 541) t t2 day d = P at *
          exact me_v_b hI (by split <;> omega)
    · rintro X ⟨A, C⟩ ⟨p1, p2⟩ hI
      dsimp only at hI
      refine ⟨X, ?_⟩
      dsimp only
      unfold fn_228_115b
      have y2 : Int32.ofInt A = -1000000 ↔ A = -1000000 := yi_eq (b := -1000000) (by omega) (by omega)
      rw [e9, if_pos ((yi_lt (by omega) (by omega)).mpr (by omega))]
      by_cases c0 : i = 0
      · rw [if_pos (z0.mpr c0), if_pos c0]
      · rw [if_neg (mt z0.mp c0), if_neg c0]
        by_cases c1 : A = -1000000
        · rw [if_neg (fun z => z (y2.mpr c1)), if_pos c1, c1]
        · rw [if_pos (mt y2.mp c1), if_neg c1]
end YM87
