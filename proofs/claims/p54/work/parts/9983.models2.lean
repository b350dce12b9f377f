/-! QUESTIONS TOLD IN NUMBERS (3): lag, until, spread, arrive, shows, by the model's words -/
section YM83
variable {Y : aa_G} {t t2 : Nat} {day f k n s tk : Int}
theorem y_key (ht : t < 4) (ht2 : t2 < 4) : Int32.ofInt (4 * (t : Int) + t2) / 4 = Int32.ofNat t ∧ Int32.ofInt (4 * (t : Int) + t2) - Int32.ofNat t * 4 = Int32.ofNat t2 := by
  have e : Int32.ofInt (4 * (t : Int) + t2) / 4 = Int32.ofInt (t : Int) := by
    rw [show (4 : Int32) = Int32.ofInt 4 from rfl, yi_div (by omega) (by omega)]
    congr 1
    omega
  refine ⟨e.trans (yi_n t).symm, ?_⟩
  rw [yi_n, yi_n, show (4 : Int32) = Int32.ofInt 4 from rfl, yi_mul, yi_sub]
  congr 1
  omega
theorem y_239 (W : wd_g Y) (ht : (t : Int) < (Y 541 0).toInt) (ht2 : (t2 : Int) < (Y 541 0).toInt) : ¬ fn_239 Y (Int32.ofInt (4 * (t : Int) + t2)) = 0 := fun z => by
  have n4 := W.1
  obtain ⟨k1, k2⟩ := y_key (t := t) (t2 := t2) (by omega) (by omega)
  refine (gd_239z W).mp z ?_
  rw [k1, k2, yi_T (by omega), zz_ofN (by omega), zz_ofN (by omega)]
  omega
theorem y_193 (hd : 0 ≤ day ∧ day ≤ 35999) : ¬ fn_193 (Int32.ofInt day) = 0 := fun z => ti_193z.mp z (by rw [yi_T (by omega)]; exact hd)
theorem y_204 (W : wd_g Y) (hf : f = 0 ∨ f = 1) (hn : 0 ≤ n ∧ n ≤ 12 * (Y 541 1).toInt - 1) : ¬ fn_204 Y (Int32.ofInt f) (Int32.ofInt n) = 0 := fun z => by
  have hq := W.2.1
  exact (ti_204 hq).mp z (by rw [yi_T (by omega), yi_T (by omega)]; omega)
theorem y_209 {Z : aa_G} (ht : t < 4) : fn_209 Z (Int32.ofNat t) = Z 541 (50 * t + 3) := by
  unfold fn_209 fn_164
  rw [show (3 : Int32) + 50 * Int32.ofNat t = Int32.ofNat (50 * t + 3) by
    rw [yi_n, show (50 : Int32) = Int32.ofInt 50 from rfl, show (3 : Int32) = Int32.ofInt 3 from rfl, yi_mul, yi_add, yi_n]
    congr 1
    omega, zz_toN (by omega)]
/-- BACK on the model's side, on a heap like the world's -/
theorem y_205 {a : Nat → Int32} {Z : aa_G} (W : wd_g Z) (e : Z 541 = a) (ht : (t : Int) < (a 0).toInt) (hd : -2147483648 ≤ day ∧ day ≤ 2147483647) (hf : f = 0 ∨ f = 1) (hn : 0 ≤ n ∧ n ≤ 12 * (a 1).toInt - 1) : (fn_205 Z (Int32.ofNat t) (Int32.ofInt day) (Int32.ofInt f) (Int32.ofInt n)).1 = Int32.ofInt (s_90 a t day f n) ∧ wd_g (fn_205 Z (Int32.ofNat t) (Int32.ofInt day) (Int32.ofInt f) (Int32.ofInt n)).2 ∧ (fn_205 Z (Int32.ofNat t) (Int32.ofInt day) (Int32.ofInt f) (Int32.ofInt n)).2 541 = a := by
  subst e
  have hq := W.2.1
  obtain ⟨m1, m2⟩ := mk_205 (b := Int32.ofInt day) (h := Int32.ofInt f) (n := Int32.ofInt n) W ht (by rw [yi_T (by omega)]; omega) (by rw [yi_T (by omega)]; exact hn)
  rw [yi_T hd, yi_T (a := f) (by omega)] at m1
  have h9 := y_spb (o := hv_t (Z 541) t day f) (q := (Z 541 1).toInt) (n := n) (hv_ho (yWb_of W) ht) hq hn
  rw [yi_of] at h9
  refine ⟨m1.trans h9, wd_of W fun k j z => m2 k j (by omega), funext fun j => m2 541 j (by omega)⟩
noncomputable def s_140 (a : Nat → Int32) (t t2 : Nat) (day f n : Int) : Int := if s_90 a t day f n = -2 then -1000000 else if s_90 a t2 day f n ≠ -2 then s_90 a t2 day f n - (a (50 * t2 + 3)).toInt - s_90 a t day f n + (a (50 * t + 3)).toInt else -1000000
theorem m_251 (W : wd_g Y) (ht : (t : Int) < (Y 541 0).toInt) (ht2 : (t2 : Int) < (Y 541 0).toInt) (hd : 0 ≤ day ∧ day ≤ 35999) (hf : f = 0 ∨ f = 1) (hn : 0 ≤ n ∧ n ≤ 12 * (Y 541 1).toInt - 1) : (fn_251 Y (Int32.ofInt (4 * (t : Int) + t2)) (Int32.ofInt day) (Int32.ofInt f) (Int32.ofInt n)).1 = Int32.ofInt (s_140 (Y 541) t t2 day f n) := by
  have n4 := W.1
  obtain ⟨k1, k2⟩ := y_key (t := t) (t2 := t2) (by omega) (by omega)
  have b1 := s_90_b (day := day) (f := f) (yWb_of W) ht hn.1
  have b2 := s_90_b (day := day) (f := f) (yWb_of W) ht2 hn.1
  have o1 := ((yWb_of W).2.2 t ht).1
  have o2 := ((yWb_of W).2.2 t2 ht2).1
  unfold fn_251
  rw [if_neg (y_239 W ht ht2), if_neg (y_193 hd), if_pos (y_204 W hf hn), k1]
  obtain ⟨a1, a2, a3⟩ := y_205 (day := day) (f := f) (n := n) W rfl ht (by omega) hf hn
  generalize fn_205 Y (Int32.ofNat t) (Int32.ofInt day) (Int32.ofInt f) (Int32.ofInt n) = G at a1 a2 a3 ⊢
  unfold fn_251_40
  rw [k1, k2]
  obtain ⟨c1, c2, c3⟩ := y_205 (day := day) (f := f) (n := n) a2 a3 ht2 (by omega) hf hn
  generalize fn_205 G.2 (Int32.ofNat t2) (Int32.ofInt day) (Int32.ofInt f) (Int32.ofInt n) = H at c1 c2 c3 ⊢
  unfold fn_251_53 s_140
  rw [k1, k2, y_209 (by omega), y_209 (by omega), a1, c1, c3, show Y 541 (50 * t2 + 3) = Int32.ofInt (Y 541 (50 * t2 + 3)).toInt from (yi_of _).symm, show Y 541 (50 * t + 3) = Int32.ofInt (Y 541 (50 * t + 3)).toInt from (yi_of _).symm, yi_sub, yi_sub, yi_add, yi_of, yi_of]
  have z1 : Int32.ofInt (s_90 (Y 541) t day f n) = -2 ↔ s_90 (Y 541) t day f n = -2 := yi_eq (b := -2) (by omega) (by omega)
  have z2 : Int32.ofInt (s_90 (Y 541) t2 day f n) = -2 ↔ s_90 (Y 541) t2 day f n = -2 := yi_eq (b := -2) (by omega) (by omega)
  by_cases c : s_90 (Y 541) t day f n = -2
  · rw [if_pos (z1.mpr c), if_pos c]
    rfl
  · rw [if_neg (mt z1.mp c), if_neg c]
    by_cases c' : s_90 (Y 541) t2 day f n = -2
    · rw [if_neg (fun z => z (z2.mpr c')), if_neg (fun z => z c')]
      rfl
    · rw [if_pos (mt z2.mp c'), if_pos c']
/-- from a day on, so many days: the first BACK from a second on -/
noncomputable def y_un (a : Nat → Int32) (t : Nat) (day s f n : Int) : Nat → Int → Int
  | 0, _ => -2
  | m + 1, d => if s_90 a t d f n ≠ -2 ∧ s ≤ s_90 a t d f n + 86400 * (d - day) then s_90 a t d f n + 86400 * (d - day) - s else y_un a t day s f n m (d + 1)
theorem m_250L {a : Nat → Int32} (B : yWb a) (ht : (t : Int) < (a 0).toInt) (hd : 0 ≤ day ∧ day ≤ 35999) (hs : 0 ≤ s ∧ s ≤ 86399) (hf : f = 0 ∨ f = 1) (hn : 0 ≤ n ∧ n ≤ 12 * (a 1).toInt - 1) : ∀ (m : Nat) (Z : aa_G), m ≤ 4 → wd_g Z → Z 541 = a → (fn_250_34 Z (Int32.ofNat t) (Int32.ofInt day) (Int32.ofInt s) (Int32.ofInt f) (Int32.ofInt n) (Int32.ofInt (day + 3 - m))).1 = Int32.ofInt (y_un a t day s f n m (day + 3 - m))
  | 0, Z, hm, W, e => by
    refine congrArg Prod.fst (?_ : _ = ((-2 : Int32), Z))
    unfold fn_250_34
    refine lp_r ?_
    dsimp only
    unfold fn_250_34b
    rw [show Int32.ofInt day + 2 = Int32.ofInt (day + 2) from yi_add day 2, if_pos ((yi_lt (by omega) (by omega)).mpr (by omega))]
  | m + 1, Z, hm, W, e => by
    have b1 := s_90_b (day := day + 3 - ((m + 1 : Nat) : Int)) (f := f) B ht hn.1
    obtain ⟨a1, a2, a3⟩ := y_205 (day := day + 3 - ((m + 1 : Nat) : Int)) (f := f) (n := n) W e ht (by omega) hf hn
    have ih := m_250L B ht hd hs hf hn m (fn_205 Z (Int32.ofNat t) (Int32.ofInt (day + 3 - ((m + 1 : Nat) : Int))) (Int32.ofInt f) (Int32.ofInt n)).2 (by omega) a2 a3
    rw [show day + 3 - (m : Int) = day + 3 - ((m + 1 : Nat) : Int) + 1 by omega] at ih
    obtain ⟨d, ed⟩ : ∃ d, d = day + 3 - ((m + 1 : Nat) : Int) := ⟨_, rfl⟩
    have hdd : day - 1 ≤ d ∧ d ≤ day + 2 := by omega
    rw [← ed] at b1 a1 ih ⊢
    have k2 : ¬ Int32.ofInt day + 2 < Int32.ofInt d := by
      rw [show Int32.ofInt day + 2 = Int32.ofInt (day + 2) from yi_add day 2]
      exact mt (yi_lt (by omega) (by omega)).mp (by omega)
    have z1 : Int32.ofInt (s_90 a t d f n) = -2 ↔ s_90 a t d f n = -2 := yi_eq (b := -2) (by omega) (by omega)
    have en : ((Int32.ofInt d - Int32.ofInt day) * 86400 + Int32.ofInt (s_90 a t d f n)) - Int32.ofInt s = Int32.ofInt ((d - day) * 86400 + s_90 a t d f n - s) := by
      rw [show (86400 : Int32) = Int32.ofInt 86400 from rfl, yi_sub, yi_mul, yi_add, yi_sub]
    have zn : Int32.ofInt ((d - day) * 86400 + s_90 a t d f n - s) < 0 ↔ (d - day) * 86400 + s_90 a t d f n - s < 0 := yi_lt (b := 0) (by omega) (by omega)
    show _ = Int32.ofInt (if s_90 a t d f n ≠ -2 ∧ s ≤ s_90 a t d f n + 86400 * (d - day) then s_90 a t d f n + 86400 * (d - day) - s else y_un a t day s f n m (d + 1))
    by_cases c : s_90 a t d f n ≠ -2 ∧ s ≤ s_90 a t d f n + 86400 * (d - day)
    · rw [if_pos c]
      refine (congrArg Prod.fst (?_ : _ = (Int32.ofInt ((d - day) * 86400 + s_90 a t d f n - s), (fn_205 Z (Int32.ofNat t) (Int32.ofInt d) (Int32.ofInt f) (Int32.ofInt n)).2))).trans (congrArg Int32.ofInt (show (d - day) * 86400 + s_90 a t d f n - s = _ by omega))
      unfold fn_250_34
      refine lp_r ?_
      dsimp only
      unfold fn_250_34b
      rw [if_neg k2]
      unfold fn_250_53
      rw [a1, if_neg (mt z1.mp c.1), en, if_neg (mt zn.mp (by omega))]
    · rw [if_neg c, ← ih]
      refine congrArg Prod.fst ?_
      unfold fn_250_34
      refine lp_l ?_
      dsimp only
      unfold fn_250_34b
      rw [if_neg k2]
      unfold fn_250_53 fn_250_84
      have e1 : Int32.ofInt d + 1 = Int32.ofInt (d + 1) := yi_add d 1
      rw [a1, en, e1]
      by_cases c2 : s_90 a t d f n = -2
      · rw [if_pos (z1.mpr c2)]
      · rw [if_neg (mt z1.mp c2), if_pos (zn.mpr (by omega))]
theorem m_250 (W : wd_g Y) (ht : (t : Int) < (Y 541 0).toInt) (hd : 0 ≤ day ∧ day ≤ 35999) (hs : 0 ≤ s ∧ s ≤ 86399) (hf : f = 0 ∨ f = 1) (hn : 0 ≤ n ∧ n ≤ 12 * (Y 541 1).toInt - 1) : (fn_250 Y (Int32.ofInt (t : Int)) (Int32.ofInt day) (Int32.ofInt s) (Int32.ofInt f) (Int32.ofInt n)).1 = Int32.ofInt (y_un (Y 541) t day s f n 4 (day - 1)) := by
  unfold fn_250 fn_199
  rw [← yi_n t, if_neg (y_191 W ht hd), if_neg (show ¬ fn_154 (Int32.ofInt s) 0 86399 = 0 from y_154 (a := s) (lo := 0) (hi := 86399) (by omega) (by omega) (by omega) hs), if_pos (y_204 W hf hn), show Int32.ofInt day - 1 = Int32.ofInt (day - 1) from yi_sub day 1]
  have h9 := m_250L (yWb_of W) ht hd hs hf hn 4 Y (Nat.le_refl 4) W rfl
  rw [show day + 3 - ((4 : Nat) : Int) = day - 1 by omega] at h9
  exact h9
/-- what a second belongs to, on the model's side; a day that is none: nothing -/
theorem y_200 {a : Nat → Int32} {Z : aa_G} (W : wd_g Z) (e : Z 541 = a) (ht : (t : Int) < (a 0).toInt) (hd : -1000000 ≤ day ∧ day ≤ 1000000) (hs : 0 ≤ s ∧ s ≤ 86399) : ((fn_200 Z (Int32.ofNat t) (Int32.ofInt day) (Int32.ofInt s)).1 = 0 ∧ (if 0 ≤ day ∧ day ≤ 35999 then s_12 a t day s 0 else -2) = -2 ∧ ∀ i, (if 0 ≤ day ∧ day ≤ 35999 then s_12 a t day s i else -2) = -2) ∨ ((fn_200 Z (Int32.ofNat t) (Int32.ofInt day) (Int32.ofInt s)).1 = 1 ∧ ∀ i, 0 ≤ i → i ≤ 5 → fn_201 (fn_200 Z (Int32.ofNat t) (Int32.ofInt day) (Int32.ofInt s)).2 (Int32.ofInt i) = Int32.ofInt (if 0 ≤ day ∧ day ≤ 35999 then s_12 a t day s i else -2)) := by
  subst e
  have hq := W.2.1
  by_cases c : 0 ≤ day ∧ day ≤ 35999
  · obtain ⟨m1, m2⟩ := mk_200 (d := Int32.ofInt day) (s := Int32.ofInt s) W ht (by rw [yi_T (by omega)]; exact c) (by rw [yi_T (by omega)]; exact hs)
    rw [yi_T (a := day) (by omega), yi_T (a := s) (by omega)] at m1
    rw [if_pos c]
    simp only [if_pos c]
    have m541 : (fn_200 Z (Int32.ofNat t) (Int32.ofInt day) (Int32.ofInt s)).2 541 = Z 541 := funext fun j => m2 541 j (by omega)
    generalize fn_200 Z (Int32.ofNat t) (Int32.ofInt day) (Int32.ofInt s) = G at m1 m541 ⊢
    have sd : ∀ i, s_12 (Z 541) t day s i = match wt_T (Z 541) t day s with | none => -2 | some (d, f, b, l) => if i = 0 then d else if i = 1 then f else if i = 2 then (s + 86400 * (day - d) - b) * 12 * (Z 541 1).toInt / l / (Z 541 1).toInt else if i = 3 then (s + 86400 * (day - d) - b) * 12 * (Z 541 1).toInt / l % (Z 541 1).toInt else if i = 4 then (s + 86400 * (day - d) - b) * 12 * (Z 541 1).toInt / l else s + 86400 * (day - d) - b := fun i => rfl
    cases eb : wt_T (Z 541) t day s with
    | none =>
      rw [eb] at m1
      refine Or.inl ⟨m1, ?_, fun i => ?_⟩
      · rw [sd, eb]
      · rw [sd, eb]
    | some p =>
      obtain ⟨d, f, b, l⟩ := p
      rw [eb] at m1
      obtain ⟨v1, v2, v3, v4, v5, v6⟩ := m1
      obtain ⟨-, -, -, -, w5, w6, w7⟩ := wt_bnd (yWb_of W) ht hs eb
      refine Or.inr ⟨v1, fun i h0 h5 => ?_⟩
      rw [sd, eb]
      dsimp only
      obtain ⟨x, ex⟩ : ∃ x, x = s + 86400 * (day - d) - b := ⟨_, rfl⟩
      rw [← ex] at v6 w6 w7 ⊢
      have pb := yp_b (q := (Z 541 1).toInt) (l := l) (s := x) hq w5.1 ⟨w6, by omega⟩
      have e202 : fn_202 G.2 (G.2 540 21) = Int32.ofInt (x * 12 * (Z 541 1).toInt / l) := by
        have h9 := y_spx hq (e := x) (l := l) ⟨w6, by omega⟩ w5
        unfold sp_x at h9
        unfold fn_202
        rw [yi_of] at h9
        rw [show (1 : Int32).toNatClampNeg = 1 from rfl, m541, show G.2 540 21 = Int32.ofInt x by rw [← v6, yi_of], show G.2 540 18 = Int32.ofInt l by rw [← v5, yi_of]]
        exact h9
      unfold fn_201
      rw [yi_T (a := i) (by omega), e202, show (1 : Int32).toNatClampNeg = 1 from rfl, m541, show G.2 540 20 = Int32.ofInt d by rw [← v2, yi_of], show G.2 540 19 = Int32.ofInt f by rw [← v3, yi_of], show G.2 540 21 = Int32.ofInt x by rw [← v6, yi_of]]
      have eq1 : Int32.ofInt (x * 12 * (Z 541 1).toInt / l) / Z 541 1 = Int32.ofInt (x * 12 * (Z 541 1).toInt / l / (Z 541 1).toInt) := by
        have h9 := yi_div (a := x * 12 * (Z 541 1).toInt / l) (b := (Z 541 1).toInt) (by omega) (by omega)
        rw [yi_of] at h9
        exact h9
      have eq2 : Int32.ofInt (x * 12 * (Z 541 1).toInt / l) - Int32.ofInt (x * 12 * (Z 541 1).toInt / l) / Z 541 1 * Z 541 1 = Int32.ofInt (x * 12 * (Z 541 1).toInt / l % (Z 541 1).toInt) := by
        have h9 := yi_rem (a := x * 12 * (Z 541 1).toInt / l) (b := (Z 541 1).toInt) (by omega) (by omega)
        rw [yi_of] at h9
        exact h9
      rw [eq2, eq1]
      by_cases c0 : i = 0
      · rw [if_pos c0, if_pos c0]
      · rw [if_neg c0, if_neg c0]
        by_cases c1 : i = 1
        · rw [if_pos c1, if_pos c1]
        · rw [if_neg c1, if_neg c1]
          by_cases c2 : i = 2
          · rw [if_pos c2, if_pos c2]
          · rw [if_neg c2, if_neg c2]
            by_cases c3 : i = 3
            · rw [if_pos c3, if_pos c3]
            · rw [if_neg c3, if_neg c3]
              by_cases c4 : i = 4
              · rw [if_pos c4, if_pos c4]
              · rw [if_neg c4, if_neg c4]
  · refine Or.inl ⟨?_, if_neg c, fun i => if_neg c⟩
    unfold fn_200
    rw [if_pos (ti_193z.mpr (by rw [yi_T (by omega)]; exact c))]
/-- over to another town, some seconds on -/
noncomputable def s_ovD (a : Nat → Int32) (t t2 : Nat) (day s : Int) : Int := (day * 86400 + s - (a (50 * t + 3)).toInt + (a (50 * t2 + 3)).toInt + 86400000) / 86400 - 1000
noncomputable def s_ovS (a : Nat → Int32) (t t2 : Nat) (day s : Int) : Int := (day * 86400 + s - (a (50 * t + 3)).toInt + (a (50 * t2 + 3)).toInt + 86400000) % 86400
theorem s_ov_b {a : Nat → Int32} (B : yWb a) (ht : (t : Int) < (a 0).toInt) (ht2 : (t2 : Int) < (a 0).toInt) (hd : 0 ≤ day ∧ day ≤ 35999) (hs : 0 ≤ s ∧ s ≤ 2000000) : (-2 ≤ s_ovD a t t2 day s ∧ s_ovD a t t2 day s ≤ 36100) ∧ (0 ≤ s_ovS a t t2 day s ∧ s_ovS a t t2 day s ≤ 86399) := by
  have o1 := (B.2.2 t ht).1
  have o2 := (B.2.2 t2 ht2).1
  unfold s_ovD s_ovS
  omega
theorem y_208 (W : wd_g Y) (ht : (t : Int) < (Y 541 0).toInt) (ht2 : (t2 : Int) < (Y 541 0).toInt) (hd : 0 ≤ day ∧ day ≤ 35999) {c : Int64} (hc : c.toInt = s) (hs : 0 ≤ s ∧ s ≤ 2000000) : (fn_208 Y (Int32.ofNat t) (Int32.ofInt day).toInt64 c (Int32.ofNat t2)) 540 22 = Int32.ofInt (s_ovD (Y 541) t t2 day s) ∧ (fn_208 Y (Int32.ofNat t) (Int32.ofInt day).toInt64 c (Int32.ofNat t2)) 540 23 = Int32.ofInt (s_ovS (Y 541) t t2 day s) ∧ wd_g (fn_208 Y (Int32.ofNat t) (Int32.ofInt day).toInt64 c (Int32.ofNat t2)) ∧ (fn_208 Y (Int32.ofNat t) (Int32.ofInt day).toInt64 c (Int32.ofNat t2)) 541 = Y 541 := by
  have td : (Int32.ofInt day).toInt = day := yi_T (by omega)
  obtain ⟨m1, m2, m3⟩ := mk_208x (b := Int32.ofInt day) (c := c) W ht ht2 (by rw [td]; exact hd) (by rw [hc]; exact hs)
  rw [td, hc] at m1
  rw [hc] at m2
  refine ⟨?_, ?_, wd_of W fun k j z => m3 k j (by omega), funext fun j => m3 541 j (by omega)⟩
  · rw [← yi_of ((fn_208 Y (Int32.ofNat t) (Int32.ofInt day).toInt64 c (Int32.ofNat t2)) 540 22), m1]
    congr 1
    unfold s_ovD
    omega
  · rw [← yi_of ((fn_208 Y (Int32.ofNat t) (Int32.ofInt day).toInt64 c (Int32.ofNat t2)) 540 23), m2]
    congr 1
    unfold s_ovS
    omega
/-- what turn() tells, where a day may be none -/
noncomputable def s_tn (a : Nat → Int32) (t : Nat) (day s i : Int) : Int := if 0 ≤ day ∧ day ≤ 35999 then s_12 a t day s i else -2
noncomputable def s_136 (a : Nat → Int32) (t t2 : Nat) (day s i : Int) : Int := if 0 ≤ s_ovD a t t2 day s ∧ s_ovD a t t2 day s ≤ 35999 then (if i = 0 then s_ovD a t t2 day s else if i = 1 then s_ovS a t t2 day s else s_12 a t2 (s_ovD a t t2 day s) (s_ovS a t t2 day s) (i - 1)) else -2
theorem m_238 (W : wd_g Y) (ht : (t : Int) < (Y 541 0).toInt) (ht2 : (t2 : Int) < (Y 541 0).toInt) (hd : 0 ≤ day ∧ day ≤ 35999) (hs : 0 ≤ s ∧ s ≤ 86399) (hk : 0 ≤ tk ∧ tk ≤ 864000) {i : Int} (hi : 0 ≤ i ∧ i ≤ 3) : (fn_238 Y (Int32.ofInt (4 * (t : Int) + t2)) (Int32.ofInt day) (Int32.ofInt s) (Int32.ofInt tk) (Int32.ofInt i)).1 = Int32.ofInt (s_136 (Y 541) t t2 day (s + tk) i) := by
  have n4 := W.1
  obtain ⟨k1, k2⟩ := y_key (t := t) (t2 := t2) (by omega) (by omega)
  have hst : (Int32.ofInt s + Int32.ofInt tk).toInt64.toInt = s + tk := by rw [yi_add, Int32.toInt_toInt64, yi_T (by omega)]
  obtain ⟨d1, d2, d3, d4⟩ := y_208 (c := (Int32.ofInt s + Int32.ofInt tk).toInt64) W ht ht2 hd hst (by omega)
  have ob := s_ov_b (s := s + tk) (yWb_of W) ht ht2 hd (by omega)
  unfold fn_238 fn_199
  rw [if_neg (y_239 W ht ht2), if_neg (y_193 hd), if_neg (show ¬ fn_154 (Int32.ofInt s) 0 86399 = 0 from y_154 (a := s) (lo := 0) (hi := 86399) (by omega) (by omega) (by omega) hs), if_neg (show ¬ fn_154 (Int32.ofInt tk) 0 864000 = 0 from y_154 (a := tk) (lo := 0) (hi := 864000) (by omega) (by omega) (by omega) hk), if_pos (show ¬ fn_154 (Int32.ofInt i) 0 3 = 0 from y_154 (a := i) (lo := 0) (hi := 3) (by omega) (by omega) (by omega) hi), k1, k2]
  generalize fn_208 Y (Int32.ofNat t) (Int32.ofInt day).toInt64 (Int32.ofInt s + Int32.ofInt tk).toInt64 (Int32.ofNat t2) = Z at d1 d2 d3 d4 ⊢
  unfold fn_238_63 s_136
  rw [k1, k2, d1, d2]
  generalize s_ovD (Y 541) t t2 day (s + tk) = D at ob d1 ⊢
  generalize s_ovS (Y 541) t t2 day (s + tk) = S at ob d2 ⊢
  by_cases c : 0 ≤ D ∧ D ≤ 35999
  · rw [if_pos (y_193 c), if_pos c]
    have z2 : (2 : Int32) ≤ Int32.ofInt i ↔ 2 ≤ i := yi_le (a := 2) (by omega) (by omega)
    have z0 : Int32.ofInt i = 0 ↔ i = 0 := yi_eq (b := 0) (by omega) (by omega)
    by_cases c2 : 2 ≤ i
    · rw [if_pos (z2.mpr c2), if_neg (show ¬ i = 0 by omega), if_neg (show ¬ i = 1 by omega)]
      unfold fn_238_114
      have k := y_200 (t := t2) (day := D) (s := S) d3 d4 ht2 (by omega) ob.2
      rw [show Int32.ofInt i - 1 = Int32.ofInt (i - 1) from yi_sub i 1]
      rcases k with ⟨q1, -, q2⟩ | ⟨q1, q2⟩
      · have q2 := q2 (i - 1)
        rw [if_pos c] at q2
        rw [if_pos q1, q2]
        rfl
      · have q2 := q2 (i - 1) (by omega) (by omega)
        rw [if_pos c] at q2
        rw [if_neg (by rw [q1]; decide)]
        exact q2
    · rw [if_neg (mt z2.mp c2)]
      by_cases c0 : i = 0
      · rw [if_neg (fun z => z (z0.mpr c0)), if_pos c0]
      · rw [if_pos (mt z0.mp c0), if_neg c0, if_pos (show i = 1 by omega)]
  · rw [if_neg (fun z => z (ti_193z.mpr (by rw [yi_T (by omega)]; exact c))), if_neg c]
    rfl
noncomputable def s_137 (a : Nat → Int32) (t t2 : Nat) (day f n i : Int) : Int := if s_90 a t day f n = -2 then -2 else s_tn a t2 (s_ovD a t t2 day (s_90 a t day f n)) (s_ovS a t t2 day (s_90 a t day f n)) (if i = 2 then 4 else i)
theorem m_240 (W : wd_g Y) (ht : (t : Int) < (Y 541 0).toInt) (ht2 : (t2 : Int) < (Y 541 0).toInt) (hd : 0 ≤ day ∧ day ≤ 35999) (hf : f = 0 ∨ f = 1) (hn : 0 ≤ n ∧ n ≤ 12 * (Y 541 1).toInt - 1) {i : Int} (hi : 0 ≤ i ∧ i ≤ 2) : (fn_240 Y (Int32.ofInt (4 * (t : Int) + t2)) (Int32.ofInt day) (Int32.ofInt f) (Int32.ofInt n) (Int32.ofInt i)).1 = Int32.ofInt (s_137 (Y 541) t t2 day f n i) := by
  have n4 := W.1
  obtain ⟨k1, k2⟩ := y_key (t := t) (t2 := t2) (by omega) (by omega)
  have b1 := s_90_b (day := day) (f := f) (yWb_of W) ht hn.1
  unfold fn_240
  rw [if_neg (y_239 W ht ht2), if_neg (y_193 hd), if_neg (y_204 W hf hn), if_pos (show ¬ fn_154 (Int32.ofInt i) 0 2 = 0 from y_154 (a := i) (lo := 0) (hi := 2) (by omega) (by omega) (by omega) hi), k1]
  obtain ⟨a1, a2, a3⟩ := y_205 (day := day) (f := f) (n := n) W rfl ht (by omega) hf hn
  generalize fn_205 Y (Int32.ofNat t) (Int32.ofInt day) (Int32.ofInt f) (Int32.ofInt n) = G at a1 a2 a3 ⊢
  unfold fn_240_48 s_137
  rw [a1, k1, k2]
  generalize s_90 (Y 541) t day f n = v at b1 a1 ⊢
  have z1 : Int32.ofInt v = -2 ↔ v = -2 := yi_eq (b := -2) (by omega) (by omega)
  by_cases c : v = -2
  · rw [if_neg (fun z => z (z1.mpr c)), if_pos c]
    rfl
  · rw [if_pos (mt z1.mp c), if_neg c]
    have hv : (Int32.ofInt v).toInt64.toInt = v := by rw [Int32.toInt_toInt64, yi_T (by omega)]
    obtain ⟨d1, d2, d3, d4⟩ := y_208 (t := t) (t2 := t2) (c := (Int32.ofInt v).toInt64) a2 (by rw [a3]; exact ht) (by rw [a3]; exact ht2) hd hv (by omega)
    rw [a3] at d1 d2 d4
    have ob := s_ov_b (s := v) (yWb_of W) ht ht2 hd (by omega)
    generalize fn_208 G.2 (Int32.ofNat t) (Int32.ofInt day).toInt64 (Int32.ofInt v).toInt64 (Int32.ofNat t2) = Z at d1 d2 d3 d4 ⊢
    unfold fn_240_75
    rw [k1, k2, d1, d2]
    generalize s_ovD (Y 541) t t2 day v = D at ob d1 ⊢
    generalize s_ovS (Y 541) t t2 day v = S at ob d2 ⊢
    unfold fn_240_90 fn_240_106
    have z2 : Int32.ofInt i = 2 ↔ i = 2 := yi_eq (b := 2) (by omega) (by omega)
    have k := y_200 (t := t2) (day := D) (s := S) d3 d4 ht2 (by omega) ob.2
    unfold s_tn
    rcases k with ⟨q1, -, q2⟩ | ⟨q1, q2⟩
    · rw [if_pos q1, q2]
      rfl
    · rw [if_neg (by rw [q1]; decide)]
      by_cases c2 : i = 2
      · rw [if_neg (fun z => z (z2.mpr c2)), if_pos c2]
        exact q2 4 (by omega) (by omega)
      · rw [if_pos (mt z2.mp c2), if_neg c2]
        exact q2 i (by omega) (by omega)
end YM83
