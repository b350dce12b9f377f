/-! MEET, what its two loops do with a window -/
theorem hv_night {T : Nat → Int32} {t : Nat} {d u l : Int} (e : hv_t T t d 1 = some (u, l)) : (0 ≤ d ∧ d ≤ 35998) ∧ pv_t T t ((d + 1) % 360) = -1 ∧ u + l = 86400 + tw_D (av_t T t) ((d + 1) % 360) (av_c T t) 2 ∧ u = tw_D (av_t T t) (d % 360) (av_c T t) 3 := by
  unfold hv_t tw_H at e
  unfold pv_t
  by_cases z1 : ¬ (0 ≤ d ∧ d ≤ 35999)
  · rw [if_pos z1] at e; cases e
  · rw [if_neg z1] at e
    by_cases z2 : (1 : Int) = 1 ∧ d = 35999
    · rw [if_pos z2] at e; cases e
    · rw [if_neg z2] at e
      by_cases z3 : tw_P (av_t T t) (d % 360) (av_c T t) ≠ -1
      · rw [if_pos z3] at e; cases e
      · rw [if_neg z3, if_pos rfl] at e
        by_cases z4 : tw_P (av_t T t) ((d + 1) % 360) (av_c T t) ≠ -1
        · rw [if_pos z4] at e; cases e
        · rw [if_neg z4] at e
          have e := Option.some.inj e
          have e5 := congrArg Prod.fst e
          have e6 := congrArg Prod.snd e
          dsimp only at e5 e6
          exact ⟨by omega, Decidable.not_not.mp z4, by omega, e5.symm⟩
/-- one half ends ahead of the like one of a later day -/
theorem hv_ord {g : aa_G} {t : Nat} (W : wd_g g) (ht : (t : Int) < (g 541 0).toInt) {d d' h u l u' l' : Int} (hh : h = 0 ∨ h = 1) (e : hv_t (g 541) t d h = some (u, l)) (e' : hv_t (g 541) t d' h = some (u', l')) (hd : d < d') : u + l + 86400 * d ≤ u' + 86400 * d' := by
  obtain ⟨v1, v2, v3, v4, v5⟩ := hv_b W ht e
  obtain ⟨w1, w2, w3, w4, w5⟩ := hv_b W ht e'
  rcases hh with rfl | rfl
  · have v4 := v4 (by decide)
    omega
  · have v5 := v5 rfl
    by_cases z : d' = d + 1
    · subst z
      obtain ⟨a1, a2, a3, a4⟩ := hv_night e
      obtain ⟨b1, b2, b3, b4⟩ := hv_night e'
      have P := tw_D_b (W.2.2.2.2.2 t ht).2.2.2.2.1 (v := (d + 1) % 360) (tw_P0 a2) (by omega) a2
      omega
    · omega
/-- an hour of a half, where it begins and where it ends -/
theorem ho_b {y l : Int} (hy : 0 ≤ y ∧ y ≤ 11) (hl : 1 ≤ l ∧ l ≤ 172798) : 0 ≤ y * l ∧ (y + 1) * l ≤ 12 * l ∧ y * l ≤ (y + 1) * l ∧ 0 ≤ (y * l + 11) / 12 ∧ (y * l + 11) / 12 ≤ ((y + 1) * l + 11) / 12 ∧ ((y + 1) * l + 11) / 12 ≤ l := by
  have h1 : 0 ≤ y * l := Int.mul_nonneg hy.1 (by omega)
  have h2 : (y + 1) * l ≤ 12 * l := Int.mul_le_mul_of_nonneg_right (by omega) (by omega)
  have h3 : (y + 1) * l = y * l + l := by rw [Int.add_mul, Int.one_mul]
  omega
theorem ho_v {p q x : Int32} {u l y : Int} (hx : x.toInt = y) (hy : 0 ≤ y ∧ y ≤ 11) (hp : p.toInt = u) (hq : q.toInt = l) (hu : 0 ≤ u ∧ u ≤ 86399) (hl : 1 ≤ l ∧ l ≤ 172798) : (p + (x * q + 11) / 12).toInt = u + (y * l + 11) / 12 ∧ (p + ((x + 1) * q + 11) / 12).toInt = u + ((y + 1) * l + 11) / 12 := by
  obtain ⟨b1, b2, b3, b4, b5, b6⟩ := ho_b hy hl
  have hx1 : (x + 1).toInt = y + 1 := by rw [i_suc (by omega) (by omega), hx]
  have c : ∀ (a : Int32) (z : Int), a.toInt = z → 0 ≤ z * l → z * l ≤ 12 * l → ((a * q + 11) / 12).toInt = (z * l + 11) / 12 := by
    intro a z ha h0 h1
    have e1 : (a * q).toInt = z * l := by rw [ti_mul (by rw [ha, hq]; omega) (by rw [ha, hq]; omega), ha, hq]
    have e2 : (a * q + 11).toInt = z * l + 11 := by rw [aa_add32 (by rw [e1, i_11]; omega) (by rw [e1, i_11]; omega), e1, i_11]
    rw [ti_div (by omega) (by decide), e2, i_12n]
  have c1 := c x y hx b1 (by omega)
  have c2 := c (x + 1) (y + 1) hx1 (by omega) b2
  exact ⟨by rw [aa_add32 (by rw [hp, c1]; omega) (by rw [hp, c1]; omega), hp, c1], by rw [aa_add32 (by rw [hp, c2]; omega) (by rw [hp, c2]; omega), hp, c2]⟩
/-- of two numbers the greater, the lesser one -/
def mx_2 (p x : Int32) : Int32 := if p < x then x else p
def mn_2 (x p : Int32) : Int32 := if x < p then x else p
theorem mx_v {p x : Int32} : (mx_2 p x).toInt = if p.toInt < x.toInt then x.toInt else p.toInt := by
  unfold mx_2
  by_cases z : p < x
  · rw [if_pos z, if_pos (ti_lt.mp z)]
  · rw [if_neg z, if_neg (mt ti_lt.mpr z)]
theorem mn_v {p x : Int32} : (mn_2 x p).toInt = if x.toInt < p.toInt then x.toInt else p.toInt := by
  unfold mn_2
  by_cases z : x < p
  · rw [if_pos z, if_pos (ti_lt.mp z)]
  · rw [if_neg z, if_neg (mt ti_lt.mpr z)]
/-- the model's look at a window: what it does with it -/
theorem mw_win {Y : aa_G} {a b k p q c w y j z1 b11 : Int32} : (if z1 + b11 ≤ p then fn_228_190 Y a y b k p q c w j b11 p else fn_228_190 Y a y b k p q c w j b11 (z1 + b11)) = fn_228_190 Y a y b k p q c w j b11 (mx_2 p (z1 + b11)) := by
  unfold mx_2
  by_cases z : z1 + b11 ≤ p
  · rw [if_pos z, if_neg (fun h => Int32.not_le.mpr h z)]
  · rw [if_neg z, if_pos (Int32.not_le.mp z)]
theorem mw_win2 {Y : aa_G} {a b k p q c w y j b11 F : Int32} : fn_228_190 Y a y b k p q c w j b11 F = fn_228_216 Y a y b k p q c w j F (mn_2 (Y 540 30 + b11) q) := by
  unfold fn_228_190 mn_2
  by_cases z : q ≤ Y 540 30 + b11
  · rw [if_pos z, if_neg (fun h => Int32.not_le.mpr h z)]
  · rw [if_neg z, if_pos (Int32.not_le.mp z)]
/-- a window of the other town: where it begins and ends, by the first one's time -/
def wn_F (u l y sh o : Int) : Int := u + (y * l + 11) / 12 + sh * 86400 - o
def wn_T (u l y sh o : Int) : Int := u + ((y + 1) * l + 11) / 12 + sh * 86400 - o
theorem h_of {x : Int32} (hx : 0 ≤ x.toInt ∧ x.toInt ≤ 23) : (x / 12 = 0 ∨ x / 12 = 1) ∧ 0 ≤ (x - x / 12 * 12).toInt ∧ (x - x / 12 * 12).toInt ≤ 11 := by
  have e1 : (x / 12).toInt = x.toInt / 12 := ti_div hx.1 (by decide)
  have e2 : (x - x / 12 * 12).toInt = x.toInt % 12 := ti_rem hx.1 (by decide)
  refine ⟨h01 (by omega), ?_⟩
  omega
/-- the class's case of a window -/
theorem cm_day {X : aa_G} {y b k p q i : Int32} {t1 t2 : Nat} (W : wd_g X) (h1 : (t1 : Int) < (X 541 0).toInt) (h2 : (t2 : Int) < (X 541 0).toInt) (hy : 0 ≤ y.toInt ∧ y.toInt ≤ 23) (n1 : ¬ (3 : Int32) < i) (n2 : ¬ X 461 0 = 0) : ∃ Y : aa_G, wd_g Y ∧ Y 541 = X 541 ∧ Y 461 = X 461 ∧
    (match hv_t (X 541) t2 (b + i).toInt (y / 12).toInt with
    | none => fn_132_115b X y b k (5 * t1 + 14) (5 * t2 + 14) p q i = .inl (Y, i + 1)
    | some (u, l) => ∃ P Q : Int32, P.toInt = u ∧ Q.toInt = l ∧ fn_132_115b X y b k (5 * t1 + 14) (5 * t2 + 14) p q i = (fun F T : Int32 => if T ≤ F then .inl (Y, i + 1) else .inr (if k ≠ 0 then T - F else F, Y)) (mx_2 p (P + ((y - y / 12 * 12) * Q + 11) / 12 + (i * 86400 - (X 541 (50 * t2 + 3) - X 541 (50 * t1 + 3))))) (mn_2 (P + ((y - y / 12 * 12 + 1) * Q + 11) / 12 + (i * 86400 - (X 541 (50 * t2 + 3) - X 541 (50 * t1 + 3)))) q)) := by
  obtain ⟨hh, -, -⟩ := h_of hy
  obtain ⟨p1, p2, p3, v1, -⟩ := lv_look 462 (b + i) (y / 12) W h2 (by omega) hh
  have o : fn_94 (fn_78 X 462 (some (5 * t2 + 14)) (b + i) (y / 12)) (5 * t1 + 14) (5 * t2 + 14) = X 541 (50 * t2 + 3) - X 541 (50 * t1 + 3) := by
    rw [of_94 p1 (by rw [p2]; exact h1) (by rw [p2]; exact h2), p2]
  refine ⟨fn_78 X 462 (some (5 * t2 + 14)) (b + i) (y / 12), p1, p2, funext fun j => p3 461 j (by omega), ?_⟩
  unfold fn_132_115b
  rw [if_neg n1, if_neg n2]
  unfold fn_132_149 fn_132_185 fn_132_208 fn_132_241
  rw [o]
  generalize fn_78 X 462 (some (5 * t2 + 14)) (b + i) (y / 12) = Y at p1 p2 v1 ⊢
  cases hr : hv_t (X 541) t2 (b + i).toInt (y / 12).toInt with
  | none =>
    rw [hr] at v1
    dsimp only
    rw [if_pos (lv_c0 v1)]
  | some r =>
    obtain ⟨u, l⟩ := r
    rw [hr] at v1
    dsimp only
    refine ⟨Y 462 3, Y 462 4, v1.2.1, v1.2.2, ?_⟩
    rw [if_neg (c := Y 462 0 = 0) (by rw [lv_c1 v1]; decide)]
    unfold fn_100 mx_2 mn_2
    rw [i_121, i_121]
    generalize (if p < Y 462 3 + ((y - y / 12 * 12) * Y 462 4 + 11) / 12 + (i * 86400 - (X 541 (50 * t2 + 3) - X 541 (50 * t1 + 3))) then Y 462 3 + ((y - y / 12 * 12) * Y 462 4 + 11) / 12 + (i * 86400 - (X 541 (50 * t2 + 3) - X 541 (50 * t1 + 3))) else p) = F
    generalize (if Y 462 3 + ((y - y / 12 * 12 + 1) * Y 462 4 + 11) / 12 + (i * 86400 - (X 541 (50 * t2 + 3) - X 541 (50 * t1 + 3))) < q then Y 462 3 + ((y - y / 12 * 12 + 1) * Y 462 4 + 11) / 12 + (i * 86400 - (X 541 (50 * t2 + 3) - X 541 (50 * t1 + 3))) else q) = T
    by_cases z : T ≤ F
    · rw [if_pos z, if_pos z]
    · rw [if_neg z, if_neg z]
      by_cases k0 : k = 0
      · rw [if_neg (fun z => z k0), if_neg (fun z => z k0)]
      · rw [if_pos k0, if_pos k0]
/-- the model's case of a window -/
theorem mm_day {Y : aa_G} {a y b k p q c w j : Int32} {t1 t2 : Nat} (W : wd_g Y) (g1 : t1 < 4) (g2 : t2 < 4) (x1 : a / 4 = Int32.ofNat t1) (x2 : a - a / 4 * 4 = Int32.ofNat t2) (h2 : (t2 : Int) < (Y 541 0).toInt) (hy : 0 ≤ y.toInt ∧ y.toInt ≤ 23) (n1 : ¬ b + 4 < j) : ∃ Z : aa_G, wd_g Z ∧ Z 541 = Y 541 ∧
    (match hv_t (Y 541) t2 j.toInt (y / 12).toInt with
    | none => fn_228_115b Y a y b k p q c w j = .inl (Z, c, w, j + 1)
    | some (u, l) => ∃ P Q : Int32, P.toInt = u ∧ Q.toInt = l ∧ fn_228_115b Y a y b k p q c w j = (fun F T : Int32 => if T ≤ F then .inl (Z, c, w, j + 1) else if c = -1000000 ∨ F < c then .inl (Z, F, T - F, j + 1) else .inl (Z, c, w, j + 1)) (mx_2 p (P + ((y - y / 12 * 12) * Q + 11) / 12 + ((j - b) * 86400 - Y 541 (50 * t2 + 3) + Y 541 (50 * t1 + 3)))) (mn_2 (P + ((y - y / 12 * 12 + 1) * Q + 11) / 12 + ((j - b) * 86400 - Y 541 (50 * t2 + 3) + Y 541 (50 * t1 + 3))) q)) := by
  obtain ⟨hh, -, -⟩ := h_of hy
  obtain ⟨z1, z2, v⟩ := lv_hour j y W h2 hh
  refine ⟨(fn_229 Y (Int32.ofNat t2) j y).2, z1, z2, ?_⟩
  unfold fn_228_115b
  rw [if_neg n1, x2]
  generalize fn_229 Y (Int32.ofNat t2) j y = Z at z1 z2 v ⊢
  unfold fn_228_134
  rw [mw_win, mw_win2, x2, x1, of_209 t1 g1, of_209 t2 g2, z2]
  unfold fn_228_216 fn_228_243 fn_228_254
  cases hr : hv_t (Y 541) t2 j.toInt (y / 12).toInt with
  | none =>
    rw [hr] at v
    have v : Z.1 = 0 := v
    dsimp only
    rw [if_neg (c := Z.1 ≠ 0) (fun z => z v)]
  | some r =>
    obtain ⟨u, l⟩ := r
    rw [hr] at v
    obtain ⟨v1, P, Q, v2, v3, v4, v5⟩ := v
    dsimp only
    refine ⟨P, Q, v2, v3, ?_⟩
    rw [if_pos (c := Z.1 ≠ 0) (by rw [v1]; decide), v4, v5]
    generalize mx_2 p (P + ((y - y / 12 * 12) * Q + 11) / 12 + ((j - b) * 86400 - Y 541 (50 * t2 + 3) + Y 541 (50 * t1 + 3))) = F
    generalize mn_2 (P + ((y - y / 12 * 12 + 1) * Q + 11) / 12 + ((j - b) * 86400 - Y 541 (50 * t2 + 3) + Y 541 (50 * t1 + 3))) q = T
    by_cases z : T ≤ F
    · rw [if_pos z, if_pos z]
    · rw [if_neg z, if_neg z]
      by_cases c0 : c = -1000000
      · rw [if_pos c0, if_pos (.inl c0)]
      · rw [if_neg c0]
        by_cases c1 : F < c
        · rw [if_pos c1, if_pos (.inr c1)]
        · rw [if_neg c1, if_neg (fun h => h.elim c0 c1)]
theorem mt_same {P x i o2 o1 : Int32} : P + x + (i * 86400 - o2 + o1) = P + x + (i * 86400 - (o2 - o1)) := by rw [i_lat]
theorem mt_v {A i o2 o1 : Int32} {s : Int} (h : A.toInt = s) (hs : 0 ≤ s ∧ s ≤ 259198) (hi : -4 ≤ i.toInt ∧ i.toInt ≤ 4) (h2 : -43200 ≤ o2.toInt ∧ o2.toInt ≤ 43200) (h1 : -43200 ≤ o1.toInt ∧ o1.toInt ≤ 43200) : (A + (i * 86400 - (o2 - o1))).toInt = s + i.toInt * 86400 - (o2.toInt - o1.toInt) := by
  have m1 : (i * 86400).toInt = i.toInt * 86400 := by rw [ti_mul (by rw [i_864]; omega) (by rw [i_864]; omega), i_864]
  have m2 : (o2 - o1).toInt = o2.toInt - o1.toInt := aa_sub32 (by omega) (by omega)
  have m3 : (i * 86400 - (o2 - o1)).toInt = i.toInt * 86400 - (o2.toInt - o1.toInt) := by rw [aa_sub32 (by omega) (by omega), m1, m2]
  rw [aa_add32 (by omega) (by omega), m3, h]
  omega
