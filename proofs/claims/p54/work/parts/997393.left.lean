/-! LAY WITH A POINT LEFT OUT -/
/-- what lay lays down between two points -/
def ll_P (w : Nat → Nat → Int) (A B : Nat) : Int := if w 4 A ≠ -1 then w 4 A else w 4 B
def ll_D (w : Nat → Nat → Int) (A B : Nat) (y : Int) (o : Nat) : Int := w o A + (w o B - w o A) * ((y - w 1 A) % 360) / ((y - w 1 A) % 360 + (w 1 B - y) % 360)
theorem ll_fin {g : aa_G} {t A B : Nat} {y xA xB b6 b7 : Int32} (ht : t < 4) (hA : A < 12) (hB : B < 12) (eA : (if xA ≠ -1 then xA else b7) = Int32.ofNat A) (eB : (if xB ≠ -1 then xB else b6) = Int32.ofNat B) (yA : 0 ≤ av_t (g 541) t 1 A ∧ av_t (g 541) t 1 A ≤ 359) (yB : 0 ≤ av_t (g 541) t 1 B ∧ av_t (g 541) t 1 B ≤ 359) (bnd : w4_ok (av_t (g 541) t) A B) (hy : 0 ≤ y.toInt ∧ y.toInt ≤ 359) {v : Int32} {g' : aa_G} (hfin : fn_195_155 (zz_w g 540 13 0) (Int32.ofNat t) y xA xB b6 b7 (if xA ≠ -1 then xA else b7) (Int32.ofNat t) y = (v, g')) :
    (∀ k j, ¬ (k = 540 ∧ 13 ≤ j ∧ j ≤ 15) → g' k j = g k j) ∧ (g' 540 13).toInt = ll_P (av_t (g 541) t) A B ∧ v = (if ll_P (av_t (g 541) t) A B = -1 then 1 else 0) ∧ (ll_P (av_t (g 541) t) A B = -1 → (g' 540 14).toInt = ll_D (av_t (g 541) t) A B y.toInt 2 ∧ (g' 540 15).toInt = ll_D (av_t (g 541) t) A B y.toInt 3) := by
  generalize hw : av_t (g 541) t = w at *
  have fw : ∀ o i, (g 541 (50 * t + 4 * i + 4 + o)).toInt = w o i := fun o i => by rw [← hw]; rfl
  generalize hg0 : zz_w g 540 13 0 = g0 at hfin
  have f0 : ∀ k j, ¬ (k = 540 ∧ j = 13) → g0 k j = g k j := fun k j z => by rw [← hg0, aa_w_ne _ _ z]
  have fA : ∀ o i, (g0 541 (50 * t + 4 * i + 4 + o)).toInt = w o i := fun o i => by rw [f0 _ _ (by omega)]; exact fw o i
  rw [eA] at hfin
  have e175 : ∀ (b8 : Int32), (if xA ≠ -1 then fn_195_175 g0 (Int32.ofNat t) y xB b6 b8 xA else fn_195_175 g0 (Int32.ofNat t) y xB b6 b8 b7) = fn_195_175 g0 (Int32.ofNat t) y xB b6 b8 (Int32.ofNat A) := by
    intro b8
    rw [← eA]
    by_cases hx : xA = -1
    · rw [if_neg (c := xA ≠ -1) (fun z => z hx), if_neg (c := xA ≠ -1) (fun z => z hx)]
    · rw [if_pos (c := xA ≠ -1) hx, if_pos (c := xA ≠ -1) hx]
  unfold fn_195_155 at hfin
  rw [e175] at hfin
  have e195 : ∀ (b4 b8 : Int32), fn_195_175 g0 (Int32.ofNat t) y xB b6 b8 b4 = fn_195_216 g0 (Int32.ofNat t) b4 b8 (g0 541 (fn_175 (Int32.ofNat t) (Int32.ofNat B)).toNatClampNeg - y) (Int32.ofNat B) := by
    intro b4 b8
    unfold fn_195_175 fn_195_195
    rw [← eB]
    by_cases hx : xB = -1
    · rw [if_neg (c := xB ≠ -1) (fun z => z hx), if_neg (c := xB ≠ -1) (fun z => z hx), if_neg (c := xB ≠ -1) (fun z => z hx)]
    · rw [if_pos (c := xB ≠ -1) hx, if_pos (c := xB ≠ -1) hx, if_pos (c := xB ≠ -1) hx]
  rw [e195] at hfin
  rw [ml_pa, ml_pa, zz_toN (by omega), zz_toN (by omega)] at hfin
  have vA : (g0 541 (50 * t + 4 * A + 5)).toInt = w 1 A := fA 1 A
  have vB : (g0 541 (50 * t + 4 * B + 5)).toInt = w 1 B := fA 1 B
  have s1 : (y - g0 541 (50 * t + 4 * A + 5)).toInt = y.toInt - w 1 A := by rw [aa_sub32 (by omega) (by omega), vA]
  have s2 : (g0 541 (50 * t + 4 * B + 5) - y).toInt = w 1 B - y.toInt := by rw [aa_sub32 (by omega) (by omega), vB]
  have norm : ∀ (x : Int32) (z : Int), x.toInt = z → -359 ≤ z → z ≤ 359 → (if 0 ≤ x then x else x + 360).toInt = z % 360 := by
    intro x z e1 e2 e3
    by_cases hx : 0 ≤ x
    · have := aa_le32.mp hx
      rw [e1, i_0] at this
      rw [if_pos hx, e1]
      omega
    · have := mt aa_le32.mpr hx
      rw [e1, i_0] at this
      rw [if_neg hx, aa_add32 (by rw [e1, i_360]; omega) (by rw [e1, i_360]; omega), e1, i_360]
      omega
  have n1 := norm _ _ s1 (by omega) (by omega)
  have n2 := norm _ _ s2 (by omega) (by omega)
  have e216 : fn_195_216 g0 (Int32.ofNat t) (Int32.ofNat A) (y - g0 541 (50 * t + 4 * A + 5)) (g0 541 (50 * t + 4 * B + 5) - y) (Int32.ofNat B) = fn_196 g0 (Int32.ofNat (50 * t + 4 * A + 5)) (Int32.ofNat (50 * t + 4 * B + 5)) (if 0 ≤ y - g0 541 (50 * t + 4 * A + 5) then y - g0 541 (50 * t + 4 * A + 5) else y - g0 541 (50 * t + 4 * A + 5) + 360) (if 0 ≤ g0 541 (50 * t + 4 * B + 5) - y then g0 541 (50 * t + 4 * B + 5) - y else g0 541 (50 * t + 4 * B + 5) - y + 360) := by
    unfold fn_195_216 fn_195_247 fn_195_263
    rw [ml_pa, ml_pa]
    by_cases q1 : 0 ≤ y - g0 541 (50 * t + 4 * A + 5)
    · by_cases q2 : 0 ≤ g0 541 (50 * t + 4 * B + 5) - y
      · rw [if_pos q1, if_pos q2, if_pos q1, if_pos q2]
      · rw [if_pos q1, if_neg q2, if_pos q1, if_neg q2]
    · by_cases q2 : 0 ≤ g0 541 (50 * t + 4 * B + 5) - y
      · rw [if_neg q1, if_pos q2, if_neg q1, if_pos q2]
      · rw [if_neg q1, if_neg q2, if_neg q1, if_neg q2]
  rw [e216] at hfin
  generalize (if 0 ≤ y - g0 541 (50 * t + 4 * A + 5) then y - g0 541 (50 * t + 4 * A + 5) else y - g0 541 (50 * t + 4 * A + 5) + 360) = S at hfin n1
  generalize (if 0 ≤ g0 541 (50 * t + 4 * B + 5) - y then g0 541 (50 * t + 4 * B + 5) - y else g0 541 (50 * t + 4 * B + 5) - y + 360) = U at hfin n2
  have e196 : fn_196 g0 (Int32.ofNat (50 * t + 4 * A + 5)) (Int32.ofNat (50 * t + 4 * B + 5)) S U = fn_196_32 g0 (Int32.ofNat (50 * t + 4 * A + 5)) (Int32.ofNat (50 * t + 4 * B + 5)) S U (if g0 541 (50 * t + 4 * A + 8) = -1 then g0 541 (50 * t + 4 * B + 8) else g0 541 (50 * t + 4 * A + 8)) := by
    unfold fn_196
    rw [show Int32.ofNat (50 * t + 4 * A + 5) + 3 = Int32.ofNat (50 * t + 4 * A + 8) from ml_add _ 3, show Int32.ofNat (50 * t + 4 * B + 5) + 3 = Int32.ofNat (50 * t + 4 * B + 8) from ml_add _ 3, zz_toN (by omega), zz_toN (by omega)]
    by_cases q : g0 541 (50 * t + 4 * A + 8) = -1
    · rw [if_pos q, if_pos q]
    · rw [if_neg q, if_neg q]
  rw [e196] at hfin
  have hpol : (if g0 541 (50 * t + 4 * A + 8) = -1 then g0 541 (50 * t + 4 * B + 8) else g0 541 (50 * t + 4 * A + 8)).toInt = ll_P w A B := by
    unfold ll_P
    have w4A : (g0 541 (50 * t + 4 * A + 8)).toInt = w 4 A := fA 4 A
    have w4B : (g0 541 (50 * t + 4 * B + 8)).toInt = w 4 B := fA 4 B
    by_cases q : g0 541 (50 * t + 4 * A + 8) = -1
    · rw [if_pos q, w4B, if_neg (c := w 4 A ≠ -1) (fun z => z (by rw [← w4A, q]; rfl))]
    · rw [if_neg q, w4A, if_pos (c := w 4 A ≠ -1) (fun z => q (ti_eq.mpr (by rw [w4A, z]; rfl)))]
  generalize (if g0 541 (50 * t + 4 * A + 8) = -1 then g0 541 (50 * t + 4 * B + 8) else g0 541 (50 * t + 4 * A + 8)) = p at hfin hpol
  unfold fn_196_32 at hfin
  by_cases hp : p = -1
  · have hP : ll_P w A B = -1 := by rw [← hpol, hp]; rfl
    rw [if_pos hp] at hfin
    unfold fn_196_53 fn_196_81 at hfin
    rw [show Int32.ofNat (50 * t + 4 * A + 5) + 1 = Int32.ofNat (50 * t + 4 * A + 6) from ml_add _ 1, show Int32.ofNat (50 * t + 4 * B + 5) + 1 = Int32.ofNat (50 * t + 4 * B + 6) from ml_add _ 1, show Int32.ofNat (50 * t + 4 * A + 5) + 2 = Int32.ofNat (50 * t + 4 * A + 7) from ml_add _ 2, show Int32.ofNat (50 * t + 4 * B + 5) + 2 = Int32.ofNat (50 * t + 4 * B + 7) from ml_add _ 2, zz_toN (by omega), zz_toN (by omega), zz_toN (by omega), zz_toN (by omega)] at hfin
    have hv := congrArg Prod.fst hfin
    have hg2 := congrArg Prod.snd hfin
    dsimp only at hv hg2
    simp only [w5_41] at hg2
    have hPAB : w 4 A = -1 ∧ w 4 B = -1 := by
      unfold ll_P at hP
      by_cases q : w 4 A = -1
      · rw [if_neg (c := w 4 A ≠ -1) (fun z => z q)] at hP
        exact ⟨q, hP⟩
      · rw [if_pos (c := w 4 A ≠ -1) q] at hP
        exact ⟨hP, absurd hP q⟩
    have bA := bnd.1.2.2.2 hPAB.1
    have bB := bnd.2.2.2.2 hPAB.2
    have bA3 := bnd.1.2.1
    have bB3 := bnd.2.2.1
    have m1 := Int.emod_nonneg (y.toInt - w 1 A) (show (360 : Int) ≠ 0 by decide)
    have m2 := Int.emod_lt_of_pos (y.toInt - w 1 A) (show (0 : Int) < 360 by decide)
    have m3 := Int.emod_nonneg (w 1 B - y.toInt) (show (360 : Int) ≠ 0 by decide)
    have m4 := Int.emod_lt_of_pos (w 1 B - y.toInt) (show (0 : Int) < 360 by decide)
    have hSU : (S + U).toInt = (y.toInt - w 1 A) % 360 + (w 1 B - y.toInt) % 360 := by rw [aa_add32 (by omega) (by omega), n1, n2]
    have q2 : (g0 541 (50 * t + 4 * A + 6)).toInt = w 2 A := fA 2 A
    have q3 : (g0 541 (50 * t + 4 * B + 6)).toInt = w 2 B := fA 2 B
    have q4 : (g0 541 (50 * t + 4 * A + 7)).toInt = w 3 A := fA 3 A
    have q5 : (g0 541 (50 * t + 4 * B + 7)).toInt = w 3 B := fA 3 B
    have r2 : (fn_197 (g0 541 (50 * t + 4 * A + 6)) (g0 541 (50 * t + 4 * B + 6)) S (S + U)).toInt = ll_D w A B y.toInt 2 := by
      rw [fn_197_v (by omega) (by omega) (by omega) (by omega) (by omega) (by omega) (by omega) (by omega), hSU, q2, q3, n1]
      rfl
    have r3 : (fn_197 (g0 541 (50 * t + 4 * A + 7)) (g0 541 (50 * t + 4 * B + 7)) S (S + U)).toInt = ll_D w A B y.toInt 3 := by
      rw [fn_197_v (by omega) (by omega) (by omega) (by omega) (by omega) (by omega) (by omega) (by omega), hSU, q4, q5, n1]
      rfl
    rw [← hg2, ← hv, hP]
    refine ⟨fun k j z => ?_, ?_, ?_, fun _ => ⟨?_, ?_⟩⟩
    · rw [aa_w_ne _ _ (by omega), aa_w_ne _ _ (by omega), aa_w_ne _ _ (by omega)]
      exact f0 k j (by omega)
    · rw [aa_w_ne _ _ (by omega), aa_w_ne _ _ (by omega), aa_w_at, hp]
      rfl
    · rw [if_pos rfl]
    · rw [aa_w_ne _ _ (by omega), aa_w_at]
      exact r2
    · rw [aa_w_at]
      exact r3
  · have hP : ll_P w A B ≠ -1 := fun z => hp (ti_eq.mpr (by rw [hpol, z]; rfl))
    rw [if_neg hp] at hfin
    have hv := congrArg Prod.fst hfin
    have hg2 := congrArg Prod.snd hfin
    dsimp only at hv hg2
    rw [← hg2, ← hv]
    refine ⟨fun k j z => ?_, ?_, ?_, fun z => absurd z hP⟩
    · rw [aa_w_ne _ _ (by omega)]
      exact f0 k j (by omega)
    · rw [aa_w_at]
      exact hpol
    · rw [if_neg hP]
/-- the model's walk over the points, one of them left out -/
def ll_st (i j : Nat) : Int32 × Int32 × Int32 × Int32 × Int32 := (if min i j = 0 then -1 else Int32.ofNat (min i j - 1), if i + 1 < j then Int32.ofNat (i + 1) else -1, if j = 0 ∨ (i = 0 ∧ j = 1) then -1 else if i = 0 then 1 else 0, if j = 0 ∨ (i = 0 ∧ j = 1) then -1 else if j = i + 1 then Int32.ofNat (i - 1) else Int32.ofNat (j - 1), Int32.ofNat j)
theorem ll_step {g : aa_G} {t c i j : Nat} {y : Int32} (ht : t < 4) (hc : c ≤ 12) (h1 : g 541 (50 * t + 4) = Int32.ofNat c) (hl : g 540 16 = Int32.ofNat i) (hi : i < c) (hj : j < c) (lo : j < i → av_t (g 541) t 1 j < y.toInt) (hi2 : i < j → y.toInt < av_t (g 541) t 1 j) :
    fn_195_21b g (Int32.ofNat t) y (ll_st i j).1 (ll_st i j).2.1 (ll_st i j).2.2.1 (ll_st i j).2.2.2.1 (ll_st i j).2.2.2.2 = .inl (ll_st i (j + 1)) := by
  have hp : (g 541 (50 * t + 4 * j + 5)).toInt = av_t (g 541) t 1 j := rfl
  unfold fn_195_21b
  rw [show (ll_st i j).2.2.2.2 = Int32.ofNat j from rfl, ml_ta, show Int32.ofNat (50 * t + 3) + 1 = Int32.ofNat (50 * t + 4) from ml_add _ 1, zz_toN (by omega), h1, if_neg (fun z => by
    have := aa_le32.mp z
    rw [zz_ofN (by omega), zz_ofN (by omega)] at this
    omega), hl, ml_pa, zz_toN (by omega)]
  generalize g 541 (50 * t + 4 * j + 5) = p at hp ⊢
  by_cases hij : j = i
  · subst hij
    rw [if_neg (c := Int32.ofNat j ≠ Int32.ofNat j) (fun z => z rfl)]
    unfold fn_195_117 ll_st
    rw [aa_succ]
    dsimp only
    rw [Nat.min_self, Nat.min_eq_left (Nat.le_succ j), if_neg (c := j + 1 < j) (by omega), if_neg (c := j + 1 < j + 1) (by omega)]
    by_cases j0 : j = 0
    · subst j0
      rfl
    · have q1 : ¬ (j = 0 ∨ j = 0 ∧ j = 1) := by omega
      have q2 : ¬ (j + 1 = 0 ∨ j = 0 ∧ j + 1 = 1) := by omega
      have q3 : ¬ j = j + 1 := by omega
      simp only [if_neg q1, if_neg q2, if_neg q3, if_neg j0, eq_self, if_true]
  · rw [if_pos (c := Int32.ofNat j ≠ Int32.ofNat i) (fun z => hij (by
      have := congrArg Int32.toInt z
      rw [zz_ofN (by omega), zz_ofN (by omega)] at this
      omega))]
    have n6 : ∀ x : Int32, x = (if i = 0 then (1 : Int32) else 0) → fn_195_75 g (Int32.ofNat t) y (ll_st i j).1 (ll_st i j).2.1 (Int32.ofNat j) p x = .inl (ll_st i (j + 1)) := by
      intro x hx
      have e6 : (if j + 1 = 0 ∨ (i = 0 ∧ j + 1 = 1) then (-1 : Int32) else if i = 0 then 1 else 0) = x := by rw [if_neg (by omega), hx]
      have e7 : (if j + 1 = 0 ∨ (i = 0 ∧ j + 1 = 1) then (-1 : Int32) else if j + 1 = i + 1 then Int32.ofNat (i - 1) else Int32.ofNat (j + 1 - 1)) = Int32.ofNat j := by rw [if_neg (by omega), if_neg (by omega), Nat.add_sub_cancel]
      unfold ll_st
      dsimp only
      rw [e6, e7]
      unfold fn_195_75 fn_195_94 fn_195_113 fn_195_115 fn_195_117
      rw [aa_succ]
      by_cases z : j < i
      · have k1 := lo z
        rw [if_neg (c := y < p) (fun h => by have := ti_lt.mp h; omega), if_pos (c := p < y) (ti_lt.mpr (by omega)), show min i (j + 1) = j + 1 by omega, if_neg (c := j + 1 = 0) (by omega), Nat.add_sub_cancel, if_neg (c := i + 1 < j) (by omega), if_neg (c := i + 1 < j + 1) (by omega)]
      · have k1 := hi2 (by omega)
        rw [if_pos (c := y < p) (ti_lt.mpr (by omega)), if_neg (c := p < y) (fun h => by have := ti_lt.mp h; omega), show min i (j + 1) = i by omega, show min i j = i by omega, if_pos (c := i + 1 < j + 1) (by omega)]
        by_cases q : i + 1 < j
        · rw [if_pos q, if_pos (ml_n1 (by omega))]
        · rw [if_neg q, if_neg (fun z => z rfl), show j = i + 1 by omega]
    by_cases z : j = 0 ∨ (i = 0 ∧ j = 1)
    · have e : (ll_st i j).2.2.1 = -1 := by
        unfold ll_st
        dsimp only
        rw [if_pos z]
      rw [e, if_neg (c := (-1 : Int32) ≠ -1) (fun h => h rfl)]
      refine n6 _ ?_
      by_cases i0 : i = 0
      · rw [if_pos i0, show j = 1 by omega]
        rfl
      · rw [if_neg i0, show j = 0 by omega]
        rfl
    · have e : (ll_st i j).2.2.1 = (if i = 0 then (1 : Int32) else 0) := by
        unfold ll_st
        dsimp only
        rw [if_neg z]
      rw [e, if_pos (c := (if i = 0 then (1 : Int32) else 0) ≠ -1) (by split <;> decide)]
      exact n6 _ rfl
theorem ll_lop {g : aa_G} {t c i : Nat} {y : Int32} (ht : t < 4) (hc : c ≤ 12) (h1 : g 541 (50 * t + 4) = Int32.ofNat c) (hl : g 540 16 = Int32.ofNat i) (hi : i < c) (lo : ∀ j, j < c → (j < i → av_t (g 541) t 1 j < y.toInt) ∧ (i < j → y.toInt < av_t (g 541) t 1 j)) (f : Int32 × Int32 × Int32 × Int32 × Int32 → (Int32 × Int32 × Int32 × Int32 × Int32) ⊕ (Int32 × aa_G)) (hf : ∀ z, f z = fn_195_21b g (Int32.ofNat t) y z.1 z.2.1 z.2.2.1 z.2.2.2.1 z.2.2.2.2) (d : Int32 × aa_G) : ∀ (m j : Nat), j + m = c → lp_f d f (ll_st i j) = lp_f d f (ll_st i c)
  | 0, j, hj => by rw [show j = c by omega]
  | m + 1, j, hj => by
    rw [← ll_lop ht hc h1 hl hi lo f hf d m (j + 1) (by omega)]
    refine lp_l ?_
    rw [hf]
    exact ll_step ht hc h1 hl hi (by omega) (lo j (by omega)).1 (lo j (by omega)).2
def ll_A (c i : Nat) : Nat := if i = 0 then c - 1 else i - 1
def ll_B (c i : Nat) : Nat := if i + 1 < c then i + 1 else 0
/-- lay with a point left out -/
theorem ll_all {g : aa_G} {t c i : Nat} {y : Int32} (ht : t < 4) (hw : tw_ok (av_t (g 541) t) c) (h1 : g 541 (50 * t + 4) = Int32.ofNat c) (hl : g 540 16 = Int32.ofNat i) (hi : i < c) (hc2 : 2 ≤ c) (hy : y.toInt = av_t (g 541) t 1 i) {v : Int32} {g' : aa_G} (hg : fn_195 g (Int32.ofNat t) y = (v, g')) :
    (∀ k j, ¬ (k = 540 ∧ 13 ≤ j ∧ j ≤ 15) → g' k j = g k j) ∧ (g' 540 13).toInt = ll_P (av_t (g 541) t) (ll_A c i) (ll_B c i) ∧ v = (if ll_P (av_t (g 541) t) (ll_A c i) (ll_B c i) = -1 then 1 else 0) ∧ (ll_P (av_t (g 541) t) (ll_A c i) (ll_B c i) = -1 → (g' 540 14).toInt = ll_D (av_t (g 541) t) (ll_A c i) (ll_B c i) y.toInt 2 ∧ (g' 540 15).toInt = ll_D (av_t (g 541) t) (ll_A c i) (ll_B c i) y.toInt 3) := by
  have hc := hw.1
  have yi := hw.2.1 i hi
  have ey : y - y / 360 * 360 = y := ti_eq.mpr (by rw [ti_rem (by omega) (by decide), i_360]; omega)
  have hA : ll_A c i < c := by unfold ll_A; split <;> omega
  have hB : ll_B c i < c := by unfold ll_B; split <;> omega
  unfold fn_195 fn_195_21 at hg
  rw [ey] at hg
  have h0 : ll_st i 0 = (-1, -1, -1, -1, 0) := by
    unfold ll_st
    rw [if_pos (Nat.min_zero _), if_neg (Nat.not_lt_zero _), if_pos (.inl rfl), if_pos (.inl rfl)]
    rfl
  have lo : ∀ j, j < c → (j < i → av_t (g 541) t 1 j < y.toInt) ∧ (i < j → y.toInt < av_t (g 541) t 1 j) := by
    intro j hj
    refine ⟨fun z => ?_, fun z => ?_⟩
    · have := tw_mono hw.2.2.1 (i - j) j (by omega)
      rw [show j + (i - j) = i by omega] at this
      omega
    · have := tw_mono hw.2.2.1 (j - i) i (by omega)
      rw [show i + (j - i) = j by omega] at this
      omega
  have hlp := ll_lop (y := y) ht hc h1 hl hi lo _ (fun z => rfl) (0, g) c 0 (by omega)
  rw [h0] at hlp
  rw [hlp] at hg
  rw [lp_eq] at hg
  unfold fn_195_21b at hg
  rw [show (ll_st i c).2.2.2.2 = Int32.ofNat c from rfl, ml_ta, show Int32.ofNat (50 * t + 3) + 1 = Int32.ofNat (50 * t + 4) from ml_add _ 1, zz_toN (by omega), h1, if_pos (show Int32.ofNat c ≤ Int32.ofNat c from aa_le32.mpr (Int.le_refl _))] at hg
  have x6 : (ll_st i c).2.2.1 ≠ -1 := by
    unfold ll_st
    dsimp only
    rw [if_neg (c := c = 0 ∨ i = 0 ∧ c = 1) (by omega)]
    split <;> decide
  rw [if_pos x6] at hg
  have eA : (if (ll_st i c).1 ≠ -1 then (ll_st i c).1 else (ll_st i c).2.2.2.1) = Int32.ofNat (ll_A c i) := by
    unfold ll_st ll_A
    dsimp only
    rw [Nat.min_eq_left (Nat.le_of_lt hi), if_neg (c := c = 0 ∨ i = 0 ∧ c = 1) (by omega)]
    by_cases i0 : i = 0
    · simp only [if_pos i0, if_neg (show ¬ (c = 0 ∨ i = 0 ∧ c = 1) by omega), if_neg (show ¬ c = i + 1 by omega), if_neg (show ¬ ((-1 : Int32) ≠ -1) from fun h => h rfl)]
    · simp only [if_neg i0, if_pos (ml_n1 (show i - 1 < 2147483648 by omega))]
  have eB : (if (ll_st i c).2.1 ≠ -1 then (ll_st i c).2.1 else (ll_st i c).2.2.1) = Int32.ofNat (ll_B c i) := by
    unfold ll_st ll_B
    dsimp only
    rw [if_neg (c := c = 0 ∨ i = 0 ∧ c = 1) (by omega)]
    by_cases z : i + 1 < c
    · rw [if_pos z, if_pos z, if_pos (ml_n1 (by omega))]
    · rw [if_neg z, if_neg z, if_neg (c := (-1 : Int32) ≠ -1) (fun h => h rfl), if_neg (c := i = 0) (by omega)]
      rfl
  have hfin : fn_195_155 (zz_w g 540 13 0) (Int32.ofNat t) y (ll_st i c).1 (ll_st i c).2.1 (ll_st i c).2.2.1 (ll_st i c).2.2.2.1 (if (ll_st i c).1 ≠ -1 then (ll_st i c).1 else (ll_st i c).2.2.2.1) (Int32.ofNat t) y = (v, g') := by
    by_cases hx : (ll_st i c).1 = -1
    · rw [if_neg (c := (ll_st i c).1 ≠ -1) (fun z => z hx)] at hg ⊢
      exact hg
    · rw [if_pos (c := (ll_st i c).1 ≠ -1) hx] at hg ⊢
      exact hg
  exact ll_fin ht (by omega) (by omega) eA eB (hw.2.1 _ hA) (hw.2.1 _ hB) ⟨hw.2.2.2 _ hA, hw.2.2.2 _ hB⟩ (by omega) hfin
