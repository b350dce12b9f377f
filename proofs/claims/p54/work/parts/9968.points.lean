/-! WHAT THE MODEL'S SET AND REMOVE DO TO A TOWN'S POINTS -/
def yNp (d x y : Int32) (o : Nat) : Int32 := if o = 1 then d else if o = 2 then x else if o = 3 then y else -1
theorem yNp_at {g : aa_G} {P : Nat} {d x y : Int32} (q : Nat) : zz_w (zz_w (zz_w (zz_w g 541 (P + 1) d) 541 (P + 2) x) 541 (P + 3) y) 541 (P + 4) (-1) 541 q = if P + 1 ≤ q ∧ q ≤ P + 4 then yNp d x y (q - P) else g 541 q := lm_at (d := yNp d x y)
theorem yNp_ne {g : aa_G} {P : Nat} {d x y : Int32} {k j : Nat} (hk : k ≠ 541) : zz_w (zz_w (zz_w (zz_w g 541 (P + 1) d) 541 (P + 2) x) 541 (P + 3) y) 541 (P + 4) (-1) k j = g k j := by
  rw [aa_w_ne _ _ (by omega), aa_w_ne _ _ (by omega), aa_w_ne _ _ (by omega), aa_w_ne _ _ (by omega)]
theorem ym_set {g : aa_G} (hi : aa_inv g) (h0 : q1_s g g 2 0) {e : Nat} (he : g 540 1 = Int32.ofNat e) (h12 : e ≤ 12) {t : Nat} (t4 : t < 4) (tn : (t : Int) < (g 541 0).toInt) {d x y : Int32} (g1 : 0 ≤ d.toInt ∧ d.toInt ≤ 359) (g2 : 0 ≤ x.toInt ∧ x.toInt ≤ 86399) (g3 : 0 ≤ y.toInt ∧ y.toInt ≤ 86399) (g4 : x < y) :
    ∃ c i, c ≤ 12 ∧ i ≤ c ∧ g 541 (50 * t + 4) = Int32.ofNat c ∧ (∀ j, j < i → (g 541 (50 * t + 4 * j + 5)).toInt < d.toInt) ∧
      ((i < c ∧ g 541 (50 * t + 4 * i + 5) = d ∧ (fn_257 g (Int32.ofNat t) d x y).1 = Int32.ofNat c ∧ (∀ q, (fn_257 g (Int32.ofNat t) d x y).2 541 q = if 50 * t + 4 * i + 4 + 1 ≤ q ∧ q ≤ 50 * t + 4 * i + 4 + 4 then yNp d x y (q - (50 * t + 4 * i + 4)) else fn_156 g 541 q) ∧ ∀ k j, k ≠ 541 → (fn_257 g (Int32.ofNat t) d x y).2 k j = fn_156 g k j) ∨
       ((i < c → d.toInt < (g 541 (50 * t + 4 * i + 5)).toInt) ∧ ((c = 12 ∧ fn_257 g (Int32.ofNat t) d x y = (-1, g)) ∨ (c < 12 ∧ (fn_257 g (Int32.ofNat t) d x y).1 = Int32.ofNat (c + 1) ∧ (∀ q, (fn_257 g (Int32.ofNat t) d x y).2 541 q = if 50 * t + 4 * i + 4 + 1 ≤ q ∧ q ≤ 50 * t + 4 * i + 4 + 4 then yNp d x y (q - (50 * t + 4 * i + 4)) else if q = 50 * t + 4 then Int32.ofNat (c + 1) else if 50 * t + 4 * i + 9 ≤ q ∧ q ≤ 50 * t + 4 * c + 8 then fn_156 g 541 (q - 4) else fn_156 g 541 q) ∧ ∀ k j, k ≠ 541 → (fn_257 g (Int32.ofNat t) d x y).2 k j = fn_156 g k j)))) := by
  have h199 : ∀ z, fn_199 z = fn_154 z 0 86399 := fun _ => rfl
  have k := h0.2.2.2 t (by rw [show 399 * 0 = 0 from rfl]; exact tn)
  rw [show 399 * 0 + 50 * t + 3 = 50 * t + 3 by omega, show 5 * t + (2 + 12) = 5 * t + 14 from rfl] at k
  obtain ⟨-, -, -, m4⟩ := dm_deed he h12
  obtain ⟨c, hc, h1⟩ := tq_count hi t4
  obtain ⟨i, i1, i2, i3, i4, i5⟩ := tq_find (d := d) t4 k hc h1
  have x2 : ∀ q, q < 399 → fn_156 g 541 q = g 541 q := fun q hq => m4 _ _ (by omega) (by omega)
  have m1 : fn_156 g 541 (50 * t + 4) = Int32.ofNat c := (x2 _ (by omega)).trans h1
  refine ⟨c, i, hc, i1, h1, i3, ?_⟩
  unfold fn_257
  rw [h199, h199, if_neg (fun q => (ti_192N hi).mp q (by rw [show (Int32.ofNat t).toInt = t from zz_ofN (by omega)]; omega)), if_neg ((ti_154n (a := d) (b := 0) (c := 359)).mpr g1), if_neg ((ti_154n (a := x) (b := 0) (c := 86399)).mpr g2), if_neg ((ti_154n (a := y) (b := 0) (c := 86399)).mpr g3), if_pos g4]
  rw [i2, ml_ta, show Int32.ofNat (50 * t + 3) + 1 = Int32.ofNat (50 * t + 4) from i_add _ 1, zz_toN (by omega), h1, ml_pa, zz_toN (by omega)]
  rcases i5 with ⟨j1, j2, -⟩ | ⟨j1, -⟩
  · refine Or.inl ⟨j1, j2, ?_⟩
    rw [if_neg (c := Int32.ofNat c ≤ Int32.ofNat i) (fun z => by
      have := (i_le (by omega) (by omega)).mp z
      omega), if_neg (c := g 541 (50 * t + 4 * i + 5) ≠ d) (fun z => z j2)]
    unfold fn_257_90 fn_257_111 fn_257_115
    rw [if_pos (c := (1 : Int32) ≠ 0) (by decide), if_pos (c := (1 : Int32) ≠ 0) (by decide), lm_all t4 (by omega), m1]
    exact ⟨rfl, fun q => yNp_at q, fun k j hk => yNp_ne hk⟩
  · refine Or.inr ⟨j1, ?_⟩
    have em : (if Int32.ofNat c ≤ Int32.ofNat i then fn_257_89 g (Int32.ofNat t) d x y (Int32.ofNat (50 * t + 4)) (Int32.ofNat i) else if g 541 (50 * t + 4 * i + 5) ≠ d then fn_257_89 g (Int32.ofNat t) d x y (Int32.ofNat (50 * t + 4)) (Int32.ofNat i) else fn_257_90 g (Int32.ofNat t) d x y (Int32.ofNat (50 * t + 4)) (Int32.ofNat i) 1) = fn_257_89 g (Int32.ofNat t) d x y (Int32.ofNat (50 * t + 4)) (Int32.ofNat i) := by
      by_cases hic : Int32.ofNat c ≤ Int32.ofNat i
      · rw [if_pos hic]
      · rw [if_neg hic, if_pos]
        intro z
        have h9 := mt (i_le (a := c) (b := i) (by omega) (by omega)).mpr hic
        have := j1 (by omega)
        rw [z] at this
        omega
    rw [em]
    unfold fn_257_89 fn_257_90 fn_257_111 fn_257_115
    rw [if_neg (c := (0 : Int32) ≠ 0) (fun z => z rfl), if_neg (c := (0 : Int32) ≠ 0) (fun z => z rfl), zz_toN (by omega), h1, m1]
    by_cases h12c : c < 12
    · refine Or.inr ⟨h12c, ?_⟩
      rw [if_pos (c := Int32.ofNat c ≠ 12) (fun z => by
        have := congrArg Int32.toInt z
        rw [i_12 hc, show (12 : Int32).toInt = 12 from rfl] at this
        omega), ml_pa, i_sub1 (by omega) (by omega)]
      obtain ⟨gy, ey, sy⟩ := om_loop (g0 := fn_156 g) (a2 := d) (a3 := x) (a4 := y) (b5 := Int32.ofNat (50 * t + 4)) t4 h12c i1 (4 * c - 4 * i) (50 * t + 4 * c + 5) (fn_156 g) (by omega) (Nat.le_refl _) ⟨fun q => by rw [if_neg (by omega)], fun _ _ _ => rfl⟩
      rw [ey, zz_toN (by omega)]
      have sy4 : gy 541 (50 * t + 4) = Int32.ofNat c := by rw [sy.1, if_neg (by omega), m1]
      rw [sy4, aa_succ, lm_all t4 (by omega), aa_w_at]
      refine ⟨rfl, fun q => ?_, fun k j hk => ?_⟩
      · refine (yNp_at (P := 50 * t + 4 * i + 4) q).trans ?_
        by_cases c1 : 50 * t + 4 * i + 4 + 1 ≤ q ∧ q ≤ 50 * t + 4 * i + 4 + 4
        · rw [if_pos c1, if_pos c1]
        · rw [if_neg c1, if_neg c1]
          by_cases c2 : q = 50 * t + 4
          · rw [if_pos c2, c2, aa_w_at]
          · rw [if_neg c2, aa_w_ne _ _ (by omega), sy.1]
            by_cases c3 : 50 * t + 4 * i + 9 ≤ q ∧ q ≤ 50 * t + 4 * c + 8
            · rw [if_pos c3, if_pos (by omega)]
            · rw [if_neg c3, if_neg (by omega)]
      · refine (yNp_ne (P := 50 * t + 4 * i + 4) hk).trans ?_
        rw [aa_w_ne _ _ (by omega)]
        exact sy.2 k j hk
    · refine Or.inl ⟨by omega, ?_⟩
      have e12 : c = 12 := by omega
      subst e12
      rw [if_neg (c := Int32.ofNat 12 ≠ 12) (fun z => z rfl)]
theorem ym_remove {g : aa_G} (hi : aa_inv g) (h0 : q1_s g g 2 0) {e : Nat} (he : g 540 1 = Int32.ofNat e) (h12 : e ≤ 12) {t : Nat} (t4 : t < 4) (tn : (t : Int) < (g 541 0).toInt) (d : Int32) :
    ∃ c i, c ≤ 12 ∧ i ≤ c ∧ g 541 (50 * t + 4) = Int32.ofNat c ∧ (∀ j, j < i → (g 541 (50 * t + 4 * j + 5)).toInt < d.toInt) ∧
      (((i < c → d.toInt < (g 541 (50 * t + 4 * i + 5)).toInt) ∧ fn_259 g (Int32.ofNat t) d = (-1, g)) ∨
       (i < c ∧ g 541 (50 * t + 4 * i + 5) = d ∧ (fn_259 g (Int32.ofNat t) d).1 = Int32.ofNat (c - 1) ∧ (∀ q, (fn_259 g (Int32.ofNat t) d).2 541 q = if q = 50 * t + 4 then Int32.ofNat (c - 1) else if 50 * t + 4 * i + 5 ≤ q ∧ q < 50 * t + 4 * (c - 1) + 5 then fn_156 g 541 (q + 4) else fn_156 g 541 q) ∧ ∀ k j, k ≠ 541 → (fn_259 g (Int32.ofNat t) d).2 k j = fn_156 g k j)) := by
  have k := h0.2.2.2 t (by rw [show 399 * 0 = 0 from rfl]; exact tn)
  rw [show 399 * 0 + 50 * t + 3 = 50 * t + 3 by omega, show 5 * t + (2 + 12) = 5 * t + 14 from rfl] at k
  obtain ⟨-, -, -, m4⟩ := dm_deed he h12
  obtain ⟨c, hc, h1⟩ := tq_count hi t4
  obtain ⟨i, i1, i2, i3, i4, i5⟩ := tq_find (d := d) t4 k hc h1
  have x2 : ∀ q, q < 399 → fn_156 g 541 q = g 541 q := fun q hq => m4 _ _ (by omega) (by omega)
  have m1 : fn_156 g 541 (50 * t + 4) = Int32.ofNat c := (x2 _ (by omega)).trans h1
  refine ⟨c, i, hc, i1, h1, i3, ?_⟩
  unfold fn_259
  rw [if_pos (c := fn_192 g (Int32.ofNat t) ≠ 0) (fun q => (ti_192N hi).mp q (by rw [show (Int32.ofNat t).toInt = t from zz_ofN (by omega)]; omega))]
  rw [i2, ml_ta, show Int32.ofNat (50 * t + 3) + 1 = Int32.ofNat (50 * t + 4) from i_add _ 1, zz_toN (by omega), h1, ml_pa, zz_toN (by omega)]
  rcases i5 with ⟨j1, j2, -⟩ | ⟨j1, -⟩
  · refine Or.inr ⟨j1, j2, ?_⟩
    rw [if_neg (c := Int32.ofNat i = Int32.ofNat c) (fun z => by
      have := congrArg Int32.toInt z
      rw [i_12 (by omega), i_12 hc] at this
      omega), if_pos j2]
    unfold fn_259_57
    rw [zz_toN (by omega), m1, i_sub1 (by omega) (by omega), ml_pa]
    obtain ⟨gy, ey, sy⟩ := dm_loop (g0 := zz_w (fn_156 g) 541 (50 * t + 4) (Int32.ofNat (c - 1))) (i := i) (c1 := c - 1) t4 (by omega) (by omega) (aa_w_at _ _ _ _) (4 * (c - 1) - 4 * i) (50 * t + 4 * i + 5) _ (by omega) (Nat.le_refl _) ⟨fun q => by rw [if_neg (by omega)], fun _ _ _ => rfl⟩
    rw [ey]
    refine ⟨rfl, fun q => ?_, fun k j hk => ?_⟩
    · show gy 541 q = _
      rw [sy.1]
      by_cases c2 : q = 50 * t + 4
      · rw [if_pos c2, if_neg (by omega), c2, aa_w_at]
      · rw [if_neg c2]
        by_cases c3 : 50 * t + 4 * i + 5 ≤ q ∧ q < 50 * t + 4 * (c - 1) + 5
        · rw [if_pos c3, if_pos c3, aa_w_ne _ _ (by omega)]
        · rw [if_neg c3, if_neg c3, aa_w_ne _ _ (by omega)]
    · show gy k j = _
      rw [sy.2 k j hk, aa_w_ne _ _ (by omega)]
  · refine Or.inl ⟨j1, ?_⟩
    by_cases hic : Int32.ofNat i = Int32.ofNat c
    · rw [if_pos hic]
    · rw [if_neg hic, if_neg]
      intro z
      have hne : i ≠ c := fun e => hic (by rw [e])
      have := j1 (by omega)
      rw [z] at this
      omega
