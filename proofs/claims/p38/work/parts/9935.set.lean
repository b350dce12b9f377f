/-! EDITS: set() on both sides -/
/-- place is made: the class's rows -/
def op_c (g0 g : aa_G) (T c k : Nat) : Prop := (∀ o j, 1 ≤ o → o ≤ 4 → g (T + o) j = if k < j ∧ j ≤ c then g0 (T + o) (j - 1) else g0 (T + o) j) ∧ ∀ k' j, ¬ (T + 1 ≤ k' ∧ k' ≤ T + 4) → g k' j = g0 k' j
theorem op_loop {g0 : aa_G} {T c i : Nat} {d : Int32} (hc : c < 12) (hi : i ≤ c) (h1 : g0 T 1 = Int32.ofNat c) (hlo : ∀ j, j < i → (g0 (T + 1) j).toInt ≤ d.toInt) (hhi : ∀ j, i ≤ j → j < c → d.toInt < (g0 (T + 1) j).toInt) : ∀ (m k : Nat) (g : aa_G), i + m = k → k ≤ c → op_c g0 g T c k → ∃ g', fn_68_5 g T d (Int32.ofNat k) = (Int32.ofNat i, zz_w g' T 1 (Int32.ofNat (c + 1))) ∧ op_c g0 g' T c i
  | 0, k, g, hk, hkc, h => by
    have hk : k = i := by omega
    subst hk
    have e1 : g T 1 = Int32.ofNat c := (h.2 T 1 (by omega)).trans h1
    refine ⟨g, ?_, h⟩
    unfold fn_68_5
    refine lp_r ?_
    show fn_68_5b g T d (Int32.ofNat k) = _
    unfold fn_68_5b
    rw [e1, aa_succ]
    by_cases h0 : k = 0
    · rw [if_pos (by rw [h0]; decide)]
    · rw [if_neg (fun z => by
        have := aa_le32.mp z
        rw [i_12 (by omega), show (0 : Int32).toInt = 0 from rfl] at this
        omega), i_sub1 (by omega) (by omega), zz_toN (by omega), if_pos]
      rw [h.1 1 (k - 1) (by omega) (by omega), if_neg (by omega)]
      exact aa_le32.mpr (hlo _ (by omega))
  | m + 1, k, g, hk, hkc, h => by
    have e1 : g T 1 = Int32.ofNat c := (h.2 T 1 (by omega)).trans h1
    have hs : fn_68_5 g T d (Int32.ofNat k) = fn_68_5 (zz_w (zz_w (zz_w (zz_w g (T + 1) k (g (T + 1) (k - 1))) (T + 2) k (g (T + 2) (k - 1))) (T + 3) k (g (T + 3) (k - 1))) (T + 4) k (g (T + 4) (k - 1))) T d (Int32.ofNat (k - 1)) := by
      unfold fn_68_5
      refine lp_l ?_
      show fn_68_5b g T d (Int32.ofNat k) = _
      unfold fn_68_5b fn_68_58
      rw [if_neg (fun z => by
        have := aa_le32.mp z
        rw [i_12 (by omega), show (0 : Int32).toInt = 0 from rfl] at this
        omega), i_sub1 (by omega) (by omega), zz_toN (by omega), if_neg (fun z => by
        have := aa_le32.mp z
        rw [h.1 1 (k - 1) (by omega) (by omega), if_neg (by omega)] at this
        have := hhi (k - 1) (by omega) (by omega)
        omega), fl_all (by omega), i_dec (by omega) (by omega)]
    rw [hs]
    refine op_loop hc hi h1 hlo hhi m (k - 1) _ (by omega) (by omega) ⟨fun o j o1 o2 => ?_, fun k' j z => ?_⟩
    · rw [fl_at (d := fun o => g (T + o) (k - 1)) o j o1 o2]
      by_cases hj : j = k
      · rw [if_pos hj, if_pos (by omega), hj, h.1 o (k - 1) o1 o2, if_neg (by omega)]
      · rw [if_neg hj, h.1 o j o1 o2]
        by_cases hr : k < j ∧ j ≤ c
        · rw [if_pos hr, if_pos (by omega)]
        · rw [if_neg hr, if_neg (by omega)]
    · rw [fl_ne z]
      exact h.2 k' j z
/-- the model's row: all from lo to hi four places on -/
def op_m (g0 g : aa_G) (p hi : Nat) : Prop := (∀ q, g 541 q = if p + 4 ≤ q ∧ q < hi + 4 then g0 541 (q - 4) else g0 541 q) ∧ ∀ k j, k ≠ 541 → g k j = g0 k j
theorem om_loop {g0 : aa_G} {t i c : Nat} {a2 a3 a4 b5 : Int32} (ht : t < 4) (hc : c < 12) (hi : i ≤ c) : ∀ (m p : Nat) (g : aa_G), 50 * t + 4 * i + 5 + m = p → p ≤ 50 * t + 4 * c + 5 → op_m g0 g p (50 * t + 4 * c + 5) → ∃ g', fn_257_135 g (Int32.ofNat t) a2 a3 a4 b5 (Int32.ofNat i) (Int32.ofNat (p - 1)) = fn_257_179 (zz_w g' 541 b5.toNatClampNeg ((g' 541 b5.toNatClampNeg) + 1)) (Int32.ofNat t) a2 a3 a4 b5 (Int32.ofNat i) ∧ op_m g0 g' (50 * t + 4 * i + 5) (50 * t + 4 * c + 5)
  | 0, p, g, hk, hp, h => by
    refine ⟨g, ?_, by rw [show 50 * t + 4 * i + 5 = p by omega]; exact h⟩
    unfold fn_257_135
    refine lp_r ?_
    show fn_257_135b g (Int32.ofNat t) a2 a3 a4 b5 (Int32.ofNat i) (Int32.ofNat (p - 1)) = _
    unfold fn_257_135b
    rw [ml_pa, if_pos]
    refine aa_lt32.mpr ?_
    rw [zz_ofN (by omega), zz_ofN (by omega)]
    omega
  | m + 1, p, g, hk, hp, h => by
    have hs : fn_257_135 g (Int32.ofNat t) a2 a3 a4 b5 (Int32.ofNat i) (Int32.ofNat (p - 1)) = fn_257_135 (zz_w g 541 (p - 1 + 4) (g 541 (p - 1))) (Int32.ofNat t) a2 a3 a4 b5 (Int32.ofNat i) (Int32.ofNat (p - 1 - 1)) := by
      unfold fn_257_135
      refine lp_l ?_
      show fn_257_135b g (Int32.ofNat t) a2 a3 a4 b5 (Int32.ofNat i) (Int32.ofNat (p - 1)) = _
      unfold fn_257_135b
      rw [ml_pa, if_neg (fun z => by
        have := aa_lt32.mp z
        rw [zz_ofN (by omega), zz_ofN (by omega)] at this
        omega), show Int32.ofNat (p - 1) + 4 = Int32.ofNat (p - 1 + 4) from i_add _ 4, zz_toN (by omega), zz_toN (by omega), i_dec (by omega) (by omega)]
    rw [hs]
    refine om_loop ht hc hi m (p - 1) _ (by omega) (by omega) ⟨fun q => ?_, fun k j z => ?_⟩
    · by_cases hq : q = p - 1 + 4
      · rw [hq, aa_w_at, if_pos (by omega), h.1 (p - 1), if_neg (by omega), show p - 1 + 4 - 4 = p - 1 by omega]
      · rw [aa_w_ne _ _ (by omega), h.1 q]
        by_cases hr : p + 4 ≤ q ∧ q < 50 * t + 4 * c + 5 + 4
        · rw [if_pos hr, if_pos (by omega)]
        · rw [if_neg hr, if_neg (by omega)]
    · rw [aa_w_ne _ _ (by omega)]
      exact h.2 k j z
/-- the model's point is laid down -/
theorem lm_all {g : aa_G} {t i : Nat} {d1 d2 d3 : Int32} (ht : t < 4) (hi : i < 12) : fn_257_179 g (Int32.ofNat t) d1 d2 d3 (Int32.ofNat (50 * t + 4)) (Int32.ofNat i) = (g 541 (50 * t + 4), zz_w (zz_w (zz_w (zz_w g 541 (50 * t + 4 * i + 5) d1) 541 (50 * t + 4 * i + 6) d2) 541 (50 * t + 4 * i + 7) d3) 541 (50 * t + 4 * i + 8) (-1)) := by
  unfold fn_257_179 fn_257_211 fn_177
  rw [ml_pa, zz_toN (by omega), zz_toN (by omega), show Int32.ofNat (50 * t + 4 * i + 5) + 1 = Int32.ofNat (50 * t + 4 * i + 6) from i_add _ 1, show Int32.ofNat (50 * t + 4 * i + 5) + 2 = Int32.ofNat (50 * t + 4 * i + 7) from i_add _ 2, show Int32.ofNat (50 * t + 4 * i + 5) + 3 = Int32.ofNat (50 * t + 4 * i + 8) from i_add _ 3, zz_toN (by omega), zz_toN (by omega), zz_toN (by omega), aa_w_ne _ _ (by omega), aa_w_ne _ _ (by omega), aa_w_ne _ _ (by omega), aa_w_ne _ _ (by omega)]
theorem lm_at {g : aa_G} {P : Nat} {d : Nat → Int32} {q : Nat} : zz_w (zz_w (zz_w (zz_w g 541 (P + 1) (d 1)) 541 (P + 2) (d 2)) 541 (P + 3) (d 3)) 541 (P + 4) (d 4) 541 q = if P + 1 ≤ q ∧ q ≤ P + 4 then d (q - P) else g 541 q := by
  by_cases h : P + 1 ≤ q ∧ q ≤ P + 4
  · rw [if_pos h]
    rcases (show q = P + 1 ∨ q = P + 2 ∨ q = P + 3 ∨ q = P + 4 by omega) with rfl | rfl | rfl | rfl
    · rw [aa_w_ne _ _ (by omega), aa_w_ne _ _ (by omega), aa_w_ne _ _ (by omega), aa_w_at, show P + 1 - P = 1 by omega]
    · rw [aa_w_ne _ _ (by omega), aa_w_ne _ _ (by omega), aa_w_at, show P + 2 - P = 2 by omega]
    · rw [aa_w_ne _ _ (by omega), aa_w_at, show P + 3 - P = 3 by omega]
    · rw [aa_w_at, show P + 4 - P = 4 by omega]
  · rw [if_neg h, aa_w_ne _ _ (by omega), aa_w_ne _ _ (by omega), aa_w_ne _ _ (by omega), aa_w_ne _ _ (by omega)]
theorem mu_set {B : rq_Q} (hcp : rq_cp B) (hbf : rq_bf B) {gc gm : aa_G} (hi : aa_inv gm) (h : rr_g (qb_s B) gc gm) (a d x y : Int32) : mu_ok B (fn_65 gc a d x y) (fn_257 gm a d x y) := by
  have h' := h
  obtain ⟨h0, h2, ⟨cc, e, hd⟩, hs⟩ := h
  have h := h'
  obtain ⟨pc, pm⟩ := rr_push hd
  have he := hd.1.2
  have h66 : ∀ z, fn_66 z = fn_14 z 0 86399 := fun _ => rfl
  have h199 : ∀ z, fn_199 z = fn_154 z 0 86399 := fun _ => rfl
  unfold fn_65 fn_257
  rw [h66, h66, h199, h199]
  rcases ct_two hi h0 a with ⟨t, t4, rfl, tn, e1, e2, k⟩ | ⟨tn, e1, e2⟩
  · rw [e1, e2, if_neg (c := (1 : Int32) = 0) (by decide)]
    dsimp only
    by_cases g1 : (0 : Int32).toInt ≤ d.toInt ∧ d.toInt ≤ (359 : Int32).toInt
    · rw [if_pos (ti_14n.mpr g1), if_neg (ti_154n.mpr g1)]
      by_cases g2 : (0 : Int32).toInt ≤ x.toInt ∧ x.toInt ≤ (86399 : Int32).toInt
      · rw [if_neg (ti_14n.mpr g2), if_neg (ti_154n.mpr g2)]
        by_cases g3 : (0 : Int32).toInt ≤ y.toInt ∧ y.toInt ≤ (86399 : Int32).toInt
        · rw [if_neg (ti_14n.mpr g3), if_neg (ti_154n.mpr g3)]
          by_cases g4 : x < y
          · rw [if_pos g4, if_pos g4]
            obtain ⟨c, hc, h1⟩ := tq_count hi t4
            obtain ⟨i, i1, i2, i3, i4, i5⟩ := tq_find (d := d) t4 k hc h1
            have x2 : ∀ q, q < 399 → fn_156 gm 541 q = gm 541 q := fun q hq => pm.2.2.2 _ _ (by omega) (by omega)
            have xc : ∀ k j, 2 ≤ k → k ≤ 33 → fn_40 gc k j = gc k j := fun k j a1 a2 => pc.2.2.2 k j (by omega) (by omega)
            have k2 : tq_t (fn_40 gc) (fn_156 gm) (5 * t + 14) (50 * t + 3) := tq_same (by rw [show gm 541 (50 * t + 3 + 1) = gm 541 (50 * t + 4) from rfl, h1, i_12 hc]; omega) (fun k j a1 a2 => xc k j (by omega) (by omega)) (fun q hq => x2 _ (by omega)) k
            have m1 : fn_156 gm 541 (50 * t + 4) = Int32.ofNat c := (x2 _ (by omega)).trans h1
            have c1 : fn_40 gc (5 * t + 14) 1 = Int32.ofNat c := (xc _ _ (by omega) (by omega)).trans (k.2.1.trans h1)
            have c1' : gc (5 * t + 14) 1 = Int32.ofNat c := k.2.1.trans h1
            have mz : (fn_156 gm 541 (50 * t + 3 + 1)).toInt = c := by
              show (fn_156 gm 541 (50 * t + 4)).toInt = c
              rw [m1, i_12 hc]
            have YA : ∀ j, fn_156 gm 541 (50 * t + 3 + 1 + 4 * j + 1) = fn_156 gm 541 (50 * t + 4 * j + 5) := fun j => by rw [show 50 * t + 3 + 1 + 4 * j + 1 = 50 * t + 4 * j + 5 by omega]
            rw [i2, ml_ta, show Int32.ofNat (50 * t + 3) + 1 = Int32.ofNat (50 * t + 4) from i_add _ 1, zz_toN (by omega), h1, ml_pa, zz_toN (by omega)]
            rcases i5 with ⟨j1, j2, j3⟩ | ⟨j1, j2⟩
            · -- the point is there: it is another one
              rw [j3, if_pos (c := Int32.ofNat i ≠ -1) (ml_n1 (by omega)), if_neg (c := Int32.ofNat c ≤ Int32.ofNat i) (fun z => by
                have := (i_le (by omega) (by omega)).mp z
                omega), if_neg (c := gm 541 (50 * t + 4 * i + 5) ≠ d) (fun z => z j2)]
              have f63 : fn_63 (fn_40 gc) (5 * t + 14) d = Int32.ofNat i := by
                rcases po_all (d := d) c1 hc with ⟨x', x1', x2', x3', x4'⟩ | ⟨x1', x2'⟩
                · rw [x4']
                  congr 1
                  have v : ∀ z, z < c → fn_40 gc (5 * t + 14 + 1) z = gm 541 (50 * t + 4 * z + 5) := fun z hz => by
                    have := k2.2.2.1 z (by rw [mz]; omega) 1 (by omega) (by omega)
                    rw [this, YA, x2 _ (by omega)]
                  rw [v _ x1'] at x2'
                  rcases Nat.lt_trichotomy x' i with z | z | z
                  · have := i3 x' z
                    rw [x2'] at this
                    omega
                  · exact z
                  · have := i4 x' z x1'
                    rw [x2'] at this
                    omega
                · exact absurd (by
                    have := k2.2.2.1 i (by rw [mz]; omega) 1 (by omega) (by omega)
                    rw [this, YA, x2 _ (by omega), j2]) (x1' i j1)
              unfold fn_65_73 fn_65_84 fn_65_95 fn_67 fn_67_29
              rw [f63, if_pos (c := Int32.ofNat i ≠ -1) (ml_n1 (by omega)), if_neg (c := Int32.ofNat i = -1) (ml_n1 (by omega)), fl_all (by omega)]
              unfold fn_257_90 fn_257_111 fn_257_115
              rw [if_pos (c := (1 : Int32) ≠ 0) (by decide), if_pos (c := (1 : Int32) ≠ 0) (by decide), lm_all t4 (by omega), fl_ne (by omega), c1, m1]
              have L : ∀ q, zz_w (zz_w (zz_w (zz_w (fn_156 gm) 541 (50 * t + 4 * i + 5) d) 541 (50 * t + 4 * i + 6) x) 541 (50 * t + 4 * i + 7) y) 541 (50 * t + 4 * i + 8) (-1) 541 q = if 50 * t + 4 * i + 4 + 1 ≤ q ∧ q ≤ 50 * t + 4 * i + 4 + 4 then (fun o => if o = 1 then d else if o = 2 then x else if o = 3 then y else -1) (q - (50 * t + 4 * i + 4)) else fn_156 gm 541 q := fun q => lm_at (P := 50 * t + 4 * i + 4) (d := fun o => if o = 1 then d else if o = 2 then x else if o = 3 then y else -1)
              have F : ∀ o j, 1 ≤ o → o ≤ 4 → zz_w (zz_w (zz_w (zz_w (fn_40 gc) (5 * t + 14 + 1) i d) (5 * t + 14 + 2) i x) (5 * t + 14 + 3) i y) (5 * t + 14 + 4) i (-1) (5 * t + 14 + o) j = if j = i then (fun o => if o = 1 then d else if o = 2 then x else if o = 3 then y else -1) o else fn_40 gc (5 * t + 14 + o) j := fl_at (d := fun o => if o = 1 then d else if o = 2 then x else if o = 3 then y else -1)
              refine mu_mk rfl (mu_town hcp hbf hi tn h hd pc pm (fun k j z => fl_ne (by omega)) (fun k j z => ?_) ⟨?_, ?_, fun j hj o o1 o2 => ?_, fun j hj => ?_⟩)
              · rw [aa_w_ne _ _ (by omega), aa_w_ne _ _ (by omega), aa_w_ne _ _ (by omega), aa_w_ne _ _ (by omega)]
              · rw [fl_ne (by omega), L, if_neg (by omega)]
                exact k2.1
              · rw [fl_ne (by omega), L, if_neg (by omega)]
                exact k2.2.1
              · rw [L, if_neg (by omega)] at hj
                rw [F o j o1 o2, L]
                by_cases hji : j = i
                · rw [if_pos hji, if_pos (by omega), show 50 * t + 3 + 1 + 4 * j + o - (50 * t + 4 * i + 4) = o by omega]
                · rw [if_neg hji, if_neg (by omega)]
                  exact k2.2.2.1 j hj o o1 o2
              · rw [L, if_neg (by omega)] at hj
                have V : ∀ j, (if 50 * t + 4 * i + 4 + 1 ≤ 50 * t + 3 + 1 + 4 * j + 1 ∧ 50 * t + 3 + 1 + 4 * j + 1 ≤ 50 * t + 4 * i + 4 + 4 then (fun o => if o = 1 then d else if o = 2 then x else if o = 3 then y else -1) (50 * t + 3 + 1 + 4 * j + 1 - (50 * t + 4 * i + 4)) else fn_156 gm 541 (50 * t + 3 + 1 + 4 * j + 1)) = fn_156 gm 541 (50 * t + 3 + 1 + 4 * j + 1) := fun j => by
                  by_cases hji : j = i
                  · rw [if_pos (by omega), show 50 * t + 3 + 1 + 4 * j + 1 - (50 * t + 4 * i + 4) = 1 by omega, hji, YA, x2 _ (by omega), j2]
                    rfl
                  · rw [if_neg (by omega)]
                rw [L, L, V, V]
                exact k2.2.2.2 j hj
            · -- a point more
              rw [j2, if_neg (c := (-1 : Int32) ≠ -1) (fun z => z rfl), c1']
              have em : (if Int32.ofNat c ≤ Int32.ofNat i then fn_257_89 gm (Int32.ofNat t) d x y (Int32.ofNat (50 * t + 4)) (Int32.ofNat i) else if gm 541 (50 * t + 4 * i + 5) ≠ d then fn_257_89 gm (Int32.ofNat t) d x y (Int32.ofNat (50 * t + 4)) (Int32.ofNat i) else fn_257_90 gm (Int32.ofNat t) d x y (Int32.ofNat (50 * t + 4)) (Int32.ofNat i) 1) = fn_257_89 gm (Int32.ofNat t) d x y (Int32.ofNat (50 * t + 4)) (Int32.ofNat i) := by
                by_cases hic : Int32.ofNat c ≤ Int32.ofNat i
                · rw [if_pos hic]
                · rw [if_neg hic, if_pos]
                  intro z
                  have h9 := mt (i_le (a := c) (b := i) (by omega) (by omega)).mpr hic
                  have := j1 (by omega)
                  rw [z] at this
                  omega
              rw [em]
              unfold fn_257_89 fn_257_90 fn_257_111 fn_257_115
              rw [if_neg (c := (0 : Int32) ≠ 0) (fun z => z rfl), if_neg (c := (0 : Int32) ≠ 0) (fun z => z rfl), zz_toN (by omega), h1, m1]
              by_cases h12 : c < 12
              · rw [if_pos (aa_lt32.mpr (by rw [i_12 hc]; show (c : Int) < 12; omega)), if_pos (c := Int32.ofNat c ≠ 12) (fun z => by
                  have := congrArg Int32.toInt z
                  rw [i_12 hc, show (12 : Int32).toInt = 12 from rfl] at this
                  omega), ml_pa, i_sub1 (by omega) (by omega)]
                have v : ∀ z, z < c → fn_40 gc (5 * t + 14 + 1) z = gm 541 (50 * t + 4 * z + 5) := fun z hz => by
                  have := k2.2.2.1 z (by rw [mz]; omega) 1 (by omega) (by omega)
                  rw [this, YA, x2 _ (by omega)]
                obtain ⟨gx, ex, sx⟩ := op_loop (g0 := fn_40 gc) (T := 5 * t + 14) (d := d) h12 i1 c1 (fun j hj => by rw [v j (by omega)]; have := i3 j hj; omega) (fun j ha hb => by
                  rw [v j hb]
                  by_cases z : j = i
                  · rw [z]; exact j1 (by omega)
                  · exact i4 j (by omega) hb) (c - i) c (fn_40 gc) (by omega) (Nat.le_refl c) ⟨fun o j o1 o2 => by rw [if_neg (by omega)], fun _ _ _ => rfl⟩
                obtain ⟨gy, ey, sy⟩ := om_loop (g0 := fn_156 gm) (a2 := d) (a3 := x) (a4 := y) (b5 := Int32.ofNat (50 * t + 4)) t4 h12 i1 (4 * c - 4 * i) (50 * t + 4 * c + 5) (fn_156 gm) (by omega) (Nat.le_refl _) ⟨fun q => by rw [if_neg (by omega)], fun _ _ _ => rfl⟩
                rw [ey, zz_toN (by omega)]
                have sy4 : gy 541 (50 * t + 4) = Int32.ofNat c := by rw [sy.1, if_neg (by omega), m1]
                rw [sy4, aa_succ, lm_all t4 (by omega), aa_w_at]
                have f63 : fn_63 (fn_40 gc) (5 * t + 14) d = -1 := by
                  rcases po_all (d := d) c1 hc with ⟨x', x1', x2', x3', x4'⟩ | ⟨x1', x2'⟩
                  · rw [v _ x1'] at x2'
                    exfalso
                    rcases Nat.lt_trichotomy x' i with z | z | z
                    · have := i3 x' z
                      rw [x2'] at this
                      omega
                    · have := j1 (by omega)
                      rw [← z, x2'] at this
                      omega
                    · have := i4 x' z x1'
                      rw [x2'] at this
                      omega
                  · exact x2'
                unfold fn_65_73 fn_65_84 fn_65_95 fn_67 fn_67_27 fn_67_29
                rw [f63, if_neg (c := (-1 : Int32) ≠ -1) (fun z => z rfl), c1, if_neg (c := (12 : Int32) ≤ Int32.ofNat c) (fun z => by
                  have := aa_le32.mp z
                  rw [i_12 hc, show (12 : Int32).toInt = 12 from rfl] at this
                  omega)]
                have e68 : fn_68 (fn_40 gc) (5 * t + 14) d = (Int32.ofNat i, zz_w gx (5 * t + 14) 1 (Int32.ofNat (c + 1))) := by
                  unfold fn_68
                  rw [c1]
                  exact ex
                rw [e68]
                dsimp only
                rw [if_neg (c := Int32.ofNat i = -1) (ml_n1 (by omega)), fl_all (by omega), fl_ne (by omega), aa_w_at]
                have L : ∀ q, zz_w (zz_w (zz_w (zz_w (zz_w gy 541 (50 * t + 4) (Int32.ofNat (c + 1))) 541 (50 * t + 4 * i + 5) d) 541 (50 * t + 4 * i + 6) x) 541 (50 * t + 4 * i + 7) y) 541 (50 * t + 4 * i + 8) (-1) 541 q = if 50 * t + 4 * i + 4 + 1 ≤ q ∧ q ≤ 50 * t + 4 * i + 4 + 4 then (fun o => if o = 1 then d else if o = 2 then x else if o = 3 then y else -1) (q - (50 * t + 4 * i + 4)) else zz_w gy 541 (50 * t + 4) (Int32.ofNat (c + 1)) 541 q := fun q => lm_at (P := 50 * t + 4 * i + 4) (d := fun o => if o = 1 then d else if o = 2 then x else if o = 3 then y else -1)
                have F : ∀ o j, 1 ≤ o → o ≤ 4 → zz_w (zz_w (zz_w (zz_w (zz_w gx (5 * t + 14) 1 (Int32.ofNat (c + 1))) (5 * t + 14 + 1) i d) (5 * t + 14 + 2) i x) (5 * t + 14 + 3) i y) (5 * t + 14 + 4) i (-1) (5 * t + 14 + o) j = if j = i then (fun o => if o = 1 then d else if o = 2 then x else if o = 3 then y else -1) o else zz_w gx (5 * t + 14) 1 (Int32.ofNat (c + 1)) (5 * t + 14 + o) j := fl_at (d := fun o => if o = 1 then d else if o = 2 then x else if o = 3 then y else -1)
                have M1 : ∀ q, 50 * t + 4 * i + 4 + 4 < q → q ≤ 50 * t + 4 * c + 8 → zz_w gy 541 (50 * t + 4) (Int32.ofNat (c + 1)) 541 q = fn_156 gm 541 (q - 4) := fun q q1 q2 => by
                  rw [aa_w_ne _ _ (by omega), sy.1, if_pos (by omega)]
                have M2 : ∀ q, q < 50 * t + 4 * i + 5 → q ≠ 50 * t + 4 → zz_w gy 541 (50 * t + 4) (Int32.ofNat (c + 1)) 541 q = fn_156 gm 541 q := fun q q1 q2 => by
                  rw [aa_w_ne _ _ (by omega), sy.1, if_neg (by omega)]
                refine mu_mk rfl (mu_town hcp hbf hi tn h hd pc pm (fun k j z => ?_) (fun k j z => ?_) ⟨?_, ?_, fun j hj o o1 o2 => ?_, fun j hj => ?_⟩)
                · rw [fl_ne (by omega), aa_w_ne _ _ (by omega)]
                  exact sx.2 k j (by omega)
                · rw [aa_w_ne _ _ (by omega), aa_w_ne _ _ (by omega), aa_w_ne _ _ (by omega), aa_w_ne _ _ (by omega), aa_w_ne _ _ (by omega)]
                  by_cases hk : k = 541
                  · subst hk
                    rw [sy.1, if_neg (by omega)]
                  · exact sy.2 k j hk
                · rw [fl_ne (by omega), L, if_neg (by omega), M2 _ (by omega) (by omega), aa_w_ne _ _ (by omega), sx.2 _ _ (by omega)]
                  exact k2.1
                · rw [fl_ne (by omega), L, if_neg (by omega), show 50 * t + 3 + 1 = 50 * t + 4 by omega, aa_w_at, aa_w_at]
                · rw [L, if_neg (by omega), show 50 * t + 3 + 1 = 50 * t + 4 by omega, aa_w_at, i_12 (by omega)] at hj
                  rw [F o j o1 o2, L]
                  by_cases hji : j = i
                  · rw [if_pos hji, if_pos (by omega), show 50 * t + 3 + 1 + 4 * j + o - (50 * t + 4 * i + 4) = o by omega]
                  · rw [if_neg hji, if_neg (by omega), aa_w_ne _ _ (by omega), sx.1 o j o1 o2]
                    by_cases hjl : i < j
                    · rw [if_pos (by omega), M1 _ (by omega) (by omega), show 50 * t + 3 + 1 + 4 * j + o - 4 = 50 * t + 3 + 1 + 4 * (j - 1) + o by omega]
                      exact k2.2.2.1 (j - 1) (by rw [mz]; omega) o o1 o2
                    · rw [if_neg (by omega), M2 _ (by omega) (by omega)]
                      exact k2.2.2.1 j (by rw [mz]; omega) o o1 o2
                · rw [L, if_neg (by omega), show 50 * t + 3 + 1 = 50 * t + 4 by omega, aa_w_at, i_12 (by omega)] at hj
                  have s1 : j + 1 < c → _ := fun z => k2.2.2.2 j (by rw [mz]; omega)
                  have s2 : 1 ≤ j → j < c → _ := fun z1 z2 => k2.2.2.2 (j - 1) (by rw [mz]; omega)
                  have z1 : j < i → _ := i3 j
                  have z2 : i < c → d.toInt < _ := j1
                  rw [L, L]
                  by_cases c1 : j = i
                  · rw [if_pos (by omega), show 50 * t + 3 + 1 + 4 * j + 1 - (50 * t + 4 * i + 4) = 1 by omega, if_neg (by omega), M1 _ (by omega) (by omega), show 50 * t + 3 + 1 + 4 * (j + 1) + 1 - 4 = 50 * t + 4 * i + 5 by omega, x2 _ (by omega)]
                    exact j1 (by omega)
                  · by_cases c2 : j + 1 = i
                    · rw [if_neg (by omega), M2 _ (by omega) (by omega), if_pos (by omega), show 50 * t + 3 + 1 + 4 * (j + 1) + 1 - (50 * t + 4 * i + 4) = 1 by omega, YA, x2 _ (by omega)]
                      exact i3 j (by omega)
                    · by_cases c3 : j < i
                      · rw [if_neg (by omega), M2 _ (by omega) (by omega), if_neg (by omega), M2 _ (by omega) (by omega)]
                        exact s1 (by omega)
                      · rw [if_neg (by omega), M1 _ (by omega) (by omega), if_neg (by omega), M1 _ (by omega) (by omega), show 50 * t + 3 + 1 + 4 * j + 1 - 4 = 50 * t + 3 + 1 + 4 * (j - 1) + 1 by omega, show 50 * t + 3 + 1 + 4 * (j + 1) + 1 - 4 = 50 * t + 3 + 1 + 4 * (j - 1 + 1) + 1 by omega]
                        exact s2 (by omega) (by omega)
              · have hc12 : c = 12 := by omega
                subst hc12
                rw [if_neg (by decide), if_neg (c := Int32.ofNat 12 ≠ 12) (fun z => z rfl)]
                exact mu_mk rfl h
          · rw [if_neg g4, if_neg g4]
            exact mu_mk rfl h
        · rw [if_pos (ti_14z.mpr g3), if_pos (ti_154z.mpr g3)]
          exact mu_mk rfl h
      · rw [if_pos (ti_14z.mpr g2), if_pos (ti_154z.mpr g2)]
        exact mu_mk rfl h
    · rw [if_neg (fun z => g1 (ti_14n.mp z)), if_pos (ti_154z.mpr g1)]
      exact mu_mk rfl h
  · rw [e1, e2, if_pos rfl]
    exact mu_mk rfl h
