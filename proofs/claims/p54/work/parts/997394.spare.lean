/-! (129, 237): both sides say the same -/
theorem ll_Deq {w : Nat → Nat → Int} {c i o : Nat} (hw : tw_ok w c) (hi : i < c) (hc2 : 2 ≤ c) : w o (ll_A c i) + (w o (ll_B c i) - w o (ll_A c i)) * ((w 1 i - w 1 (ll_A c i)) % 360) / ((w 1 (ll_B c i) - w 1 (ll_A c i)) % 360) = ll_D w (ll_A c i) (ll_B c i) (w 1 i) o := by
  unfold ll_D
  have lt : ∀ p q, p < q → q < c → w 1 p < w 1 q := by
    intro p q h1 h2
    have := tw_mono hw.2.2.1 (q - p) p (by omega)
    rw [show p + (q - p) = q by omega] at this
    omega
  have hA : ll_A c i < c := by unfold ll_A; split <;> omega
  have hB : ll_B c i < c := by unfold ll_B; split <;> omega
  have yA := hw.2.1 _ hA
  have yB := hw.2.1 _ hB
  have yi := hw.2.1 i hi
  by_cases z : ll_A c i = ll_B c i
  · rw [← z, Int.sub_self, Int.zero_mul, Int.zero_ediv, Int.zero_ediv]
  · have den : (w 1 i - w 1 (ll_A c i)) % 360 + (w 1 (ll_B c i) - w 1 i) % 360 = (w 1 (ll_B c i) - w 1 (ll_A c i)) % 360 := by
      by_cases i0 : i = 0
      · have eA : ll_A c i = c - 1 := if_pos i0
        have eB : ll_B c i = 1 := by unfold ll_B; rw [if_pos (by omega), i0]
        rw [eA, eB] at z
        have k1 := lt 1 (c - 1) (by omega) (by omega)
        have k2 := lt i 1 (by omega) (by omega)
        rw [eA] at yA ⊢
        rw [eB] at yB ⊢
        omega
      · have eA : ll_A c i = i - 1 := if_neg i0
        have k1 := lt (i - 1) i (by omega) hi
        rw [eA] at yA ⊢
        by_cases il : i + 1 < c
        · have eB : ll_B c i = i + 1 := if_pos il
          have k2 := lt i (i + 1) (by omega) il
          rw [eB] at yB ⊢
          omega
        · have eB : ll_B c i = 0 := if_neg il
          rw [eA, eB] at z
          have k2 := lt 0 (i - 1) (by omega) (by omega)
          rw [eB] at yB ⊢
          omega
    rw [den]
/-- whether a point could go -/
def ll_ver (w : Nat → Nat → Int) (c i : Nat) : Int32 := if ll_P w (ll_A c i) (ll_B c i) = -1 then (if w 4 i = -1 then (if ll_D w (ll_A c i) (ll_B c i) (w 1 i) 2 = w 2 i then (if ll_D w (ll_A c i) (ll_B c i) (w 1 i) 3 = w 3 i then 1 else 0) else 0) else 0) else if ll_P w (ll_A c i) (ll_B c i) = w 4 i then 1 else 0
theorem ck_130 {X : aa_G} {t i : Nat} (W : wd_g X) (ht : (t : Int) < (X 541 0).toInt) (hi : i < av_c (X 541) t) (hc2 : 2 ≤ av_c (X 541) t) : (fn_130 X 461 (5 * t + 14) (Int32.ofNat i)).1 = ll_ver (av_t (X 541) t) (av_c (X 541) t) i ∧ ∀ k j, ¬ (k = 461 ∧ 5 ≤ j ∧ j ≤ 7) → (fn_130 X 461 (5 * t + 14) (Int32.ofNat i)).2 k j = X k j := by
  have n4 := W.1
  have w := W.2.2.2.2.2 t ht
  obtain ⟨hc, e1, e2⟩ := wd_c w
  have cw := wd_cw w
  have hw := w.2.2.2.2.1
  generalize av_c (X 541) t = c at *
  have hA : ll_A c i < c := by unfold ll_A; split <;> omega
  have hB : ll_B c i < c := by unfold ll_B; split <;> omega
  have s1 : Int32.ofNat c - 1 = Int32.ofNat (c - 1) := rt_sub (by omega)
  have E : fn_130 X 461 (5 * t + 14) (Int32.ofNat i) = fn_130_66 (fn_80 X 461 (5 * t + 14) (Int32.ofNat (ll_A c i)) (Int32.ofNat (ll_B c i)) (X (5 * t + 14 + 1) i)) 461 (5 * t + 14) (Int32.ofNat i) := by
    unfold fn_130 fn_130_32 fn_130_50
    rw [e2, s1, zz_toN (by omega), if_pos (c := fn_14 (Int32.ofNat i) 0 (Int32.ofNat (c - 1)) ≠ 0) (ti_14n.mpr (by rw [zz_ofN (by omega), zz_ofN (by omega), i_0]; omega)), aa_succ]
    have eB : ∀ x : Int32, (if Int32.ofNat (c - 1) ≤ Int32.ofNat i then fn_130_66 (fn_80 X 461 (5 * t + 14) x 0 (X (5 * t + 14 + 1) i)) 461 (5 * t + 14) (Int32.ofNat i) else fn_130_66 (fn_80 X 461 (5 * t + 14) x (Int32.ofNat (i + 1)) (X (5 * t + 14 + 1) i)) 461 (5 * t + 14) (Int32.ofNat i)) = fn_130_66 (fn_80 X 461 (5 * t + 14) x (Int32.ofNat (ll_B c i)) (X (5 * t + 14 + 1) i)) 461 (5 * t + 14) (Int32.ofNat i) := by
      intro x
      unfold ll_B
      by_cases z : i + 1 < c
      · rw [if_pos z, if_neg (c := Int32.ofNat (c - 1) ≤ Int32.ofNat i) (fun h => by have := aa_le32.mp h; rw [zz_ofN (by omega), zz_ofN (by omega)] at this; omega)]
      · rw [if_neg z, if_pos (c := Int32.ofNat (c - 1) ≤ Int32.ofNat i) (aa_le32.mpr (by rw [zz_ofN (by omega), zz_ofN (by omega)]; omega))]
        rfl
    rw [eB, eB]
    unfold ll_A
    by_cases i0 : i = 0
    · rw [if_pos i0, if_pos (c := Int32.ofNat i ≤ 0) (aa_le32.mpr (by rw [zz_ofN (by omega), i_0]; omega))]
    · rw [if_neg i0, if_neg (c := Int32.ofNat i ≤ 0) (fun h => by have := aa_le32.mp h; rw [zz_ofN (by omega), i_0] at this; omega), rt_sub (by omega)]
  rw [E]
  have bA := hw.2.2.2 _ hA
  have bB := hw.2.2.2 _ hB
  have yi := hw.2.1 i hi
  have x1 : (X (5 * t + 14 + 1) i).toInt = av_t (X 541) t 1 i := cw 1 i (by omega) (by omega) hi
  have x2 : (X (5 * t + 14 + 2) i).toInt = av_t (X 541) t 2 i := cw 2 i (by omega) (by omega) hi
  have x3 : (X (5 * t + 14 + 3) i).toInt = av_t (X 541) t 3 i := cw 3 i (by omega) (by omega) hi
  have x4 : (X (5 * t + 14 + 4) i).toInt = av_t (X 541) t 4 i := cw 4 i (by omega) (by omega) hi
  obtain ⟨r1, r2, r3⟩ := rb_all (g := X) (P := 461) (T := 5 * t + 14) (a := ll_A c i) (b := ll_B c i) (y := X (5 * t + 14 + 1) i) (by omega) (by omega) (by omega) (by rw [cw 1 _ (by omega) (by omega) hA]; exact hw.2.1 _ hA) (by rw [cw 1 _ (by omega) (by omega) hB]; exact hw.2.1 _ hB) (by rw [x1]; exact yi) (by rw [cw 2 _ (by omega) (by omega) hA]; exact bA.1) (by rw [cw 3 _ (by omega) (by omega) hA]; exact bA.2.1) (by rw [cw 2 _ (by omega) (by omega) hB]; exact bB.1) (by rw [cw 3 _ (by omega) (by omega) hB]; exact bB.2.1) rfl
  generalize fn_80 X 461 (5 * t + 14) (Int32.ofNat (ll_A c i)) (Int32.ofNat (ll_B c i)) (X (5 * t + 14 + 1) i) = Y at r1 r2 r3 ⊢
  rw [cw 4 _ (by omega) (by omega) hA, cw 4 _ (by omega) (by omega) hB] at r1
  have r1 : (Y 461 5).toInt = ll_P (av_t (X 541) t) (ll_A c i) (ll_B c i) := r1
  rw [cw 1 _ (by omega) (by omega) hA, cw 1 _ (by omega) (by omega) hB, cw 2 _ (by omega) (by omega) hA, cw 2 _ (by omega) (by omega) hB, cw 3 _ (by omega) (by omega) hA, cw 3 _ (by omega) (by omega) hB, x1, ll_Deq hw hi hc2, ll_Deq hw hi hc2] at r3
  unfold fn_130_66 fn_130_84 ll_ver
  rw [zz_toN (by omega), r2 (5 * t + 14 + 4) i (by omega), r2 (5 * t + 14 + 2) i (by omega), r2 (5 * t + 14 + 3) i (by omega)]
  by_cases p : Y 461 5 = -1
  · have P : ll_P (av_t (X 541) t) (ll_A c i) (ll_B c i) = -1 := by rw [← r1, p]; rfl
    obtain ⟨d2, d3⟩ := r3 (by rw [p]; rfl)
    rw [if_neg (c := Y 461 5 ≠ -1) (fun z => z p), if_pos P]
    by_cases q : X (5 * t + 14 + 4) i = -1
    · rw [if_pos q, if_pos (c := av_t (X 541) t 4 i = -1) (by rw [← x4, q]; rfl)]
      by_cases q2 : Y 461 6 = X (5 * t + 14 + 2) i
      · rw [if_neg (c := Y 461 6 ≠ X (5 * t + 14 + 2) i) (fun z => z q2), if_pos (c := ll_D (av_t (X 541) t) (ll_A c i) (ll_B c i) (av_t (X 541) t 1 i) 2 = av_t (X 541) t 2 i) (by rw [← d2, ← x2, q2])]
        by_cases q3 : Y 461 7 = X (5 * t + 14 + 3) i
        · rw [if_neg (c := Y 461 7 ≠ X (5 * t + 14 + 3) i) (fun z => z q3), if_pos (c := ll_D (av_t (X 541) t) (ll_A c i) (ll_B c i) (av_t (X 541) t 1 i) 3 = av_t (X 541) t 3 i) (by rw [← d3, ← x3, q3])]
          exact ⟨rfl, r2⟩
        · rw [if_pos (c := Y 461 7 ≠ X (5 * t + 14 + 3) i) q3, if_neg (c := ll_D (av_t (X 541) t) (ll_A c i) (ll_B c i) (av_t (X 541) t 1 i) 3 = av_t (X 541) t 3 i) (fun z => q3 (ti_eq.mpr (by rw [d3, x3, z])))]
          exact ⟨rfl, r2⟩
      · rw [if_pos (c := Y 461 6 ≠ X (5 * t + 14 + 2) i) q2, if_neg (c := ll_D (av_t (X 541) t) (ll_A c i) (ll_B c i) (av_t (X 541) t 1 i) 2 = av_t (X 541) t 2 i) (fun z => q2 (ti_eq.mpr (by rw [d2, x2, z])))]
        exact ⟨rfl, r2⟩
    · rw [if_neg q, if_neg (c := av_t (X 541) t 4 i = -1) (fun z => q (ti_eq.mpr (by rw [x4, z]; rfl))), p, if_pos (c := (-1 : Int32) ≠ X (5 * t + 14 + 4) i) (fun z => q z.symm)]
      exact ⟨rfl, r2⟩
  · have P : ¬ ll_P (av_t (X 541) t) (ll_A c i) (ll_B c i) = -1 := fun z => p (ti_eq.mpr (by rw [r1, z]; rfl))
    rw [if_pos (c := Y 461 5 ≠ -1) p, if_neg P]
    by_cases q : Y 461 5 = X (5 * t + 14 + 4) i
    · rw [if_neg (c := Y 461 5 ≠ X (5 * t + 14 + 4) i) (fun z => z q), if_pos (c := ll_P (av_t (X 541) t) (ll_A c i) (ll_B c i) = av_t (X 541) t 4 i) (by rw [← r1, ← x4, q])]
      exact ⟨rfl, r2⟩
    · rw [if_pos (c := Y 461 5 ≠ X (5 * t + 14 + 4) i) q, if_neg (c := ll_P (av_t (X 541) t) (ll_A c i) (ll_B c i) = av_t (X 541) t 4 i) (fun z => q (ti_eq.mpr (by rw [r1, x4, z])))]
      exact ⟨rfl, r2⟩
/-- the model's step -/
theorem mk_237 {Y : aa_G} {t i : Nat} {s : Int32} (W : wd_g Y) (ht : (t : Int) < (Y 541 0).toInt) (hi : i < av_c (Y 541) t) (hc2 : 2 ≤ av_c (Y 541) t) : ∃ Z : aa_G, fn_237_14b Y (Int32.ofNat t) s (Int32.ofNat i) = .inl (Z, s + ll_ver (av_t (Y 541) t) (av_c (Y 541) t) i, Int32.ofNat (i + 1)) ∧ wd_g Z ∧ Z 541 = Y 541 := by
  have n4 := W.1
  have w := W.2.2.2.2.2 t ht
  obtain ⟨hc, e1, e2⟩ := wd_c w
  have hw := w.2.2.2.2.1
  have h16 := W.2.2.2.2.1
  generalize hcc : av_c (Y 541) t = c at *
  have yi := hw.2.1 i hi
  unfold fn_237_14b
  rw [ml_ta, show Int32.ofNat (50 * t + 3) + 1 = Int32.ofNat (50 * t + 4) from ml_add _ 1, zz_toN (by omega), e1, if_neg (c := Int32.ofNat c ≤ Int32.ofNat i) (fun h => by have := aa_le32.mp h; rw [zz_ofN (by omega), zz_ofN (by omega)] at this; omega), if_neg (c := Int32.ofNat c ≤ 1) (fun h => by have := aa_le32.mp h; rw [zz_ofN (by omega), i_1] at this; omega), ml_pa]
  generalize hU : zz_w Y 540 16 (Int32.ofNat i) = U
  have fU : ∀ k j, ¬ (k = 540 ∧ j = 16) → U k j = Y k j := fun k j z => by rw [← hU, aa_w_ne _ _ z]
  have u16 : U 540 16 = Int32.ofNat i := by rw [← hU, aa_w_at]
  have e541 : U 541 = Y 541 := funext fun j => fU 541 j (by omega)
  unfold fn_237_64
  rw [zz_toN (by omega), e541]
  generalize hg : fn_195 U (Int32.ofNat t) (Y 541 (50 * t + 4 * i + 5)) = G
  obtain ⟨v, G⟩ := G
  obtain ⟨l1, l2, l3, l4⟩ := ll_all (g := U) (i := i) (c := c) (by omega) (by rw [e541]; exact hw) (by rw [e541]; exact e1) u16 hi hc2 (by rw [e541]; rfl) hg
  rw [e541] at l2 l3 l4
  have ey : (Y 541 (50 * t + 4 * i + 5)).toInt = av_t (Y 541) t 1 i := rfl
  rw [ey] at l4
  dsimp only
  unfold fn_237_68
  generalize hZ : zz_w G 540 16 (-1) = Z
  have fZ : ∀ k j, ¬ (k = 540 ∧ j = 16) → Z k j = G k j := fun k j z => by rw [← hZ, aa_w_ne _ _ z]
  have z16 : Z 540 16 = -1 := by rw [← hZ, aa_w_at]
  have fZY : ∀ k j, ¬ (k = 540 ∧ 13 ≤ j ∧ j ≤ 16) → Z k j = Y k j := fun k j z => (fZ k j (by omega)).trans ((l1 k j (by omega)).trans (fU k j (by omega)))
  have eZ : Z 541 = Y 541 := funext fun j => fZY 541 j (by omega)
  have WZ : wd_g Z := wd_of W (fun k j z => by
    by_cases q : k = 540 ∧ j = 16
    · rw [q.1, q.2, z16, h16]
    · exact fZY k j (by omega))
  refine ⟨Z, ?_, WZ, eZ⟩
  unfold fn_237_146 fn_237_89 fn_237_130 fn_237_155 ll_ver
  rw [show Int32.ofNat (50 * t + 4 * i + 5) + 3 = Int32.ofNat (50 * t + 4 * i + 8) from ml_add _ 3, show Int32.ofNat (50 * t + 4 * i + 5) + 1 = Int32.ofNat (50 * t + 4 * i + 6) from ml_add _ 1, show Int32.ofNat (50 * t + 4 * i + 5) + 2 = Int32.ofNat (50 * t + 4 * i + 7) from ml_add _ 2, zz_toN (by omega), zz_toN (by omega), zz_toN (by omega), eZ, fZ 540 14 (by omega), fZ 540 15 (by omega), aa_succ]
  have x4 : (Y 541 (50 * t + 4 * i + 8)).toInt = av_t (Y 541) t 4 i := rfl
  have x2 : (Y 541 (50 * t + 4 * i + 6)).toInt = av_t (Y 541) t 2 i := rfl
  have x3 : (Y 541 (50 * t + 4 * i + 7)).toInt = av_t (Y 541) t 3 i := rfl
  by_cases P : ll_P (av_t (Y 541) t) (ll_A c i) (ll_B c i) = -1
  · rw [if_pos P] at l3
    obtain ⟨d2, d3⟩ := l4 P
    rw [l3, if_neg (c := (1 : Int32) = 0) (by decide), if_pos P]
    by_cases q : Y 541 (50 * t + 4 * i + 8) = -1
    · rw [if_neg (c := Y 541 (50 * t + 4 * i + 8) ≠ -1) (fun z => z q), if_pos (c := av_t (Y 541) t 4 i = -1) (by rw [← x4, q]; rfl)]
      by_cases q2 : G 540 14 = Y 541 (50 * t + 4 * i + 6)
      · rw [if_neg (c := G 540 14 ≠ Y 541 (50 * t + 4 * i + 6)) (fun z => z q2), if_pos (c := ll_D (av_t (Y 541) t) (ll_A c i) (ll_B c i) (av_t (Y 541) t 1 i) 2 = av_t (Y 541) t 2 i) (by rw [← d2, ← x2, q2])]
        by_cases q3 : G 540 15 = Y 541 (50 * t + 4 * i + 7)
        · rw [if_neg (c := G 540 15 ≠ Y 541 (50 * t + 4 * i + 7)) (fun z => z q3), if_pos (c := ll_D (av_t (Y 541) t) (ll_A c i) (ll_B c i) (av_t (Y 541) t 1 i) 3 = av_t (Y 541) t 3 i) (by rw [← d3, ← x3, q3])]
        · rw [if_pos (c := G 540 15 ≠ Y 541 (50 * t + 4 * i + 7)) q3, if_neg (c := ll_D (av_t (Y 541) t) (ll_A c i) (ll_B c i) (av_t (Y 541) t 1 i) 3 = av_t (Y 541) t 3 i) (fun z => q3 (ti_eq.mpr (by rw [d3, x3, z])))]
      · rw [if_pos (c := G 540 14 ≠ Y 541 (50 * t + 4 * i + 6)) q2, if_neg (c := ll_D (av_t (Y 541) t) (ll_A c i) (ll_B c i) (av_t (Y 541) t 1 i) 2 = av_t (Y 541) t 2 i) (fun z => q2 (ti_eq.mpr (by rw [d2, x2, z])))]
    · rw [if_pos (c := Y 541 (50 * t + 4 * i + 8) ≠ -1) q, if_neg (c := av_t (Y 541) t 4 i = -1) (fun z => q (ti_eq.mpr (by rw [x4, z]; rfl)))]
  · rw [if_neg P] at l3
    rw [l3, if_pos (c := (0 : Int32) = 0) rfl, if_neg P]
    by_cases q : G 540 13 = Y 541 (50 * t + 4 * i + 8)
    · rw [if_neg (c := G 540 13 ≠ Y 541 (50 * t + 4 * i + 8)) (fun z => z q), if_pos (c := ll_P (av_t (Y 541) t) (ll_A c i) (ll_B c i) = av_t (Y 541) t 4 i) (by rw [← l2, ← x4, q])]
    · rw [if_pos (c := G 540 13 ≠ Y 541 (50 * t + 4 * i + 8)) q, if_neg (c := ll_P (av_t (Y 541) t) (ll_A c i) (ll_B c i) = av_t (Y 541) t 4 i) (fun z => q (ti_eq.mpr (by rw [l2, x4, z])))]
theorem ll_01 (w : Nat → Nat → Int) (c i : Nat) : ll_ver w c i = 0 ∨ ll_ver w c i = 1 := by
  unfold ll_ver
  repeat' split
  all_goals first | exact .inl rfl | exact .inr rfl
theorem ak_129 {g g2 : aa_G} (W : wd_g g) (W2 : wd_g g2) (e : g2 541 = g 541) (a : Int32) : (fn_129 g a).1 = (fn_237 g2 a).1 ∧ (fn_237 g2 a).2 540 16 = -1 := by
  have e0 : g2 541 0 = g 541 0 := by rw [e]
  have n4 := W.1
  unfold fn_129 fn_237
  by_cases ha : 0 ≤ a.toInt ∧ a.toInt < (g 541 0).toInt
  · obtain ⟨t, ht, hat, ht2, c1, -⟩ := gt_s W ha
    rw [c1, if_pos (c := fn_192 g2 a ≠ 0) (fun z => (gd_192z W2).mp z (by rw [e0]; exact ha)), hat]
    dsimp only
    obtain ⟨hc, d1, d2⟩ := wd_c (W.2.2.2.2.2 t ht2)
    unfold fn_129_20 fn_237_14
    refine lp_two (Q := fun (r k : Int32 × aa_G) => r.1 = k.1 ∧ k.2 540 16 = -1) (fun (n' : Nat) (s t' : aa_G × Int32 × Int32) => ∃ i : Nat, i + n' = av_c (g 541) t ∧ s.2.2 = Int32.ofNat i ∧ t'.2 = s.2 ∧ (wd_g s.1 ∧ s.1 541 = g 541) ∧ (wd_g t'.1 ∧ t'.1 541 = g 541)) ?_ ?_ (av_c (g 541) t) _ _ ⟨0, by omega, rfl, rfl, ⟨W, rfl⟩, ⟨W2, e⟩⟩
    · rintro n' ⟨X, s, j⟩ ⟨Y, s', j'⟩ ⟨i, r1, r2, r3, ⟨w1, w2⟩, w3, w4⟩
      dsimp only at r2 r3 w1 w2 w3 w4 ⊢
      obtain ⟨rfl, rfl⟩ := Prod.mk.inj r3
      subst r2
      have x1 : X (5 * t + 14) 1 = Int32.ofNat (av_c (g 541) t) := by
        have k := (wd_c (w1.2.2.2.2.2 t (by rw [w2]; exact ht2))).2.2
        rw [w2] at k
        exact k
      have k1 : ¬ Int32.ofNat (av_c (g 541) t) ≤ Int32.ofNat i := fun h => by have := aa_le32.mp h; rw [zz_ofN (by omega), zz_ofN (by omega)] at this; omega
      by_cases z : Int32.ofNat (av_c (g 541) t) ≤ 1
      · refine .inr (.inr (.inr ⟨(s', X), (s', Y), ?_, ?_, rfl, w3.2.2.2.2.1⟩))
        · unfold fn_129_20b
          rw [x1, if_neg k1, if_pos z]
        · unfold fn_237_14b
          have y1 : Y 541 (50 * t + 4) = Int32.ofNat (av_c (g 541) t) := by rw [w4]; exact d1
          rw [ml_ta, show Int32.ofNat (50 * t + 3) + 1 = Int32.ofNat (50 * t + 4) from ml_add _ 1, zz_toN (by omega), y1, if_neg k1, if_pos z]
      · have hc2 : 2 ≤ av_c (g 541) t := by
          have := mt aa_le32.mpr z
          rw [zz_ofN (by omega), i_1] at this
          omega
        obtain ⟨v1, f1⟩ := ck_130 (X := X) (t := t) (i := i) w1 (by rw [w2]; exact ht2) (by rw [w2]; omega) (by rw [w2]; exact hc2)
        obtain ⟨Z, z1, z2, z3⟩ := mk_237 (Y := Y) (t := t) (i := i) (s := s') w3 (by rw [w4]; exact ht2) (by rw [w4]; omega) (by rw [w4]; exact hc2)
        rw [w2] at v1
        rw [w4] at z1
        refine .inl ⟨((fn_130 X 461 (5 * t + 14) (Int32.ofNat i)).2, s' + ll_ver (av_t (g 541) t) (av_c (g 541) t) i, Int32.ofNat (i + 1)), _, ?_, z1, i + 1, by omega, rfl, rfl, ⟨wd_of w1 (fun k j z => f1 k j (by omega)), (funext fun j => f1 541 j (by omega)).trans w2⟩, z2, z3.trans w4⟩
        unfold fn_129_20b
        rw [x1, if_neg k1, if_neg z]
        unfold fn_129_47 fn_129_53
        rw [v1, aa_succ]
        rcases ll_01 (av_t (g 541) t) (av_c (g 541) t) i with q | q
        · rw [q, if_pos rfl, Int32.add_zero]
        · rw [q, if_neg (by decide)]
    · rintro ⟨X, s, j⟩ ⟨Y, s', j'⟩ ⟨i, r1, r2, r3, ⟨w1, w2⟩, w3, w4⟩
      dsimp only at r2 r3 w1 w2 w3 w4 ⊢
      obtain ⟨rfl, rfl⟩ := Prod.mk.inj r3
      subst r2
      have x1 : X (5 * t + 14) 1 = Int32.ofNat (av_c (g 541) t) := by
        have k := (wd_c (w1.2.2.2.2.2 t (by rw [w2]; exact ht2))).2.2
        rw [w2] at k
        exact k
      have y1 : Y 541 (50 * t + 4) = Int32.ofNat (av_c (g 541) t) := by rw [w4]; exact d1
      have k1 : Int32.ofNat (av_c (g 541) t) ≤ Int32.ofNat i := aa_le32.mpr (by rw [zz_ofN (by omega), zz_ofN (by omega)]; omega)
      refine ⟨(s', X), (s', Y), ?_, ?_, rfl, w3.2.2.2.2.1⟩
      · unfold fn_129_20b
        rw [x1, if_pos k1]
      · unfold fn_237_14b
        rw [ml_ta, show Int32.ofNat (50 * t + 3) + 1 = Int32.ofNat (50 * t + 4) from ml_add _ 1, zz_toN (by omega), y1, if_pos k1]
  · rw [gt_n W ha, if_neg (c := fn_192 g2 a ≠ 0) (fun z => z ((gd_192z W2).mpr (by rw [e0]; exact ha)))]
    exact ⟨rfl, W2.2.2.2.2.1⟩
theorem lq_129t {g : aa_G} {a0 : Int32} (hi : aa_inv g) (hφ : aa_Phi g) (hR : lr_R g) : lq_ok true 129 237 [.int a0] g := by
  have ha : lk_a aa_k120.1.2.2 = true := by decide +kernel
  refine lq_mk (x := fn_129 g a0) (y := fn_237 (fn_129 g a0).2 a0) (wc := aa_k120.1.2.2) (wm := aa_m87.1.2.2) hi hR (ko_fw (ko_129 hi hφ) fun _ _ _ r => dn_129 r) (fun i1 p1 => ko_fw (ko_237 i1 p1) fun _ _ _ r => dn_237 r) (by decide +kernel) (by decide +kernel) fun i1 p1 q1 q2 f1 f2 => ?_
  have r1 : rr_g (qb_s lr_B) (fn_129 g a0).2 (fn_129 g a0).2 := lk_ar (qb_cp lr_cp) ha i1 q1 f1
  have W := (lr_wd hi hφ hR).1
  have W2 := wd_mk i1 p1 r1.1.1 r1.2.2.2.2.2.2.2.1
  obtain ⟨k1, k2⟩ := ak_129 W W2 (funext fun j => lk_ce (by decide +kernel) f1 (by decide) j) a0
  refine ⟨⟨fun _ => k1, ?_⟩, lk_ee (by decide +kernel) f1 f2 q2⟩
  exact lk_br (qb_cp lr_cp) (by decide +kernel) i1 r1 f2 (k2.trans W2.2.2.2.2.1.symm)
