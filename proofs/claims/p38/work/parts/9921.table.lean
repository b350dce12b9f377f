/-! TABLE: what the class and the model reckon -/
/-- a town's points: w 1 their YDAYS, w 2 DAWN, w 3 DUSK, w 4 POLAR; how many from the first on are not behind a YDAY -/
def tw_k (w : Nat → Nat → Int) (v : Int) : Nat → Nat
  | 0 => 0
  | n + 1 => if tw_k w v n = n ∧ w 1 n ≤ v then n + 1 else tw_k w v n
theorem tw_k_le (w : Nat → Nat → Int) (v : Int) : ∀ c, tw_k w v c ≤ c
  | 0 => Nat.le_refl 0
  | n + 1 => by
    unfold tw_k
    split
    · exact Nat.le_refl _
    · exact Nat.le_succ_of_le (tw_k_le w v n)
theorem tw_k_lo (w : Nat → Nat → Int) (v : Int) : ∀ c i, i < tw_k w v c → w 1 i ≤ v
  | 0, i, h => absurd h (Nat.not_lt_zero i)
  | n + 1, i, h => by
    unfold tw_k at h
    split at h
    · rename_i e
      by_cases hi : i < n
      · exact tw_k_lo w v n i (by omega)
      · rw [show i = n by omega]
        exact e.2
    · exact tw_k_lo w v n i h
theorem tw_k_hi (w : Nat → Nat → Int) (v : Int) : ∀ c, tw_k w v c < c → v < w 1 (tw_k w v c)
  | 0, h => absurd h (Nat.not_lt_zero _)
  | n + 1, h => by
    by_cases e : tw_k w v n = n ∧ w 1 n ≤ v
    · rw [show tw_k w v (n + 1) = n + 1 from if_pos e] at h
      omega
    · have e2 : tw_k w v (n + 1) = tw_k w v n := if_neg e
      rw [e2] at h ⊢
      have hl := tw_k_le w v n
      by_cases hn : tw_k w v n = n
      · rw [hn]
        have := fun z => e ⟨hn, z⟩
        omega
      · exact tw_k_hi w v n (by omega)
def tw_A (w : Nat → Nat → Int) (v : Int) (c : Nat) : Nat := if tw_k w v c = 0 then c - 1 else tw_k w v c - 1
def tw_B (w : Nat → Nat → Int) (v : Int) (c : Nat) : Nat := if w 1 (tw_A w v c) = v then tw_A w v c else if tw_A w v c + 1 < c then tw_A w v c + 1 else 0
def tw_P (w : Nat → Nat → Int) (v : Int) (c : Nat) : Int := if c = 0 then 0 else if w 4 (tw_A w v c) ≠ -1 then w 4 (tw_A w v c) else w 4 (tw_B w v c)
def tw_D (w : Nat → Nat → Int) (v : Int) (c o : Nat) : Int := w o (tw_A w v c) + (w o (tw_B w v c) - w o (tw_A w v c)) * ((v - w 1 (tw_A w v c)) % 360) / ((w 1 (tw_B w v c) - w 1 (tw_A w v c)) % 360)
/-- points as they should be -/
def tw_ok (w : Nat → Nat → Int) (c : Nat) : Prop := c ≤ 12 ∧ (∀ i, i < c → 0 ≤ w 1 i ∧ w 1 i ≤ 359) ∧ (∀ i, i + 1 < c → w 1 i < w 1 (i + 1)) ∧ ∀ i, i < c → (-1 ≤ w 2 i ∧ w 2 i ≤ 86399) ∧ (-1 ≤ w 3 i ∧ w 3 i ≤ 86399) ∧ (-1 ≤ w 4 i ∧ w 4 i ≤ 1) ∧ (w 4 i = -1 → 0 ≤ w 2 i ∧ w 2 i < w 3 i)
theorem tw_A_lt {w : Nat → Nat → Int} {v : Int} {c : Nat} (hc : 0 < c) : tw_A w v c < c := by
  have := tw_k_le w v c
  unfold tw_A
  split <;> omega
theorem tw_B_lt {w : Nat → Nat → Int} {v : Int} {c : Nat} (hc : 0 < c) : tw_B w v c < c := by
  have := tw_A_lt (w := w) (v := v) hc
  unfold tw_B
  split
  · exact this
  · split <;> omega
theorem tw_k_cg {w w' : Nat → Nat → Int} {v : Int} : ∀ c, (∀ i, i < c → w' 1 i = w 1 i) → tw_k w' v c = tw_k w v c
  | 0, _ => rfl
  | n + 1, h => by
    unfold tw_k
    rw [tw_k_cg n fun i hi => h i (by omega), h n (by omega)]
theorem tw_A_cg {w w' : Nat → Nat → Int} {v : Int} {c : Nat} (h : ∀ i, i < c → w' 1 i = w 1 i) : tw_A w' v c = tw_A w v c := by
  unfold tw_A
  rw [tw_k_cg c h]
theorem tw_B_cg {w w' : Nat → Nat → Int} {v : Int} {c : Nat} (hc : 0 < c) (h : ∀ i, i < c → w' 1 i = w 1 i) : tw_B w' v c = tw_B w v c := by
  unfold tw_B
  rw [tw_A_cg h, h _ (tw_A_lt hc)]
theorem tw_P_cg {w w' : Nat → Nat → Int} {v : Int} {c : Nat} (h : ∀ o i, 1 ≤ o → o ≤ 4 → i < c → w' o i = w o i) : tw_P w' v c = tw_P w v c := by
  unfold tw_P
  by_cases hc : c = 0
  · rw [if_pos hc, if_pos hc]
  · have h1 : ∀ i, i < c → w' 1 i = w 1 i := fun i hi => h 1 i (by omega) (by omega) hi
    rw [if_neg hc, if_neg hc, tw_A_cg h1, tw_B_cg (by omega) h1, h 4 _ (by omega) (by omega) (tw_A_lt (by omega)), h 4 _ (by omega) (by omega) (tw_B_lt (by omega))]
theorem tw_D_cg {w w' : Nat → Nat → Int} {v : Int} {c o : Nat} (hc : 0 < c) (ho : o = 2 ∨ o = 3) (h : ∀ o i, 1 ≤ o → o ≤ 4 → i < c → w' o i = w o i) : tw_D w' v c o = tw_D w v c o := by
  have h1 : ∀ i, i < c → w' 1 i = w 1 i := fun i hi => h 1 i (by omega) (by omega) hi
  unfold tw_D
  rw [tw_A_cg h1, tw_B_cg hc h1, h o _ (by omega) (by omega) (tw_A_lt hc), h o _ (by omega) (by omega) (tw_B_lt hc), h1 _ (tw_A_lt hc), h1 _ (tw_B_lt hc)]
theorem tw_mono {w : Nat → Nat → Int} {c : Nat} (h : ∀ i, i + 1 < c → w 1 i < w 1 (i + 1)) : ∀ (d i : Nat), i + d < c → w 1 i + d ≤ w 1 (i + d)
  | 0, i, _ => by simp
  | d + 1, i, hi => by
    have h1 := tw_mono h d i (by omega)
    have h2 := h (i + d) (by omega)
    have e : i + (d + 1) = i + d + 1 := by omega
    rw [e]
    omega
/-- of the two points that a YDAY lies between: how far it is from them -/
theorem tw_since {w : Nat → Nat → Int} {v : Int} {c : Nat} (h : tw_ok w c) (hc : 0 < c) (hv : 0 ≤ v ∧ v ≤ 359) : (w 1 (tw_B w v c) - w 1 (tw_A w v c)) % 360 = 0 ∨ (v - w 1 (tw_A w v c)) % 360 ≤ (w 1 (tw_B w v c) - w 1 (tw_A w v c)) % 360 := by
  obtain ⟨-, hy, hm, -⟩ := h
  by_cases e1 : w 1 (tw_A w v c) = v
  · rw [show tw_B w v c = tw_A w v c from if_pos e1, Int.sub_self]
    left
    rfl
  · have eB : tw_B w v c = if tw_A w v c + 1 < c then tw_A w v c + 1 else 0 := if_neg e1
    have hk := tw_k_le w v c
    have Y0 := hy 0 (by omega)
    have YL := hy (c - 1) (by omega)
    by_cases hk0 : tw_k w v c = 0
    · have eA : tw_A w v c = c - 1 := if_pos hk0
      have eB0 : tw_B w v c = 0 := by rw [eB, eA, if_neg (by omega)]
      have h0 := tw_k_hi w v c (by omega)
      rw [hk0] at h0
      rw [eB0, eA]
      by_cases hc1 : c - 1 = 0
      · rw [hc1, Int.sub_self]
        left
        rfl
      · have := tw_mono hm (c - 1) 0 (by omega)
        rw [Nat.zero_add] at this
        right
        omega
    · have eA : tw_A w v c = tw_k w v c - 1 := if_neg hk0
      have h0 := tw_k_lo w v c (tw_k w v c - 1) (by omega)
      rw [eA] at e1
      by_cases hkc : tw_k w v c < c
      · have eB1 : tw_B w v c = tw_k w v c := by rw [eB, eA, if_pos (by omega)]; omega
        have h1 := tw_k_hi w v c hkc
        have YK := hy (tw_k w v c) hkc
        have YK1 := hy (tw_k w v c - 1) (by omega)
        rw [eB1, eA]
        right
        omega
      · have eB1 : tw_B w v c = 0 := by rw [eB, eA, if_neg (by omega)]
        have hkc : tw_k w v c = c := by omega
        rw [hkc] at e1 h0
        rw [eB1, eA, hkc]
        by_cases hc1 : c - 1 = 0
        · rw [hc1, Int.sub_self]
          left
          rfl
        · have := tw_mono hm (c - 1) 0 (by omega)
          rw [Nat.zero_add] at this
          right
          omega
theorem tw_D_b {w : Nat → Nat → Int} {v : Int} {c : Nat} (h : tw_ok w c) (hc : 0 < c) (hv : 0 ≤ v ∧ v ≤ 359) (hP : tw_P w v c = -1) : 0 ≤ tw_D w v c 2 ∧ tw_D w v c 2 < tw_D w v c 3 ∧ tw_D w v c 3 ≤ 86399 := by
  have hs := tw_since h hc hv
  have hA := tw_A_lt (w := w) (v := v) hc
  have hB := tw_B_lt (w := w) (v := v) hc
  obtain ⟨-, hy, -, hd⟩ := h
  obtain ⟨a1, a2, a3, a4⟩ := hd _ hA
  obtain ⟨b1, b2, b3, b4⟩ := hd _ hB
  unfold tw_P at hP
  rw [if_neg (by omega)] at hP
  have hPA : w 4 (tw_A w v c) = -1 := by
    by_cases z : w 4 (tw_A w v c) = -1
    · exact z
    · rw [if_pos z] at hP
      exact absurd hP z
  rw [if_neg fun z => z hPA] at hP
  have qa := a4 hPA
  have qb := b4 hP
  unfold tw_D
  have m1 := Int.emod_nonneg (v - w 1 (tw_A w v c)) (show (360 : Int) ≠ 0 by decide)
  have m2 := Int.emod_nonneg (w 1 (tw_B w v c) - w 1 (tw_A w v c)) (show (360 : Int) ≠ 0 by decide)
  generalize (v - w 1 (tw_A w v c)) % 360 = s at hs m1 ⊢
  generalize (w 1 (tw_B w v c) - w 1 (tw_A w v c)) % 360 = D at hs m2 ⊢
  generalize w 2 (tw_A w v c) = p2 at *
  generalize w 3 (tw_A w v c) = p3 at *
  generalize w 2 (tw_B w v c) = r2 at *
  generalize w 3 (tw_B w v c) = r3 at *
  rcases hs with hs | hs
  · rw [hs, Int.ediv_zero, Int.ediv_zero]
    omega
  · have k := aa_mid (a1 := p2) (a2 := p3) (b1 := r2) (b2 := r3) (p := s) (q := D - s) (by omega) (by omega) (by omega) (by omega) (by omega) (by omega) (by omega) (by omega)
    rwa [show s + (D - s) = D by omega] at k
/-! the class's readBetween, readTable, look -/
def cw_t (g : aa_G) (T : Nat) : Nat → Nat → Int := fun o i => (g (T + o) i).toInt
theorem ti_ofN {n : Nat} (h : n < 12) : (Int32.ofNat n).toNatClampNeg = n := zz_toN (by omega)
theorem rb_mul {x s : Int} (hx : -86400 ≤ x ∧ x ≤ 86400) (hs : 0 ≤ s ∧ s ≤ 359) : -31017600 ≤ x * s ∧ x * s ≤ 31017600 := by
  have e1 : x * s ≤ 86400 * s := Int.mul_le_mul_of_nonneg_right hx.2 hs.1
  have e2 : -86400 * s ≤ x * s := Int.mul_le_mul_of_nonneg_right hx.1 hs.1
  omega
/-- a step of the reckoning between two points -/
theorem rb_step {p q s D : Int32} (hp : -1 ≤ p.toInt ∧ p.toInt ≤ 86399) (hq : -1 ≤ q.toInt ∧ q.toInt ≤ 86399) (hs : 0 ≤ s.toInt ∧ s.toInt ≤ 359) (hD : 0 < D.toInt ∧ D.toInt ≤ 359) : (p + fn_82 ((q - p) * s) D).toInt = p.toInt + (q.toInt - p.toInt) * s.toInt / D.toInt := by
  have e1 : (q - p).toInt = q.toInt - p.toInt := aa_sub32 (by omega) (by omega)
  have m := rb_mul (x := q.toInt - p.toInt) (by omega) hs
  have e2 : ((q - p) * s).toInt = (q.toInt - p.toInt) * s.toInt := by rw [ti_mul (by rw [e1]; omega) (by rw [e1]; omega), e1]
  have e3 : (fn_82 ((q - p) * s) D).toInt = (q.toInt - p.toInt) * s.toInt / D.toInt := by rw [ti_82 (by rw [e2]; omega) hD.1, e2]
  generalize (q.toInt - p.toInt) * s.toInt = z at *
  have b1 : z / D.toInt ≤ 31017600 := Int.ediv_le_of_le_mul hD.1 (by have : 31017600 * 1 ≤ 31017600 * D.toInt := Int.mul_le_mul_of_nonneg_left (by omega) (by omega); omega)
  have b2 : -31017600 ≤ z / D.toInt := Int.le_ediv_of_mul_le hD.1 (by have : 31017600 * 1 ≤ 31017600 * D.toInt := Int.mul_le_mul_of_nonneg_left (by omega) (by omega); omega)
  rw [aa_add32 (by rw [e3]; omega) (by rw [e3]; omega), e3]
theorem rb_m {y a : Int32} (h1 : 0 ≤ y.toInt ∧ y.toInt ≤ 359) (h2 : 0 ≤ a.toInt ∧ a.toInt ≤ 359) : (fn_81 (y - a) 360).toInt = (y.toInt - a.toInt) % 360 := by
  have e : (y - a).toInt = y.toInt - a.toInt := aa_sub32 (by omega) (by omega)
  rw [ti_81 (by rw [e]; omega) (by decide), e]
  rfl
theorem rb_all {g : aa_G} {P T a b : Nat} {y : Int32} (hd : P < T ∨ T + 4 < P) (ha : a < 12) (hb : b < 12) (ya : 0 ≤ cw_t g T 1 a ∧ cw_t g T 1 a ≤ 359) (yb : 0 ≤ cw_t g T 1 b ∧ cw_t g T 1 b ≤ 359) (hy : 0 ≤ y.toInt ∧ y.toInt ≤ 359) (a2 : -1 ≤ cw_t g T 2 a ∧ cw_t g T 2 a ≤ 86399) (a3 : -1 ≤ cw_t g T 3 a ∧ cw_t g T 3 a ≤ 86399) (b2 : -1 ≤ cw_t g T 2 b ∧ cw_t g T 2 b ≤ 86399) (b3 : -1 ≤ cw_t g T 3 b ∧ cw_t g T 3 b ≤ 86399) {g' : aa_G} (hg : fn_80 g P T (Int32.ofNat a) (Int32.ofNat b) y = g') :
    (g' P 5).toInt = (if cw_t g T 4 a ≠ -1 then cw_t g T 4 a else cw_t g T 4 b) ∧ (∀ k j, ¬ (k = P ∧ 5 ≤ j ∧ j ≤ 7) → g' k j = g k j) ∧
      ((g' P 5).toInt = -1 → (g' P 6).toInt = cw_t g T 2 a + (cw_t g T 2 b - cw_t g T 2 a) * ((y.toInt - cw_t g T 1 a) % 360) / ((cw_t g T 1 b - cw_t g T 1 a) % 360) ∧ (g' P 7).toInt = cw_t g T 3 a + (cw_t g T 3 b - cw_t g T 3 a) * ((y.toInt - cw_t g T 1 a) % 360) / ((cw_t g T 1 b - cw_t g T 1 a) % 360)) := by
  have e0 : fn_80 g P T (Int32.ofNat a) (Int32.ofNat b) y = fn_80_26 g P T (Int32.ofNat a) (Int32.ofNat b) y (if g (T + 4) a = -1 then g (T + 4) b else g (T + 4) a) := by
    unfold fn_80
    rw [ti_ofN ha, ti_ofN hb]
    by_cases h : g (T + 4) a = -1
    · rw [if_pos h, if_pos h]
    · rw [if_neg h, if_neg h]
  rw [e0] at hg
  have hs0 : (if g (T + 4) a = -1 then g (T + 4) b else g (T + 4) a).toInt = (if cw_t g T 4 a ≠ -1 then cw_t g T 4 a else cw_t g T 4 b) := by
    by_cases h : g (T + 4) a = -1
    · have h2 : cw_t g T 4 a = -1 := by unfold cw_t; rw [h]; rfl
      rw [if_pos h, if_neg (fun z => z h2)]
      rfl
    · have h2 : cw_t g T 4 a ≠ -1 := fun z => h (ti_eq.mpr z)
      rw [if_neg h, if_pos h2]
      rfl
  generalize (if g (T + 4) a = -1 then g (T + 4) b else g (T + 4) a) = s0 at hg hs0
  unfold fn_80_26 fn_80_35 fn_80_45 at hg
  rw [ti_ofN ha, aa_w_ne g s0 (by omega : ¬ (T + 2 = P ∧ a = 5))] at hg
  generalize h1 : zz_w g P 5 s0 = g1 at hg
  rw [show zz_w g1 P 6 (g (T + 2) a) (T + 3) a = g (T + 3) a from by rw [aa_w_ne _ _ (by omega), ← h1, aa_w_ne _ _ (by omega)]] at hg
  generalize h3 : zz_w (zz_w g1 P 6 (g (T + 2) a)) P 7 (g (T + 3) a) = g3 at hg
  have f3 : ∀ k j, ¬ (k = P ∧ 5 ≤ j ∧ j ≤ 7) → g3 k j = g k j := fun k j z => by
    rw [← h3, aa_w_ne _ _ (by omega), aa_w_ne _ _ (by omega), ← h1, aa_w_ne _ _ (by omega)]
  have p5 : g3 P 5 = s0 := by rw [← h3, aa_w_ne _ _ (by omega), aa_w_ne _ _ (by omega), ← h1, aa_w_at]
  have p6 : g3 P 6 = g (T + 2) a := by rw [← h3, aa_w_ne _ _ (by omega), aa_w_at]
  have p7 : g3 P 7 = g (T + 3) a := by rw [← h3, aa_w_at]
  have ft : ∀ o i, 1 ≤ o → o ≤ 4 → g3 (T + o) i = g (T + o) i := fun o i o1 o2 => f3 _ _ (by omega)
  unfold fn_80_54 at hg
  rw [ti_ofN ha, ti_ofN hb, p5, p6, ft 1 a (by omega) (by omega), ft 1 b (by omega) (by omega), ft 2 b (by omega) (by omega)] at hg
  have eD : (fn_81 (g (T + 1) b - g (T + 1) a) 360).toInt = (cw_t g T 1 b - cw_t g T 1 a) % 360 := rb_m yb ya
  have eS : (fn_81 (y - g (T + 1) a) 360).toInt = (y.toInt - cw_t g T 1 a) % 360 := rb_m hy ya
  have mD := Int.emod_nonneg (cw_t g T 1 b - cw_t g T 1 a) (show (360 : Int) ≠ 0 by decide)
  have mD2 := Int.emod_lt_of_pos (cw_t g T 1 b - cw_t g T 1 a) (show (0 : Int) < 360 by decide)
  have mS := Int.emod_nonneg (y.toInt - cw_t g T 1 a) (show (360 : Int) ≠ 0 by decide)
  have mS2 := Int.emod_lt_of_pos (y.toInt - cw_t g T 1 a) (show (0 : Int) < 360 by decide)
  by_cases hp : s0 = -1
  · rw [if_neg (fun z => z hp)] at hg
    by_cases hz : fn_81 (g (T + 1) b - g (T + 1) a) 360 ≤ 0
    · have hz2 := aa_le32.mp hz
      rw [eD, show (0 : Int32).toInt = 0 from rfl] at hz2
      have hz3 : (cw_t g T 1 b - cw_t g T 1 a) % 360 = 0 := by omega
      rw [if_pos hz] at hg
      subst hg
      refine ⟨by rw [p5]; exact hs0, f3, fun _ => ?_⟩
      rw [p6, p7, hz3, Int.ediv_zero, Int.ediv_zero]
      exact ⟨(Int.add_zero _).symm, (Int.add_zero _).symm⟩
    · have hz2 := mt aa_le32.mpr hz
      rw [eD, show (0 : Int32).toInt = 0 from rfl] at hz2
      rw [if_neg hz] at hg
      unfold fn_80_130 at hg
      rw [ti_ofN hb] at hg
      have hD : 0 < (fn_81 (g (T + 1) b - g (T + 1) a) 360).toInt ∧ (fn_81 (g (T + 1) b - g (T + 1) a) 360).toInt ≤ 359 := by rw [eD]; omega
      have hS : 0 ≤ (fn_81 (y - g (T + 1) a) 360).toInt ∧ (fn_81 (y - g (T + 1) a) 360).toInt ≤ 359 := by rw [eS]; omega
      have v6 := rb_step (p := g (T + 2) a) (q := g (T + 2) b) a2 b2 hS hD
      have v7 := rb_step (p := g (T + 3) a) (q := g (T + 3) b) a3 b3 hS hD
      rw [eD, eS] at v6 v7
      generalize fn_81 (g (T + 1) b - g (T + 1) a) 360 = D at *
      generalize fn_81 (y - g (T + 1) a) 360 = S at *
      generalize h4 : zz_w g3 P 6 (g (T + 2) a + fn_82 ((g (T + 2) b - g (T + 2) a) * S) D) = g4 at hg
      have q7 : g4 P 7 = g (T + 3) a := by rw [← h4, aa_w_ne _ _ (by omega), p7]
      have q3 : g4 (T + 3) b = g (T + 3) b := by rw [← h4, aa_w_ne _ _ (by omega), ft 3 b (by omega) (by omega)]
      rw [q7, q3] at hg
      subst hg
      refine ⟨?_, fun k j z => ?_, fun _ => ⟨?_, ?_⟩⟩
      · rw [aa_w_ne _ _ (by omega), ← h4, aa_w_ne _ _ (by omega), p5]
        exact hs0
      · rw [aa_w_ne _ _ (by omega), ← h4, aa_w_ne _ _ (by omega)]
        exact f3 k j z
      · rw [aa_w_ne _ _ (by omega), ← h4, aa_w_at]
        exact v6
      · rw [aa_w_at]
        exact v7
  · rw [if_pos hp] at hg
    subst hg
    refine ⟨by rw [p5]; exact hs0, f3, fun z => ?_⟩
    rw [p5] at z
    exact absurd (ti_eq.mpr z) hp
theorem rt_loop {g : aa_G} {P T c : Nat} {y : Int32} (hc : c ≤ 12) (h1 : g T 1 = Int32.ofNat c) (k : Nat) (hk : k ≤ c) (hlo : ∀ i, i < k → cw_t g T 1 i ≤ y.toInt) (hhi : k < c → y.toInt < cw_t g T 1 k) : ∀ (m i : Nat) (la : Int32), i + m = k → fn_79_15 g P T y la (Int32.ofNat i) = fn_79_51 g P T y (if m = 0 then la else Int32.ofNat (k - 1))
  | 0, i, la, hi => by
    have hi : i = k := by omega
    subst hi
    unfold fn_79_15
    rw [if_pos rfl]
    refine lp_r ?_
    show fn_79_15b g P T y la (Int32.ofNat i) = _
    unfold fn_79_15b
    by_cases e1 : g T 1 ≤ Int32.ofNat i
    · rw [if_pos e1]
    · rw [if_neg e1]
      by_cases e2 : (12 : Int32) ≤ Int32.ofNat i
      · rw [if_pos e2]
      · have e1 := mt aa_le32.mpr e1
        rw [h1, zz_ofN (by omega), zz_ofN (by omega)] at e1
        rw [if_neg e2, if_pos]
        rw [ti_ofN (by omega)]
        exact aa_lt32.mpr (hhi (by omega))
  | m + 1, i, la, hi => by
    have e : fn_79_15 g P T y la (Int32.ofNat i) = fn_79_15 g P T y (Int32.ofNat i) (Int32.ofNat (i + 1)) := by
      unfold fn_79_15
      refine lp_l ?_
      show fn_79_15b g P T y la (Int32.ofNat i) = _
      unfold fn_79_15b
      rw [if_neg, if_neg, if_neg, aa_succ]
      · rw [ti_ofN (by omega)]
        intro z
        have := aa_lt32.mp z
        have := hlo i (by omega)
        unfold cw_t at this
        omega
      · intro z
        have := aa_le32.mp z
        rw [zz_ofN (by omega), show (12 : Int32).toInt = 12 from rfl] at this
        omega
      · intro z
        have := aa_le32.mp z
        rw [h1, zz_ofN (by omega), zz_ofN (by omega)] at this
        omega
    rw [e, rt_loop hc h1 k hk hlo hhi m (i + 1) _ (by omega), if_neg (Nat.succ_ne_zero m)]
    by_cases hm : m = 0
    · rw [if_pos hm, show i = k - 1 by omega]
    · rw [if_neg hm]
theorem rt_sub {c : Nat} (h : 0 < c ∧ c ≤ 12) : Int32.ofNat c - 1 = Int32.ofNat (c - 1) := by
  have e : (Int32.ofNat c - 1).toInt = c - 1 := by
    rw [aa_sub32 (by rw [zz_ofN (by omega), show (1 : Int32).toInt = 1 from rfl]; omega) (by rw [zz_ofN (by omega), show (1 : Int32).toInt = 1 from rfl]; omega), zz_ofN (by omega)]
    rfl
  exact ti_eq.mpr (by rw [e, zz_ofN (by omega)]; omega)
theorem rt_all {g : aa_G} {P T c : Nat} {y : Int32} (hd : P < T ∨ T + 4 < P) (h1 : g T 1 = Int32.ofNat c) (hw : tw_ok (cw_t g T) c) (hy : 0 ≤ y.toInt ∧ y.toInt ≤ 359) {g' : aa_G} (hg : fn_79 g P T y = g') :
    (g' P 5).toInt = tw_P (cw_t g T) y.toInt c ∧ (∀ k j, ¬ (k = P ∧ 5 ≤ j ∧ j ≤ 7) → g' k j = g k j) ∧ ((g' P 5).toInt = -1 → (g' P 6).toInt = tw_D (cw_t g T) y.toInt c 2 ∧ (g' P 7).toInt = tw_D (cw_t g T) y.toInt c 3) := by
  obtain ⟨hc, hyy, -, hdd⟩ := hw
  unfold fn_79 at hg
  generalize h0 : zz_w g P 5 0 = g0 at hg
  have f0 : ∀ k j, ¬ (k = P ∧ j = 5) → g0 k j = g k j := fun k j z => by rw [← h0, aa_w_ne _ _ z]
  have cw0 : ∀ o, 1 ≤ o → o ≤ 4 → cw_t g0 T o = cw_t g T o := fun o o1 o2 => by
    funext i
    unfold cw_t
    rw [f0 _ _ (by omega)]
  have c1 := cw0 1 (by omega) (by omega)
  have c2 := cw0 2 (by omega) (by omega)
  have c3 := cw0 3 (by omega) (by omega)
  have c4 := cw0 4 (by omega) (by omega)
  have h01 : g0 T 1 = Int32.ofNat c := (f0 _ _ (by omega)).trans h1
  unfold fn_79_6 at hg
  have hl := rt_loop (g := g0) (P := P) (T := T) (y := y) hc h01 (tw_k (cw_t g T) y.toInt c) (tw_k_le _ _ c) (fun i hi => by rw [c1]; exact tw_k_lo _ _ c i hi) (fun h => by rw [c1]; exact tw_k_hi _ _ c h) (tw_k (cw_t g T) y.toInt c) 0 (g0 T 1 - 1) (by omega)
  rw [show (Int32.ofNat 0 : Int32) = 0 from rfl] at hl
  rw [hl] at hg
  by_cases hc0 : c = 0
  · have hk0 : tw_k (cw_t g T) y.toInt c = 0 := by have := tw_k_le (cw_t g T) y.toInt c; omega
    rw [hk0, if_pos rfl, h01, hc0] at hg
    unfold fn_79_51 at hg
    rw [show (Int32.ofNat 0 - 1 : Int32) = -1 from rfl, if_pos (by decide)] at hg
    subst hg
    have e5 : (g0 P 5).toInt = 0 := by rw [← h0, aa_w_at]; rfl
    refine ⟨?_, fun k j z => f0 k j (by omega), fun z => ?_⟩
    · rw [e5]
      unfold tw_P
      rw [if_pos hc0]
    · rw [e5] at z
      exact absurd z (by decide)
  · have hA := tw_A_lt (w := cw_t g T) (v := y.toInt) (show 0 < c by omega)
    have hB := tw_B_lt (w := cw_t g T) (v := y.toInt) (show 0 < c by omega)
    have eA : (if tw_k (cw_t g T) y.toInt c = 0 then g0 T 1 - 1 else Int32.ofNat (tw_k (cw_t g T) y.toInt c - 1)) = Int32.ofNat (tw_A (cw_t g T) y.toInt c) := by
      unfold tw_A
      split
      · rw [h01, rt_sub (by omega)]
      · rfl
    rw [eA] at hg
    have e2 : fn_79_51 g0 P T y (Int32.ofNat (tw_A (cw_t g T) y.toInt c)) = fn_80 g0 P T (Int32.ofNat (tw_A (cw_t g T) y.toInt c)) (Int32.ofNat (tw_B (cw_t g T) y.toInt c)) y := by
      unfold fn_79_51
      rw [if_neg (ti_14n.mpr (by rw [zz_ofN (by omega)]; exact ⟨by show (0 : Int) ≤ _; omega, by show _ ≤ (11 : Int); omega⟩))]
      have hcw : cw_t g T 1 (tw_A (cw_t g T) y.toInt c) = (g0 (T + 1) (tw_A (cw_t g T) y.toInt c)).toInt := by rw [← c1]; rfl
      have hnx : ∀ s, (if tw_A (cw_t g T) y.toInt c + 1 < c then Int32.ofNat (tw_A (cw_t g T) y.toInt c + 1) else 0) = s → fn_79_78 g0 P T y (Int32.ofNat (tw_A (cw_t g T) y.toInt c)) s = fn_80 g0 P T (Int32.ofNat (tw_A (cw_t g T) y.toInt c)) (Int32.ofNat (tw_B (cw_t g T) y.toInt c)) y := by
        intro s hs
        unfold fn_79_78 fn_79_99
        rw [ti_ofN (by omega)]
        unfold tw_B
        by_cases hz : g0 (T + 1) (tw_A (cw_t g T) y.toInt c) = y
        · rw [if_neg (fun z => z hz), if_pos (by rw [hcw, hz])]
        · rw [if_pos hz, if_neg (by rw [hcw]; exact fun z => hz (ti_eq.mpr z)), ← hs]
          split <;> rfl
      rw [h01, rt_sub (by omega), aa_succ]
      by_cases hn : tw_A (cw_t g T) y.toInt c + 1 < c
      · rw [if_neg]
        · exact hnx _ (if_pos hn)
        · intro z
          have := aa_le32.mp z
          rw [zz_ofN (by omega), zz_ofN (by omega)] at this
          omega
      · rw [if_pos]
        · exact hnx _ (if_neg hn)
        · refine aa_le32.mpr ?_
          rw [zz_ofN (by omega), zz_ofN (by omega)]
          omega
    rw [e2] at hg
    obtain ⟨dA2, dA3, -, -⟩ := hdd _ hA
    obtain ⟨dB2, dB3, -, -⟩ := hdd _ hB
    have hr := rb_all (g := g0) (y := y) hd (show tw_A (cw_t g T) y.toInt c < 12 by omega) (show tw_B (cw_t g T) y.toInt c < 12 by omega) (by rw [c1]; exact hyy _ hA) (by rw [c1]; exact hyy _ hB) hy (by rw [c2]; exact dA2) (by rw [c3]; exact dA3) (by rw [c2]; exact dB2) (by rw [c3]; exact dB3) hg
    obtain ⟨r1, r2, r3⟩ := hr
    rw [c4] at r1
    rw [c1, c2, c3] at r3
    refine ⟨?_, fun k j z => (r2 k j z).trans (f0 k j (by omega)), r3⟩
    rw [r1]
    unfold tw_P
    rw [if_neg hc0]
