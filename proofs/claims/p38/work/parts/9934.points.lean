/-! EDITS: set(), remove() on both sides -/
theorem i_12 {n : Nat} (h : n ≤ 12) : (Int32.ofNat n).toInt = n := zz_ofN (by omega)
theorem i_le {a b : Nat} (ha : a < 2147483648) (hb : b < 2147483648) : Int32.ofNat a ≤ Int32.ofNat b ↔ a ≤ b := by
  rw [aa_le32, zz_ofN ha, zz_ofN hb]
  omega
theorem i_sub1 {a : Nat} (h : 0 < a) (ha : a < 2147483648) : Int32.ofNat a - 1 = Int32.ofNat (a - 1) := ti_eq.mpr (by
  rw [aa_sub32 (by rw [zz_ofN ha, show (1 : Int32).toInt = 1 from rfl]; omega) (by rw [zz_ofN ha, show (1 : Int32).toInt = 1 from rfl]; omega), zz_ofN ha, zz_ofN (by omega), show (1 : Int32).toInt = 1 from rfl]
  omega)
theorem i_dec {a : Nat} (h : 0 < a) (ha : a < 2147483648) : Int32.ofNat a + (-1) = Int32.ofNat (a - 1) := ti_eq.mpr (by
  rw [aa_add32 (by rw [zz_ofN ha, ti_m1]; omega) (by rw [zz_ofN ha, ti_m1]; omega), zz_ofN ha, zz_ofN (by omega), ti_m1]
  omega)
theorem i_add (a b : Nat) : Int32.ofNat a + Int32.ofNat b = Int32.ofNat (a + b) := (Int32.ofNat_add a b).symm
/-- the place of a point of this YDAY -/
theorem po_loop {g : aa_G} {T c : Nat} {d : Int32} (h1 : g T 1 = Int32.ofNat c) (hc : c ≤ 12) : ∀ (m i : Nat), i + m = c → (∃ x, i ≤ x ∧ x < c ∧ g (T + 1) x = d ∧ (∀ j, i ≤ j → j < x → g (T + 1) j ≠ d) ∧ fn_63_2 g T d (Int32.ofNat i) = Int32.ofNat x) ∨ ((∀ j, i ≤ j → j < c → g (T + 1) j ≠ d) ∧ fn_63_2 g T d (Int32.ofNat i) = -1)
  | 0, i, hi => by
    right
    refine ⟨fun j a b => by omega, ?_⟩
    unfold fn_63_2
    refine lp_r ?_
    show fn_63_2b g T d (Int32.ofNat i) = _
    unfold fn_63_2b
    rw [h1, if_pos ((i_le (by omega) (by omega)).mpr (by omega))]
  | m + 1, i, hi => by
    have hb : fn_63_2b g T d (Int32.ofNat i) = if g (T + 1) i ≠ d then .inl (Int32.ofNat (i + 1)) else .inr (Int32.ofNat i) := by
      unfold fn_63_2b
      rw [h1, if_neg (fun z => by have := (i_le (by omega) (by omega)).mp z; omega), zz_toN (by omega), aa_succ]
    by_cases e : g (T + 1) i = d
    · left
      refine ⟨i, Nat.le_refl i, by omega, e, fun j a b => by omega, ?_⟩
      unfold fn_63_2
      refine lp_r ?_
      show fn_63_2b g T d (Int32.ofNat i) = _
      rw [hb, if_neg (fun z => z e)]
    · have hs : fn_63_2 g T d (Int32.ofNat i) = fn_63_2 g T d (Int32.ofNat (i + 1)) := by
        unfold fn_63_2
        refine lp_l ?_
        show fn_63_2b g T d (Int32.ofNat i) = _
        rw [hb, if_pos e]
      rw [hs]
      rcases po_loop h1 hc m (i + 1) (by omega) with ⟨x, x1, x2, x3, x4, x5⟩ | ⟨x1, x2⟩
      · refine .inl ⟨x, by omega, x2, x3, fun j a b => ?_, x5⟩
        by_cases hj : j = i
        · rw [hj]; exact e
        · exact x4 j (by omega) b
      · refine .inr ⟨fun j a b => ?_, x2⟩
        by_cases hj : j = i
        · rw [hj]; exact e
        · exact x1 j (by omega) b
theorem po_all {g : aa_G} {T c : Nat} {d : Int32} (h1 : g T 1 = Int32.ofNat c) (hc : c ≤ 12) : (∃ x, x < c ∧ g (T + 1) x = d ∧ (∀ j, j < x → g (T + 1) j ≠ d) ∧ fn_63 g T d = Int32.ofNat x) ∨ ((∀ j, j < c → g (T + 1) j ≠ d) ∧ fn_63 g T d = -1) := by
  rcases po_loop h1 hc c 0 (by omega) with ⟨x, -, x2, x3, x4, x5⟩ | ⟨x1, x2⟩
  · exact .inl ⟨x, x2, x3, fun j b => x4 j (Nat.zero_le _) b, x5⟩
  · exact .inr ⟨fun j b => x1 j (Nat.zero_le _) b, x2⟩
theorem pf_loop {g : aa_G} {t c : Nat} {d : Int32} (ht : t < 4) (h1 : g 541 (50 * t + 4) = Int32.ofNat c) (hc : c ≤ 12) : ∀ (m i : Nat), i + m = c → ∃ x, i ≤ x ∧ x ≤ c ∧ fn_258_2 g (Int32.ofNat t) d (Int32.ofNat i) = Int32.ofNat x ∧ (∀ j, i ≤ j → j < x → (g 541 (50 * t + 4 * j + 5)).toInt < d.toInt) ∧ (x < c → d.toInt ≤ (g 541 (50 * t + 4 * x + 5)).toInt)
  | 0, i, hi => by
    refine ⟨i, Nat.le_refl i, by omega, ?_, fun j a b => by omega, fun z => by omega⟩
    unfold fn_258_2
    refine lp_r ?_
    show fn_258_2b g (Int32.ofNat t) d (Int32.ofNat i) = _
    unfold fn_258_2b
    rw [ml_ta, show Int32.ofNat (50 * t + 3) + 1 = Int32.ofNat (50 * t + 4) from i_add _ 1, zz_toN (by omega), h1, if_pos ((i_le (by omega) (by omega)).mpr (by omega))]
  | m + 1, i, hi => by
    have hb : fn_258_2b g (Int32.ofNat t) d (Int32.ofNat i) = if d ≤ g 541 (50 * t + 4 * i + 5) then .inr (Int32.ofNat i) else .inl (Int32.ofNat (i + 1)) := by
      unfold fn_258_2b
      rw [ml_ta, show Int32.ofNat (50 * t + 3) + 1 = Int32.ofNat (50 * t + 4) from i_add _ 1, zz_toN (by omega), h1, if_neg (fun z => by have := (i_le (by omega) (by omega)).mp z; omega), ml_pa, zz_toN (by omega), aa_succ]
    by_cases e : d ≤ g 541 (50 * t + 4 * i + 5)
    · refine ⟨i, Nat.le_refl i, by omega, ?_, fun j a b => by omega, fun _ => aa_le32.mp e⟩
      unfold fn_258_2
      refine lp_r ?_
      show fn_258_2b g (Int32.ofNat t) d (Int32.ofNat i) = _
      rw [hb, if_pos e]
    · have hs : fn_258_2 g (Int32.ofNat t) d (Int32.ofNat i) = fn_258_2 g (Int32.ofNat t) d (Int32.ofNat (i + 1)) := by
        unfold fn_258_2
        refine lp_l ?_
        show fn_258_2b g (Int32.ofNat t) d (Int32.ofNat i) = _
        rw [hb, if_neg e]
      rw [hs]
      obtain ⟨x, x1, x2, x3, x4, x5⟩ := pf_loop ht h1 hc m (i + 1) (by omega)
      refine ⟨x, by omega, x2, x3, fun j a b => ?_, x5⟩
      by_cases hj : j = i
      · rw [hj]
        have := mt aa_le32.mpr e
        omega
      · exact x4 j (by omega) b
theorem pf_all {g : aa_G} {t c : Nat} {d : Int32} (ht : t < 4) (h1 : g 541 (50 * t + 4) = Int32.ofNat c) (hc : c ≤ 12) : ∃ x, x ≤ c ∧ fn_258 g (Int32.ofNat t) d = Int32.ofNat x ∧ (∀ j, j < x → (g 541 (50 * t + 4 * j + 5)).toInt < d.toInt) ∧ (x < c → d.toInt ≤ (g 541 (50 * t + 4 * x + 5)).toInt) := by
  obtain ⟨x, -, x2, x3, x4, x5⟩ := pf_loop (d := d) ht h1 hc c 0 (by omega)
  exact ⟨x, x2, x3, fun j b => x4 j (Nat.zero_le _) b, x5⟩
/-- sorted YDAYS -/
theorem tq_mono {gc gm : aa_G} {T p c : Nat} (h : tq_t gc gm T p) (hc : (gm 541 (p + 1)).toInt = c) : ∀ (d i : Nat), i + d < c → (gm 541 (p + 1 + 4 * i + 1)).toInt + d ≤ (gm 541 (p + 1 + 4 * (i + d) + 1)).toInt
  | 0, i, _ => by simp
  | d + 1, i, hi => by
    have h1 := tq_mono h hc d i (by omega)
    have h2 := h.2.2.2 (i + d) (by omega)
    have e : i + (d + 1) = i + d + 1 := by omega
    rw [e]
    omega
/-- fill -/
theorem fl_all {g : aa_G} {T i : Nat} {d1 d2 d3 d4 : Int32} (hi : i < 12) : (fn_36 g T (Int32.ofNat i) d1 d2 d3 d4) = zz_w (zz_w (zz_w (zz_w g (T + 1) i d1) (T + 2) i d2) (T + 3) i d3) (T + 4) i d4 := by
  unfold fn_36
  rw [if_pos (ti_14n.mpr (by rw [i_12 (by omega)]; exact ⟨by show (0 : Int) ≤ _; omega, by show _ ≤ (11 : Int); omega⟩)), zz_toN (by omega)]
theorem fl_at {g : aa_G} {T i : Nat} {d : Nat → Int32} : ∀ o j, 1 ≤ o → o ≤ 4 → zz_w (zz_w (zz_w (zz_w g (T + 1) i (d 1)) (T + 2) i (d 2)) (T + 3) i (d 3)) (T + 4) i (d 4) (T + o) j = if j = i then d o else g (T + o) j := by
  intro o j o1 o2
  by_cases hj : j = i
  · rw [if_pos hj, hj]
    rcases (show o = 1 ∨ o = 2 ∨ o = 3 ∨ o = 4 by omega) with rfl | rfl | rfl | rfl
    · rw [aa_w_ne _ _ (by omega), aa_w_ne _ _ (by omega), aa_w_ne _ _ (by omega), aa_w_at]
    · rw [aa_w_ne _ _ (by omega), aa_w_ne _ _ (by omega), aa_w_at]
    · rw [aa_w_ne _ _ (by omega), aa_w_at]
    · rw [aa_w_at]
  · rw [if_neg hj, aa_w_ne _ _ (by omega), aa_w_ne _ _ (by omega), aa_w_ne _ _ (by omega), aa_w_ne _ _ (by omega)]
theorem fl_ne {g : aa_G} {T i : Nat} {d1 d2 d3 d4 : Int32} {k j : Nat} (h : ¬ (T + 1 ≤ k ∧ k ≤ T + 4)) : zz_w (zz_w (zz_w (zz_w g (T + 1) i d1) (T + 2) i d2) (T + 3) i d3) (T + 4) i d4 k j = g k j := by
  rw [aa_w_ne _ _ (by omega), aa_w_ne _ _ (by omega), aa_w_ne _ _ (by omega), aa_w_ne _ _ (by omega)]
/-- a point goes: the class's rows -/
def sh_c (g0 g : aa_G) (T i k : Nat) : Prop := (∀ o j, 1 ≤ o → o ≤ 4 → g (T + o) j = if i ≤ j ∧ j < k then g0 (T + o) (j + 1) else g0 (T + o) j) ∧ ∀ k' j, ¬ (T + 1 ≤ k' ∧ k' ≤ T + 4) → g k' j = g0 k' j
theorem dp_loop {g0 : aa_G} {T i c : Nat} (hc : c ≤ 12) (h0 : 0 < c) (h1 : g0 T 1 = Int32.ofNat c) : ∀ (m k : Nat) (g : aa_G), k + m = c - 1 → i ≤ k → sh_c g0 g T i k → ∃ g', fn_64_17 g T (Int32.ofNat k) = zz_w g' T 1 (Int32.ofNat (c - 1)) ∧ sh_c g0 g' T i (c - 1)
  | 0, k, g, hk, hik, h => by
    have e1 : g T 1 = Int32.ofNat c := (h.2 T 1 (by omega)).trans h1
    refine ⟨g, ?_, by rw [show c - 1 = k by omega]; exact h⟩
    unfold fn_64_17
    refine lp_r ?_
    show fn_64_17b g T (Int32.ofNat k) = _
    unfold fn_64_17b
    rw [e1, i_sub1 h0 (by omega), if_pos ((i_le (by omega) (by omega)).mpr (by omega))]
  | m + 1, k, g, hk, hik, h => by
    have e1 : g T 1 = Int32.ofNat c := (h.2 T 1 (by omega)).trans h1
    have hs : fn_64_17 g T (Int32.ofNat k) = fn_64_17 (zz_w (zz_w (zz_w (zz_w g (T + 1) k (g (T + 1) (k + 1))) (T + 2) k (g (T + 2) (k + 1))) (T + 3) k (g (T + 3) (k + 1))) (T + 4) k (g (T + 4) (k + 1))) T (Int32.ofNat (k + 1)) := by
      unfold fn_64_17
      refine lp_l ?_
      show fn_64_17b g T (Int32.ofNat k) = _
      unfold fn_64_17b fn_64_64
      rw [e1, i_sub1 h0 (by omega), if_neg (fun z => by have := (i_le (by omega) (by omega)).mp z; omega), aa_succ, zz_toN (by omega), fl_all (by omega)]
    rw [hs]
    refine dp_loop hc h0 h1 m (k + 1) _ (by omega) (by omega) ⟨fun o j o1 o2 => ?_, fun k' j z => ?_⟩
    · rw [fl_at (d := fun o => g (T + o) (k + 1)) o j o1 o2]
      by_cases hj : j = k
      · rw [if_pos hj, if_pos (by omega), hj, h.1 o (k + 1) o1 o2, if_neg (by omega)]
      · rw [if_neg hj, h.1 o j o1 o2]
        by_cases hr : i ≤ j ∧ j < k
        · rw [if_pos hr, if_pos (by omega)]
        · rw [if_neg hr, if_neg (by omega)]
    · rw [fl_ne z]
      exact h.2 k' j z
/-- the model's row -/
def sh_m (g0 g : aa_G) (lo p : Nat) : Prop := (∀ q, g 541 q = if lo ≤ q ∧ q < p then g0 541 (q + 4) else g0 541 q) ∧ ∀ k j, k ≠ 541 → g k j = g0 k j
theorem dm_loop {g0 : aa_G} {t i c1 : Nat} (ht : t < 4) (hc : c1 ≤ 12) (hi : i ≤ c1) (h1 : g0 541 (50 * t + 4) = Int32.ofNat c1) : ∀ (m p : Nat) (g : aa_G), p + m = 50 * t + 4 * c1 + 5 → 50 * t + 4 * i + 5 ≤ p → sh_m g0 g (50 * t + 4 * i + 5) p → ∃ g', fn_259_75 g (Int32.ofNat t) (Int32.ofNat (50 * t + 4)) (Int32.ofNat p) = (Int32.ofNat c1, g') ∧ sh_m g0 g' (50 * t + 4 * i + 5) (50 * t + 4 * c1 + 5)
  | 0, p, g, hk, hik, h => by
    have e1 : g 541 (50 * t + 4) = Int32.ofNat c1 := by rw [h.1, if_neg (by omega), h1]
    refine ⟨g, ?_, by rw [show 50 * t + 4 * c1 + 5 = p by omega]; exact h⟩
    unfold fn_259_75
    refine lp_r ?_
    show fn_259_75b g (Int32.ofNat t) (Int32.ofNat (50 * t + 4)) (Int32.ofNat p) = _
    unfold fn_259_75b
    rw [zz_toN (by omega), e1, ml_pa, if_pos ((i_le (by omega) (by omega)).mpr (by omega))]
  | m + 1, p, g, hk, hik, h => by
    have e1 : g 541 (50 * t + 4) = Int32.ofNat c1 := by rw [h.1, if_neg (by omega), h1]
    have hs : fn_259_75 g (Int32.ofNat t) (Int32.ofNat (50 * t + 4)) (Int32.ofNat p) = fn_259_75 (zz_w g 541 p (g 541 (p + 4))) (Int32.ofNat t) (Int32.ofNat (50 * t + 4)) (Int32.ofNat (p + 1)) := by
      unfold fn_259_75
      refine lp_l ?_
      show fn_259_75b g (Int32.ofNat t) (Int32.ofNat (50 * t + 4)) (Int32.ofNat p) = _
      unfold fn_259_75b
      rw [zz_toN (by omega), e1, ml_pa, if_neg (fun z => by have := (i_le (by omega) (by omega)).mp z; omega), zz_toN (by omega), show Int32.ofNat p + 4 = Int32.ofNat (p + 4) from i_add _ 4, zz_toN (by omega), aa_succ]
    rw [hs]
    refine dm_loop ht hc hi h1 m (p + 1) _ (by omega) (by omega) ⟨fun q => ?_, fun k j z => ?_⟩
    · by_cases hq : q = p
      · rw [hq, aa_w_at, if_pos (by omega), h.1 (p + 4), if_neg (by omega)]
      · rw [aa_w_ne _ _ (by omega), h.1 q]
        by_cases hr : 50 * t + 4 * i + 5 ≤ q ∧ q < p
        · rw [if_pos hr, if_pos (by omega)]
        · rw [if_neg hr, if_neg (by omega)]
    · rw [aa_w_ne _ _ (by omega)]
      exact h.2 k j z
/-- a town of both sides: its count, and where a YDAY's point is -/
theorem tq_find {gc gm : aa_G} {t c : Nat} {d : Int32} (ht : t < 4) (k : tq_t gc gm (5 * t + 14) (50 * t + 3)) (hc : c ≤ 12) (h1 : gm 541 (50 * t + 4) = Int32.ofNat c) : ∃ i, i ≤ c ∧ fn_258 gm (Int32.ofNat t) d = Int32.ofNat i ∧ (∀ j, j < i → (gm 541 (50 * t + 4 * j + 5)).toInt < d.toInt) ∧ (∀ j, i < j → j < c → d.toInt < (gm 541 (50 * t + 4 * j + 5)).toInt) ∧ ((i < c ∧ gm 541 (50 * t + 4 * i + 5) = d ∧ fn_63 gc (5 * t + 14) d = Int32.ofNat i) ∨ ((i < c → d.toInt < (gm 541 (50 * t + 4 * i + 5)).toInt) ∧ fn_63 gc (5 * t + 14) d = -1)) := by
  have hcz : (gm 541 (50 * t + 3 + 1)).toInt = c := by
    show (gm 541 (50 * t + 4)).toInt = c
    rw [h1, i_12 hc]
  have e1 : gc (5 * t + 14) 1 = Int32.ofNat c := k.2.1.trans h1
  have ec : ∀ i, i < c → gc (5 * t + 14 + 1) i = gm 541 (50 * t + 4 * i + 5) := fun i hi => by
    have := k.2.2.1 i (by rw [hcz]; omega) 1 (by omega) (by omega)
    rwa [show 50 * t + 3 + 1 + 4 * i + 1 = 50 * t + 4 * i + 5 by omega] at this
  have mono : ∀ (dd i : Nat), i + dd < c → (gm 541 (50 * t + 4 * i + 5)).toInt + dd ≤ (gm 541 (50 * t + 4 * (i + dd) + 5)).toInt := fun dd i hi => by
    have := tq_mono k hcz dd i hi
    rwa [show 50 * t + 3 + 1 + 4 * i + 1 = 50 * t + 4 * i + 5 by omega, show 50 * t + 3 + 1 + 4 * (i + dd) + 1 = 50 * t + 4 * (i + dd) + 5 by omega] at this
  obtain ⟨i, i1, i2, i3, i4⟩ := pf_all (d := d) ht h1 hc
  refine ⟨i, i1, i2, i3, fun j a b => ?_, ?_⟩
  · have := mono (j - i) i (by omega)
    rw [show i + (j - i) = j by omega] at this
    have := i4 (by omega)
    omega
  · rcases po_all (d := d) e1 hc with ⟨x, x1, x2, x3, x4⟩ | ⟨x1, x2⟩
    · left
      have hxi : x = i := by
        rw [ec x x1] at x2
        rcases Nat.lt_trichotomy x i with z | z | z
        · have := i3 x z
          rw [x2] at this
          omega
        · exact z
        · have h5 := i4 (by omega)
          have := mono (x - i) i (by omega)
          rw [show i + (x - i) = x by omega, x2] at this
          omega
      subst hxi
      rw [ec x x1] at x2
      exact ⟨x1, x2, x4⟩
    · right
      refine ⟨fun z => ?_, x2⟩
      have h5 := i4 z
      have h6 := x1 i z
      rw [ec i z] at h6
      have h7 := ti_ne.mp h6
      omega
theorem tq_count {gm : aa_G} (hi : aa_inv gm) {t : Nat} (ht : t < 4) : ∃ c, c ≤ 12 ∧ gm 541 (50 * t + 4) = Int32.ofNat c := by
  have cc := iv_c hi (r := 0) ht
  rw [show 399 * 0 + 50 * t + 3 + 1 = 50 * t + 4 by omega] at cc
  obtain ⟨c, c1, c2, c3⟩ := ti_nat cc.1
  exact ⟨c, by omega, c2⟩
theorem mu_remove {B : rq_Q} (hcp : rq_cp B) (hbf : rq_bf B) {gc gm : aa_G} (hi : aa_inv gm) (h : rr_g (qb_s B) gc gm) (a d : Int32) : mu_ok B (fn_62 gc a d) (fn_259 gm a d) := by
  have h' := h
  obtain ⟨h0, h2, ⟨cc, e, hd⟩, hs⟩ := h
  have h := h'
  obtain ⟨pc, pm⟩ := rr_push hd
  have he := hd.1.2
  unfold fn_62 fn_259
  rcases ct_two hi h0 a with ⟨t, t4, rfl, tn, e1, e2, k⟩ | ⟨tn, e1, e2⟩
  · rw [e1, e2, if_pos (by decide)]
    dsimp only
    obtain ⟨c, hc, h1⟩ := tq_count hi t4
    obtain ⟨i, i1, i2, i3, i4, i5⟩ := tq_find (d := d) t4 k hc h1
    rw [i2, ml_ta, show Int32.ofNat (50 * t + 3) + 1 = Int32.ofNat (50 * t + 4) from i_add _ 1, zz_toN (by omega), h1, ml_pa, zz_toN (by omega)]
    have x2 : ∀ q, q < 399 → fn_156 gm 541 q = gm 541 q := fun q hq => pm.2.2.2 _ _ (by omega) (by omega)
    have xc : ∀ k j, 2 ≤ k → k ≤ 33 → fn_40 gc k j = gc k j := fun k j a1 a2 => pc.2.2.2 k j (by omega) (by omega)
    rcases i5 with ⟨j1, j2, j3⟩ | ⟨j1, j2⟩
    · rw [j3, if_pos (c := Int32.ofNat i ≠ -1) (ml_n1 (by omega)), if_neg (c := Int32.ofNat i = Int32.ofNat c) (fun z => by
        have := congrArg Int32.toInt z
        rw [i_12 (by omega), i_12 hc] at this
        omega), if_pos j2]
      -- the class
      have k2 : tq_t (fn_40 gc) (fn_156 gm) (5 * t + 14) (50 * t + 3) := tq_same (by rw [show gm 541 (50 * t + 3 + 1) = gm 541 (50 * t + 4) from rfl, h1, i_12 hc]; omega) (fun k j a1 a2 => xc k j (by omega) (by omega)) (fun q hq => x2 _ (by omega)) k
      have m1 : fn_156 gm 541 (50 * t + 4) = Int32.ofNat c := (x2 _ (by omega)).trans h1
      have c1 : fn_40 gc (5 * t + 14) 1 = Int32.ofNat c := (xc _ _ (by omega) (by omega)).trans (k.2.1.trans h1)
      have f63 : fn_63 (fn_40 gc) (5 * t + 14) d = Int32.ofNat i := by
        obtain ⟨i', -, p2, p3, p4, p5⟩ := tq_find (d := d) t4 k2 hc m1
        rcases p5 with ⟨q1, q2, q3⟩ | ⟨q1, q2⟩
        · rw [q3]
          congr 1
          rw [x2 _ (by omega)] at q2
          rcases Nat.lt_trichotomy i i' with z | z | z
          · have := p3 i z
            rw [x2 _ (by omega), j2] at this
            omega
          · exact z.symm
          · have := i3 i' z
            rw [q2] at this
            omega
        · exfalso
          rcases Nat.lt_trichotomy i i' with z | z | z
          · have := p3 i z
            rw [x2 _ (by omega), j2] at this
            omega
          · have := q1 (by omega)
            rw [x2 _ (by omega), ← z, j2] at this
            omega
          · have := p4 i z j1
            rw [x2 _ (by omega), j2] at this
            omega
      unfold fn_62_35 fn_62_45
      rw [f63]
      obtain ⟨gx, ex, sx⟩ := dp_loop hc (by omega) c1 (c - 1 - i) i (fn_40 gc) (by omega) (Nat.le_refl i) ⟨fun o j o1 o2 => by rw [if_neg (by omega)], fun _ _ _ => rfl⟩
      have e64 : fn_64 (fn_40 gc) (5 * t + 14) (Int32.ofNat i) = zz_w gx (5 * t + 14) 1 (Int32.ofNat (c - 1)) := by
        unfold fn_64
        rw [c1, i_sub1 (by omega) (by omega), if_pos (ti_14n.mpr (by rw [i_12 (by omega), i_12 (by omega)]; exact ⟨by show (0 : Int) ≤ _; omega, by omega⟩))]
        exact ex
      rw [e64, aa_w_at]
      -- the model
      unfold fn_259_57
      rw [zz_toN (by omega), m1, i_sub1 (by omega) (by omega), ml_pa]
      obtain ⟨gy, ey, sy⟩ := dm_loop (g0 := zz_w (fn_156 gm) 541 (50 * t + 4) (Int32.ofNat (c - 1))) (i := i) (c1 := c - 1) t4 (by omega) (by omega) (aa_w_at _ _ _ _) (4 * (c - 1) - 4 * i) (50 * t + 4 * i + 5) _ (by omega) (Nat.le_refl _) ⟨fun q => by rw [if_neg (by omega)], fun _ _ _ => rfl⟩
      rw [ey]
      have Y : ∀ j o, o ≤ 4 → 1 ≤ o → j < c - 1 → gy 541 (50 * t + 3 + 1 + 4 * j + o) = if i ≤ j then fn_156 gm 541 (50 * t + 3 + 1 + 4 * (j + 1) + o) else fn_156 gm 541 (50 * t + 3 + 1 + 4 * j + o) := by
        intro j o o1 o2 hj
        rw [sy.1]
        by_cases hij : i ≤ j
        · rw [if_pos hij, if_pos (by omega), aa_w_ne _ _ (by omega), show 50 * t + 3 + 1 + 4 * j + o + 4 = 50 * t + 3 + 1 + 4 * (j + 1) + o by omega]
        · rw [if_neg hij, if_neg (by omega), aa_w_ne _ _ (by omega)]
      have Y0 : gy 541 (50 * t + 3) = fn_156 gm 541 (50 * t + 3) := by rw [sy.1, if_neg (by omega), aa_w_ne _ _ (by omega)]
      have Y1 : gy 541 (50 * t + 3 + 1) = Int32.ofNat (c - 1) := by rw [sy.1, if_neg (by omega), show 50 * t + 3 + 1 = 50 * t + 4 by omega, aa_w_at]
      have mz : (fn_156 gm 541 (50 * t + 3 + 1)).toInt = c := by
        show (fn_156 gm 541 (50 * t + 4)).toInt = c
        rw [m1, i_12 hc]
      refine mu_mk rfl (mu_town hcp hbf hi tn h hd pc pm (fun k j z => ?_) (fun k j z => ?_) ⟨?_, ?_, fun j hj o o1 o2 => ?_, fun j hj => ?_⟩)
      · rw [aa_w_ne _ _ (by omega)]
        exact sx.2 k j (by omega)
      · by_cases hk : k = 541
        · subst hk
          rw [sy.1, if_neg (by omega), aa_w_ne _ _ (by omega)]
        · rw [sy.2 k j hk, aa_w_ne _ _ (by omega)]
      · rw [aa_w_ne _ _ (by omega), sx.2 _ _ (by omega), Y0]
        exact k2.1
      · rw [aa_w_at, Y1]
      · rw [Y1, i_12 (by omega)] at hj
        rw [aa_w_ne _ _ (by omega), sx.1 o j o1 o2, Y j o o2 o1 (by omega)]
        by_cases hij : i ≤ j
        · rw [if_pos hij, if_pos (by omega)]
          exact k2.2.2.1 (j + 1) (by rw [mz]; omega) o o1 o2
        · rw [if_neg hij, if_neg (by omega)]
          exact k2.2.2.1 j (by rw [mz]; omega) o o1 o2
      · rw [Y1, i_12 (by omega)] at hj
        rw [Y j 1 (by omega) (by omega) (by omega), Y (j + 1) 1 (by omega) (by omega) (by omega)]
        have s1 := k2.2.2.2 j (by rw [mz]; omega)
        have s2 := k2.2.2.2 (j + 1) (by rw [mz]; omega)
        by_cases hij : i ≤ j
        · rw [if_pos hij, if_pos (by omega)]
          exact s2
        · rw [if_neg hij]
          by_cases hij2 : i ≤ j + 1
          · rw [if_pos hij2]
            omega
          · rw [if_neg hij2]
            exact s1
    · rw [j2, if_neg (c := (-1 : Int32) ≠ -1) (fun z => z rfl)]
      by_cases hic : i = c
      · rw [if_pos (by rw [hic])]
        exact mu_mk rfl h
      · rw [if_neg (c := Int32.ofNat i = Int32.ofNat c) (fun z => by
          have := congrArg Int32.toInt z
          rw [i_12 (by omega), i_12 hc] at this
          omega), if_neg (fun z => by
          have := j1 (by omega)
          rw [z] at this
          omega)]
        exact mu_mk rfl h
  · rw [e1, e2, if_neg (by decide)]
    exact mu_mk rfl h
