/-! the model's lay -/
def mw_t (g : aa_G) (t : Nat) : Nat → Nat → Int := fun o i => (g 541 (50 * t + 4 * i + 4 + o)).toInt
theorem ti_154 {a b c : Int32} : fn_154 a b c = if b.toInt ≤ a.toInt ∧ a.toInt ≤ c.toInt then 1 else 0 := ti_14
theorem ti_154z {a b c : Int32} : fn_154 a b c = 0 ↔ ¬ (b.toInt ≤ a.toInt ∧ a.toInt ≤ c.toInt) := ti_14z
theorem ti_154n {a b c : Int32} : fn_154 a b c ≠ 0 ↔ (b.toInt ≤ a.toInt ∧ a.toInt ≤ c.toInt) := ti_14n
theorem ti_193z {a : Int32} : fn_193 a = 0 ↔ ¬ (0 ≤ a.toInt ∧ a.toInt ≤ 35999) := ti_154z
theorem ti_193n {a : Int32} : fn_193 a ≠ 0 ↔ (0 ≤ a.toInt ∧ a.toInt ≤ 35999) := ti_154n
theorem ml_pa (t i : Nat) : fn_175 (Int32.ofNat t) (Int32.ofNat i) = Int32.ofNat (50 * t + 4 * i + 5) := by
  unfold fn_175
  rw [show (50 : Int32) * Int32.ofNat t = Int32.ofNat (50 * t) from (Int32.ofNat_mul 50 t).symm, show (4 : Int32) * Int32.ofNat i = Int32.ofNat (4 * i) from (Int32.ofNat_mul 4 i).symm,
    show (3 : Int32) + Int32.ofNat (50 * t) = Int32.ofNat (3 + 50 * t) from (Int32.ofNat_add 3 _).symm, show Int32.ofNat (3 + 50 * t) + 2 = Int32.ofNat (3 + 50 * t + 2) from (Int32.ofNat_add _ 2).symm, show Int32.ofNat (3 + 50 * t + 2) + Int32.ofNat (4 * i) = Int32.ofNat (3 + 50 * t + 2 + 4 * i) from (Int32.ofNat_add _ _).symm]
  congr 1
  omega
theorem ml_ta (t : Nat) : fn_164 (Int32.ofNat t) = Int32.ofNat (50 * t + 3) := by
  unfold fn_164
  rw [show (50 : Int32) * Int32.ofNat t = Int32.ofNat (50 * t) from (Int32.ofNat_mul 50 t).symm, show (3 : Int32) + Int32.ofNat (50 * t) = Int32.ofNat (3 + 50 * t) from (Int32.ofNat_add 3 _).symm]
  congr 1
  omega
theorem ml_add (a b : Nat) : Int32.ofNat a + Int32.ofNat b = Int32.ofNat (a + b) := (Int32.ofNat_add a b).symm
/-- the first point that is not ahead of a YDAY -/
def tw_q (w : Nat → Nat → Int) (v : Int) (c : Nat) : Nat := if 0 < tw_k w v c ∧ w 1 (tw_k w v c - 1) = v then tw_k w v c - 1 else tw_k w v c
theorem tw_k_iff {w : Nat → Nat → Int} {v : Int} {c : Nat} (h : tw_ok w c) {i : Nat} (hi : i < c) : w 1 i ≤ v ↔ i < tw_k w v c := by
  constructor
  · intro z
    apply Classical.byContradiction
    intro n
    have h1 := tw_k_hi w v c (by omega)
    have h2 := tw_mono h.2.2.1 (i - tw_k w v c) (tw_k w v c) (by omega)
    rw [show tw_k w v c + (i - tw_k w v c) = i by omega] at h2
    omega
  · exact tw_k_lo w v c i
theorem tw_q_iff {w : Nat → Nat → Int} {v : Int} {c : Nat} (h : tw_ok w c) {i : Nat} (hi : i < c) : v ≤ w 1 i ↔ tw_q w v c ≤ i := by
  have hk := tw_k_iff h (v := v) hi
  have hl := tw_k_le w v c
  unfold tw_q
  split
  · rename_i e
    constructor
    · intro z
      apply Classical.byContradiction
      intro n
      have h2 := tw_mono h.2.2.1 (tw_k w v c - 1 - i) i (by omega)
      rw [show i + (tw_k w v c - 1 - i) = tw_k w v c - 1 by omega] at h2
      omega
    · intro z
      by_cases e2 : i = tw_k w v c - 1
      · rw [e2]; omega
      · have := mt hk.mp (by omega)
        omega
  · rename_i e
    constructor
    · intro z
      apply Classical.byContradiction
      intro n
      have h1 : w 1 i ≤ v := hk.mpr (by omega)
      by_cases e2 : i = tw_k w v c - 1
      · exact e ⟨by omega, by rw [← e2]; omega⟩
      · have h2 := tw_mono h.2.2.1 (tw_k w v c - 1 - i) i (by omega)
        rw [show i + (tw_k w v c - 1 - i) = tw_k w v c - 1 by omega] at h2
        have h3 := tw_k_lo w v c (tw_k w v c - 1) (by omega)
        omega
    · intro z
      have := mt hk.mp (by omega)
      omega
/-- the two points, as the model looks for them -/
theorem tw_A_m {w : Nat → Nat → Int} {v : Int} {c : Nat} : tw_A w v c = if tw_k w v c = 0 then c - 1 else tw_k w v c - 1 := rfl
theorem tw_B_m {w : Nat → Nat → Int} {v : Int} {c : Nat} (h : tw_ok w c) (hc : 0 < c) : tw_B w v c = if tw_q w v c < c then tw_q w v c else 0 := by
  have hl := tw_k_le w v c
  by_cases hk : tw_k w v c = 0
  · have eA : tw_A w v c = c - 1 := if_pos hk
    have eq : tw_q w v c = 0 := by
      unfold tw_q
      rw [if_neg (by omega), hk]
    have h1 := tw_k_hi w v c (by omega)
    rw [hk] at h1
    have h2 := tw_mono h.2.2.1 (c - 1) 0 (by omega)
    rw [Nat.zero_add] at h2
    unfold tw_B
    rw [eA, eq, if_neg (by omega), if_neg (by omega), if_pos hc]
  · have eA : tw_A w v c = tw_k w v c - 1 := if_neg hk
    unfold tw_B
    rw [eA]
    by_cases e : w 1 (tw_k w v c - 1) = v
    · have eq : tw_q w v c = tw_k w v c - 1 := if_pos ⟨by omega, e⟩
      rw [eq, if_pos e, if_pos (by omega)]
    · have eq : tw_q w v c = tw_k w v c := if_neg fun z => e z.2
      rw [eq, if_neg e, show tw_k w v c - 1 + 1 = tw_k w v c by omega]
def ml_st (w : Nat → Nat → Int) (v : Int) (c j : Nat) : Int32 × Int32 × Int32 × Int32 × Int32 := (if min (tw_k w v c) j = 0 then -1 else Int32.ofNat (min (tw_k w v c) j - 1), if tw_q w v c < j then Int32.ofNat (tw_q w v c) else -1, if j = 0 then -1 else 0, if j = 0 then -1 else Int32.ofNat (j - 1), Int32.ofNat j)
theorem ml_n1 {n : Nat} (h : n < 2147483648) : Int32.ofNat n ≠ -1 := fun z => by
  have := congrArg Int32.toInt z
  rw [zz_ofN h, ti_m1] at this
  omega
theorem ml_step {g : aa_G} {t c j : Nat} {y : Int32} (ht : t < 4) (hw : tw_ok (mw_t g t) c) (h1 : g 541 (50 * t + 4) = Int32.ofNat c) (hl : g 540 16 = -1) (hj : j < c) :
    fn_195_21b g (Int32.ofNat t) y (ml_st (mw_t g t) y.toInt c j).1 (ml_st (mw_t g t) y.toInt c j).2.1 (ml_st (mw_t g t) y.toInt c j).2.2.1 (ml_st (mw_t g t) y.toInt c j).2.2.2.1 (ml_st (mw_t g t) y.toInt c j).2.2.2.2 = .inl (ml_st (mw_t g t) y.toInt c (j + 1)) := by
  have hc := hw.1
  have hp : (g 541 (50 * t + 4 * j + 5)).toInt = mw_t g t 1 j := rfl
  have hkk := tw_k_iff hw (v := y.toInt) hj
  have hq := tw_q_iff hw (v := y.toInt) hj
  have hkl := tw_k_le (mw_t g t) y.toInt c
  unfold ml_st fn_195_21b
  dsimp only
  rw [ml_ta, show Int32.ofNat (50 * t + 3) + 1 = Int32.ofNat (50 * t + 4) from ml_add _ 1, zz_toN (by omega), h1, if_neg (fun z => by
    have := aa_le32.mp z
    rw [zz_ofN (by omega), zz_ofN (by omega)] at this
    omega), hl, if_pos (ml_n1 (by omega)), ml_pa, zz_toN (by omega)]
  generalize hP : g 541 (50 * t + 4 * j + 5) = p at hp ⊢
  generalize mw_t g t = w at *
  have e94 : ∀ (b5 bf : Int32), b5 = (if tw_q w y.toInt c < j then Int32.ofNat (tw_q w y.toInt c) else -1) → fn_195_94 g (Int32.ofNat t) y b5 0 (Int32.ofNat j) (Int32.ofNat j) p bf = .inl (bf, (if tw_q w y.toInt c < j + 1 then Int32.ofNat (tw_q w y.toInt c) else -1), 0, Int32.ofNat j, Int32.ofNat (j + 1)) := by
    intro b5 bf hb
    unfold fn_195_94 fn_195_113 fn_195_115 fn_195_117
    by_cases h5 : p < y
    · have h6 := aa_lt32.mp h5
      rw [if_pos h5, aa_succ, hb, if_neg (by omega), if_neg (by omega)]
    · have h6 := mt aa_lt32.mpr h5
      rw [if_neg h5, aa_succ, hb]
      by_cases h7 : tw_q w y.toInt c < j
      · rw [if_pos h7, if_pos (ml_n1 (by omega)), if_pos (by omega)]
      · rw [if_neg h7, if_neg (fun z => z rfl), if_pos (by omega), show tw_q w y.toInt c = j by omega]
  have e75 : fn_195_75 g (Int32.ofNat t) y (if min (tw_k w y.toInt c) j = 0 then -1 else Int32.ofNat (min (tw_k w y.toInt c) j - 1)) (if tw_q w y.toInt c < j then Int32.ofNat (tw_q w y.toInt c) else -1) (Int32.ofNat j) p 0 = .inl ((if min (tw_k w y.toInt c) (j + 1) = 0 then -1 else Int32.ofNat (min (tw_k w y.toInt c) (j + 1) - 1)), (if tw_q w y.toInt c < j + 1 then Int32.ofNat (tw_q w y.toInt c) else -1), 0, Int32.ofNat j, Int32.ofNat (j + 1)) := by
    unfold fn_195_75
    by_cases h5 : y < p
    · have h6 := aa_lt32.mp h5
      rw [if_pos h5, e94 _ _ rfl]
      have h8 : min (tw_k w y.toInt c) (j + 1) = min (tw_k w y.toInt c) j := by omega
      rw [h8]
    · have h6 := mt aa_lt32.mpr h5
      rw [if_neg h5, e94 _ _ rfl]
      have h8 : min (tw_k w y.toInt c) (j + 1) = j + 1 := by omega
      rw [h8, if_neg (Nat.succ_ne_zero j), Nat.add_sub_cancel]
  rw [if_neg (Nat.succ_ne_zero j), if_neg (Nat.succ_ne_zero j), Nat.add_sub_cancel]
  by_cases hj0 : j = 0
  · subst hj0
    rw [if_pos (c := 0 = 0) rfl] at *
    rw [if_neg (fun z => z rfl)]
    exact e75
  · rw [if_neg (c := j = 0) hj0, if_pos (by decide)]
    exact e75
theorem ml_lop {g : aa_G} {t c : Nat} {y : Int32} (ht : t < 4) (hw : tw_ok (mw_t g t) c) (h1 : g 541 (50 * t + 4) = Int32.ofNat c) (hl : g 540 16 = -1) (f : Int32 × Int32 × Int32 × Int32 × Int32 → (Int32 × Int32 × Int32 × Int32 × Int32) ⊕ (Int32 × aa_G)) (hf : ∀ z, f z = fn_195_21b g (Int32.ofNat t) y z.1 z.2.1 z.2.2.1 z.2.2.2.1 z.2.2.2.2) (d : Int32 × aa_G) : ∀ (m j : Nat), j + m = c → lp_f d f (ml_st (mw_t g t) y.toInt c j) = lp_f d f (ml_st (mw_t g t) y.toInt c c)
  | 0, j, hj => by rw [show j = c by omega]
  | m + 1, j, hj => by
    rw [← ml_lop ht hw h1 hl f hf d m (j + 1) (by omega)]
    refine lp_l ?_
    rw [hf]
    exact ml_step ht hw h1 hl (by omega)
theorem fn_197_v {a b p w : Int32} (ha0 : 0 ≤ a.toInt) (ha1 : a.toInt ≤ 86399) (hb0 : 0 ≤ b.toInt) (hb1 : b.toInt ≤ 86399) (hp0 : 0 ≤ p.toInt) (hp1 : p.toInt ≤ 359) (hw0 : 0 ≤ w.toInt) (hw1 : w.toInt ≤ 718) : (fn_197 a b p w).toInt = a.toInt + (b.toInt - a.toInt) * p.toInt / w.toInt := by
  obtain ⟨n, v, h, r, ⟨z, e1, e2⟩, -⟩ := rn_of (between_all (h := aa_H fun _ _ => 0) ha0 ha1 hb0 hb1 hp0 hp1 hw0 hw1)
  have := (dn_197 r).1
  rw [e1] at this
  have := Option.some.inj this
  injection this with this
  rw [← this]
  exact e2
/-- how far the two points are apart -/
theorem tw_apart {w : Nat → Nat → Int} {v : Int} {c : Nat} (h : tw_ok w c) (hc : 0 < c) (hv : 0 ≤ v ∧ v ≤ 359) (o : Nat) : w o (tw_A w v c) + (w o (tw_B w v c) - w o (tw_A w v c)) * ((v - w 1 (tw_A w v c)) % 360) / ((v - w 1 (tw_A w v c)) % 360 + (w 1 (tw_B w v c) - v) % 360) = tw_D w v c o := by
  have hs := tw_since h hc hv
  have yA := h.2.1 _ (tw_A_lt (w := w) (v := v) hc)
  have yB := h.2.1 _ (tw_B_lt (w := w) (v := v) hc)
  unfold tw_D
  rcases hs with hs | hs
  · have e : w 1 (tw_B w v c) = w 1 (tw_A w v c) := by omega
    have hab : tw_B w v c = tw_A w v c := by
      have hA := tw_A_lt (w := w) (v := v) hc
      have hB := tw_B_lt (w := w) (v := v) hc
      rcases Nat.lt_trichotomy (tw_A w v c) (tw_B w v c) with z | z | z
      · have := tw_mono h.2.2.1 (tw_B w v c - tw_A w v c) (tw_A w v c) (by omega)
        rw [show tw_A w v c + (tw_B w v c - tw_A w v c) = tw_B w v c by omega] at this
        omega
      · exact z.symm
      · have := tw_mono h.2.2.1 (tw_A w v c - tw_B w v c) (tw_B w v c) (by omega)
        rw [show tw_B w v c + (tw_A w v c - tw_B w v c) = tw_A w v c by omega] at this
        omega
    rw [hab, Int.sub_self, Int.zero_mul, Int.zero_ediv, Int.zero_ediv]
  · by_cases z : (w 1 (tw_B w v c) - w 1 (tw_A w v c)) % 360 = 0
    · have e : w 1 (tw_B w v c) = w 1 (tw_A w v c) := by omega
      have e2 : (v - w 1 (tw_A w v c)) % 360 = 0 := by omega
      rw [e2, Int.mul_zero, Int.zero_ediv, Int.zero_ediv]
    · rw [show (v - w 1 (tw_A w v c)) % 360 + (w 1 (tw_B w v c) - v) % 360 = (w 1 (tw_B w v c) - w 1 (tw_A w v c)) % 360 by omega]
theorem w5_41 (g : aa_G) (j : Nat) (v : Int32) (b : Nat) : zz_w g 540 j v 541 b = g 541 b := aa_w_ne _ _ (fun z => absurd z.1 (by decide))
def w4_ok (w : Nat → Nat → Int) (A B : Nat) : Prop := ((-1 ≤ w 2 A ∧ w 2 A ≤ 86399) ∧ (-1 ≤ w 3 A ∧ w 3 A ≤ 86399) ∧ (-1 ≤ w 4 A ∧ w 4 A ≤ 1) ∧ (w 4 A = -1 → 0 ≤ w 2 A ∧ w 2 A < w 3 A)) ∧ ((-1 ≤ w 2 B ∧ w 2 B ≤ 86399) ∧ (-1 ≤ w 3 B ∧ w 3 B ≤ 86399) ∧ (-1 ≤ w 4 B ∧ w 4 B ≤ 1) ∧ (w 4 B = -1 → 0 ≤ w 2 B ∧ w 2 B < w 3 B))
/-- what lay lays down -/
theorem ml_all {g : aa_G} {t c : Nat} {d : Int32} (ht : t < 4) (hw : tw_ok (mw_t g t) c) (h1 : g 541 (50 * t + 4) = Int32.ofNat c) (hl : g 540 16 = -1) (hd : 0 ≤ d.toInt) {v : Int32} {g' : aa_G} (hg : fn_195 g (Int32.ofNat t) d = (v, g')) :
    (∀ k j, ¬ (k = 540 ∧ 13 ≤ j ∧ j ≤ 15) → g' k j = g k j) ∧ (g' 540 13).toInt = tw_P (mw_t g t) (d.toInt % 360) c ∧ v = (if c ≠ 0 ∧ tw_P (mw_t g t) (d.toInt % 360) c = -1 then 1 else 0) ∧ (tw_P (mw_t g t) (d.toInt % 360) c = -1 → (g' 540 14).toInt = tw_D (mw_t g t) (d.toInt % 360) c 2 ∧ (g' 540 15).toInt = tw_D (mw_t g t) (d.toInt % 360) c 3) := by
  have er : (d - d / 360 * 360).toInt = d.toInt % 360 := ti_rem hd (by decide)
  unfold fn_195 fn_195_21 at hg
  generalize d - d / 360 * 360 = y at hg er
  rw [← er]
  have hy : 0 ≤ y.toInt ∧ y.toInt ≤ 359 := by rw [er]; omega
  have hc := hw.1
  have h0 : ml_st (mw_t g t) y.toInt c 0 = (-1, -1, -1, -1, 0) := by
    unfold ml_st
    rw [if_pos (Nat.min_zero _), if_neg (Nat.not_lt_zero _), if_pos rfl, if_pos rfl]
    rfl
  have hlp := ml_lop (y := y) ht hw h1 hl _ (fun z => rfl) (0, g) c 0 (by omega)
  rw [h0] at hlp
  rw [hlp] at hg
  rw [lp_eq] at hg
  have hkl := tw_k_le (mw_t g t) y.toInt c
  unfold ml_st fn_195_21b at hg
  dsimp only at hg
  rw [ml_ta, show Int32.ofNat (50 * t + 3) + 1 = Int32.ofNat (50 * t + 4) from ml_add _ 1, zz_toN (by omega), h1, if_pos (show Int32.ofNat c ≤ Int32.ofNat c from aa_le32.mpr (Int.le_refl _))] at hg
  by_cases hc0 : c = 0
  · rw [if_neg (c := (if c = 0 then (-1 : Int32) else 0) ≠ -1) (by rw [if_pos hc0]; exact fun z => z rfl)] at hg
    dsimp only at hg
    have hv := congrArg Prod.fst hg
    have hg2 := congrArg Prod.snd hg
    dsimp only at hv hg2
    have hP : tw_P (mw_t g t) y.toInt c = 0 := by unfold tw_P; rw [if_pos hc0]
    rw [hP, ← hg2, ← hv]
    refine ⟨fun k j z => aa_w_ne _ _ (by omega), by rw [aa_w_at]; rfl, ?_, fun z => absurd z (by decide)⟩
    rw [if_neg fun z => absurd z.2 (by decide)]
  · have hcp : 0 < c := by omega
    have hA := tw_A_lt (w := mw_t g t) (v := y.toInt) hcp
    have hB := tw_B_lt (w := mw_t g t) (v := y.toInt) hcp
    have eA : ∀ x : Int32, (if min (tw_k (mw_t g t) y.toInt c) c = 0 then (-1 : Int32) else Int32.ofNat (min (tw_k (mw_t g t) y.toInt c) c - 1)) = x → (if x ≠ -1 then x else Int32.ofNat (c - 1)) = Int32.ofNat (tw_A (mw_t g t) y.toInt c) := by
      intro x hx
      rw [← hx, Nat.min_eq_left hkl]
      unfold tw_A
      by_cases hk : tw_k (mw_t g t) y.toInt c = 0
      · rw [if_pos hk, if_pos hk, if_neg (fun z => z rfl)]
      · rw [if_neg hk, if_neg hk, if_pos (ml_n1 (by omega))]
    have eB : ∀ x : Int32, (if tw_q (mw_t g t) y.toInt c < c then Int32.ofNat (tw_q (mw_t g t) y.toInt c) else (-1 : Int32)) = x → (if x ≠ -1 then x else 0) = Int32.ofNat (tw_B (mw_t g t) y.toInt c) := by
      intro x hx
      rw [← hx, tw_B_m hw hcp]
      by_cases hk : tw_q (mw_t g t) y.toInt c < c
      · rw [if_pos hk, if_pos hk, if_pos (ml_n1 (by omega))]
      · rw [if_neg hk, if_neg hk, if_neg (fun z => z rfl)]
        rfl
    rw [if_neg (c := c = 0) hc0, if_neg (c := c = 0) hc0, if_pos (c := (0 : Int32) ≠ -1) (by decide)] at hg
    have eA := eA _ rfl
    have eB := eB _ rfl
    generalize (if min (tw_k (mw_t g t) y.toInt c) c = 0 then (-1 : Int32) else Int32.ofNat (min (tw_k (mw_t g t) y.toInt c) c - 1)) = xA at hg eA
    generalize (if tw_q (mw_t g t) y.toInt c < c then Int32.ofNat (tw_q (mw_t g t) y.toInt c) else (-1 : Int32)) = xB at hg eB
    have hfin : fn_195_155 (zz_w g 540 13 0) (Int32.ofNat t) y xA xB 0 (Int32.ofNat (c - 1)) (if xA ≠ -1 then xA else Int32.ofNat (c - 1)) (Int32.ofNat t) y = (v, g') := by
      by_cases hx : xA = -1
      · rw [if_neg (c := xA ≠ -1) (fun z => z hx)] at hg ⊢
        exact hg
      · rw [if_pos (c := xA ≠ -1) hx] at hg ⊢
        exact hg
    clear hg
    generalize hg0 : zz_w g 540 13 0 = g0 at hfin
    have f0 : ∀ k j, ¬ (k = 540 ∧ j = 13) → g0 k j = g k j := fun k j z => by rw [← hg0, aa_w_ne _ _ z]
    have fA : ∀ o i, i < 12 → (g0 541 (50 * t + 4 * i + 4 + o)).toInt = mw_t g t o i := fun o i _ => by rw [f0 _ _ (by omega)]; rfl
    rw [eA] at hfin
    have e175 : ∀ (b8 : Int32), (if xA ≠ -1 then fn_195_175 g0 (Int32.ofNat t) y xB 0 b8 xA else fn_195_175 g0 (Int32.ofNat t) y xB 0 b8 (Int32.ofNat (c - 1))) = fn_195_175 g0 (Int32.ofNat t) y xB 0 b8 (Int32.ofNat (tw_A (mw_t g t) y.toInt c)) := by
      intro b8
      rw [← eA]
      by_cases hx : xA = -1
      · rw [if_neg (c := xA ≠ -1) (fun z => z hx), if_neg (c := xA ≠ -1) (fun z => z hx)]
      · rw [if_pos (c := xA ≠ -1) hx, if_pos (c := xA ≠ -1) hx]
    unfold fn_195_155 at hfin
    rw [e175] at hfin
    have e195 : ∀ (b4 b8 : Int32), fn_195_175 g0 (Int32.ofNat t) y xB 0 b8 b4 = fn_195_216 g0 (Int32.ofNat t) b4 b8 (g0 541 (fn_175 (Int32.ofNat t) (Int32.ofNat (tw_B (mw_t g t) y.toInt c))).toNatClampNeg - y) (Int32.ofNat (tw_B (mw_t g t) y.toInt c)) := by
      intro b4 b8
      unfold fn_195_175 fn_195_195
      rw [← eB]
      by_cases hx : xB = -1
      · rw [if_neg (c := xB ≠ -1) (fun z => z hx), if_neg (c := xB ≠ -1) (fun z => z hx), if_neg (c := xB ≠ -1) (fun z => z hx)]
      · rw [if_pos (c := xB ≠ -1) hx, if_pos (c := xB ≠ -1) hx, if_pos (c := xB ≠ -1) hx]
    rw [e195] at hfin
    generalize hAi : tw_A (mw_t g t) y.toInt c = A at *
    generalize hBi : tw_B (mw_t g t) y.toInt c = B at *
    rw [ml_pa, ml_pa, zz_toN (by omega), zz_toN (by omega)] at hfin
    have yA := hw.2.1 A hA
    have yB := hw.2.1 B hB
    have vA : (g0 541 (50 * t + 4 * A + 5)).toInt = mw_t g t 1 A := fA 1 A (by omega)
    have vB : (g0 541 (50 * t + 4 * B + 5)).toInt = mw_t g t 1 B := fA 1 B (by omega)
    have s1 : (y - g0 541 (50 * t + 4 * A + 5)).toInt = y.toInt - mw_t g t 1 A := by rw [aa_sub32 (by omega) (by omega), vA]
    have s2 : (g0 541 (50 * t + 4 * B + 5) - y).toInt = mw_t g t 1 B - y.toInt := by rw [aa_sub32 (by omega) (by omega), vB]
    have norm : ∀ (x : Int32) (z : Int), x.toInt = z → -359 ≤ z → z ≤ 359 → (if 0 ≤ x then x else x + 360).toInt = z % 360 := by
      intro x z e1 e2 e3
      by_cases hx : 0 ≤ x
      · have := aa_le32.mp hx
        rw [e1, show (0 : Int32).toInt = 0 from rfl] at this
        rw [if_pos hx, e1]
        omega
      · have := mt aa_le32.mpr hx
        rw [e1, show (0 : Int32).toInt = 0 from rfl] at this
        rw [if_neg hx, aa_add32 (by rw [e1, show (360 : Int32).toInt = 360 from rfl]; omega) (by rw [e1, show (360 : Int32).toInt = 360 from rfl]; omega), e1, show (360 : Int32).toInt = 360 from rfl]
        omega
    have n1 := norm _ _ s1 (by omega) (by omega)
    have n2 := norm _ _ s2 (by omega) (by omega)
    have e216 : fn_195_216 g0 (Int32.ofNat t) (Int32.ofNat A) (y - g0 541 (50 * t + 4 * A + 5)) (g0 541 (50 * t + 4 * B + 5) - y) (Int32.ofNat B) = fn_196 g0 (Int32.ofNat (50 * t + 4 * A + 5)) (Int32.ofNat (50 * t + 4 * B + 5)) (if 0 ≤ y - g0 541 (50 * t + 4 * A + 5) then y - g0 541 (50 * t + 4 * A + 5) else y - g0 541 (50 * t + 4 * A + 5) + 360) (if 0 ≤ g0 541 (50 * t + 4 * B + 5) - y then g0 541 (50 * t + 4 * B + 5) - y else g0 541 (50 * t + 4 * B + 5) - y + 360) := by
      unfold fn_195_216 fn_195_247 fn_195_263
      rw [ml_pa, ml_pa]
      by_cases q1 : 0 ≤ y - g0 541 (50 * t + 4 * A + 5)
      · by_cases q2 : 0 ≤ g0 541 (50 * t + 4 * B + 5) - y
        · rw [if_pos q1, if_pos q2, if_pos q1, if_pos q2]
        · rw [if_pos q1, if_neg q2, if_pos q1, if_neg q2]
      · by_cases q2 : 0 ≤ g0 541 (50 * t + 4 * B + 5) - y
        · rw [if_neg q1, if_pos q2, if_neg q1, if_pos q2]
        · rw [if_neg q1, if_neg q2, if_neg q1, if_neg q2]
    rw [e216] at hfin
    generalize (if 0 ≤ y - g0 541 (50 * t + 4 * A + 5) then y - g0 541 (50 * t + 4 * A + 5) else y - g0 541 (50 * t + 4 * A + 5) + 360) = S at hfin n1
    generalize (if 0 ≤ g0 541 (50 * t + 4 * B + 5) - y then g0 541 (50 * t + 4 * B + 5) - y else g0 541 (50 * t + 4 * B + 5) - y + 360) = U at hfin n2
    have e196 : fn_196 g0 (Int32.ofNat (50 * t + 4 * A + 5)) (Int32.ofNat (50 * t + 4 * B + 5)) S U = fn_196_32 g0 (Int32.ofNat (50 * t + 4 * A + 5)) (Int32.ofNat (50 * t + 4 * B + 5)) S U (if g0 541 (50 * t + 4 * A + 8) = -1 then g0 541 (50 * t + 4 * B + 8) else g0 541 (50 * t + 4 * A + 8)) := by
      unfold fn_196
      rw [show Int32.ofNat (50 * t + 4 * A + 5) + 3 = Int32.ofNat (50 * t + 4 * A + 8) from ml_add _ 3, show Int32.ofNat (50 * t + 4 * B + 5) + 3 = Int32.ofNat (50 * t + 4 * B + 8) from ml_add _ 3, zz_toN (by omega), zz_toN (by omega)]
      by_cases q : g0 541 (50 * t + 4 * A + 8) = -1
      · rw [if_pos q, if_pos q]
      · rw [if_neg q, if_neg q]
    rw [e196] at hfin
    have hpol : (if g0 541 (50 * t + 4 * A + 8) = -1 then g0 541 (50 * t + 4 * B + 8) else g0 541 (50 * t + 4 * A + 8)).toInt = tw_P (mw_t g t) y.toInt c := by
      unfold tw_P
      rw [if_neg hc0, hAi, hBi]
      have w4A : (g0 541 (50 * t + 4 * A + 8)).toInt = mw_t g t 4 A := fA 4 A (by omega)
      have w4B : (g0 541 (50 * t + 4 * B + 8)).toInt = mw_t g t 4 B := fA 4 B (by omega)
      by_cases q : g0 541 (50 * t + 4 * A + 8) = -1
      · rw [if_pos q, w4B, if_neg (c := mw_t g t 4 A ≠ -1) (fun z => z (by rw [← w4A, q]; rfl))]
      · rw [if_neg q, w4A, if_pos (c := mw_t g t 4 A ≠ -1) (fun z => q (ti_eq.mpr (by rw [w4A, z]; rfl)))]
    generalize (if g0 541 (50 * t + 4 * A + 8) = -1 then g0 541 (50 * t + 4 * B + 8) else g0 541 (50 * t + 4 * A + 8)) = p at hfin hpol
    unfold fn_196_32 at hfin
    by_cases hp : p = -1
    · have hP : tw_P (mw_t g t) y.toInt c = -1 := by rw [← hpol, hp]; rfl
      rw [if_pos hp] at hfin
      unfold fn_196_53 fn_196_81 at hfin
      rw [show Int32.ofNat (50 * t + 4 * A + 5) + 1 = Int32.ofNat (50 * t + 4 * A + 6) from ml_add _ 1, show Int32.ofNat (50 * t + 4 * B + 5) + 1 = Int32.ofNat (50 * t + 4 * B + 6) from ml_add _ 1, show Int32.ofNat (50 * t + 4 * A + 5) + 2 = Int32.ofNat (50 * t + 4 * A + 7) from ml_add _ 2, show Int32.ofNat (50 * t + 4 * B + 5) + 2 = Int32.ofNat (50 * t + 4 * B + 7) from ml_add _ 2, zz_toN (by omega), zz_toN (by omega), zz_toN (by omega), zz_toN (by omega)] at hfin
      have hv := congrArg Prod.fst hfin
      have hg2 := congrArg Prod.snd hfin
      dsimp only at hv hg2
      simp only [w5_41] at hg2
      have bnd : w4_ok (mw_t g t) A B := ⟨hw.2.2.2 A hA, hw.2.2.2 B hB⟩
      have hPAB : mw_t g t 4 A = -1 ∧ mw_t g t 4 B = -1 := by
        unfold tw_P at hP
        rw [if_neg hc0, hAi, hBi] at hP
        by_cases q : mw_t g t 4 A = -1
        · rw [if_neg (c := mw_t g t 4 A ≠ -1) (fun z => z q)] at hP
          exact ⟨q, hP⟩
        · rw [if_pos (c := mw_t g t 4 A ≠ -1) q] at hP
          exact ⟨hP, absurd hP q⟩
      have bA := bnd.1.2.2.2 hPAB.1
      have bB := bnd.2.2.2.2 hPAB.2
      have bA3 := bnd.1.2.1
      have bB3 := bnd.2.2.1
      have m1 := Int.emod_nonneg (y.toInt - mw_t g t 1 A) (show (360 : Int) ≠ 0 by decide)
      have m2 := Int.emod_lt_of_pos (y.toInt - mw_t g t 1 A) (show (0 : Int) < 360 by decide)
      have m3 := Int.emod_nonneg (mw_t g t 1 B - y.toInt) (show (360 : Int) ≠ 0 by decide)
      have m4 := Int.emod_lt_of_pos (mw_t g t 1 B - y.toInt) (show (0 : Int) < 360 by decide)
      have hSU : (S + U).toInt = (y.toInt - mw_t g t 1 A) % 360 + (mw_t g t 1 B - y.toInt) % 360 := by rw [aa_add32 (by omega) (by omega), n1, n2]
      have q2 : (g0 541 (50 * t + 4 * A + 6)).toInt = mw_t g t 2 A := fA 2 A (by omega)
      have q3 : (g0 541 (50 * t + 4 * B + 6)).toInt = mw_t g t 2 B := fA 2 B (by omega)
      have q4 : (g0 541 (50 * t + 4 * A + 7)).toInt = mw_t g t 3 A := fA 3 A (by omega)
      have q5 : (g0 541 (50 * t + 4 * B + 7)).toInt = mw_t g t 3 B := fA 3 B (by omega)
      have r2 : (fn_197 (g0 541 (50 * t + 4 * A + 6)) (g0 541 (50 * t + 4 * B + 6)) S (S + U)).toInt = tw_D (mw_t g t) y.toInt c 2 := by
        rw [fn_197_v (by omega) (by omega) (by omega) (by omega) (by omega) (by omega) (by omega) (by omega), hSU, q2, q3, n1, ← tw_apart hw hcp hy 2, hAi, hBi]
      have r3 : (fn_197 (g0 541 (50 * t + 4 * A + 7)) (g0 541 (50 * t + 4 * B + 7)) S (S + U)).toInt = tw_D (mw_t g t) y.toInt c 3 := by
        rw [fn_197_v (by omega) (by omega) (by omega) (by omega) (by omega) (by omega) (by omega) (by omega), hSU, q4, q5, n1, ← tw_apart hw hcp hy 3, hAi, hBi]
      rw [← hg2, ← hv, hP]
      refine ⟨fun k j z => ?_, ?_, ?_, fun _ => ⟨?_, ?_⟩⟩
      · rw [aa_w_ne _ _ (by omega), aa_w_ne _ _ (by omega), aa_w_ne _ _ (by omega)]
        exact f0 k j (by omega)
      · rw [aa_w_ne _ _ (by omega), aa_w_ne _ _ (by omega), aa_w_at, hp]
        rfl
      · rw [if_pos ⟨hc0, rfl⟩]
      · rw [aa_w_ne _ _ (by omega), aa_w_at]
        exact r2
      · rw [aa_w_at]
        exact r3
    · have hP : tw_P (mw_t g t) y.toInt c ≠ -1 := fun z => hp (ti_eq.mpr (by rw [hpol, z]; rfl))
      rw [if_neg hp] at hfin
      have hv := congrArg Prod.fst hfin
      have hg2 := congrArg Prod.snd hfin
      dsimp only at hv hg2
      rw [← hg2, ← hv]
      refine ⟨fun k j z => ?_, ?_, ?_, fun z => absurd z hP⟩
      · rw [aa_w_ne _ _ (by omega)]
        exact f0 k j (by omega)
      · rw [aa_w_at]
        exact hpol
      · rw [if_neg fun z => hP z.2]
