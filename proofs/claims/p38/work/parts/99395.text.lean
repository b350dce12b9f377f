/-! text() on both sides -/
/-- YDAYS in order -/
def ws_A (A : sp_A) : Prop := ∀ t, t < A.1.1 → (∀ i, i < A.2.1 t → 0 ≤ (A.2.2 t i 0).toInt ∧ (A.2.2 t i 0).toInt ≤ 359) ∧ ∀ i, i + 1 < A.2.1 t → (A.2.2 t i 0).toInt < (A.2.2 t (i + 1) 0).toInt
theorem sp_then_r {r : Nat ⊕ (Nat × Int32)} {k : Nat → Int32 → Nat ⊕ (Nat × sp_A)} {q : Nat} {A : sp_A} (h : sp_then r k = .inr (q, A)) : ∃ q1 z, r = .inr (q1, z) ∧ k q1 z = .inr (q, A) := by
  cases r with
  | inl f => cases h
  | inr x => exact ⟨x.1, x.2, rfl, h⟩
theorem sp_pass_r {b : Nat → Int32} {n p q : Nat} {c : Int32} {k : Nat → Nat ⊕ (Nat × sp_A)} {A : sp_A} (h : sp_pass b n c p k = .inr (q, A)) : k (p + 1) = .inr (q, A) := by
  unfold sp_pass at h
  split at h
  · exact h
  · cases h
theorem ws_town {A : sp_A} {z : Int32} (h : ws_A A) : ws_A (sp_town A z) := by
  intro t ht
  have ht : t < A.1.1 + 1 := ht
  by_cases e : t = A.1.1
  · have c0 : (sp_town A z).2.1 t = 0 := if_pos e
    rw [c0]
    exact ⟨fun i hi => absurd hi (Nat.not_lt_zero i), fun i hi => absurd hi (Nat.not_lt_zero _)⟩
  · have c0 : (sp_town A z).2.1 t = A.2.1 t := if_neg e
    rw [c0]
    exact h t (by omega)
theorem ws_point {A : sp_A} {y d k p : Int32} (h : ws_A A) (h1 : A.1.1 ≠ 0) (hy : (sp_low A).toInt ≤ y.toInt ∧ y.toInt ≤ (359 : Int32).toInt) : ws_A (sp_point A y d k p) := by
  intro t ht
  have ht : t < A.1.1 := ht
  have e359 : (359 : Int32).toInt = 359 := rfl
  rw [e359] at hy
  by_cases e : t = A.1.1 - 1
  · have c0 : (sp_point A y d k p).2.1 t = A.2.1 t + 1 := if_pos e
    rw [c0]
    have v : ∀ i, (sp_point A y d k p).2.2 t i 0 = if i = A.2.1 t then y else A.2.2 t i 0 := fun i => by
      show (if t = A.1.1 - 1 ∧ i = A.2.1 (A.1.1 - 1) then sp_fld y d k p 0 else A.2.2 t i 0) = _
      rw [← e]
      by_cases hi : i = A.2.1 t
      · rw [if_pos ⟨rfl, hi⟩, if_pos hi]
        rfl
      · rw [if_neg fun z => hi z.2, if_neg hi]
    obtain ⟨b1, b2⟩ := h t ht
    have low : 0 ≤ y.toInt ∧ (A.2.1 t ≠ 0 → (A.2.2 t (A.2.1 t - 1) 0).toInt < y.toInt) := by
      unfold sp_low at hy
      rw [← e] at hy
      by_cases h0 : A.2.1 t = 0
      · rw [if_pos h0, show ((-1 : Int32) + 1).toInt = 0 from rfl] at hy
        exact ⟨hy.1, fun z => absurd h0 z⟩
      · rw [if_neg h0] at hy
        have q := b1 (A.2.1 t - 1) (by omega)
        rw [aa_add32 (by rw [show (1 : Int32).toInt = 1 from rfl]; omega) (by rw [show (1 : Int32).toInt = 1 from rfl]; omega), show (1 : Int32).toInt = 1 from rfl] at hy
        exact ⟨by omega, fun _ => by omega⟩
    refine ⟨fun i hi => ?_, fun i hi => ?_⟩
    · rw [v]
      by_cases hi2 : i = A.2.1 t
      · rw [if_pos hi2]
        exact ⟨low.1, hy.2⟩
      · rw [if_neg hi2]
        exact b1 i (by omega)
    · rw [v, v, if_neg (by omega)]
      by_cases hi2 : i + 1 = A.2.1 t
      · rw [if_pos hi2]
        have := low.2 (by omega)
        rwa [show A.2.1 t - 1 = i by omega] at this
      · rw [if_neg hi2]
        exact b2 i (by omega)
  · have c0 : (sp_point A y d k p).2.1 t = A.2.1 t := if_neg e
    have v : ∀ i, (sp_point A y d k p).2.2 t i 0 = A.2.2 t i 0 := fun i => if_neg fun z => e z.1
    rw [c0]
    obtain ⟨b1, b2⟩ := h t ht
    exact ⟨fun i hi => by rw [v]; exact b1 i hi, fun i hi => by rw [v, v]; exact b2 i hi⟩
theorem ws_item {b : Nat → Int32} {n p q : Nat} {A A' : sp_A} (h : sp_item b n p A = .inr (q, A')) (hw : ws_A A) : ws_A A' := by
  unfold sp_item at h
  split at h
  · unfold sp_rtown at h
    split at h
    · cases h
    · obtain ⟨q1, z, -, e⟩ := sp_then_r h
      have e := Sum.inr.inj e
      have e2 := congrArg Prod.snd e
      dsimp only at e2
      rw [← e2]
      exact ws_town hw
  · split at h
    · rename_i c
      obtain ⟨q1, y, e1, e2⟩ := sp_then_r h
      have hy := sp_num_z e1
      have e2 := sp_pass_r e2
      split at e2
      · unfold sp_hours at e2
        obtain ⟨q2, d, -, e3⟩ := sp_then_r e2
        have e3 := sp_pass_r e3
        obtain ⟨q3, k, -, e4⟩ := sp_then_r e3
        have e5 := congrArg Prod.snd (Sum.inr.inj e4)
        dsimp only at e5
        rw [← e5]
        exact ws_point hw c.2.1 hy
      · unfold sp_kind at e2
        obtain ⟨q2, z, -, e3⟩ := sp_then_r e2
        have e5 := congrArg Prod.snd (Sum.inr.inj e3)
        dsimp only at e5
        rw [← e5]
        exact ws_point hw c.2.1 hy
    · cases h
theorem ws_items {b : Nat → Int32} {n : Nat} : ∀ (k p c : Nat) (A : sp_A) {c' : Nat} {A' : sp_A}, sp_items b n k p c A = .inr (c', A') → ws_A A → ws_A A'
  | 0, p, c, A, c', A', h, hw => by
    have h : (Sum.inr (c, A) : Nat ⊕ (Nat × sp_A)) = .inr (c', A') := h
    cases h
    exact hw
  | k + 1, p, c, A, c', A', h, hw => by
    rw [sp_items] at h
    split at h
    · split at h
      · cases h
      · rename_i q A1 e
        split at h
        · exact ws_items k (q + 1) (c + 1) A1 h (ws_item e hw)
        · cases h
    · cases h
      exact hw
/-- the towns of a row 0 -/
noncomputable def av_A (g : aa_G) : sp_A := (((g 541 0).toInt.toNat, fun t => g 541 (50 * t + 3)), (fun t => (g 541 (50 * t + 4)).toInt.toNat, fun t i f => g 541 (50 * t + 4 * i + 5 + f)))
theorem av_m {g : aa_G} (hi : aa_inv g) : mv0 g (av_A g) := by
  have n4 : 0 ≤ (g 541 0).toInt ∧ (g 541 0).toInt ≤ 4 := iv_n hi (r := 0)
  refine ⟨aa_eqN (by show (g 541 0).toInt = ((g 541 0).toInt.toNat : Int); omega) (by show (g 541 0).toInt.toNat < _; omega), by show (g 541 0).toInt.toNat ≤ 4; omega, fun t ht => ?_⟩
  have ht : t < (g 541 0).toInt.toNat := ht
  obtain ⟨c, hc, h1⟩ := tq_count hi (show t < 4 by omega)
  have ec : (g 541 (50 * t + 4)).toInt.toNat = c := by rw [h1, i_12 hc]; omega
  refine ⟨by show g 541 (3 + 50 * t) = g 541 (50 * t + 3); rw [Nat.add_comm], ?_, ?_, fun i hi' => ?_⟩
  · show g 541 (3 + 50 * t + 1) = Int32.ofNat (g 541 (50 * t + 4)).toInt.toNat
    rw [ec, show 3 + 50 * t + 1 = 50 * t + 4 by omega, h1]
  · show (g 541 (50 * t + 4)).toInt.toNat ≤ 12
    omega
  · refine ⟨?_, ?_, ?_, ?_⟩
    · show g 541 (5 + 50 * t + 4 * i) = g 541 (50 * t + 4 * i + 5 + 0)
      congr 1
      omega
    · show g 541 (5 + 50 * t + 4 * i + 1) = g 541 (50 * t + 4 * i + 5 + 1)
      congr 1
      omega
    · show g 541 (5 + 50 * t + 4 * i + 2) = g 541 (50 * t + 4 * i + 5 + 2)
      congr 1
      omega
    · show g 541 (5 + 50 * t + 4 * i + 3) = g 541 (50 * t + 4 * i + 5 + 3)
      congr 1
      omega
theorem av_cs {gc gm : aa_G} (hi : aa_inv gm) (h : q1_s gc gm 2 0) : cvs gc 2 (av_A gm) ∧ ws_A (av_A gm) := by
  have n4 : 0 ≤ (gm 541 0).toInt ∧ (gm 541 0).toInt ≤ 4 := iv_n hi (r := 0)
  obtain ⟨h0, -, -, h4⟩ := h
  have h0 : gc 2 0 = gm 541 0 := h0
  refine ⟨⟨h0.trans (aa_eqN (by show (gm 541 0).toInt = ((gm 541 0).toInt.toNat : Int); omega) (by show (gm 541 0).toInt.toNat < _; omega)), by show (gm 541 0).toInt.toNat ≤ 4; omega, fun t ht => ?_⟩, fun t ht => ?_⟩
  · have ht : t < (gm 541 0).toInt.toNat := ht
    obtain ⟨c, hc, h1⟩ := tq_count hi (show t < 4 by omega)
    have ec : (gm 541 (50 * t + 4)).toInt.toNat = c := by rw [h1, i_12 hc]; omega
    obtain ⟨a1, a2, a3, a4⟩ := h4 t (by show (t : Int) < (gm 541 0).toInt; omega)
    rw [show 399 * 0 + 50 * t + 3 = 50 * t + 3 by omega] at a1 a2 a3 a4
    have hz : (gm 541 (50 * t + 3 + 1)).toInt = c := by
      show (gm 541 (50 * t + 4)).toInt = c
      rw [h1, i_12 hc]
    refine ⟨a1, ?_, by show (gm 541 (50 * t + 4)).toInt.toNat ≤ 12; omega, fun i hi' => ?_⟩
    · show gc (5 * t + (2 + 12)) 1 = Int32.ofNat (gm 541 (50 * t + 4)).toInt.toNat
      rw [ec, a2]
      exact h1
    · have hi' : i < (gm 541 (50 * t + 4)).toInt.toNat := hi'
      have b := fun o o1 o2 => a3 i (by rw [hz]; omega) o o1 o2
      refine ⟨?_, ?_, ?_, ?_⟩
      · rw [b 1 (by omega) (by omega)]
        show gm 541 (50 * t + 3 + 1 + 4 * i + 1) = gm 541 (50 * t + 4 * i + 5 + 0)
        congr 1
        omega
      · rw [b 2 (by omega) (by omega)]
        show gm 541 (50 * t + 3 + 1 + 4 * i + 2) = gm 541 (50 * t + 4 * i + 5 + 1)
        congr 1
        omega
      · rw [b 3 (by omega) (by omega)]
        show gm 541 (50 * t + 3 + 1 + 4 * i + 3) = gm 541 (50 * t + 4 * i + 5 + 2)
        congr 1
        omega
      · rw [b 4 (by omega) (by omega)]
        show gm 541 (50 * t + 3 + 1 + 4 * i + 4) = gm 541 (50 * t + 4 * i + 5 + 3)
        congr 1
        omega
  · have ht : t < (gm 541 0).toInt.toNat := ht
    obtain ⟨c, hc, h1⟩ := tq_count hi (show t < 4 by omega)
    have ec : (gm 541 (50 * t + 4)).toInt.toNat = c := by rw [h1, i_12 hc]; omega
    obtain ⟨a1, a2, a3, a4⟩ := h4 t (by show (t : Int) < (gm 541 0).toInt; omega)
    rw [show 399 * 0 + 50 * t + 3 = 50 * t + 3 by omega] at a1 a2 a3 a4
    have hz : (gm 541 (50 * t + 3 + 1)).toInt = c := by
      show (gm 541 (50 * t + 4)).toInt = c
      rw [h1, i_12 hc]
    refine ⟨fun i hi' => ?_, fun i hi' => ?_⟩
    · have hi' : i < (gm 541 (50 * t + 4)).toInt.toNat := hi'
      have g1 := iv_t hi (r := 0) (t := t) (o := 2 + 4 * i) (by omega) (by omega)
      have e : aa_town (2 + 4 * i) = (0, 359) := by
        unfold aa_town
        rw [if_neg (fun z => by have := Nat.eq_of_beq_eq_true z; omega), if_neg (fun z => by have := Nat.eq_of_beq_eq_true z; omega), show (2 + 4 * i - 2) % 4 = 0 by omega]
        rfl
      rw [e, show 399 * 0 + 50 * t + 3 + (2 + 4 * i) = 50 * t + 4 * i + 5 + 0 by omega] at g1
      exact g1
    · have hi' : i + 1 < (gm 541 (50 * t + 4)).toInt.toNat := hi'
      have := a4 i (by rw [hz]; omega)
      rw [show 50 * t + 3 + 1 + 4 * i + 1 = 50 * t + 4 * i + 5 + 0 by omega, show 50 * t + 3 + 1 + 4 * (i + 1) + 1 = 50 * t + 4 * (i + 1) + 5 + 0 by omega] at this
      exact this
/-- towns that are told alike are alike -/
theorem av_q {gc gm : aa_G} {A : sp_A} (h1 : cvs gc 2 A) (h2 : mv0 gm A) (h3 : ws_A A) (e1 : gc 2 1 = gm 541 1) (e2 : gc 4 0 = gm 541 2) : q1_s gc gm 2 0 := by
  obtain ⟨a1, a2, a3⟩ := h1
  obtain ⟨b1, b2, b3⟩ := h2
  have b1 : gm 541 0 = Int32.ofNat A.1.1 := b1
  refine ⟨a1.trans b1.symm, e1, e2, fun t ht => ?_⟩
  have ht : (t : Int) < (gm 541 0).toInt := ht
  rw [b1, zz_ofN (by omega)] at ht
  obtain ⟨c1, c2, c3, c4⟩ := a3 t (by omega)
  obtain ⟨d1, d2, d3, d4⟩ := b3 t (by omega)
  obtain ⟨w1, w2⟩ := h3 t (by omega)
  rw [show 399 * 0 + 50 * t + 3 = 50 * t + 3 by omega]
  have d2' : gm 541 (50 * t + 3 + 1) = Int32.ofNat (A.2.1 t) := by rw [show 50 * t + 3 + 1 = 3 + 50 * t + 1 by omega]; exact d2
  refine ⟨?_, c2.trans d2'.symm, fun i hi o o1 o2 => ?_, fun i hi => ?_⟩
  · rw [c1, Nat.add_comm]; exact d1.symm
  · rw [d2', zz_ofN (by omega)] at hi
    obtain ⟨x1, x2, x3, x4⟩ := c4 i (by omega)
    obtain ⟨y1, y2, y3, y4⟩ := d4 i (by omega)
    rcases (show o = 1 ∨ o = 2 ∨ o = 3 ∨ o = 4 by omega) with rfl | rfl | rfl | rfl
    · rw [x1, ← y1]
      congr 1
      omega
    · rw [x2, ← y2]
      congr 1
      omega
    · rw [x3, ← y3]
      congr 1
      omega
    · rw [x4, ← y4]
      congr 1
      omega
  · rw [d2', zz_ofN (by omega)] at hi
    have w := w2 i (by omega)
    obtain ⟨y1, -⟩ := d4 i (by omega)
    obtain ⟨y2, -⟩ := d4 (i + 1) (by omega)
    rw [show 50 * t + 3 + 1 + 4 * i + 1 = 5 + 50 * t + 4 * i by omega, show 50 * t + 3 + 1 + 4 * (i + 1) + 1 = 5 + 50 * t + 4 * (i + 1) by omega, y1, y2]
    exact w
/-- what text() of the class, of the model does: by ct_text, mt_text -/
def xt_c (b : Nat → Int32) (n e c : Nat) (A : sp_A) (g g' : aa_G) (x : Int32) : Prop := g' 454 0 = 0 ∧ ct_keep g g' e ∧ ((∃ f, sp_items b n (n + 1) 0 0 A = .inl f ∧ x = -1 ∧ g' 1 13 = Int32.ofNat f ∧ (∀ k j, ¬ (34 ≤ k ∧ k ≤ 65) → k ≠ 454 → ¬ (k = 1 ∧ j = 13) → g' k j = g k j)) ∨ (∃ c' A', sp_items b n (n + 1) 0 0 A = .inr (c', A') ∧ x = Int32.ofNat c' ∧ g' 1 13 = -1 ∧ cvs g' 2 A' ∧ cp_rest g g' 2 2 ∧ cp_st g g' (32 * e + 68) 2 ∧ g' 66 0 = Int32.ofNat (min (c + 1) 12) ∧ g' 66 1 = Int32.ofNat ((e + 1) % 12)))
def xt_m (b : Nat → Int32) (n c : Nat) (A : sp_A) (g g' : aa_G) (x : Int32) : Prop := g' 540 4 = 0 ∧ mt_keep g g' ∧ ((∃ f, sp_items b n (n + 1) 0 0 A = .inl f ∧ x = -1 ∧ g' 540 6 = Int32.ofNat f ∧ g' 540 1 = g 540 1 ∧ ∀ j, j < 5985 → g' 541 j = g 541 j) ∨ (∃ c' A', sp_items b n (n + 1) 0 0 A = .inr (c', A') ∧ x = Int32.ofNat c' ∧ g' 540 6 = -1 ∧ mv0 g' A' ∧ mt_row g g' ∧ g' 540 1 = Int32.ofNat (min (c + 1) 12) ∧ (∀ q, q < 399 → g' 541 (399 * (3 + min c 11) + q) = g 541 q) ∧ (∀ i q, q < 399 → i < min c 11 → g' 541 (399 * (3 + i) + q) = g 541 (399 * (3 + i + (if c = 12 then 1 else 0)) + q)) ∧ ∀ j, 399 ≤ j → j < 1197 → g' 541 j = g 541 j))
theorem mu_text {B : rq_Q} (hcp : rq_cp B) (hbf2 : ∀ (gc gc' gm gm' : aa_G), cp_bl gc gc' 4 4 → (∀ q, q < 399 → (q = 2 ∨ 203 ≤ q) → gm' 541 q = gm 541 q) → B gc gm 2 0 → B gc' gm' 2 0) {gc gm gc' gm' : aa_G} {b : Nat → Int32} {n c e : Nat} {x y : Int32} (hi : aa_inv gm) (h : rr_g (qb_s B) gc gm) (hd : rd_g (qb_s B) gc gm c e) (hc : xt_c b n e c (av_A gm) gc gc' x) (hm : xt_m b n c (av_A gm) gm gm' y) : x = y ∧ rr_g (qb_s B) gc' gm' := by
  obtain ⟨h0, h2, -, s1, s2, s3, s4, s5, s6, s7⟩ := h
  obtain ⟨x0, xk, xr⟩ := hc
  obtain ⟨y0, yk, yr⟩ := hm
  have he := hd.1.2
  have fc : ∀ k j, ¬ (2 ≤ k ∧ k ≤ 65) → ¬ (32 * e + 68 ≤ k ∧ k ≤ 32 * e + 99) → ¬ (k = 66 ∧ j ≤ 1) → k ≠ 454 → ¬ (k = 1 ∧ j = 13) → gc' k j = gc k j := xk
  have fm : ∀ k j, k ≠ 541 → ¬ (k = 540 ∧ (j = 1 ∨ (4 ≤ j ∧ j ≤ 7))) → gm' k j = gm k j := yk
  have rest : (qb_s B gc' gm' 2 0) → gc' 1 13 = gm' 540 6 → (∀ j, 399 ≤ j → j < 1197 → gm' 541 j = gm 541 j) → (∃ c e, rd_g (qb_s B) gc' gm' c e) → rr_g (qb_s B) gc' gm' := by
    intro r1 r2 r3 r4
    refine ⟨r1, fun k hk => ⟨?_, fun z => ?_⟩, r4, ?_, fun k hk => ?_, r2, ?_, ?_, ?_, fun j hj => ?_⟩
    · rw [fc 453 k (by omega) (by omega) (by omega) (by omega) (by omega), fm 542 k (by omega) (by omega)]; exact (h2 k hk).1
    · rw [fm 542 k (by omega) (by omega)] at z
      exact rq_same (qb_cp hcp) hi (by omega) (fun k' j _ _ => fc k' j (by omega) (by omega) (by omega) (by omega) (by omega)) (fun q hq => r3 _ (by omega) (by omega)) ((h2 k hk).2 z)
    · rw [x0, y0]
    · rw [fm 543 k (by omega) (by omega), fc 455 k (by omega) (by omega) (by omega) (by omega) (by omega)]; exact s2 k hk
    · rw [fc 1 14 (by omega) (by omega) (by omega) (by omega) (by omega), fm 540 35 (by omega) (by omega)]; exact s4
    · rw [fm 540 16 (by omega) (by omega)]; exact s5
    · rw [fc 459 0 (by omega) (by omega) (by omega) (by omega) (by omega), fm 540 37 (by omega) (by omega)]; exact s6
    · rw [fm 540 37 (by omega) (by omega)] at hj
      rw [fc 460 j (by omega) (by omega) (by omega) (by omega) (by omega), fm 553 j (by omega) (by omega)]; exact s7 j hj
  rcases xr with ⟨f, u1, u2, u3, u4⟩ | ⟨c', A', u1, u2, u3, u4, u5, u6, u7, u8⟩
  · rcases yr with ⟨f', v1, v2, v3, v4, v5⟩ | ⟨_, _, v1, -⟩
    · rw [u1] at v1
      cases v1
      obtain ⟨d1, ⟨d2, d3, d4⟩, d5⟩ := hd
      refine ⟨u2.trans v2.symm, rest (rq_same (qb_cp hcp) hi (by omega) (fun k j _ _ => u4 k j (by omega) (by omega) (by omega)) (fun q hq => v5 _ (by omega)) h0) (u3.trans v3.symm) (fun j _ _ => v5 j (by omega)) ⟨c, e, d1, ⟨(u4 66 0 (by omega) (by omega) (by omega)).trans d2, v4.trans d3, (u4 66 1 (by omega) (by omega) (by omega)).trans d4⟩, fun i hi' => rq_same (qb_cp hcp) hi (by omega) (fun k j _ _ => u4 k j (by omega) (by omega) (by omega)) (fun q hq => v5 _ (by omega)) (d5 i hi')⟩⟩
    · rw [u1] at v1
      cases v1
  · rcases yr with ⟨_, v1, -⟩ | ⟨c2, A2, v1, v2, v3, v4, v5, v6, v7, v8, v9⟩
    · rw [u1] at v1
      cases v1
    · rw [u1] at v1
      cases v1
      obtain ⟨q1, qb⟩ := h0
      have hw := ws_items _ _ _ _ u1 (av_cs hi q1).2
      have mr : ∀ j, j < 399 → ¬ (j = 0 ∨ (3 ≤ j ∧ j < 203)) → gm' 541 j = gm 541 j := v5
      obtain ⟨r1, r2, r3⟩ := u5
      have hq : qb_s B gc' gm' 2 0 := ⟨av_q u4 v4 hw (r1.trans (q1.2.1.trans (mr 1 (by omega) (by omega)).symm)) ((r2 0 (by omega)).trans (q1.2.2.1.trans (mr 2 (by omega) (by omega)).symm)), hbf2 gc gc' gm gm' ⟨r2, r3⟩ (fun q hq z => mr q hq (by omega)) qb⟩
      refine ⟨u2.trans v2.symm, rest hq (u3.trans v3.symm) v9 ⟨_, _, rd_push (qb_cp hcp) hi ⟨q1, qb⟩ hd u6 u7 u8 (fun k j z1 z2 z3 => fc k j (by omega) (by omega) (by omega) (by omega) (by omega)) v6 (fun q hq => ?_) v8⟩⟩
      rw [Nat.mul_zero, Nat.zero_add]
      exact v7 q hq
