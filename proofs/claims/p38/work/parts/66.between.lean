/-! BY HAND: a point between two points -/
section AI
variable {X : zz_X} {m pc : Nat} {lv : zz_V} {h : zz_H} {φ : Option Value → zz_H → Prop}
theorem zz_fin.div {a b : Int32} {r : List Value} {x y u w : Nat} {vv : Value} {sw : List (Int × Nat)} (hT : zz_T m pc = some (.idiv, (x, y, u, w), vv, sw)) (hb : b ≠ 0) (kk : zz_fin X m (pc + 1, lv, .int (a / b) :: r, h) φ) : zz_fin X m (pc, lv, .int b :: .int a :: r, h) φ := by
  refine zz_fin.step1 hT ?_ kk
  show (if b = 0 then none else zz_go (pc + 1) lv (.int (a / b) :: r) h) = _
  rw [if_neg hb]
  rfl
end AI
theorem aa_ceil {d w : Int} (hw : 0 < w) : (w - 1 - d) / w = -(d / w) := by
  have h1 := Int.mul_ediv_add_emod d w
  have h2 := Int.emod_nonneg d (show w ≠ 0 by omega)
  have h3 := Int.emod_lt_of_pos d hw
  have e : w - 1 - d = (w - 1 - d % w) + w * (-(d / w)) := by
    rw [Int.mul_neg]
    omega
  rw [e, Int.add_mul_ediv_left _ _ (show w ≠ 0 by omega), Int.ediv_eq_zero_of_lt (by omega) (by omega)]
  omega
theorem between_all {a b p w : Int32} {h : zz_H} (ha0 : 0 ≤ a.toInt) (ha1 : a.toInt ≤ 86399) (hb0 : 0 ≤ b.toInt) (hb1 : b.toInt ≤ 86399) (hp0 : 0 ≤ p.toInt) (hp1 : p.toInt ≤ 359) (hw0 : 0 ≤ w.toInt) (hw1 : w.toInt ≤ 718) : zz_fin none 197 (0, zz_in [.int a, .int b, .int p, .int w] (zz_nl 197), [], h) (fun v h' => (∃ z : Int32, v = some (.int z) ∧ z.toInt = a.toInt + (b.toInt - a.toInt) * p.toInt / w.toInt) ∧ h' = h) := by
  have e1 : (1 : Int32).toInt = 1 := rfl
  refine zz_fin.steps (n := 1) (s' := (1, [some (.int a), some (.int b), some (.int p), some (.int w), none], [.int w], h)) rfl ?_
  refine zz_fin.if rfl (fun c => ?_) (fun c => ?_)
  · have c : w ≠ 0 := of_decide_eq_true c
    have c1 : w.toInt ≠ 0 := fun z => c (Int32.toInt_inj.mp z)
    have es : (b - a).toInt = b.toInt - a.toInt := aa_sub32 (by omega) (by omega)
    have m1 : (b.toInt - a.toInt) * p.toInt ≤ 86399 * p.toInt := Int.mul_le_mul_of_nonneg_right (by omega) hp0
    have m2 : (-86399) * p.toInt ≤ (b.toInt - a.toInt) * p.toInt := Int.mul_le_mul_of_nonneg_right (by omega) hp0
    have ed : ((b - a) * p).toInt = (b.toInt - a.toInt) * p.toInt := by
      rw [Int32.toInt_mul, es, aa_bm (by omega) (by omega)]
    generalize (b.toInt - a.toInt) * p.toInt = D at m1 m2 ed ⊢
    refine zz_fin.steps (n := 8) (s' := (16, [some (.int a), some (.int b), some (.int p), some (.int w), some (.int ((b - a) * p))], [.int ((b - a) * p), .int a], h)) rfl ?_
    generalize (b - a) * p = d at ed ⊢
    refine zz_fin.if rfl (fun k => ?_) (fun k => ?_)
    · have k : (0 : Int32) ≤ d := of_decide_eq_true k
      have k : (0 : Int) ≤ d.toInt := aa_le32.mp k
      refine zz_fin.steps (n := 2) (s' := (34, [some (.int a), some (.int b), some (.int p), some (.int w), some (.int d)], [.int w, .int d, .int a], h)) rfl ?_
      refine zz_fin.div rfl c ?_
      have eq : (d / w).toInt = D / w.toInt := by
        rw [Int32.toInt_div_of_ne_right _ _ (aa_one_ne (by omega)), aa_tdiv_nonneg k, ed]
      have q0 : 0 ≤ D / w.toInt := Int.ediv_nonneg (by omega) (by omega)
      have q1 : D / w.toInt ≤ D := Int.ediv_le_self _ (by omega)
      refine zz_fin.at (n := 2) rfl ⟨⟨_, rfl, ?_⟩, rfl⟩
      rw [aa_add32 (by omega) (by omega), eq]
    · have k : ¬ (0 : Int32) ≤ d := fun z => k (decide_eq_true z)
      have k : ¬ (0 : Int) ≤ d.toInt := fun z => k (aa_le32.mpr z)
      have en1 : (w - 1).toInt = w.toInt - 1 := by rw [aa_sub32 (by omega) (by omega), e1]
      have en : (w - 1 - d).toInt = w.toInt - 1 - D := by rw [aa_sub32 (by omega) (by omega), en1, ed]
      refine zz_fin.steps (n := 6) (s' := (26, [some (.int a), some (.int b), some (.int p), some (.int w), some (.int d)], [.int w, .int (w - 1 - d), .int a], h)) rfl ?_
      refine zz_fin.div rfl c ?_
      have eq : ((w - 1 - d) / w).toInt = -(D / w.toInt) := by
        rw [Int32.toInt_div_of_ne_right _ _ (aa_one_ne (by omega)), aa_tdiv_nonneg (by omega), en, aa_ceil (by omega)]
      have q0 : 0 ≤ (w.toInt - 1 - D) / w.toInt := Int.ediv_nonneg (by omega) (by omega)
      have q1 : (w.toInt - 1 - D) / w.toInt ≤ w.toInt - 1 - D := Int.ediv_le_self _ (by omega)
      rw [aa_ceil (by omega)] at q0 q1
      have eneg : (-((w - 1 - d) / w)).toInt = D / w.toInt := by
        rw [Int32.toInt_neg, eq, aa_bm (by omega) (by omega)]
        omega
      refine zz_fin.at (n := 4) rfl ⟨⟨_, rfl, ?_⟩, rfl⟩
      rw [aa_add32 (by omega) (by omega), eneg]
  · have c : w = 0 := Decidable.byContradiction fun z => c (decide_eq_true z)
    subst c
    refine zz_fin.at (n := 2) rfl ⟨⟨_, rfl, ?_⟩, rfl⟩
    rw [show (0 : Int32).toInt = 0 from rfl, Int.ediv_zero]
    omega
theorem aa_mid {a1 a2 b1 b2 p q : Int} (h1 : 0 ≤ a1) (h2 : a1 < a2) (h3 : a2 ≤ 86399) (h4 : 0 ≤ b1) (h5 : b1 < b2) (h6 : b2 ≤ 86399) (hp : 0 ≤ p) (hq : 0 ≤ q) : 0 ≤ a1 + (b1 - a1) * p / (p + q) ∧ a1 + (b1 - a1) * p / (p + q) < a2 + (b2 - a2) * p / (p + q) ∧ a2 + (b2 - a2) * p / (p + q) ≤ 86399 := by
  rcases Int.lt_or_le 0 (p + q) with hw | hw
  · have r : ∀ a b : Int, a + (b - a) * p / (p + q) = (b * p + a * q) / (p + q) := fun a b => by
      have e : b * p + a * q = (b - a) * p + (p + q) * a := by
        rw [Int.sub_mul, Int.add_mul, Int.mul_comm p a, Int.mul_comm q a]
        omega
      rw [e, Int.add_mul_ediv_left _ _ (show p + q ≠ 0 by omega)]
      omega
    rw [r, r]
    have m1 : 0 ≤ b1 * p := Int.mul_nonneg h4 hp
    have m2 : 0 ≤ a1 * q := Int.mul_nonneg h1 hq
    have m3 : (b1 + 1) * p ≤ b2 * p := Int.mul_le_mul_of_nonneg_right (by omega) hp
    have m4 : (a1 + 1) * q ≤ a2 * q := Int.mul_le_mul_of_nonneg_right (by omega) hq
    have m5 : b2 * p ≤ 86399 * p := Int.mul_le_mul_of_nonneg_right h6 hp
    have m6 : a2 * q ≤ 86399 * q := Int.mul_le_mul_of_nonneg_right h3 hq
    rw [Int.add_mul, Int.one_mul] at m3 m4
    refine ⟨Int.ediv_nonneg (by omega) (by omega), ?_, ?_⟩
    · have k : (b1 * p + a1 * q + (p + q) * 1) / (p + q) ≤ (b2 * p + a2 * q) / (p + q) := Int.ediv_le_ediv hw (by omega)
      rw [Int.add_mul_ediv_left _ _ (show p + q ≠ 0 by omega)] at k
      omega
    · exact Int.ediv_le_of_le_mul hw (by omega)
  · have e : p + q = 0 := by omega
    rw [e, Int.ediv_zero, Int.ediv_zero]
    omega
theorem aa_town1 {x : Nat} : aa_town (4 * x + 1 + 2) = (-1, 86399) := by
  unfold aa_town
  rw [if_neg fun e => by have := Nat.eq_of_beq_eq_true e; omega, if_neg fun e => by have := Nat.eq_of_beq_eq_true e; omega, show (4 * x + 1 + 2 - 2) % 4 = 1 by omega]
  rfl
theorem aa_town2 {x : Nat} : aa_town (4 * x + 2 + 2) = (-1, 86399) := by
  unfold aa_town
  rw [if_neg fun e => by have := Nat.eq_of_beq_eq_true e; omega, if_neg fun e => by have := Nat.eq_of_beq_eq_true e; omega, show (4 * x + 2 + 2 - 2) % 4 = 2 by omega]
  rfl
theorem aa_town3 {x : Nat} : aa_town (4 * x + 3 + 2) = (-1, 1) := by
  unfold aa_town
  rw [if_neg fun e => by have := Nat.eq_of_beq_eq_true e; omega, if_neg fun e => by have := Nat.eq_of_beq_eq_true e; omega, show (4 * x + 3 + 2 - 2) % 4 = 3 by omega]
  rfl
theorem aa_point {g : aa_G} (h : aa_inv g) {t x k : Nat} (ht : t < 4) (hx : x < 12) (hk : k < 4) : (aa_town (4 * x + k + 2)).1 ≤ (g 541 (5 + 50 * t + 4 * x + k)).toInt ∧ (g 541 (5 + 50 * t + 4 * x + k)).toInt ≤ (aa_town (4 * x + k + 2)).2 := by
  have c := h 541 (5 + 50 * t + 4 * x + k)
  have c : (aa_iv 36 (5 + 50 * t + 4 * x + k)).1 ≤ (g 541 (5 + 50 * t + 4 * x + k)).toInt ∧ (g 541 (5 + 50 * t + 4 * x + k)).toInt ≤ (aa_iv 36 (5 + 50 * t + 4 * x + k)).2 := c
  rw [aa_iv36, show (5 + 50 * t + 4 * x + k) / 399 = 0 by omega, show (5 + 50 * t + 4 * x + k) % 399 = 5 + 50 * t + 4 * x + k by omega] at c
  unfold aa_place at c
  rw [if_neg fun e => by have := Nat.le_of_ble_eq_true e; omega, if_neg fun e => by have := Nat.le_of_ble_eq_true e; omega, if_pos (Nat.ble_eq_true_of_le (by omega)), show (5 + 50 * t + 4 * x + k - 3) % 50 = 4 * x + k + 2 by omega] at c
  exact c
abbrev aa_lw : aa_W := [(35, 13, 15)]
theorem aa_lay {g : aa_G} (h5 : aa_inv g) (h6 : aa_Phi g) {j : Nat} {v : Int32} (hj : 13 ≤ j ∧ j ≤ 15) (hv : (aa_iv 35 j).1 ≤ v.toInt ∧ v.toInt ≤ (aa_iv 35 j).2) : aa_inv (zz_w g 540 j v) ∧ aa_Phi (zz_w g 540 j v) ∧ aa_fr aa_lw g (zz_w g 540 j v) := by
  have fr : ∀ ws : aa_W, (∃ w ∈ ws, w.1 = 35 ∧ w.2.1 ≤ 13 ∧ 15 ≤ w.2.2) → aa_fr ws g (zz_w g 540 j v) := fun ws ⟨w, hw, w1, w2, w3⟩ => by
    refine ⟨fun a b => ?_, .inl (aa_dep_w ⟨fun e => by have := e.2; omega, by decide, by decide⟩)⟩
    by_cases e : a = 540 ∧ b = j
    · obtain ⟨rfl, rfl⟩ := e
      exact .inr ⟨w, hw, w1, by omega, by omega⟩
    · exact .inl (aa_w_ne _ _ e)
  exact ⟨aa_inv_w h5 hv.1 hv.2, aa_Phi_same (aa_same_fr (fr aa_mfree (by decide))) h6, fr _ (by decide)⟩
theorem lay_tail {g0 g : aa_G} (hf : aa_fr aa_lw g0 g) (h5 : aa_inv g) (h6 : aa_Phi g) {P Q : Nat} (hP : P < 6000) (hQ : Q < 6000) {w3 w4 : Int32} (p0 : 0 ≤ w3.toInt) (p1 : w3.toInt ≤ 359) (q0 : 0 ≤ w4.toInt) (q1 : w4.toInt ≤ 359) (a0 : 0 ≤ (g 541 (P + 1)).toInt) (a1 : (g 541 (P + 1)).toInt < (g 541 (P + 2)).toInt) (a2 : (g 541 (P + 2)).toInt ≤ 86399) (b0 : 0 ≤ (g 541 (Q + 1)).toInt) (b1 : (g 541 (Q + 1)).toInt < (g 541 (Q + 2)).toInt) (b2 : (g 541 (Q + 2)).toInt ≤ 86399) (hk : (g 540 13).toInt = -1) : zz_fin none 196 (45, [some (.ref 540), some (.int (Int32.ofNat P)), some (.int (Int32.ofNat Q)), some (.int w3), some (.int w4)], [], aa_H g) (fun v h => v = some (.int 1) ∧ ∃ g', h = aa_H g' ∧ aa_inv g' ∧ aa_Phi g' ∧ aa_fr aa_lw g0 g' ∧ (g' 540 13).toInt = -1 ∧ 0 ≤ (g' 540 14).toInt ∧ (g' 540 14).toInt < (g' 540 15).toInt ∧ (g' 540 15).toInt ≤ 86399) := by
  have es : (w3 + w4).toInt = w3.toInt + w4.toInt := aa_add32 (by omega) (by omega)
  have eP : ∀ k : Nat, Int32.ofNat P + Int32.ofNat k = Int32.ofNat (P + k) := fun k => (Int32.ofNat_add P k).symm
  have eQ : ∀ k : Nat, Int32.ofNat Q + Int32.ofNat k = Int32.ofNat (Q + k) := fun k => (Int32.ofNat_add Q k).symm
  obtain ⟨r1, r2, r3⟩ := aa_mid a0 a1 a2 b0 b1 b2 p0 q0
  refine zz_fin.steps (n := 6) (s' := (53, [some (.ref 540), some (.int (Int32.ofNat P)), some (.int (Int32.ofNat Q)), some (.int w3), some (.int w4)], [.int (Int32.ofNat P + Int32.ofNat 1), .ref 541, .ref 540], aa_H g)) rfl ?_
  rw [eP]
  refine zz_fin.ial (n := 6384) rfl rfl (zz_inbN (by omega) (by omega)) ?_
  rw [zz_toN (by omega)]
  refine zz_fin.steps (n := 5) (s' := (61, [some (.ref 540), some (.int (Int32.ofNat P)), some (.int (Int32.ofNat Q)), some (.int w3), some (.int w4)], [.int (Int32.ofNat Q + Int32.ofNat 1), .ref 541, .int (g 541 (P + 1)), .ref 540], aa_H g)) rfl ?_
  rw [eQ]
  refine zz_fin.ial (n := 6384) rfl rfl (zz_inbN (by omega) (by omega)) ?_
  rw [zz_toN (by omega)]
  refine zz_fin.steps (n := 4) (s' := (67, [some (.ref 540), some (.int (Int32.ofNat P)), some (.int (Int32.ofNat Q)), some (.int w3), some (.int w4)], [.int (w3 + w4), .int w3, .int (g 541 (Q + 1)), .int (g 541 (P + 1)), .ref 540], aa_H g)) rfl ?_
  refine zz_fin.call rfl rfl (Nat.le_of_ble_eq_true rfl) (between_all (by omega) (by omega) (by omega) (by omega) p0 p1 (by omega) (by omega)) ?_
  rintro v h ⟨⟨u, rfl, hu⟩, rfl⟩
  rw [es] at hu
  rw [← hu] at r1 r2
  have k1 := aa_lay h5 h6 (j := 14) (v := u) (by omega) ⟨by show (-1 : Int) ≤ _; omega, by show _ ≤ (86399 : Int); omega⟩
  have o1 : zz_w g 540 14 u 541 = g 541 := zz_w_other _ _ _ (by decide)
  refine zz_fin.steps (n := 7) (s' := (81, [some (.ref 540), some (.int (Int32.ofNat P)), some (.int (Int32.ofNat Q)), some (.int w3), some (.int w4)], [.int (Int32.ofNat P + Int32.ofNat 2), .ref 541, .ref 540], aa_H (zz_w g 540 14 u))) rfl ?_
  rw [eP]
  refine zz_fin.ial (n := 6384) rfl rfl (zz_inbN (by omega) (by omega)) ?_
  rw [zz_toN (by omega)]
  refine zz_fin.steps (n := 5) (s' := (89, [some (.ref 540), some (.int (Int32.ofNat P)), some (.int (Int32.ofNat Q)), some (.int w3), some (.int w4)], [.int (Int32.ofNat Q + Int32.ofNat 2), .ref 541, .int (zz_w g 540 14 u 541 (P + 2)), .ref 540], aa_H (zz_w g 540 14 u))) rfl ?_
  rw [eQ]
  refine zz_fin.ial (n := 6384) rfl rfl (zz_inbN (by omega) (by omega)) ?_
  rw [zz_toN (by omega)]
  refine zz_fin.steps (n := 4) (s' := (95, [some (.ref 540), some (.int (Int32.ofNat P)), some (.int (Int32.ofNat Q)), some (.int w3), some (.int w4)], [.int (w3 + w4), .int w3, .int (zz_w g 540 14 u 541 (Q + 2)), .int (zz_w g 540 14 u 541 (P + 2)), .ref 540], aa_H (zz_w g 540 14 u))) rfl ?_
  rw [o1]
  refine zz_fin.call rfl rfl (Nat.le_of_ble_eq_true rfl) (between_all (by omega) (by omega) (by omega) (by omega) p0 p1 (by omega) (by omega)) ?_
  rintro v h ⟨⟨z, rfl, hz⟩, rfl⟩
  rw [es] at hz
  rw [← hz] at r2 r3
  have k2 := aa_lay k1.1 k1.2.1 (j := 15) (v := z) (by omega) ⟨by show (-1 : Int) ≤ _; omega, by show _ ≤ (86399 : Int); omega⟩
  refine zz_fin.at (n := 3) rfl ⟨rfl, zz_w (zz_w g 540 14 u) 540 15 z, rfl, k2.1, k2.2.1, hf.tr (k1.2.2.tr k2.2.2), ?_, ?_, ?_, ?_⟩
  · rw [aa_w_ne _ _ (by omega), aa_w_ne _ _ (by omega)]
    exact hk
  · rw [aa_w_ne _ _ (by omega), aa_w_at]
    exact r1
  · rw [aa_w_ne _ _ (by omega), aa_w_at, aa_w_at]
    exact r2
  · rw [aa_w_at]
    exact r3
def aa_lpost (g0 : aa_G) (v : Option Value) (h : zz_H) : Prop := ∃ g', h = aa_H g' ∧ aa_inv g' ∧ aa_Phi g' ∧ aa_fr aa_lw g0 g' ∧ ((v = some (.int 0) ∧ 0 ≤ (g' 540 13).toInt ∧ (g' 540 13).toInt ≤ 1) ∨ (v = some (.int 1) ∧ (g' 540 13).toInt = -1 ∧ 0 ≤ (g' 540 14).toInt ∧ (g' 540 14).toInt < (g' 540 15).toInt ∧ (g' 540 15).toInt ≤ 86399))
theorem lay_32 {g : aa_G} (h5 : aa_inv g) (h6 : aa_Phi g) {P Q : Nat} (hP : P < 6000) (hQ : Q < 6000) {w3 w4 : Int32} (p0 : 0 ≤ w3.toInt) (p1 : w3.toInt ≤ 359) (q0 : 0 ≤ w4.toInt) (q1 : w4.toInt ≤ 359) (gp : aa_gd g P) (gq : aa_gd g Q) (p2 : (g 541 (P + 2)).toInt ≤ 86399) (q2 : (g 541 (Q + 2)).toInt ≤ 86399) (k : Int32) (k0 : -1 ≤ k.toInt) (k1 : k.toInt ≤ 1) (kk : k.toInt = -1 → (g 541 (P + 3)).toInt = -1 ∧ (g 541 (Q + 3)).toInt = -1) : zz_fin none 196 (32, [some (.ref 540), some (.int (Int32.ofNat P)), some (.int (Int32.ofNat Q)), some (.int w3), some (.int w4)], [.int k, .ref 540], aa_H g) (aa_lpost g) := by
  have em : (-1 : Int32).toInt = -1 := rfl
  have l1 := aa_lay h5 h6 (j := 13) (v := k) (by omega) ⟨by show (-1 : Int) ≤ _; exact k0, by show _ ≤ (1 : Int); exact k1⟩
  have o1 : zz_w g 540 13 k 541 = g 541 := zz_w_other _ _ _ (by decide)
  refine zz_fin.steps (n := 4) (s' := (40, [some (.ref 540), some (.int (Int32.ofNat P)), some (.int (Int32.ofNat Q)), some (.int w3), some (.int w4)], [.int (-1), .int k], aa_H (zz_w g 540 13 k))) rfl ?_
  refine zz_fin.ic rfl (fun d => ?_) (fun d => ?_)
  · have d : k.toInt - (-1 : Int32).toInt = 0 := (aa_cmp _ _ _).mp d
    have d : k.toInt = -1 := by omega
    obtain ⟨s1, s2⟩ := kk d
    obtain ⟨a0, a1⟩ := gp s1
    obtain ⟨b0, b1⟩ := gq s2
    refine (lay_tail (g0 := g) (g := zz_w g 540 13 k) l1.2.2 l1.1 l1.2.1 hP hQ p0 p1 q0 q1 (by rw [o1]; exact a0) (by rw [o1]; exact a1) (by rw [o1]; exact p2) (by rw [o1]; exact b0) (by rw [o1]; exact b1) (by rw [o1]; exact q2) (by rw [aa_w_at]; exact d)).mono ?_
    rintro v h ⟨rfl, g', rfl, r1, r2, r3, r4, r5, r6, r7⟩
    exact ⟨g', rfl, r1, r2, r3, .inr ⟨rfl, r4, r5, r6, r7⟩⟩
  · have d : ¬ k.toInt - (-1 : Int32).toInt = 0 := fun z => d ((aa_cmp _ _ _).mpr z)
    refine zz_fin.at (n := 2) rfl ⟨zz_w g 540 13 k, rfl, l1.1, l1.2.1, l1.2.2, .inl ⟨rfl, ?_, ?_⟩⟩
    · rw [aa_w_at]
      omega
    · rw [aa_w_at]
      omega
theorem lay_all {g : aa_G} (h5 : aa_inv g) (h6 : aa_Phi g) {P Q : Nat} (hP : P < 6000) (hQ : Q < 6000) {w3 w4 : Int32} (p0 : 0 ≤ w3.toInt) (p1 : w3.toInt ≤ 359) (q0 : 0 ≤ w4.toInt) (q1 : w4.toInt ≤ 359) (gp : aa_gd g P) (gq : aa_gd g Q) (p2 : (g 541 (P + 2)).toInt ≤ 86399) (q2 : (g 541 (Q + 2)).toInt ≤ 86399) (p3 : -1 ≤ (g 541 (P + 3)).toInt ∧ (g 541 (P + 3)).toInt ≤ 1) (q3 : -1 ≤ (g 541 (Q + 3)).toInt ∧ (g 541 (Q + 3)).toInt ≤ 1) : zz_fin none 196 (0, zz_in [.ref 540, .int (Int32.ofNat P), .int (Int32.ofNat Q), .int w3, .int w4] (zz_nl 196), [], aa_H g) (aa_lpost g) := by
  have em : (-1 : Int32).toInt = -1 := rfl
  have eP : Int32.ofNat P + Int32.ofNat 3 = Int32.ofNat (P + 3) := (Int32.ofNat_add P 3).symm
  have eQ : Int32.ofNat Q + Int32.ofNat 3 = Int32.ofNat (Q + 3) := (Int32.ofNat_add Q 3).symm
  refine zz_fin.steps (n := 6) (s' := (8, [some (.ref 540), some (.int (Int32.ofNat P)), some (.int (Int32.ofNat Q)), some (.int w3), some (.int w4)], [.int (Int32.ofNat P + Int32.ofNat 3), .ref 541, .ref 540], aa_H g)) rfl ?_
  rw [eP]
  refine zz_fin.ial (n := 6384) rfl rfl (zz_inbN (by omega) (by omega)) ?_
  rw [zz_toN (by omega)]
  refine zz_fin.steps (n := 1) (s' := (10, [some (.ref 540), some (.int (Int32.ofNat P)), some (.int (Int32.ofNat Q)), some (.int w3), some (.int w4)], [.int (-1), .int (g 541 (P + 3)), .ref 540], aa_H g)) rfl ?_
  refine zz_fin.ic rfl (fun d => ?_) (fun d => ?_)
  · have d : (g 541 (P + 3)).toInt - (-1 : Int32).toInt = 0 := (aa_cmp _ _ _).mp d
    refine zz_fin.steps (n := 5) (s' := (31, [some (.ref 540), some (.int (Int32.ofNat P)), some (.int (Int32.ofNat Q)), some (.int w3), some (.int w4)], [.int (Int32.ofNat Q + Int32.ofNat 3), .ref 541, .ref 540], aa_H g)) rfl ?_
    rw [eQ]
    refine zz_fin.ial (n := 6384) rfl rfl (zz_inbN (by omega) (by omega)) ?_
    rw [zz_toN (by omega)]
    exact lay_32 h5 h6 hP hQ p0 p1 q0 q1 gp gq p2 q2 _ q3.1 q3.2 fun z => ⟨by omega, z⟩
  · have d : ¬ (g 541 (P + 3)).toInt - (-1 : Int32).toInt = 0 := fun z => d ((aa_cmp _ _ _).mpr z)
    refine zz_fin.steps (n := 5) (s' := (20, [some (.ref 540), some (.int (Int32.ofNat P)), some (.int (Int32.ofNat Q)), some (.int w3), some (.int w4)], [.int (Int32.ofNat P + Int32.ofNat 3), .ref 541, .ref 540], aa_H g)) rfl ?_
    rw [eP]
    refine zz_fin.ial (n := 6384) rfl rfl (zz_inbN (by omega) (by omega)) ?_
    rw [zz_toN (by omega)]
    refine zz_fin.steps (n := 1) (s' := (32, [some (.ref 540), some (.int (Int32.ofNat P)), some (.int (Int32.ofNat Q)), some (.int w3), some (.int w4)], [.int (g 541 (P + 3)), .ref 540], aa_H g)) rfl ?_
    exact lay_32 h5 h6 hP hQ p0 p1 q0 q1 gp gq p2 q2 _ p3.1 p3.2 fun z => absurd z (by omega)
theorem aa_pick {g : aa_G} (h5 : aa_inv g) (h6 : aa_Phi g) {t x : Nat} (ht : t < 4) (hx : x < 12) (hc : (x : Int) < (g 541 (50 * t + 4)).toInt) : aa_gd g (5 + 50 * t + 4 * x) ∧ (g 541 (5 + 50 * t + 4 * x + 2)).toInt ≤ 86399 ∧ -1 ≤ (g 541 (5 + 50 * t + 4 * x + 3)).toInt ∧ (g 541 (5 + 50 * t + 4 * x + 3)).toInt ≤ 1 := by
  have gp : aa_gd g (399 * 0 + 50 * t + 4 * x + 5) := (h6.1 0 (by omega)).1 t x ht hx (by rw [show 399 * 0 + 50 * t + 4 = 50 * t + 4 by omega]; exact hc)
  rw [show 399 * 0 + 50 * t + 4 * x + 5 = 5 + 50 * t + 4 * x by omega] at gp
  have p2 := (aa_point h5 (t := t) (x := x) (k := 2) ht hx (by omega)).2
  have p3 := aa_point h5 (t := t) (x := x) (k := 3) ht hx (by omega)
  rw [aa_town2] at p2
  rw [aa_town3] at p3
  exact ⟨gp, p2, p3.1, p3.2⟩
