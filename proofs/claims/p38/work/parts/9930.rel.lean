/-! EQUAL STATES: the class's cells (of one heap) and the model's (of another) tell the same; Q says it of one state and one row -/
abbrev rq_Q : Type := aa_G → aa_G → Nat → Nat → Prop
/-- what is copied on both sides stays alike -/
def rq_cp (Q : rq_Q) : Prop := ∀ (gc gc' gm gm' : aa_G) (S S' r r' : Nat), aa_inv gm → r < 16 → cp_st gc gc' S' S → (∀ q, q < 399 → gm' 541 (399 * r' + q) = gm 541 (399 * r + q)) → Q gc gm S r → Q gc' gm' S' r'
theorem cp_same {g g' : aa_G} {S : Nat} (h : ∀ k j, S ≤ k → k ≤ S + 31 → g' k j = g k j) : cp_st g g' S S := by
  refine ⟨fun j _ => h S j (by omega) (by omega), ⟨fun j _ => h _ j (by omega) (by omega), fun o j o1 o2 _ => h _ j (by omega) (by omega)⟩, fun t ht => ⟨fun j _ => h _ j (by omega) (by omega), fun o j o1 o2 _ => h _ j (by omega) (by omega)⟩⟩
theorem cp_via {g g1 g' : aa_G} {S S' : Nat} (k : cp_st g g1 S' S) (h : ∀ k j, S' ≤ k → k ≤ S' + 31 → g' k j = g1 k j) : cp_st g g' S' S := by
  obtain ⟨k1, ⟨k2, k3⟩, k4⟩ := k
  refine ⟨fun j hj => (h _ j (by omega) (by omega)).trans (k1 j hj), ⟨fun j hj => (h _ j (by omega) (by omega)).trans (k2 j hj), fun o j o1 o2 hj => (h _ j (by omega) (by omega)).trans (k3 o j o1 o2 hj)⟩, fun t ht => ⟨fun j hj => (h _ j (by omega) (by omega)).trans ((k4 t ht).1 j hj), fun o j o1 o2 hj => (h _ j (by omega) (by omega)).trans ((k4 t ht).2 o j o1 o2 hj)⟩⟩
theorem rq_same {Q : rq_Q} (hQ : rq_cp Q) {gc gc' gm gm' : aa_G} {S r : Nat} (hi : aa_inv gm) (hr : r < 16) (hc : ∀ k j, S ≤ k → k ≤ S + 31 → gc' k j = gc k j) (hm : ∀ q, q < 399 → gm' 541 (399 * r + q) = gm 541 (399 * r + q)) (h : Q gc gm S r) : Q gc' gm' S r := hQ gc gc' gm gm' S S r r hi hr (cp_same hc) hm h
/-- the numbers beside the states -/
def rs_g (gc gm : aa_G) : Prop := gc 454 0 = gm 540 4 ∧ (∀ k, k < 500 → gm 543 k &&& 255 = gc 455 k) ∧ gc 1 13 = gm 540 6 ∧ (gc 1 14 = gm 540 35 ∨ gc 1 14 = -1) ∧ gm 540 16 = -1 ∧ gc 459 0 = gm 540 37 ∧ ∀ j : Nat, (j : Int) < (gm 540 37).toInt → gc 460 j = gm 553 j
def rd_g (Q : rq_Q) (gc gm : aa_G) (c e : Nat) : Prop := (c ≤ 12 ∧ e < 12) ∧ (gc 66 0 = Int32.ofNat c ∧ gm 540 1 = Int32.ofNat c ∧ gc 66 1 = Int32.ofNat e) ∧ ∀ i, i < c → Q gc gm (32 * ((e + 12 - c + i) % 12) + 68) (3 + i)
def rk_g (Q : rq_Q) (gc gm : aa_G) : Prop := ∀ k, k < 2 → gc 453 k = gm 542 k ∧ (gm 542 k ≠ 0 → Q gc gm (32 * k + 476) (1 + k))
def rr_g (Q : rq_Q) (gc gm : aa_G) : Prop := Q gc gm 2 0 ∧ rk_g Q gc gm ∧ (∃ c e, rd_g Q gc gm c e) ∧ rs_g gc gm
theorem rr_c {Q : rq_Q} (hQ : rq_cp Q) {gc gc' gm : aa_G} (hi : aa_inv gm) (h : rr_g Q gc gm) (f : ∀ k j, k < 540 → (2 ≤ k ∧ k ≤ 33) ∨ (k = 66 ∧ j ≤ 1) ∨ (68 ≤ k ∧ k ≤ 451) ∨ k = 453 ∨ (476 ≤ k) ∨ (k = 454 ∧ j = 0) ∨ k = 455 ∨ (k = 1 ∧ 13 ≤ j) ∨ (k = 459 ∧ j = 0) ∨ k = 460 → gc' k j = gc k j) : rr_g Q gc' gm := by
  obtain ⟨h1, h2, ⟨c, e, h3, h4, h5⟩, s1, s2, s3, s4, s5, s6, s7⟩ := h
  refine ⟨rq_same hQ hi (by omega) (fun k j a b => f k j (by omega) (by omega)) (fun _ _ => rfl) h1, fun k hk => ⟨(f 453 k (by omega) (by omega)).trans (h2 k hk).1, fun z => rq_same hQ hi (by omega) (fun k' j a b => f k' j (by omega) (by omega)) (fun _ _ => rfl) ((h2 k hk).2 z)⟩, ⟨c, e, h3, ⟨(f 66 0 (by omega) (by omega)).trans h4.1, h4.2.1, (f 66 1 (by omega) (by omega)).trans h4.2.2⟩, fun i hi' => rq_same hQ hi (by omega) (fun k j a b => f k j (by omega) (by omega)) (fun _ _ => rfl) (h5 i hi')⟩, ?_⟩
  refine ⟨(f 454 0 (by omega) (by omega)).trans s1, fun k hk => (s2 k hk).trans (f 455 k (by omega) (by omega)).symm, (f 1 13 (by omega) (by omega)).trans s3, (by rw [f 1 14 (by omega) (by omega)]; exact s4), s5, (f 459 0 (by omega) (by omega)).trans s6, fun j hj => (f 460 j (by omega) (by omega)).trans (s7 j hj)⟩
theorem rr_m {Q : rq_Q} (hQ : rq_cp Q) {gc gm gm' : aa_G} (hi : aa_inv gm) (h : rr_g Q gc gm) (f : ∀ k j, 540 ≤ k → (k = 541 ∧ j < 5985) ∨ k = 542 ∨ k = 543 ∨ k = 553 ∨ (k = 540 ∧ (j = 1 ∨ j = 4 ∨ j = 6 ∨ j = 16 ∨ j = 35 ∨ j = 37)) → gm' k j = gm k j) : rr_g Q gc gm' := by
  obtain ⟨h1, h2, ⟨c, e, h3, h4, h5⟩, s1, s2, s3, s4, s5, s6, s7⟩ := h
  refine ⟨rq_same hQ hi (by omega) (fun _ _ _ _ => rfl) (fun q hq => f 541 _ (by omega) (by omega)) h1, fun k hk => ⟨(h2 k hk).1.trans (f 542 k (by omega) (by omega)).symm, fun z => rq_same hQ hi (by omega) (fun _ _ _ _ => rfl) (fun q hq => f 541 _ (by omega) (by omega)) ((h2 k hk).2 (by rw [f 542 k (by omega) (by omega)] at z; exact z))⟩, ⟨c, e, h3, ⟨h4.1, (f 540 1 (by omega) (by omega)).trans h4.2.1, h4.2.2⟩, fun i hi' => rq_same hQ hi (by omega) (fun _ _ _ _ => rfl) (fun q hq => f 541 _ (by omega) (by omega)) (h5 i hi')⟩, ?_⟩
  refine ⟨s1.trans (f 540 4 (by omega) (by omega)).symm, fun k hk => by rw [f 543 k (by omega) (by omega)]; exact s2 k hk, s3.trans (f 540 6 (by omega) (by omega)).symm, (by rw [f 540 35 (by omega) (by omega)]; exact s4), (f 540 16 (by omega) (by omega)).trans s5, s6.trans (f 540 37 (by omega) (by omega)).symm, fun j hj => ?_⟩
  rw [f 540 37 (by omega) (by omega)] at hj
  rw [f 553 j (by omega) (by omega)]
  exact s7 j hj
/-- a deed comes -/
theorem rd_push {Q : rq_Q} (hQ : rq_cp Q) {gc gm gc' gm' : aa_G} {c e : Nat} (hi : aa_inv gm) (h0 : Q gc gm 2 0) (h : rd_g Q gc gm c e) (p1 : cp_st gc gc' (32 * e + 68) 2) (p2 : gc' 66 0 = Int32.ofNat (min (c + 1) 12)) (p3 : gc' 66 1 = Int32.ofNat ((e + 1) % 12)) (p4 : ∀ k j, 68 ≤ k → k ≤ 451 → ¬ (32 * e + 68 ≤ k ∧ k ≤ 32 * e + 99) → gc' k j = gc k j) (m1 : gm' 540 1 = Int32.ofNat (min (c + 1) 12)) (m2 : ∀ q, q < 399 → gm' 541 (399 * (3 + min c 11) + q) = gm 541 (399 * 0 + q)) (m3 : ∀ i q, q < 399 → i < min c 11 → gm' 541 (399 * (3 + i) + q) = gm 541 (399 * (3 + i + (if c = 12 then 1 else 0)) + q)) : rd_g Q gc' gm' (min (c + 1) 12) ((e + 1) % 12) := by
  obtain ⟨⟨b1, b2⟩, ⟨a1, a2, a3⟩, k⟩ := h
  refine ⟨⟨by omega, by omega⟩, ⟨p2, m1, p3⟩, fun i hi' => ?_⟩
  by_cases h12 : c = 12
  · subst h12
    by_cases hl : i = 11
    · subst hl
      rw [show ((e + 1) % 12 + 12 - min (12 + 1) 12 + 11) % 12 = e by omega]
      exact hQ gc gc' gm gm' 2 _ 0 _ hi (by omega) p1 (fun q hq => by
        have := m2 q hq
        rwa [show 399 * (3 + min 12 11) + q = 399 * (3 + 11) + q by omega] at this) h0
    · have k1 := k (i + 1) (by omega)
      rw [show ((e + 1) % 12 + 12 - min (12 + 1) 12 + i) % 12 = (e + 12 - 12 + (i + 1)) % 12 by omega]
      refine hQ gc gc' gm gm' _ _ (3 + (i + 1)) _ hi (by omega) (cp_same fun k j q1 q2 => p4 k j (by omega) (by omega) (by omega)) (fun q hq => ?_) k1
      have := m3 i q hq (by omega)
      rwa [if_pos rfl, show 399 * (3 + i + 1) + q = 399 * (3 + (i + 1)) + q by omega] at this
  · by_cases hl : i = c
    · subst hl
      rw [show ((e + 1) % 12 + 12 - min (i + 1) 12 + i) % 12 = e by omega]
      exact hQ gc gc' gm gm' 2 _ 0 _ hi (by omega) p1 (fun q hq => by
        have := m2 q hq
        rwa [show min i 11 = i by omega] at this) h0
    · have k1 := k i (by omega)
      rw [show ((e + 1) % 12 + 12 - min (c + 1) 12 + i) % 12 = (e + 12 - c + i) % 12 by omega]
      refine hQ gc gc' gm gm' _ _ (3 + i) _ hi (by omega) (cp_same fun k j q1 q2 => p4 k j (by omega) (by omega) (by omega)) (fun q hq => ?_) k1
      have := m3 i q hq (by omega)
      rwa [if_neg h12, Nat.add_zero] at this
theorem rd_pop {Q : rq_Q} (hQ : rq_cp Q) {gc gm gc' gm' : aa_G} {c e : Nat} (hi : aa_inv gm) (h : rd_g Q gc gm c e) (h0 : c ≠ 0) (hc : cd_pop gc gc' e c) (m1 : gm' 540 1 = Int32.ofNat (c - 1)) (m2 : ∀ q, q < 399 → gm' 541 q = gm 541 (399 * (3 + (c - 1)) + q)) (m3 : ∀ j, 1197 ≤ j → gm' 541 j = gm 541 j) : rd_g Q gc' gm' (c - 1) ((e + 11) % 12) ∧ Q gc' gm' 2 0 := by
  obtain ⟨⟨b1, b2⟩, ⟨a1, a2, a3⟩, k⟩ := h
  obtain ⟨p1, p2, p3, p4⟩ := hc
  refine ⟨⟨⟨by omega, by omega⟩, ⟨p2, m1, p3⟩, fun i hi' => ?_⟩, ?_⟩
  · have k1 := k i (by omega)
    rw [show ((e + 11) % 12 + 12 - (c - 1) + i) % 12 = (e + 12 - c + i) % 12 by omega]
    exact hQ gc gc' gm gm' _ _ (3 + i) _ hi (by omega) (cp_same fun k j q1 q2 => p4 k j (by omega) (by omega)) (fun q hq => m3 _ (by omega)) k1
  · have k1 := k (c - 1) (by omega)
    rw [show (e + 12 - c + (c - 1)) % 12 = (e + 11) % 12 by omega] at k1
    refine hQ gc gc' gm gm' _ _ (3 + (c - 1)) _ hi (by omega) p1 (fun q hq => ?_) k1
    rw [Nat.mul_zero, Nat.zero_add]
    exact m2 q hq
/-- a state's towns, PARTS and how many BELLS -/
def tq_t (gc gm : aa_G) (T p : Nat) : Prop := gc T 0 = gm 541 p ∧ gc T 1 = gm 541 (p + 1) ∧ (∀ i : Nat, (i : Int) < (gm 541 (p + 1)).toInt → ∀ o, 1 ≤ o → o ≤ 4 → gc (T + o) i = gm 541 (p + 1 + 4 * i + o)) ∧ ∀ i : Nat, (i : Int) + 1 < (gm 541 (p + 1)).toInt → (gm 541 (p + 1 + 4 * i + 1)).toInt < (gm 541 (p + 1 + 4 * (i + 1) + 1)).toInt
def q1_s : rq_Q := fun gc gm S r => gc S 0 = gm 541 (399 * r) ∧ gc S 1 = gm 541 (399 * r + 1) ∧ gc (S + 2) 0 = gm 541 (399 * r + 2) ∧ ∀ t : Nat, (t : Int) < (gm 541 (399 * r)).toInt → tq_t gc gm (5 * t + (S + 12)) (399 * r + 50 * t + 3)
theorem iv_r {g : aa_G} (h : aa_inv g) {r q : Nat} (hq : q < 399) : (aa_place r q).1 ≤ (g 541 (399 * r + q)).toInt ∧ (g 541 (399 * r + q)).toInt ≤ (aa_place r q).2 := by
  have c := h 541 (399 * r + q)
  have c : (aa_iv 36 (399 * r + q)).1 ≤ (g 541 (399 * r + q)).toInt ∧ (g 541 (399 * r + q)).toInt ≤ (aa_iv 36 (399 * r + q)).2 := c
  rwa [aa_iv36, show (399 * r + q) / 399 = r by omega, show (399 * r + q) % 399 = q by omega] at c
theorem iv_n {g : aa_G} (h : aa_inv g) {r : Nat} : 0 ≤ (g 541 (399 * r)).toInt ∧ (g 541 (399 * r)).toInt ≤ 4 := iv_r h (r := r) (q := 0) (by omega)
theorem iv_t {g : aa_G} (h : aa_inv g) {r t o : Nat} (ht : t < 4) (ho : o < 50) : (aa_town o).1 ≤ (g 541 (399 * r + 50 * t + 3 + o)).toInt ∧ (g 541 (399 * r + 50 * t + 3 + o)).toInt ≤ (aa_town o).2 := by
  have c := iv_r h (r := r) (q := 50 * t + 3 + o) (by omega)
  rw [← Nat.add_assoc, ← Nat.add_assoc] at c
  unfold aa_place at c
  rwa [if_neg fun e => by have := Nat.le_of_ble_eq_true e; omega, if_neg fun e => by have := Nat.le_of_ble_eq_true e; omega, if_pos (Nat.ble_eq_true_of_le (by omega)), show (50 * t + 3 + o - 3) % 50 = o by omega] at c
theorem iv_c {g : aa_G} (h : aa_inv g) {r t : Nat} (ht : t < 4) : 0 ≤ (g 541 (399 * r + 50 * t + 3 + 1)).toInt ∧ (g 541 (399 * r + 50 * t + 3 + 1)).toInt ≤ 12 := iv_t h (o := 1) ht (by omega)
theorem q1_cp : rq_cp q1_s := by
  intro gc gc' gm gm' S S' r r' hi hr ⟨k1, ⟨k2, k3⟩, k4⟩ hm ⟨h1, h2, h3, h4⟩
  have m0 := hm 0 (by omega)
  rw [Nat.add_zero, Nat.add_zero] at m0
  refine ⟨(k1 0 (by omega)).trans (h1.trans m0.symm), (k1 1 (by omega)).trans (h2.trans (hm 1 (by omega)).symm), (k2 0 (by omega)).trans (h3.trans (hm 2 (by omega)).symm), fun t ht => ?_⟩
  rw [m0] at ht
  have n4 := iv_n hi (r := r)
  have ht4 : t < 4 := by omega
  obtain ⟨a1, a2, a3, a4⟩ := h4 t ht
  have cc := iv_c hi (r := r) ht4
  have em : ∀ q, q < 50 → gm' 541 (399 * r' + 50 * t + 3 + q) = gm 541 (399 * r + 50 * t + 3 + q) := fun q hq => by
    have := hm (50 * t + 3 + q) (by omega)
    rwa [← Nat.add_assoc, ← Nat.add_assoc, ← Nat.add_assoc, ← Nat.add_assoc] at this
  have em0 := em 0 (by omega)
  rw [Nat.add_zero, Nat.add_zero] at em0
  obtain ⟨t1, t2⟩ := k4 t ht4
  refine ⟨(t1 0 (by omega)).trans (a1.trans em0.symm), (t1 1 (by omega)).trans (a2.trans (em 1 (by omega)).symm), fun i hi' o o1 o2 => ?_, fun i hi' => ?_⟩
  · rw [em 1 (by omega)] at hi'
    have e := em (1 + 4 * i + o) (by omega)
    rw [show 399 * r' + 50 * t + 3 + (1 + 4 * i + o) = 399 * r' + 50 * t + 3 + 1 + 4 * i + o by omega, show 399 * r + 50 * t + 3 + (1 + 4 * i + o) = 399 * r + 50 * t + 3 + 1 + 4 * i + o by omega] at e
    rw [t2 o i o1 o2 (by omega), e]
    exact a3 i hi' o o1 o2
  · rw [em 1 (by omega)] at hi'
    have e := em (1 + 4 * i + 1) (by omega)
    have e2 := em (1 + 4 * (i + 1) + 1) (by omega)
    rw [show 399 * r' + 50 * t + 3 + (1 + 4 * i + 1) = 399 * r' + 50 * t + 3 + 1 + 4 * i + 1 by omega, show 399 * r + 50 * t + 3 + (1 + 4 * i + 1) = 399 * r + 50 * t + 3 + 1 + 4 * i + 1 by omega] at e
    rw [show 399 * r' + 50 * t + 3 + (1 + 4 * (i + 1) + 1) = 399 * r' + 50 * t + 3 + 1 + 4 * (i + 1) + 1 by omega, show 399 * r + 50 * t + 3 + (1 + 4 * (i + 1) + 1) = 399 * r + 50 * t + 3 + 1 + 4 * (i + 1) + 1 by omega] at e2
    rw [e, e2]
    exact a4 i hi'
/-- what asking stands on -/
theorem wd_mk {g : aa_G} (hi : aa_inv g) (hφ : aa_Phi g) (h0 : q1_s g g 2 0) (hl : g 540 16 = -1) : wd_g g := by
  obtain ⟨h1, h2, -, h4⟩ := h0
  have n4 : 0 ≤ (g 541 0).toInt ∧ (g 541 0).toInt ≤ 4 := iv_n hi (r := 0)
  have hp : 1 ≤ (g 541 1).toInt ∧ (g 541 1).toInt ≤ 3600 := iv_r hi (r := 0) (q := 1) (by omega)
  refine ⟨n4, hp, h1, h2, hl, fun t ht => ?_⟩
  have ht4 : t < 4 := by omega
  have b := h4 t ht
  rw [show 399 * 0 + 50 * t + 3 = 50 * t + 3 by omega, show 5 * t + (2 + 12) = 5 * t + 14 by omega] at b
  obtain ⟨b1, b2, b3, b4⟩ := b
  have cc := iv_c hi (r := 0) ht4
  have co := iv_t hi (r := 0) (o := 0) ht4 (by omega)
  rw [show 399 * 0 + 50 * t + 3 + 1 = 50 * t + 4 by omega] at cc
  rw [show 399 * 0 + 50 * t + 3 + 0 = 50 * t + 3 by omega] at co
  rw [show 50 * t + 3 + 1 = 50 * t + 4 by omega] at b2 b3 b4
  have hc : (av_c (g 541) t : Int) = (g 541 (50 * t + 4)).toInt := by
    unfold av_c
    omega
  refine ⟨b1, b2, co, cc.1, ⟨by omega, fun i hi' => ?_, fun i hi' => ?_, fun i hi' => ?_⟩, fun o i o1 o2 hi' => ?_⟩
  · have := iv_t hi (r := 0) (t := t) (o := 2 + 4 * i) ht4 (by omega)
    rw [show 399 * 0 + 50 * t + 3 + (2 + 4 * i) = 50 * t + 4 * i + 4 + 1 by omega] at this
    have e : aa_town (2 + 4 * i) = (0, 359) := by
      unfold aa_town
      rw [if_neg (fun z => by have := Nat.eq_of_beq_eq_true z; omega), if_neg (fun z => by have := Nat.eq_of_beq_eq_true z; omega), show (2 + 4 * i - 2) % 4 = 0 by omega]
      rfl
    rw [e] at this
    exact this
  · have := b4 i (by omega)
    rw [show 50 * t + 4 + 4 * i + 1 = 50 * t + 4 * i + 4 + 1 by omega, show 50 * t + 4 + 4 * (i + 1) + 1 = 50 * t + 4 * (i + 1) + 4 + 1 by omega] at this
    exact this
  · have g2 := iv_t hi (r := 0) (t := t) (o := 4 * i + 1 + 2) ht4 (by omega)
    have g3 := iv_t hi (r := 0) (t := t) (o := 4 * i + 2 + 2) ht4 (by omega)
    have g4 := iv_t hi (r := 0) (t := t) (o := 4 * i + 3 + 2) ht4 (by omega)
    rw [aa_town1, show 399 * 0 + 50 * t + 3 + (4 * i + 1 + 2) = 50 * t + 4 * i + 4 + 2 by omega] at g2
    rw [aa_town2, show 399 * 0 + 50 * t + 3 + (4 * i + 2 + 2) = 50 * t + 4 * i + 4 + 3 by omega] at g3
    rw [aa_town3, show 399 * 0 + 50 * t + 3 + (4 * i + 3 + 2) = 50 * t + 4 * i + 4 + 4 by omega] at g4
    have gd := (hφ.1 0 (by omega)).1 t i ht4 (by omega) (by rw [show 399 * 0 + 50 * t + 4 = 50 * t + 4 by omega]; omega)
    unfold aa_gd at gd
    rw [show 399 * 0 + 50 * t + 4 * i + 5 + 3 = 50 * t + 4 * i + 4 + 4 by omega, show 399 * 0 + 50 * t + 4 * i + 5 + 1 = 50 * t + 4 * i + 4 + 2 by omega, show 399 * 0 + 50 * t + 4 * i + 5 + 2 = 50 * t + 4 * i + 4 + 3 by omega] at gd
    exact ⟨g2, g3, g4, gd⟩
  · have := b3 i (by omega) o o1 o2
    rw [show 50 * t + 4 + 4 * i + o = 50 * t + 4 * i + 4 + o by omega] at this
    exact this
