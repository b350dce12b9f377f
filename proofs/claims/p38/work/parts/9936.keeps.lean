/-! undo(), keep(), restore() on both sides -/
theorem dm_row {g : aa_G} {f t : Nat} (hf : f < 16) (ht : t < 16) (hne : f ≠ t) : aa_cp g (fn_152 g (Int32.ofNat f) (Int32.ofNat t)) f t 399 := by
  obtain ⟨n, v, h, r, -, g', rfl, p⟩ := rn_of (row_copy f t hf ht hne g)
  have e := ep_H (dn_152 r).2
  rw [← e]
  exact p
theorem cp_src {g g1 g' : aa_G} {S F : Nat} (k : cp_st g1 g' S F) (h : ∀ k j, F ≤ k → k ≤ F + 31 → g1 k j = g k j) : cp_st g g' S F := by
  obtain ⟨k1, ⟨k2, k3⟩, k4⟩ := k
  refine ⟨fun j hj => (k1 j hj).trans (h _ j (by omega) (by omega)), ⟨fun j hj => (k2 j hj).trans (h _ j (by omega) (by omega)), fun o j o1 o2 hj => (k3 o j o1 o2 hj).trans (h _ j (by omega) (by omega))⟩, fun t ht => ⟨fun j hj => ((k4 t ht).1 j hj).trans (h _ j (by omega) (by omega)), fun o j o1 o2 hj => ((k4 t ht).2 o j o1 o2 hj).trans (h _ j (by omega) (by omega))⟩⟩
theorem mu_undo {Q : rq_Q} (hQ : rq_cp Q) {gc gm : aa_G} (hi : aa_inv gm) (h : rr_g Q gc gm) : (fn_141 gc).1 = (fn_151 gm).1 ∧ rr_g Q (fn_141 gc).2 (fn_151 gm).2 := by
  have h' := h
  obtain ⟨h0, h2, ⟨c, e, hd⟩, s1, s2, s3, s4, s5, s6, s7⟩ := h
  have h := h'
  obtain ⟨⟨b1, b2⟩, ⟨a1, a2, a3⟩, k⟩ := hd
  have hd : rd_g Q gc gm c e := ⟨⟨b1, b2⟩, ⟨a1, a2, a3⟩, k⟩
  unfold fn_141 fn_151
  rcases (ep_142 b2 b1 a1 a3).2 with ⟨z, q⟩ | ⟨z, q1, q2⟩
  · subst z
    rw [q, a2, if_neg (c := Int32.ofNat 0 ≠ 0) (fun z => z rfl)]
    unfold fn_141_11
    rw [if_pos rfl]
    exact ⟨rfl, h⟩
  · rw [q1, a2, if_pos (c := Int32.ofNat c ≠ 0) (fun z' => z (by
      have := congrArg Int32.toInt z'
      rw [i_12 b1, show (0 : Int32).toInt = 0 from rfl] at this
      omega)), i_sub1 (by omega) (by omega), show (3 : Int32) + Int32.ofNat (c - 1) = Int32.ofNat (3 + (c - 1)) from i_add 3 _]
    unfold fn_141_11 fn_151_31
    rw [if_neg (c := (1 : Int32) = 0) (by decide)]
    dsimp only
    have cpy := dm_row (g := zz_w gm 540 1 (Int32.ofNat (c - 1))) (f := 3 + (c - 1)) (t := 0) (by omega) (by omega) (by omega)
    rw [show (Int32.ofNat 0 : Int32) = 0 from rfl] at cpy
    generalize fn_152 (zz_w gm 540 1 (Int32.ofNat (c - 1))) (Int32.ofNat (3 + (c - 1))) 0 = gm' at cpy ⊢
    generalize (fn_142 gc).2 = gc' at q2 ⊢
    obtain ⟨y1, y2⟩ := cpy
    have m1 : gm' 540 1 = Int32.ofNat (c - 1) := (y2 540 1 (by omega)).trans (aa_w_at _ _ _ _)
    have m2 : ∀ q, q < 399 → gm' 541 q = gm 541 (399 * (3 + (c - 1)) + q) := fun q hq => by
      have := y1 q hq
      rw [Nat.mul_zero, Nat.zero_add, aa_w_ne _ _ (by omega)] at this
      exact this
    have fm : ∀ k j, ¬ (k = 541 ∧ j < 399) → ¬ (k = 540 ∧ j = 1) → gm' k j = gm k j := fun k j z1 z2 => (y2 k j (by omega)).trans (aa_w_ne _ _ (by omega))
    obtain ⟨r1, r2⟩ := rd_pop hQ hi hd z q2 m1 m2 (fun j hj => fm 541 j (by omega) (by omega))
    obtain ⟨p1, p2, p3, p4⟩ := q2
    refine ⟨p2.trans m1.symm, r2, fun k hk => ⟨?_, fun zz => ?_⟩, ⟨_, _, r1⟩, ?_⟩
    · rw [p4 453 k (by omega) (by omega), fm 542 k (by omega) (by omega)]
      exact (h2 k hk).1
    · rw [fm 542 k (by omega) (by omega)] at zz
      exact rq_same hQ hi (by omega) (fun k' j _ _ => p4 k' j (by omega) (by omega)) (fun q hq => fm 541 _ (by omega) (by omega)) ((h2 k hk).2 zz)
    · refine ⟨?_, fun k hk => ?_, ?_, ?_, ?_, ?_, fun j hj => ?_⟩
      · rw [p4 454 0 (by omega) (by omega), fm 540 4 (by omega) (by omega)]; exact s1
      · rw [fm 543 k (by omega) (by omega), p4 455 k (by omega) (by omega)]; exact s2 k hk
      · rw [p4 1 13 (by omega) (by omega), fm 540 6 (by omega) (by omega)]; exact s3
      · rw [p4 1 14 (by omega) (by omega), fm 540 35 (by omega) (by omega)]; exact s4
      · rw [fm 540 16 (by omega) (by omega)]; exact s5
      · rw [p4 459 0 (by omega) (by omega), fm 540 37 (by omega) (by omega)]; exact s6
      · rw [fm 540 37 (by omega) (by omega)] at hj
        rw [p4 460 j (by omega) (by omega), fm 553 j (by omega) (by omega)]; exact s7 j hj
theorem ke_two {w : Int32} (h : (0 : Int32).toInt ≤ w.toInt ∧ w.toInt ≤ (1 : Int32).toInt) : ∃ k : Nat, k < 2 ∧ w = Int32.ofNat k := by
  obtain ⟨n, n1, n2, n3⟩ := ti_nat (show 0 ≤ w.toInt from h.1)
  have := h.2
  rw [show (1 : Int32).toInt = 1 from rfl] at this
  exact ⟨n, by omega, n2⟩
theorem mu_keep {Q : rq_Q} (hQ : rq_cp Q) {gc gm : aa_G} (hi : aa_inv gm) (h : rr_g Q gc gm) (w : Int32) : (fn_143 gc w).1 = (fn_153 gm w).1 ∧ rr_g Q (fn_143 gc w).2 (fn_153 gm w).2 := by
  have h' := h
  obtain ⟨h0, h2, ⟨c, e, hd⟩, s1, s2, s3, s4, s5, s6, s7⟩ := h
  have h := h'
  unfold fn_143 fn_153
  by_cases hw : (0 : Int32).toInt ≤ w.toInt ∧ w.toInt ≤ (1 : Int32).toInt
  · rw [if_pos (ti_14n.mpr hw), if_pos (ti_154n.mpr hw)]
    obtain ⟨k, k2, rfl⟩ := ke_two hw
    rw [zz_toN (by omega), show (1 : Int32) + Int32.ofNat k = Int32.ofNat (1 + k) from i_add 1 k]
    dsimp only
    have hS : cs_ok (32 * k + 476) := by
      rcases (show k = 0 ∨ k = 1 by omega) with rfl | rfl
      · exact cs_ok_476
      · exact cs_ok_508
    obtain ⟨p1, p2⟩ := dk_16 (g := gc) hS cs_ok_2 (.inr (by omega))
    have p2 : ∀ a j, ¬ (32 * k + 476 ≤ a ∧ a ≤ 32 * k + 476 + 31) → fn_16 gc (32 * k + 476) 2 a j = gc a j := p2
    obtain ⟨y1, y2⟩ := dm_row (g := gm) (f := 0) (t := 1 + k) (by omega) (by omega) (by omega)
    rw [show (Int32.ofNat 0 : Int32) = 0 from rfl] at y1 y2
    generalize fn_16 gc (32 * k + 476) 2 = g1 at p1 p2 ⊢
    generalize fn_152 gm 0 (Int32.ofNat (1 + k)) = m1 at y1 y2 ⊢
    generalize vp_nar .boolean 1 = bb
    have fc : ∀ a j, ¬ (32 * k + 476 ≤ a ∧ a ≤ 32 * k + 507) → ¬ (a = 453 ∧ j = k) → zz_w g1 453 k bb a j = gc a j := fun a j z1 z2 => (aa_w_ne _ _ z2).trans (p2 a j (by omega))
    have fm : ∀ a j, ¬ (a = 541 ∧ 399 * (1 + k) ≤ j ∧ j < 399 * (1 + k) + 399) → ¬ (a = 542 ∧ j = k) → zz_w m1 542 k bb a j = gm a j := fun a j z1 z2 => (aa_w_ne _ _ z2).trans (y2 a j z1)
    obtain ⟨⟨b1, b2⟩, ⟨a1, a2, a3⟩, kk⟩ := hd
    refine ⟨rfl, rq_same hQ hi (by omega) (fun a j _ _ => fc a j (by omega) (by omega)) (fun q hq => fm 541 _ (by omega) (by omega)) h0, fun k' hk' => ?_, ⟨c, e, ⟨b1, b2⟩, ⟨(fc 66 0 (by omega) (by omega)).trans a1, (fm 540 1 (by omega) (by omega)).trans a2, (fc 66 1 (by omega) (by omega)).trans a3⟩, fun i hi' => rq_same hQ hi (by omega) (fun a j _ _ => fc a j (by omega) (by omega)) (fun q hq => fm 541 _ (by omega) (by omega)) (kk i hi')⟩, ?_⟩
    · by_cases hkk : k' = k
      · subst hkk
        refine ⟨by rw [aa_w_at, aa_w_at], fun _ => hQ gc _ gm _ 2 _ 0 _ hi (by omega) (cp_via p1 fun a j _ _ => aa_w_ne _ _ (by omega)) (fun q hq => ?_) h0⟩
        rw [aa_w_ne _ _ (by omega)]
        have := y1 q hq
        exact this
      · refine ⟨?_, fun z => ?_⟩
        · rw [fc 453 k' (by omega) (by omega), fm 542 k' (by omega) (by omega)]
          exact (h2 k' hk').1
        · rw [fm 542 k' (by omega) (by omega)] at z
          exact rq_same hQ hi (by omega) (fun a j _ _ => fc a j (by omega) (by omega)) (fun q hq => fm 541 _ (by omega) (by omega)) ((h2 k' hk').2 z)
    · refine ⟨?_, fun a ha => ?_, ?_, ?_, ?_, ?_, fun j hj => ?_⟩
      · rw [fc 454 0 (by omega) (by omega), fm 540 4 (by omega) (by omega)]; exact s1
      · rw [fm 543 a (by omega) (by omega), fc 455 a (by omega) (by omega)]; exact s2 a ha
      · rw [fc 1 13 (by omega) (by omega), fm 540 6 (by omega) (by omega)]; exact s3
      · rw [fc 1 14 (by omega) (by omega), fm 540 35 (by omega) (by omega)]; exact s4
      · rw [fm 540 16 (by omega) (by omega)]; exact s5
      · rw [fc 459 0 (by omega) (by omega), fm 540 37 (by omega) (by omega)]; exact s6
      · rw [fm 540 37 (by omega) (by omega)] at hj
        rw [fc 460 j (by omega) (by omega), fm 553 j (by omega) (by omega)]; exact s7 j hj
  · rw [if_neg (fun z => hw (ti_14n.mp z)), if_neg (fun z => hw (ti_154n.mp z))]
    exact ⟨rfl, h⟩
theorem mu_restore {B : rq_Q} (hcp : rq_cp B) {gc gm : aa_G} (hi : aa_inv gm) (h : rr_g (qb_s B) gc gm) (w : Int32) : mu_ok B (fn_144 gc w) (fn_155 gm w) := by
  have h' := h
  obtain ⟨h0, h2, ⟨c, e, hd⟩, hs⟩ := h
  have h := h'
  unfold fn_144 fn_155
  by_cases hw : (0 : Int32).toInt ≤ w.toInt ∧ w.toInt ≤ (1 : Int32).toInt
  · rw [if_neg (ti_14n.mpr hw), if_neg (ti_154n.mpr hw)]
    obtain ⟨k, k2, rfl⟩ := ke_two hw
    rw [zz_toN (by omega), (h2 k k2).1]
    by_cases hz : gm 542 k = 0
    · rw [if_neg (fun z => z hz), if_neg (fun z => z hz)]
      exact mu_mk rfl h
    · rw [if_pos hz, if_pos hz]
      unfold fn_155_24
      rw [show (1 : Int32) + Int32.ofNat k = Int32.ofNat (1 + k) from i_add 1 k]
      have hS : cs_ok (32 * k + 476) := by
        rcases (show k = 0 ∨ k = 1 by omega) with rfl | rfl
        · exact cs_ok_476
        · exact cs_ok_508
      obtain ⟨g1, p1, p2, p3⟩ := dk_39 (g := gc) hS (by omega) hd.1.2 hd.1.1 hd.2.1.1 hd.2.1.2.2
      have p3 : ∀ a j, ¬ (2 ≤ a ∧ a ≤ 33) → fn_39 gc (32 * k + 476) a j = g1 a j := p3
      obtain ⟨pc, pm⟩ := rr_push hd
      obtain ⟨y1, y2⟩ := dm_row (g := fn_156 gm) (f := 1 + k) (t := 0) (by omega) (by omega) (by omega)
      rw [show (Int32.ofNat 0 : Int32) = 0 from rfl] at y1 y2
      have kq := (h2 k k2).2 hz
      refine mu_mk rfl (mu_rest hcp hi h hd p1 pm p3 (fun a j z => y2 a j (by omega)) ?_)
      refine qb_cp hcp gc _ gm _ (32 * k + 476) 2 (1 + k) 0 hi (by omega) (cp_src p2 fun a j _ _ => p1.2.2.2 a j (by have := hd.1.2; omega) (by omega)) (fun q hq => ?_) kq
      have := y1 q hq
      rw [this]
      exact pm.2.2.2 541 _ (by omega) (by omega)
  · rw [if_pos (ti_14z.mpr hw), if_pos (ti_154z.mpr hw)]
    exact mu_mk rfl h
