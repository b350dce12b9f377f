section
/-! undo(), keep(), restore() on both sides -/
theorem dm_row {g : aa_G} {f t : Nat} (hf : f < 16) (ht : t < 16) (hne : f ≠ t) : aa_cp g (fn_152 g (Int32.ofNat f) (Int32.ofNat t)) f t 399 := by
  obtain ⟨n, v, h, r, -, g', rfl, p⟩ := rn_of (row_copy f t hf ht hne g)
  have e := ep_H (dn_152 r).2
  rw [← e]
  exact p
theorem cp_src {g g1 g' : aa_G} {S F : Nat} (k : cp_st g1 g' S F) (h : ∀ k j, F ≤ k → k ≤ F + 31 → g1 k j = g k j) : cp_st g g' S F := by
  obtain ⟨k1, ⟨k2, k3⟩, k4⟩ := k
  refine ⟨fun j hj => (k1 j hj).trans (h _ j (by omega) (by omega)), ⟨fun j hj => (k2 j hj).trans (h _ j (by omega) (by omega)), fun o j o1 o2 hj => (k3 o j o1 o2 hj).trans (h _ j (by omega) (by omega))⟩, fun t ht => ⟨fun j hj => ((k4 t ht).1 j hj).trans (h _ j (by omega) (by omega)), fun o j o1 o2 hj => ((k4 t ht).2 o j o1 o2 hj).trans (h _ j (by omega) (by omega))⟩⟩
theorem mu_undo {Q : rq_Q} (hQ : rq_cp Q) {gc gm : aa_G} (hi : aa_inv gm) (h : rr_g Q gc gm) : (fn_141 gc).1 = (fn_151 gm).1 ∧ rr_g Q (fn_141 gc).2 (fn_151 gm).2 := by
  have h' := h
  obtain ⟨h0, h2, ⟨c, e, hd⟩, s1, s2, s3, s4, s5, s6, s7⟩ := h
  have h := h'
  obtain ⟨⟨b1, b2⟩, ⟨a1, a2, a3⟩, k⟩ := hd
  have hd : rd_g Q gc gm c e := ⟨⟨b1, b2⟩, ⟨a1, a2, a3⟩, k⟩
  unfold fn_141 fn_151
  rcases (ep_142 b2 b1 a1 a3).2 with ⟨z, q⟩ | ⟨z, q1, q2⟩
  · subst z
    rw [q, a2, if_neg (c := Int32.ofNat 0 ≠ 0) (fun z => z rfl)]
    unfold fn_141_11
    rw [if_pos rfl]
    exact ⟨rfl, h⟩
  · rw [q1, a2, if_pos (c := Int32.ofNat c ≠ 0) (fun z' => z (by
      have := congrArg Int32.toInt z'
      rw [i_12 b1, show (0 : Int32).toInt = 0 from rfl] at this
      omega)), i_sub1 (by omega) (by omega), show (3 : Int32) + Int32.ofNat (c - 1) = Int32.ofNat (3 + (c - 1)) from i_add 3 _]
    unfold fn_141_11 fn_151_31
    rw [if_neg (c := (1 : Int32) = 0) (by decide)]
    dsimp only
    have cpy := dm_row (g := zz_w gm 540 1 (Int32.ofNat (c - 1))) (f := 3 + (c - 1)) (t := 0) (by omega) (by omega) (by omega)
    rw [show (Int32.ofNat 0 : Int32) = 0 from rfl] at cpy
    generalize fn_152 (zz_w gm 540 1 (Int32.ofNat (c - 1))) (Int32.ofNat (3 + (c - 1))) 0 = gm' at cpy ⊢
    generalize (fn_142 gc).2 = gc' at q2 ⊢
    obtain ⟨y1, y2⟩ := cpy
    have m1 : gm' 540 1 = Int32.ofNat (c - 1) := (y2 540 1 (by omega)).trans (aa_w_at _ _ _ _)
    have m2 : ∀ q, q < 399 → gm' 541 q = gm 541 (399 * (3 + (c - 1)) + q) := fun q hq => by
      have := y1 q hq
      rw [Nat.mul_zero, Nat.zero_add, aa_w_ne _ _ (by omega)] at this
      exact this
    have fm : ∀ k j, ¬ (k = 541 ∧ j < 399) → ¬ (k = 540 ∧ j = 1) → gm' k j = gm k j := fun k j z1 z2 => (y2 k j (by omega)).trans (aa_w_ne _ _ (by omega))
    obtain ⟨r1, r2⟩ := rd_pop hQ hi hd z q2 m1 m2 (fun j hj => fm 541 j (by omega) (by omega))
    obtain ⟨p1, p2, p3, p4⟩ := q2
    refine ⟨p2.trans m1.symm, r2, fun k hk => ⟨?_, fun zz => ?_⟩, ⟨_, _, r1⟩, ?_⟩
    · rw [p4 453 k (by omega) (by omega), fm 542 k (by omega) (by omega)]
      exact (h2 k hk).1
    · rw [fm 542 k (by omega) (by omega)] at zz
      exact rq_same hQ hi (by omega) (fun k' j _ _ => p4 k' j (by omega) (by omega)) (fun q hq => fm 541 _ (by omega) (by omega)) ((h2 k hk).2 zz)
    · refine ⟨?_, fun k hk => ?_, ?_, ?_, ?_, ?_, fun j hj => ?_⟩
      · rw [p4 454 0 (by omega) (by omega), fm 540 4 (by omega) (by omega)]; exact s1
      · rw [fm 543 k (by omega) (by omega), p4 455 k (by omega) (by omega)]; exact s2 k hk
      · rw [p4 1 13 (by omega) (by omega), fm 540 6 (by omega) (by omega)]; exact s3
      · rw [p4 1 14 (by omega) (by omega), fm 540 35 (by omega) (by omega)]; exact s4
      · rw [fm 540 16 (by omega) (by omega)]; exact s5
      · rw [p4 459 0 (by omega) (by omega), fm 540 37 (by omega) (by omega)]; exact s6
      · rw [fm 540 37 (by omega) (by omega)] at hj
        rw [p4 460 j (by omega) (by omega), fm 553 j (by omega) (by omega)]; exact s7 j hj
theorem ke_two {w : Int32} (h : (0 : Int32).toInt ≤ w.toInt ∧ w.toInt ≤ (1 : Int32).toInt) : ∃ k : Nat, k < 2 ∧ w = Int32.ofNat k := by
  obtain ⟨n, n1, n2, n3⟩ := ti_nat (show 0 ≤ w.toInt from h.1)
  have := h.2
  rw [show (1 : Int32).toInt = 1 from rfl] at this
  exact ⟨n, by omega, n2⟩
theorem mu_keep {Q : rq_Q} (hQ : rq_cp Q) {gc gm : aa_G} (hi : aa_inv gm) (h : rr_g Q gc gm) (w : Int32) : (fn_143 gc w).1 = (fn_153 gm w).1 ∧ rr_g Q (fn_143 gc w).2 (fn_153 gm w).2 := by
  have h' := h
  obtain ⟨h0, h2, ⟨c, e, hd⟩, s1, s2, s3, s4, s5, s6, s7⟩ := h
  have h := h'
  unfold fn_143 fn_153
  by_cases hw : (0 : Int32).toInt ≤ w.toInt ∧ w.toInt ≤ (1 : Int32).toInt
  · rw [if_pos (ti_14n.mpr hw), if_pos (ti_154n.mpr hw)]
    obtain ⟨k, k2, rfl⟩ := ke_two hw
    rw [zz_toN (by omega), show (1 : Int32) + Int32.ofNat k = Int32.ofNat (1 + k) from i_add 1 k]
    dsimp only
    have hS : cs_ok (32 * k + 476) := by
      rcases (show k = 0 ∨ k = 1 by omega) with rfl | rfl
      · exact cs_ok_476
      · exact cs_ok_508
    obtain ⟨p1, p2⟩ := dk_16 (g := gc) hS cs_ok_2 (.inr (by omega))
    have p2 : ∀ a j, ¬ (32 * k + 476 ≤ a ∧ a ≤ 32 * k + 476 + 31) → fn_16 gc (32 * k + 476) 2 a j = gc a j := p2
    obtain ⟨y1, y2⟩ := dm_row (g := gm) (f := 0) (t := 1 + k) (by omega) (by omega) (by omega)
    rw [show (Int32.ofNat 0 : Int32) = 0 from rfl] at y1 y2
    generalize fn_16 gc (32 * k + 476) 2 = g1 at p1 p2 ⊢
    generalize fn_152 gm 0 (Int32.ofNat (1 + k)) = m1 at y1 y2 ⊢
    generalize vp_nar .boolean 1 = bb
    have fc : ∀ a j, ¬ (32 * k + 476 ≤ a ∧ a ≤ 32 * k + 507) → ¬ (a = 453 ∧ j = k) → zz_w g1 453 k bb a j = gc a j := fun a j z1 z2 => (aa_w_ne _ _ z2).trans (p2 a j (by omega))
    have fm : ∀ a j, ¬ (a = 541 ∧ 399 * (1 + k) ≤ j ∧ j < 399 * (1 + k) + 399) → ¬ (a = 542 ∧ j = k) → zz_w m1 542 k bb a j = gm a j := fun a j z1 z2 => (aa_w_ne _ _ z2).trans (y2 a j z1)
    obtain ⟨⟨b1, b2⟩, ⟨a1, a2, a3⟩, kk⟩ := hd
    refine ⟨rfl, rq_same hQ hi (by omega) (fun a j _ _ => fc a j (by omega) (by omega)) (fun q hq => fm 541 _ (by omega) (by omega)) h0, fun k' hk' => ?_, ⟨c, e, ⟨b1, b2⟩, ⟨(fc 66 0 (by omega) (by omega)).trans a1, (fm 540 1 (by omega) (by omega)).trans a2, (fc 66 1 (by omega) (by omega)).trans a3⟩, fun i hi' => rq_same hQ hi (by omega) (fun a j _ _ => fc a j (by omega) (by omega)) (fun q hq => fm 541 _ (by omega) (by omega)) (kk i hi')⟩, ?_⟩
    · by_cases hkk : k' = k
      · subst hkk
        refine ⟨by rw [aa_w_at, aa_w_at], fun _ => hQ gc _ gm _ 2 _ 0 _ hi (by omega) (cp_via p1 fun a j _ _ => aa_w_ne _ _ (by omega)) (fun q hq => ?_) h0⟩
        rw [aa_w_ne _ _ (by omega)]
        have := y1 q hq
        exact this
      · refine ⟨?_, fun z => ?_⟩
        · rw [fc 453 k' (by omega) (by omega), fm 542 k' (by omega) (by omega)]
          exact (h2 k' hk').1
        · rw [fm 542 k' (by omega) (by omega)] at z
          exact rq_same hQ hi (by omega) (fun a j _ _ => fc a j (by omega) (by omega)) (fun q hq => fm 541 _ (by omega) (by omega)) ((h2 k' hk').2 z)
    · refine ⟨?_, fun a ha => ?_, ?_, ?_, ?_, ?_, fun j hj => ?_⟩
      · rw [fc 454 0 (by omega) (by omega), fm 540 4 (by omega) (by omega)]; exact s1
      · rw [fm 543 a (by omega) (by omega), fc 455 a (by omega) (by omega)]; exact s2 a ha
      · rw [fc 1 13 (by omega) (by omega), fm 540 6 (by omega) (by omega)]; exact s3
      · rw [fc 1 14 (by omega) (by omega), fm 540 35 (by omega) (by omega)]; exact s4
      · rw [fm 540 16 (by omega) (by omega)]; exact s5
      · rw [fc 459 0 (by omega) (by omega), fm 540 37 (by omega) (by omega)]; exact s6
      · rw [fm 540 37 (by omega) (by omega)] at hj
        rw [fc 460 j (by omega) (by omega), fm 553 j (by omega) (by omega)]; exact s7 j hj
  · rw [if_neg (fun z => hw (ti_14n.mp z)), if_neg (fun z => hw (ti_154n.mp z))]
    exact ⟨rfl, h⟩
theorem mu_restore {B : rq_Q} (hcp : rq_cp B) {gc gm : aa_G} (hi : aa_inv gm) (h : rr_g (qb_s B) gc gm) (w : Int32) : mu_ok B (fn_144 gc w) (fn_155 gm w) := by
  have h' := h
  obtain ⟨h0, h2, ⟨c, e, hd⟩, hs⟩ := h
  have h := h'
  unfold fn_144 fn_155
  by_cases hw : (0 : Int32).toInt ≤ w.toInt ∧ w.toInt ≤ (1 : Int32).toInt
  · rw [if_neg (ti_14n.mpr hw), if_neg (ti_154n.mpr hw)]
    obtain ⟨k, k2, rfl⟩ := ke_two hw
    rw [zz_toN (by omega), (h2 k k2).1]
    by_cases hz : gm 542 k = 0
    · rw [if_neg (fun z => z hz), if_neg (fun z => z hz)]
      exact mu_mk rfl h
    · rw [if_pos hz, if_pos hz]
      unfold fn_155_24
      rw [show (1 : Int32) + Int32.ofNat k = Int32.ofNat (1 + k) from i_add 1 k]
      have hS : cs_ok (32 * k + 476) := by
        rcases (show k = 0 ∨ k = 1 by omega) with rfl | rfl
        · exact cs_ok_476
        · exact cs_ok_508
      obtain ⟨g1, p1, p2, p3⟩ := dk_39 (g := gc) hS (by omega) hd.1.2 hd.1.1 hd.2.1.1 hd.2.1.2.2
      have p3 : ∀ a j, ¬ (2 ≤ a ∧ a ≤ 33) → fn_39 gc (32 * k + 476) a j = g1 a j := p3
      obtain ⟨pc, pm⟩ := rr_push hd
      obtain ⟨y1, y2⟩ := dm_row (g := fn_156 gm) (f := 1 + k) (t := 0) (by omega) (by omega) (by omega)
      rw [show (Int32.ofNat 0 : Int32) = 0 from rfl] at y1 y2
      have kq := (h2 k k2).2 hz
      refine mu_mk rfl (mu_rest hcp hi h hd p1 pm p3 (fun a j z => y2 a j (by omega)) ?_)
      refine qb_cp hcp gc _ gm _ (32 * k + 476) 2 (1 + k) 0 hi (by omega) (cp_src p2 fun a j _ _ => p1.2.2.2 a j (by have := hd.1.2; omega) (by omega)) (fun q hq => ?_) kq
      have := y1 q hq
      rw [this]
      exact pm.2.2.2 541 _ (by omega) (by omega)
  · rw [if_pos (ti_14z.mpr hw), if_pos (ti_154z.mpr hw)]
    exact mu_mk rfl h
end
section
/-! write(), octet() on both sides -/
/-- so far the same has been written, N bytes at most; all else is as it was -/
def wr_t (gc0 gm0 gc gm : aa_G) (N : Nat) : Prop := ∃ n, n ≤ N ∧ gc 459 0 = Int32.ofNat n ∧ gm 540 37 = Int32.ofNat n ∧ (∀ j, j < n → gc 460 j = gm 553 j) ∧ (∀ k j, ¬ (k = 459 ∧ j = 0) → k ≠ 460 → gc k j = gc0 k j) ∧ ∀ k j, ¬ (k = 540 ∧ j = 37) → k ≠ 553 → gm k j = gm0 k j
theorem wr_byte {b : Int32} (h : 0 ≤ b.toInt ∧ b.toInt ≤ 127) : vp_nar .byte b.toInt8.toInt32 = b := by
  obtain ⟨n, n1, rfl, n3⟩ := ti_nat h.1
  have k : ∀ n, n < 128 → vp_nar .byte (Int32.ofNat n).toInt8.toInt32 = Int32.ofNat n := by decide +kernel
  exact k n (by omega)
theorem wr_put {gc0 gm0 gc gm : aa_G} {N : Nat} {b : Int32} (hN : N < 256) (hb : 0 ≤ b.toInt ∧ b.toInt ≤ 127) (h : wr_t gc0 gm0 gc gm N) : wr_t gc0 gm0 (fn_147 gc b) (fn_266 gm b) (N + 1) := by
  obtain ⟨n, h1, h2, h3, h4, h5, h6⟩ := h
  unfold fn_147 fn_147_22 fn_266 fn_266_13
  rw [wr_byte hb, h2, h3, if_neg (fun z => by
    have := aa_le32.mp z
    rw [zz_ofN (by omega), show (256 : Int32).toInt = 256 from rfl] at this
    omega), zz_toN (by omega), aa_w_ne _ _ (by omega), aa_w_ne _ _ (by omega), h2, h3, aa_succ]
  refine ⟨n + 1, by omega, aa_w_at _ _ _ _, aa_w_at _ _ _ _, fun j hj => ?_, fun k j z1 z2 => ?_, fun k j z1 z2 => ?_⟩
  · have l1 : ∀ x, zz_w (zz_w gc 460 n b) 459 0 x 460 j = zz_w gc 460 n b 460 j := fun x => aa_w_ne _ _ (by omega)
    have l2 : ∀ x, zz_w (zz_w gm 553 n b) 540 37 x 553 j = zz_w gm 553 n b 553 j := fun x => aa_w_ne _ _ (by omega)
    rw [l1, l2]
    by_cases e : j = n
    · rw [e, aa_w_at, aa_w_at]
    · rw [aa_w_ne _ _ (by omega), aa_w_ne _ _ (by omega)]
      exact h4 j (by omega)
  · rw [aa_w_ne _ _ (by omega), aa_w_ne _ _ (by omega)]
    exact h5 k j z1 z2
  · rw [aa_w_ne _ _ (by omega), aa_w_ne _ _ (by omega)]
    exact h6 k j z1 z2
theorem wr_up {gc0 gm0 gc gm : aa_G} {N M : Nat} (h : wr_t gc0 gm0 gc gm N) (hM : N ≤ M) : wr_t gc0 gm0 gc gm M := by
  obtain ⟨n, h1, h2⟩ := h
  exact ⟨n, by omega, h2⟩
theorem wr_dig {s u : Nat} (hs : s ≤ 99999) (hu : 0 < u ∧ u ≤ 10000) : 48 + (Int32.ofNat s / Int32.ofNat u - Int32.ofNat s / Int32.ofNat u / 10 * 10) = Int32.ofNat (48 + s / u % 10) ∧ s / u % 10 ≤ 9 := by
  have es : (Int32.ofNat s).toInt = s := zz_ofN (by omega)
  have eu : (Int32.ofNat u).toInt = u := zz_ofN (by omega)
  have e1 : (Int32.ofNat s / Int32.ofNat u).toInt = ((s / u : Nat) : Int) := by
    rw [ti_div (by omega) (by omega), es, eu]
    rfl
  have hq : s / u ≤ s := Nat.div_le_self s u
  generalize Int32.ofNat s / Int32.ofNat u = z at e1 ⊢
  generalize s / u = q at e1 hq ⊢
  have e2 : z = Int32.ofNat q := ti_eq.mpr (by rw [e1, zz_ofN (by omega)])
  have e3 : (Int32.ofNat q - Int32.ofNat q / 10 * 10) = Int32.ofNat (q % 10) := ti_eq.mpr (by
    rw [ti_rem (by rw [zz_ofN (by omega)]; omega) (by decide), zz_ofN (by omega), zz_ofN (by omega)]
    rfl)
  refine ⟨?_, by omega⟩
  rw [e2, e3]
  exact i_add 48 _
theorem wr_ten {u : Nat} (hu : u ≤ 10000) : Int32.ofNat u / 10 = Int32.ofNat (u / 10) := ti_eq.mpr (by
  rw [ti_div (by rw [zz_ofN (by omega)]; omega) (by decide), zz_ofN (by omega), zz_ofN (by omega)]
  rfl)
theorem wr_cs {g : aa_G} {s u : Nat} (hs : s ≤ 99999) (hu : 0 < u ∧ u ≤ 10000) (h : u ≤ s ∨ u = 1) : fn_148_19 g (Int32.ofNat s) (Int32.ofNat u) = fn_148_19 (fn_147 g (Int32.ofNat (48 + s / u % 10))) (Int32.ofNat s) (Int32.ofNat (u / 10)) := by
  unfold fn_148_19
  refine lp_l ?_
  show fn_148_19b g (Int32.ofNat s) (Int32.ofNat u) = _
  unfold fn_148_19b
  rw [if_neg (fun z => by
    have := aa_le32.mp z
    rw [zz_ofN (by omega), show (0 : Int32).toInt = 0 from rfl] at this
    omega)]
  have e33 : fn_148_33 g (Int32.ofNat s) (Int32.ofNat u) = .inl (fn_147 g (Int32.ofNat (48 + s / u % 10)), Int32.ofNat (u / 10)) := by
    unfold fn_148_33 fn_148_46
    rw [(wr_dig hs hu).1, wr_ten hu.2]
  by_cases c1 : Int32.ofNat u ≤ Int32.ofNat s
  · rw [if_pos c1]
    exact e33
  · have c2 := mt (i_le (a := u) (b := s) (by omega) (by omega)).mpr c1
    have c3 : u = 1 := by omega
    rw [if_neg c1, if_neg (fun z => z (by rw [c3]; rfl))]
    exact e33
theorem wr_ck {g : aa_G} {s u : Nat} (hs : s ≤ 99999) (hu : 1 < u ∧ u ≤ 10000) (h : s < u) : fn_148_19 g (Int32.ofNat s) (Int32.ofNat u) = fn_148_19 g (Int32.ofNat s) (Int32.ofNat (u / 10)) := by
  unfold fn_148_19
  refine lp_l ?_
  show fn_148_19b g (Int32.ofNat s) (Int32.ofNat u) = _
  unfold fn_148_19b fn_148_46
  rw [if_neg (fun z => by
    have := aa_le32.mp z
    rw [zz_ofN (by omega), show (0 : Int32).toInt = 0 from rfl] at this
    omega), if_neg (fun z => by
    have := (i_le (by omega) (by omega)).mp z
    omega), if_pos (c := Int32.ofNat u ≠ 1) (fun z => by
    have := congrArg Int32.toInt z
    rw [zz_ofN (by omega), show (1 : Int32).toInt = 1 from rfl] at this
    omega), wr_ten hu.2]
theorem wr_ce {g : aa_G} {s : Int32} : fn_148_19 g s 0 = g := by
  unfold fn_148_19
  refine lp_r ?_
  show fn_148_19b g s 0 = _
  unfold fn_148_19b
  rw [if_pos (by decide)]
theorem wr_ms {g : aa_G} {s u : Nat} (hs : s ≤ 99999) (hu : 0 < u ∧ u ≤ 10000) : fn_267_33 g (Int32.ofNat s) (Int32.ofNat u) = fn_267_33 (fn_266 g (Int32.ofNat (48 + s / u % 10))) (Int32.ofNat s) (Int32.ofNat (u / 10)) := by
  unfold fn_267_33
  refine lp_l ?_
  show fn_267_33b g (Int32.ofNat s) (Int32.ofNat u) = _
  unfold fn_267_33b fn_267_50
  rw [if_neg (fun z => by
    have := aa_le32.mp z
    rw [zz_ofN (by omega), show (0 : Int32).toInt = 0 from rfl] at this
    omega), (wr_dig hs hu).1, wr_ten hu.2]
theorem wr_me {g : aa_G} {s : Int32} : fn_267_33 g s 0 = g := by
  unfold fn_267_33
  refine lp_r ?_
  show fn_267_33b g s 0 = _
  unfold fn_267_33b
  rw [if_pos (by decide)]
theorem wr_mf {g : aa_G} {s u : Nat} (hs : s ≤ 99999) (hu : 0 < u ∧ u ≤ 10000) (h : s / u ≤ 9) : fn_267_17 g (Int32.ofNat s) (Int32.ofNat u) = fn_267_33 g (Int32.ofNat s) (Int32.ofNat u) := by
  unfold fn_267_17
  refine lp_r ?_
  show fn_267_17b g (Int32.ofNat s) (Int32.ofNat u) = _
  unfold fn_267_17b
  rw [if_pos]
  refine aa_le32.mpr ?_
  rw [ti_div (by rw [zz_ofN (by omega)]; omega) (by rw [zz_ofN (by omega)]; omega), zz_ofN (by omega), zz_ofN (by omega), show (9 : Int32).toInt = 9 from rfl]
  have : ((s : Int) / (u : Int)) = ((s / u : Nat) : Int) := rfl
  omega
theorem wr_mn {g : aa_G} {s u : Nat} (hs : s ≤ 99999) (hu : 0 < u ∧ u ≤ 10000) (h : 9 < s / u) : fn_267_17 g (Int32.ofNat s) (Int32.ofNat u) = fn_267_17 g (Int32.ofNat s) (Int32.ofNat (u * 10)) := by
  unfold fn_267_17
  refine lp_l ?_
  show fn_267_17b g (Int32.ofNat s) (Int32.ofNat u) = _
  unfold fn_267_17b
  rw [if_neg, show Int32.ofNat u * 10 = Int32.ofNat (u * 10) from (Int32.ofNat_mul u 10).symm]
  intro z
  have := aa_le32.mp z
  rw [ti_div (by rw [zz_ofN (by omega)]; omega) (by rw [zz_ofN (by omega)]; omega), zz_ofN (by omega), zz_ofN (by omega), show (9 : Int32).toInt = 9 from rfl] at this
  have e : ((s : Int) / (u : Int)) = ((s / u : Nat) : Int) := rfl
  omega
section WN
variable {gc0 gm0 gc gm : aa_G} {N s : Nat}
theorem wr_b9 {s u : Nat} : 0 ≤ (Int32.ofNat (48 + s / u % 10)).toInt ∧ (Int32.ofNat (48 + s / u % 10)).toInt ≤ 127 := by
  have : s / u % 10 ≤ 9 := by omega
  rw [zz_ofN (by omega)]
  omega
theorem wr_u1 (hs : s ≤ 99999) (hN : N + 1 ≤ 256) (h : wr_t gc0 gm0 gc gm N) : wr_t gc0 gm0 (fn_148_19 gc (Int32.ofNat s) (Int32.ofNat 1)) (fn_267_33 gm (Int32.ofNat s) (Int32.ofNat 1)) (N + 1) := by
  rw [wr_cs hs (by omega) (.inr rfl), wr_ms hs (by omega), show (Int32.ofNat (1 / 10) : Int32) = 0 from rfl, wr_ce, wr_me]
  exact wr_put (by omega) wr_b9 h
theorem wr_u2 (hs : s ≤ 99999) (hN : N + 2 ≤ 256) (hu : 10 ≤ s) (h : wr_t gc0 gm0 gc gm N) : wr_t gc0 gm0 (fn_148_19 gc (Int32.ofNat s) (Int32.ofNat 10)) (fn_267_33 gm (Int32.ofNat s) (Int32.ofNat 10)) (N + 2) := by
  rw [wr_cs hs (by omega) (.inl hu), wr_ms hs (by omega), show (10 / 10 : Nat) = 1 from rfl]
  exact wr_u1 hs (by omega) (wr_put (by omega) wr_b9 h)
theorem wr_u3 (hs : s ≤ 99999) (hN : N + 3 ≤ 256) (hu : 100 ≤ s) (h : wr_t gc0 gm0 gc gm N) : wr_t gc0 gm0 (fn_148_19 gc (Int32.ofNat s) (Int32.ofNat 100)) (fn_267_33 gm (Int32.ofNat s) (Int32.ofNat 100)) (N + 3) := by
  rw [wr_cs hs (by omega) (.inl hu), wr_ms hs (by omega), show (100 / 10 : Nat) = 10 from rfl]
  exact wr_u2 hs (by omega) (by omega) (wr_put (by omega) wr_b9 h)
theorem wr_u4 (hs : s ≤ 99999) (hN : N + 4 ≤ 256) (hu : 1000 ≤ s) (h : wr_t gc0 gm0 gc gm N) : wr_t gc0 gm0 (fn_148_19 gc (Int32.ofNat s) (Int32.ofNat 1000)) (fn_267_33 gm (Int32.ofNat s) (Int32.ofNat 1000)) (N + 4) := by
  rw [wr_cs hs (by omega) (.inl hu), wr_ms hs (by omega), show (1000 / 10 : Nat) = 100 from rfl]
  exact wr_u3 hs (by omega) (by omega) (wr_put (by omega) wr_b9 h)
theorem wr_u5 (hs : s ≤ 99999) (hN : N + 5 ≤ 256) (hu : 10000 ≤ s) (h : wr_t gc0 gm0 gc gm N) : wr_t gc0 gm0 (fn_148_19 gc (Int32.ofNat s) (Int32.ofNat 10000)) (fn_267_33 gm (Int32.ofNat s) (Int32.ofNat 10000)) (N + 5) := by
  rw [wr_cs hs (by omega) (.inl hu), wr_ms hs (by omega), show (10000 / 10 : Nat) = 1000 from rfl]
  exact wr_u4 hs (by omega) (by omega) (wr_put (by omega) wr_b9 h)
/-- a number that is not below 0 -/
theorem wr_size (hs : s ≤ 99999) (hN : N + 5 ≤ 256) (h : wr_t gc0 gm0 gc gm N) : wr_t gc0 gm0 (fn_148_19 gc (Int32.ofNat s) (Int32.ofNat 10000)) (fn_267_17 gm (Int32.ofNat s) (Int32.ofNat 1)) (N + 5) := by
  by_cases c1 : s < 10
  · rw [wr_ck hs (by omega) (by omega), show (10000 / 10 : Nat) = 1000 from rfl, wr_ck hs (by omega) (by omega), show (1000 / 10 : Nat) = 100 from rfl, wr_ck hs (by omega) (by omega), show (100 / 10 : Nat) = 10 from rfl, wr_ck hs (by omega) (by omega), show (10 / 10 : Nat) = 1 from rfl, wr_mf hs (by omega) (by omega)]
    exact wr_up (wr_u1 hs (by omega) h) (by omega)
  · rw [wr_mn hs (by omega) (by omega), show 1 * 10 = 10 from rfl]
    by_cases c2 : s < 100
    · rw [wr_ck hs (by omega) (by omega), show (10000 / 10 : Nat) = 1000 from rfl, wr_ck hs (by omega) (by omega), show (1000 / 10 : Nat) = 100 from rfl, wr_ck hs (by omega) (by omega), show (100 / 10 : Nat) = 10 from rfl, wr_mf hs (by omega) (by omega)]
      exact wr_up (wr_u2 hs (by omega) (by omega) h) (by omega)
    · rw [wr_mn hs (by omega) (by omega), show 10 * 10 = 100 from rfl]
      by_cases c3 : s < 1000
      · rw [wr_ck hs (by omega) (by omega), show (10000 / 10 : Nat) = 1000 from rfl, wr_ck hs (by omega) (by omega), show (1000 / 10 : Nat) = 100 from rfl, wr_mf hs (by omega) (by omega)]
        exact wr_up (wr_u3 hs (by omega) (by omega) h) (by omega)
      · rw [wr_mn hs (by omega) (by omega), show 100 * 10 = 1000 from rfl]
        by_cases c4 : s < 10000
        · rw [wr_ck hs (by omega) (by omega), show (10000 / 10 : Nat) = 1000 from rfl, wr_mf hs (by omega) (by omega)]
          exact wr_up (wr_u4 hs (by omega) (by omega) h) (by omega)
        · rw [wr_mn hs (by omega) (by omega), show 1000 * 10 = 10000 from rfl, wr_mf hs (by omega) (by omega)]
          exact wr_u5 hs (by omega) (by omega) h
end WN
/-- a number, with its sign -/
theorem wr_num {gc0 gm0 gc gm : aa_G} {N M : Nat} {v : Int32} (hv : -99999 ≤ v.toInt ∧ v.toInt ≤ 99999) (hM : N + (if 0 ≤ v.toInt then 5 else 6) ≤ M) (hN : M ≤ 256) (h : wr_t gc0 gm0 gc gm N) : wr_t gc0 gm0 (fn_148 gc v) (fn_267 gm v) M := by
  unfold fn_148 fn_267 fn_148_10 fn_267_15 fn_227
  by_cases h0 : 0 ≤ v
  · have h1 := aa_le32.mp h0
    rw [show (0 : Int32).toInt = 0 from rfl] at h1
    rw [if_pos h1] at hM
    obtain ⟨s, s1, rfl, s3⟩ := ti_nat h1
    rw [if_pos h0, if_pos h0, if_pos h0, if_pos h0]
    exact wr_up (wr_size (by omega) (by omega) h) hM
  · have h1 := mt aa_le32.mpr h0
    rw [show (0 : Int32).toInt = 0 from rfl] at h1
    rw [if_neg h1] at hM
    have en : (-v).toInt = -v.toInt := ti_neg (by omega)
    obtain ⟨s, s1, s2, s3⟩ := ti_nat (show 0 ≤ (-v).toInt by omega)
    have ez : 0 - v = -v := ti_eq.mpr (by
      rw [aa_sub32 (by rw [show (0 : Int32).toInt = 0 from rfl]; omega) (by rw [show (0 : Int32).toInt = 0 from rfl]; omega), en, show (0 : Int32).toInt = 0 from rfl]
      omega)
    rw [if_neg h0, if_neg h0, if_neg h0, if_neg h0, ez, s2]
    exact wr_up (wr_size (by omega) (by omega) (wr_put (by omega) (by decide) h)) (by omega)
section WP
variable {gc0 gm0 gc gm : aa_G} {N t i : Nat}
/-- a point's values, on both sides -/
def wp_v (gc0 gm0 : aa_G) (t i : Nat) : Prop := (∀ o, 1 ≤ o → o ≤ 4 → gc0 (5 * t + 14 + o) i = gm0 541 (50 * t + 4 * i + 4 + o)) ∧ (0 ≤ (gm0 541 (50 * t + 4 * i + 5)).toInt ∧ (gm0 541 (50 * t + 4 * i + 5)).toInt ≤ 359) ∧ (-1 ≤ (gm0 541 (50 * t + 4 * i + 8)).toInt ∧ (gm0 541 (50 * t + 4 * i + 8)).toInt ≤ 1) ∧ (gm0 541 (50 * t + 4 * i + 8) = -1 → (0 ≤ (gm0 541 (50 * t + 4 * i + 6)).toInt ∧ (gm0 541 (50 * t + 4 * i + 6)).toInt ≤ 86399) ∧ (0 ≤ (gm0 541 (50 * t + 4 * i + 7)).toInt ∧ (gm0 541 (50 * t + 4 * i + 7)).toInt ≤ 86399))
theorem wr_c {n : Nat} (h : wr_t gc0 gm0 gc gm N) {a b j : Nat} (hk : gc0 a b = gm0 541 j) (h1 : a ≤ 33) : gc a b = gm0 541 j := by
  obtain ⟨n, -, -, -, -, h5, -⟩ := h
  exact (h5 a b (by omega) (by omega)).trans hk
theorem wr_m (h : wr_t gc0 gm0 gc gm N) (j : Nat) : gm 541 j = gm0 541 j := by
  obtain ⟨n, -, -, -, -, -, h6⟩ := h
  exact h6 541 j (by omega) (by omega)
theorem wp_step (ht : t < 4) (hi : i < 12) (hN : N + 19 ≤ 256) (hp : wp_v gc0 gm0 t i) (h : wr_t gc0 gm0 gc gm N) : ∃ gc', (if gc (5 * t + 14 + 4) i = (-1) then fn_146_56 gc (5 * t + 14) (Int32.ofNat i) 0 else fn_146_56 gc (5 * t + 14) (Int32.ofNat i) 1) = .inl (gc', Int32.ofNat (i + 1)) ∧ wr_t gc0 gm0 gc' (fn_268 gm (Int32.ofNat (50 * t + 4 * i + 5))) (N + 19) := by
  obtain ⟨v, vy, vp, vd⟩ := hp
  have cv : ∀ (gc gm : aa_G) (N : Nat), wr_t gc0 gm0 gc gm N → ∀ o, 1 ≤ o → o ≤ 4 → gc (5 * t + 14 + o) i = gm0 541 (50 * t + 4 * i + 4 + o) := fun gc gm N h o o1 o2 => wr_c (n := 0) h (v o o1 o2) (by omega)
  have mv : ∀ (gc gm : aa_G) (N : Nat), wr_t gc0 gm0 gc gm N → ∀ j, gm 541 j = gm0 541 j := fun gc gm N h j => wr_m h j
  have p4 := cv gc gm N h 4 (by omega) (by omega)
  rw [show 50 * t + 4 * i + 4 + 4 = 50 * t + 4 * i + 8 by omega] at p4
  unfold fn_268
  rw [show Int32.ofNat (50 * t + 4 * i + 5) + 3 = Int32.ofNat (50 * t + 4 * i + 8) from i_add _ 3, zz_toN (by omega), mv gc gm N h, p4]
  by_cases hpol : gm0 541 (50 * t + 4 * i + 8) = -1
  · obtain ⟨d1, d2⟩ := vd hpol
    rw [if_pos hpol, if_pos hpol]
    unfold fn_146_56 fn_268_17
    rw [if_pos (c := (0 : Int32) = 0) rfl, if_pos (c := (0 : Int32) = 0) rfl]
    unfold fn_146_69 fn_268_30
    have a1 := wr_put (b := 112) (by omega) (by decide) h
    unfold fn_146_72 fn_268_33
    rw [zz_toN (by omega), zz_toN (by omega), cv _ _ _ a1 1 (by omega) (by omega), show 50 * t + 4 * i + 4 + 1 = 50 * t + 4 * i + 5 by omega, mv _ _ _ a1]
    have a2 := wr_num (v := gm0 541 (50 * t + 4 * i + 5)) (M := N + 6) (by omega) (by rw [if_pos (by omega)]; omega) (by omega) a1
    unfold fn_146_82 fn_268_43
    have a3 := wr_put (b := 44) (by omega) (by decide) a2
    unfold fn_146_88 fn_268_49
    rw [if_pos (c := (0 : Int32) = 0) rfl, if_pos (c := (0 : Int32) = 0) rfl, zz_toN (by omega), cv _ _ _ a3 2 (by omega) (by omega), show 50 * t + 4 * i + 4 + 2 = 50 * t + 4 * i + 6 by omega, show Int32.ofNat (50 * t + 4 * i + 5) + 1 = Int32.ofNat (50 * t + 4 * i + 6) from i_add _ 1, zz_toN (by omega), mv _ _ _ a3]
    unfold fn_146_108 fn_268_73
    have a4 := wr_num (v := gm0 541 (50 * t + 4 * i + 6)) (M := N + 12) (by omega) (by rw [if_pos (by omega)]; omega) (by omega) a3
    unfold fn_146_111 fn_268_76
    rw [if_neg (c := (0 : Int32) ≠ 0) (fun z => z rfl), if_neg (c := (0 : Int32) ≠ 0) (fun z => z rfl)]
    have a5 := wr_put (b := 44) (by omega) (by decide) a4
    unfold fn_146_121 fn_268_86
    rw [zz_toN (by omega), cv _ _ _ a5 3 (by omega) (by omega), show 50 * t + 4 * i + 4 + 3 = 50 * t + 4 * i + 7 by omega, show Int32.ofNat (50 * t + 4 * i + 5) + 2 = Int32.ofNat (50 * t + 4 * i + 7) from i_add _ 2, zz_toN (by omega), mv _ _ _ a5]
    have a6 := wr_num (v := gm0 541 (50 * t + 4 * i + 7)) (M := N + 18) (by omega) (by rw [if_pos (by omega)]; omega) (by omega) a5
    unfold fn_146_131 fn_146_137 fn_268_98
    rw [aa_succ]
    exact ⟨_, rfl, wr_put (b := 59) (by omega) (by decide) a6⟩
  · rw [if_neg hpol, if_neg hpol]
    have hp1 := ti_ne.mp hpol
    rw [ti_m1] at hp1
    unfold fn_146_56 fn_268_17
    rw [if_neg (c := (1 : Int32) = 0) (by decide), if_neg (c := (1 : Int32) = 0) (by decide)]
    unfold fn_146_69 fn_268_30
    have a1 := wr_put (b := 120) (by omega) (by decide) h
    unfold fn_146_72 fn_268_33
    rw [zz_toN (by omega), zz_toN (by omega), cv _ _ _ a1 1 (by omega) (by omega), show 50 * t + 4 * i + 4 + 1 = 50 * t + 4 * i + 5 by omega, mv _ _ _ a1]
    have a2 := wr_num (v := gm0 541 (50 * t + 4 * i + 5)) (M := N + 6) (by omega) (by rw [if_pos (by omega)]; omega) (by omega) a1
    unfold fn_146_82 fn_268_43
    have a3 := wr_put (b := 44) (by omega) (by decide) a2
    unfold fn_146_88 fn_268_49
    rw [if_neg (c := (1 : Int32) = 0) (by decide), if_neg (c := (1 : Int32) = 0) (by decide), zz_toN (by omega), cv _ _ _ a3 4 (by omega) (by omega), show 50 * t + 4 * i + 4 + 4 = 50 * t + 4 * i + 8 by omega, show Int32.ofNat (50 * t + 4 * i + 5) + 3 = Int32.ofNat (50 * t + 4 * i + 8) from i_add _ 3, zz_toN (by omega), mv _ _ _ a3]
    unfold fn_146_108 fn_268_73
    have a4 := wr_num (v := gm0 541 (50 * t + 4 * i + 8)) (M := N + 12) (by omega) (by rw [if_pos (by omega)]; omega) (by omega) a3
    unfold fn_146_111 fn_268_76
    rw [if_pos (c := (1 : Int32) ≠ 0) (by decide), if_pos (c := (1 : Int32) ≠ 0) (by decide)]
    unfold fn_146_131 fn_146_137 fn_268_98
    rw [aa_succ]
    exact ⟨_, rfl, wr_up (wr_put (b := 59) (by omega) (by decide) a4) (by omega)⟩
theorem wp_loop {c : Nat} (ht : t < 4) (hc : c ≤ 12) (hp : ∀ i, i < c → wp_v gc0 gm0 t i) (h1 : gc0 (5 * t + 14) 1 = Int32.ofNat c) (h2 : gm0 541 (50 * t + 4) = Int32.ofNat c) : ∀ (m i : Nat) (gc gm : aa_G), i + m = c → wr_t gc0 gm0 gc gm (8 + 19 * i) → ∃ gm', fn_265_38 gm (Int32.ofNat t) (Int32.ofNat i) = (gm' 540 37, gm') ∧ wr_t gc0 gm0 (fn_146_27 gc (5 * t + 14) (Int32.ofNat i)) gm' (8 + 19 * c)
  | 0, i, gc, gm, hi, h => by
    have hic : i = c := by omega
    subst hic
    have e1 : gc (5 * t + 14) 1 = Int32.ofNat i := (wr_c (n := 0) h (h1.trans h2.symm) (by omega)).trans h2
    have e2 : gm 541 (50 * t + 4) = Int32.ofNat i := (wr_m h _).trans h2
    refine ⟨gm, ?_, ?_⟩
    · unfold fn_265_38
      refine lp_r ?_
      show fn_265_38b gm (Int32.ofNat t) (Int32.ofNat i) = _
      unfold fn_265_38b
      rw [ml_ta, show Int32.ofNat (50 * t + 3) + 1 = Int32.ofNat (50 * t + 4) from i_add _ 1, zz_toN (by omega), e2, if_pos (aa_le32.mpr (Int.le_refl _))]
    · have e : fn_146_27 gc (5 * t + 14) (Int32.ofNat i) = gc := by
        unfold fn_146_27
        refine lp_r ?_
        show fn_146_27b gc (5 * t + 14) (Int32.ofNat i) = _
        unfold fn_146_27b
        rw [e1, if_pos (aa_le32.mpr (Int.le_refl _))]
      rw [e]
      exact h
  | m + 1, i, gc, gm, hi, h => by
    have e1 : gc (5 * t + 14) 1 = Int32.ofNat c := (wr_c (n := 0) h (h1.trans h2.symm) (by omega)).trans h2
    have e2 : gm 541 (50 * t + 4) = Int32.ofNat c := (wr_m h _).trans h2
    obtain ⟨gc', s1, s2⟩ := wp_step ht (show i < 12 by omega) (by omega) (hp i (by omega)) h
    have m1 : fn_265_38 gm (Int32.ofNat t) (Int32.ofNat i) = fn_265_38 (fn_268 gm (Int32.ofNat (50 * t + 4 * i + 5))) (Int32.ofNat t) (Int32.ofNat (i + 1)) := by
      unfold fn_265_38
      refine lp_l ?_
      show fn_265_38b gm (Int32.ofNat t) (Int32.ofNat i) = _
      unfold fn_265_38b fn_265_62
      rw [ml_ta, show Int32.ofNat (50 * t + 3) + 1 = Int32.ofNat (50 * t + 4) from i_add _ 1, zz_toN (by omega), e2, if_neg (fun z => by
        have := (i_le (by omega) (by omega)).mp z
        omega), ml_pa, aa_succ]
    have c1 : fn_146_27 gc (5 * t + 14) (Int32.ofNat i) = fn_146_27 gc' (5 * t + 14) (Int32.ofNat (i + 1)) := by
      unfold fn_146_27
      refine lp_l ?_
      show fn_146_27b gc (5 * t + 14) (Int32.ofNat i) = _
      unfold fn_146_27b
      rw [e1, if_neg (fun z => by
        have := (i_le (by omega) (by omega)).mp z
        omega), if_neg (fun z => by
        have := aa_le32.mp z
        rw [zz_ofN (by omega), show (12 : Int32).toInt = 12 from rfl] at this
        omega), zz_toN (by omega)]
      exact s1
    rw [m1, c1]
    exact wp_loop ht hc hp h1 h2 m (i + 1) gc' _ (by omega) (wr_up s2 (by omega))
end WP
theorem mu_write {B : rq_Q} (hcp : rq_cp B) {gc gm : aa_G} (hi : aa_inv gm) (hφ : aa_Phi gm) (h : rr_g (qb_s B) gc gm) (a : Int32) : mu_ok B (fn_145 gc a) (fn_265 gm a) := by
  have h' := h
  obtain ⟨h0, h2, hd, s1, s2, s3, s4, s5, s6, s7⟩ := h
  have h := h'
  unfold fn_145 fn_265
  rcases ct_two hi h0 a with ⟨t, t4, rfl, tn, e1, e2, k⟩ | ⟨tn, e1, e2⟩
  · rw [e1, e2, if_pos (by decide)]
    dsimp only
    obtain ⟨c, hc, h1⟩ := tq_count hi t4
    obtain ⟨k1, k2, k3, -⟩ := k
    have hcz : (gm 541 (50 * t + 3 + 1)).toInt = c := by
      show (gm 541 (50 * t + 4)).toInt = c
      rw [h1, i_12 hc]
    have hp : ∀ i, i < c → wp_v gc gm t i := fun i hi' => by
      have g1 := iv_t hi (r := 0) (t := t) (o := 2 + 4 * i) t4 (by omega)
      have g2 := iv_t hi (r := 0) (t := t) (o := 4 * i + 1 + 2) t4 (by omega)
      have g3 := iv_t hi (r := 0) (t := t) (o := 4 * i + 2 + 2) t4 (by omega)
      have g4 := iv_t hi (r := 0) (t := t) (o := 4 * i + 3 + 2) t4 (by omega)
      have e : aa_town (2 + 4 * i) = (0, 359) := by
        unfold aa_town
        rw [if_neg (fun z => by have := Nat.eq_of_beq_eq_true z; omega), if_neg (fun z => by have := Nat.eq_of_beq_eq_true z; omega), show (2 + 4 * i - 2) % 4 = 0 by omega]
        rfl
      rw [e, show 399 * 0 + 50 * t + 3 + (2 + 4 * i) = 50 * t + 4 * i + 5 by omega] at g1
      rw [aa_town1, show 399 * 0 + 50 * t + 3 + (4 * i + 1 + 2) = 50 * t + 4 * i + 6 by omega] at g2
      rw [aa_town2, show 399 * 0 + 50 * t + 3 + (4 * i + 2 + 2) = 50 * t + 4 * i + 7 by omega] at g3
      rw [aa_town3, show 399 * 0 + 50 * t + 3 + (4 * i + 3 + 2) = 50 * t + 4 * i + 8 by omega] at g4
      have gd := (hφ.1 0 (by omega)).1 t i t4 (by omega) (by rw [show 399 * 0 + 50 * t + 4 = 50 * t + 3 + 1 by omega, hcz]; omega)
      unfold aa_gd at gd
      rw [show 399 * 0 + 50 * t + 4 * i + 5 + 3 = 50 * t + 4 * i + 8 by omega, show 399 * 0 + 50 * t + 4 * i + 5 + 1 = 50 * t + 4 * i + 6 by omega, show 399 * 0 + 50 * t + 4 * i + 5 + 2 = 50 * t + 4 * i + 7 by omega] at gd
      refine ⟨fun o o1 o2 => ?_, g1, g4, fun z => ?_⟩
      · have := k3 i (by rw [hcz]; omega) o o1 o2
        rwa [show 50 * t + 3 + 1 + 4 * i + o = 50 * t + 4 * i + 4 + o by omega] at this
      · have gd := gd (by rw [z]; rfl)
        have g2 : (-1 : Int) ≤ (gm 541 (50 * t + 4 * i + 6)).toInt ∧ (gm 541 (50 * t + 4 * i + 6)).toInt ≤ 86399 := g2
        have g3 : (-1 : Int) ≤ (gm 541 (50 * t + 4 * i + 7)).toInt ∧ (gm 541 (50 * t + 4 * i + 7)).toInt ≤ 86399 := g3
        omega
    have co := iv_t hi (r := 0) (t := t) (o := 0) t4 (by omega)
    rw [show 399 * 0 + 50 * t + 3 + 0 = 50 * t + 3 by omega] at co
    have co : (-43200 : Int) ≤ (gm 541 (50 * t + 3)).toInt ∧ (gm 541 (50 * t + 3)).toInt ≤ 43200 := co
    have a0 : wr_t gc gm (zz_w gc 459 0 0) (zz_w gm 540 37 0) 0 := ⟨0, Nat.le_refl 0, aa_w_at _ _ _ _, aa_w_at _ _ _ _, fun j hj => absurd hj (Nat.not_lt_zero j), fun k j z1 z2 => aa_w_ne _ _ z1, fun k j z1 z2 => aa_w_ne _ _ z1⟩
    have a1 := wr_put (b := 116) (by omega) (by decide) a0
    unfold fn_146 fn_146_11 fn_265_21 fn_209
    rw [ml_ta, zz_toN (by omega), wr_c (n := 0) a1 k1 (by omega), wr_m a1]
    have a2 := wr_num (v := gm 541 (50 * t + 3)) (M := 7) (by omega) (by split <;> omega) (by omega) a1
    unfold fn_146_19 fn_265_30
    have a3 := wr_put (b := 59) (by omega) (by decide) a2
    unfold fn_146_25 fn_265_36
    obtain ⟨gm', f1, f2⟩ := wp_loop (c := c) t4 hc hp (k2.trans h1) h1 c 0 _ _ (by omega) (wr_up a3 (by omega))
    rw [show (Int32.ofNat 0 : Int32) = 0 from rfl] at f1 f2
    rw [f1]
    unfold fn_145_27
    generalize fn_146_27 (fn_147 (fn_148 (fn_147 (zz_w gc 459 0 0) 116) (gm 541 (50 * t + 3))) 59) (5 * t + 14) 0 = gc' at f2 ⊢
    obtain ⟨n, n1, n2, n3, n4, n5, n6⟩ := f2
    obtain ⟨c', e', hd1, hd2, hd3⟩ := hd
    refine mu_mk (n2.trans n3.symm) ⟨rq_same (qb_cp hcp) hi (by omega) (fun k j _ _ => n5 k j (by omega) (by omega)) (fun q hq => n6 541 _ (by omega) (by omega)) h0, fun k hk => ⟨?_, fun z => ?_⟩, ⟨c', e', hd1, ⟨?_, ?_, ?_⟩, fun i hi' => rq_same (qb_cp hcp) hi (by omega) (fun k j _ _ => n5 k j (by omega) (by omega)) (fun q hq => n6 541 _ (by omega) (by omega)) (hd3 i hi')⟩, ?_, fun k hk => ?_, ?_, ?_, ?_, n2.trans n3.symm, fun j hj => ?_⟩
    · rw [n5 453 k (by omega) (by omega), n6 542 k (by omega) (by omega)]; exact (h2 k hk).1
    · rw [n6 542 k (by omega) (by omega)] at z
      exact rq_same (qb_cp hcp) hi (by omega) (fun k' j _ _ => n5 k' j (by omega) (by omega)) (fun q hq => n6 541 _ (by omega) (by omega)) ((h2 k hk).2 z)
    · rw [n5 66 0 (by omega) (by omega)]; exact hd2.1
    · rw [n6 540 1 (by omega) (by omega)]; exact hd2.2.1
    · rw [n5 66 1 (by omega) (by omega)]; exact hd2.2.2
    · rw [n5 454 0 (by omega) (by omega), n6 540 4 (by omega) (by omega)]; exact s1
    · rw [n6 543 k (by omega) (by omega), n5 455 k (by omega) (by omega)]; exact s2 k hk
    · rw [n5 1 13 (by omega) (by omega), n6 540 6 (by omega) (by omega)]; exact s3
    · rw [n5 1 14 (by omega) (by omega), n6 540 35 (by omega) (by omega)]; exact s4
    · rw [n6 540 16 (by omega) (by omega)]; exact s5
    · rw [n3, zz_ofN (by omega)] at hj
      exact n4 j (by omega)
  · rw [e1, e2, if_neg (by decide)]
    exact mu_mk rfl h
theorem oc_all {Q : rq_Q} {gc gm : aa_G} (h : rr_g Q gc gm) (hb : 0 ≤ (gm 540 37).toInt) (a : Int32) : fn_149 gc a = fn_269 gm a := by
  obtain ⟨-, -, -, -, -, -, -, -, s6, s7⟩ := h
  unfold fn_149 fn_269
  rw [s6]
  have hlt := (gm 540 37).toInt_lt
  have es : (gm 540 37 - 1).toInt = (gm 540 37).toInt - 1 := aa_sub32 (by rw [show (1 : Int32).toInt = 1 from rfl]; omega) (by rw [show (1 : Int32).toInt = 1 from rfl]; omega)
  by_cases hz : (0 : Int32).toInt ≤ a.toInt ∧ a.toInt ≤ (gm 540 37 - 1).toInt
  · rw [if_neg (ti_14n.mpr hz), if_neg (ti_154n.mpr hz)]
    obtain ⟨j, j1, rfl, j3⟩ := ti_nat (show 0 ≤ a.toInt from hz.1)
    rw [zz_toN j1]
    exact s7 j (by rw [es] at hz; omega)
  · rw [if_pos (ti_14z.mpr hz), if_pos (ti_154z.mpr hz)]
end
section
/-! METHODS READ (printed by wip/dc/dc.py) -/
-- 21: UnequalHours Tape step
noncomputable def fn_21_47 (g : aa_G) (s0 : Int32) : aa_G := zz_w g 454 2 (g 455 s0.toNatClampNeg)
theorem dn_21_47 {v : Option Value} {h : zz_H} {n : Nat} {g : aa_G} {s0 : Int32}  (x0 : Option Value) (jx0 : rn_jk x0) (r : rn_s n 21 (47, [x0], [.int s0, .ref 455, .ref 454], aa_H g) v h) : ig_s v h (fn_21_47 g s0) := by
  unfold fn_21_47
  obtain ⟨hb15, n14, ln14, r⟩ := rn_ial (k := 455) rfl ⟨by decide, by decide⟩ rfl r
  have r : rn_s _ 21 (48, [x0], [.int (g 455 s0.toNatClampNeg), .ref 454], aa_H g) v h := r
  obtain ⟨n16, ln16, r⟩ := rn_steps 1 (55, [x0], [], aa_H (zz_w g 454 2 (g 455 s0.toNatClampNeg))) rfl r
  exact rn_ret 1 rfl r
noncomputable def fn_21 (g : aa_G)  : aa_G := if ((g 454 1) + 1) < 0 then zz_w (zz_w g 454 1 ((g 454 1) + 1)) 454 2 (-1) else if (g 454 0) ≤ ((g 454 1) + 1) then zz_w (zz_w g 454 1 ((g 454 1) + 1)) 454 2 (-1) else if 500 ≤ ((g 454 1) + 1) then zz_w (zz_w g 454 1 ((g 454 1) + 1)) 454 2 (-1) else fn_21_47 (zz_w g 454 1 ((g 454 1) + 1)) ((g 454 1) + 1)
theorem dn_21 {v : Option Value} {h : zz_H} {n : Nat} {g : aa_G}   (r : rn_s n 21 (0, zz_in [.ref 454] (zz_nl 21), [], aa_H g) v h) : ig_s v h (fn_21 g) := by
  have r : rn_s n 21 (0, [some (.ref 454)], [], aa_H g) v h := r
  unfold fn_21
  obtain ⟨n1, ln1, r⟩ := rn_steps 8 (15, [some (.ref 454)], [.int ((g 454 1) + 1), .ref 454], aa_H (zz_w g 454 1 ((g 454 1) + 1))) rfl r
  refine rn_if (ig_s v h) rfl decide_eq_true_iff.symm r (fun c2 l3n l3 r => ?_) (fun c2 l3n l3 r => ?_)
  · obtain ⟨n4, ln4, r⟩ := rn_steps 1 (55, [some (.ref 454)], [], aa_H (zz_w (zz_w g 454 1 ((g 454 1) + 1)) 454 2 (-1))) rfl r
    exact rn_ret 1 rfl r
  · obtain ⟨n5, ln5, r⟩ := rn_steps 3 (26, [some (.ref 454)], [.int (g 454 0), .int ((g 454 1) + 1), .ref 454], aa_H (zz_w g 454 1 ((g 454 1) + 1))) rfl r
    refine rn_ic (ig_s v h) rfl decide_eq_true_iff.symm r (fun c6 l7n l7 r => ?_) (fun c6 l7n l7 r => ?_)
    · obtain ⟨n8, ln8, r⟩ := rn_steps 1 (55, [some (.ref 454)], [], aa_H (zz_w (zz_w g 454 1 ((g 454 1) + 1)) 454 2 (-1))) rfl r
      exact rn_ret 1 rfl r
    · obtain ⟨n9, ln9, r⟩ := rn_steps 2 (36, [some (.ref 454)], [.int 500, .int ((g 454 1) + 1), .ref 454], aa_H (zz_w g 454 1 ((g 454 1) + 1))) rfl r
      refine rn_ic (ig_s v h) rfl decide_eq_true_iff.symm r (fun c10 l11n l11 r => ?_) (fun c10 l11n l11 r => ?_)
      · obtain ⟨n12, ln12, r⟩ := rn_steps 1 (55, [some (.ref 454)], [], aa_H (zz_w (zz_w g 454 1 ((g 454 1) + 1)) 454 2 (-1))) rfl r
        exact rn_ret 1 rfl r
      · obtain ⟨n13, ln13, r⟩ := rn_steps 3 (47, [some (.ref 454)], [.int ((g 454 1) + 1), .ref 455, .ref 454], aa_H (zz_w g 454 1 ((g 454 1) + 1))) rfl r
        exact dn_21_47 (some (.ref 454)) rn_jr r
-- 25: UnequalHours Tape fail
noncomputable def fn_25 (g : aa_G)  : Int32 × aa_G := (0, zz_w g 454 4 (g 454 1))
theorem dn_25 {v : Option Value} {h : zz_H} {n : Nat} {g : aa_G}   (r : rn_s n 25 (0, zz_in [.ref 454] (zz_nl 25), [], aa_H g) v h) : iw_s v h (fn_25 g) := by
  have r : rn_s n 25 (0, [some (.ref 454)], [], aa_H g) v h := r
  unfold fn_25
  obtain ⟨n1, ln1, r⟩ := rn_steps 4 (9, [some (.ref 454)], [.int 0], aa_H (zz_w g 454 4 (g 454 1))) rfl r
  exact rn_ire rfl r
-- 33: UnequalHours Tape pass
noncomputable def fn_33 (g : aa_G) (a1 : Int32) : Int32 × aa_G := if (g 454 2) = a1 then (1, fn_21 g) else ((fn_25 g).1, (fn_25 g).2)
theorem dn_33 {v : Option Value} {h : zz_H} {n : Nat} {g : aa_G} {a1 : Int32}  (r : rn_s n 33 (0, zz_in [.ref 454, .int a1] (zz_nl 33), [], aa_H g) v h) : iw_s v h (fn_33 g a1) := by
  have r : rn_s n 33 (0, [some (.ref 454), some (.int a1)], [], aa_H g) v h := r
  unfold fn_33
  obtain ⟨n1, ln1, r⟩ := rn_steps 2 (5, [some (.ref 454), some (.int a1)], [.int a1, .int (g 454 2)], aa_H g) rfl r
  refine rn_ic (iw_s v h) rfl decide_eq_true_iff.symm r (fun c2 l3n l3 r => ?_) (fun c2 l3n l3 r => ?_)
  · obtain ⟨n4, ln4, r⟩ := rn_steps 0 (14, [some (.ref 454), some (.int a1)], [.ref 454], aa_H g) rfl r
    obtain ⟨_, n5, v1, h1, -, ln5, rc, r⟩ := rn_call (m2 := 21) (as := [.ref 454]) (rest := []) rfl rfl r
    obtain ⟨rfl, rfl⟩ := dn_21 rc
    have r : rn_s _ 33 (17, [some (.ref 454), some (.int a1)], [], aa_H (fn_21 g)) v h := r
    obtain ⟨n7, ln7, r⟩ := rn_steps 0 (18, [some (.ref 454), some (.int a1)], [.int 1], aa_H (fn_21 g)) rfl r
    exact rn_ire rfl r
  · obtain ⟨n8, ln8, r⟩ := rn_steps 0 (9, [some (.ref 454), some (.int a1)], [.ref 454], aa_H g) rfl r
    obtain ⟨_, n9, v1, h1, -, ln9, rc, r⟩ := rn_call (m2 := 25) (as := [.ref 454]) (rest := []) rfl rfl r
    obtain ⟨rfl, rfl⟩ := dn_25 rc
    have r : rn_s _ 33 (12, [some (.ref 454), some (.int a1)], [.int ((fn_25 g).1)], aa_H ((fn_25 g).2)) v h := r
    exact rn_ire rfl r
-- 27: UnequalHours Tape onDigit
noncomputable def fn_27 (g : aa_G)  : Int32 := if (g 454 2) < 48 then 0 else if 57 < (g 454 2) then 0 else 1
theorem dn_27 {v : Option Value} {h : zz_H} {n : Nat} {g : aa_G}   (r : rn_s n 27 (0, zz_in [.ref 454] (zz_nl 27), [], aa_H g) v h) : ir_s g v h (fn_27 g) := by
  have r : rn_s n 27 (0, [some (.ref 454)], [], aa_H g) v h := r
  unfold fn_27
  obtain ⟨n1, ln1, r⟩ := rn_steps 2 (6, [some (.ref 454)], [.int 48, .int (g 454 2)], aa_H g) rfl r
  refine rn_ic (ir_s g v h) rfl decide_eq_true_iff.symm r (fun c2 l3n l3 r => ?_) (fun c2 l3n l3 r => ?_)
  · obtain ⟨n4, ln4, r⟩ := rn_steps 0 (23, [some (.ref 454)], [.int 0], aa_H g) rfl r
    exact rn_ire rfl r
  · obtain ⟨n5, ln5, r⟩ := rn_steps 2 (15, [some (.ref 454)], [.int 57, .int (g 454 2)], aa_H g) rfl r
    refine rn_ic (ir_s g v h) rfl decide_eq_true_iff.symm r (fun c6 l7n l7 r => ?_) (fun c6 l7n l7 r => ?_)
    · obtain ⟨n8, ln8, r⟩ := rn_steps 0 (23, [some (.ref 454)], [.int 0], aa_H g) rfl r
      exact rn_ire rfl r
    · obtain ⟨n9, ln9, r⟩ := rn_steps 1 (23, [some (.ref 454)], [.int 1], aa_H g) rfl r
      exact rn_ire rfl r
-- 26: UnequalHours Tape readNumber
noncomputable def fn_26_73 (g : aa_G) (b2 : Int32) (b3 : Int32) (b4 : Int32) (b5 : Int32) (b6 : Int32) (b7 : Int32) : (aa_G × Int32 × Int32) ⊕ (Int32 × aa_G) := .inl (g, b6, b7 + 1)
theorem dn_26_73 {v : Option Value} {h : zz_H} {n : Nat} {g : aa_G} {b2 : Int32} {b3 : Int32} {b4 : Int32} {b5 : Int32} {b6 : Int32} {b7 : Int32} (P : (aa_G × Int32 × Int32) ⊕ (Int32 × aa_G) → Prop) (hO0 : ∀ n2, n2 < n → ∀ (yg : aa_G) (yb6 : Int32) (yb7 : Int32) (yx1 : Option Value) (_ : rn_jk yx1), rn_s n2 26 (41, [some (.ref 454), yx1, some (.int b2), some (.int b3), some (.int b4), some (.int b5), some (.int yb6), some (.int yb7)], [], aa_H yg) v h → P (.inl (yg, yb6, yb7))) (hR : ∀ E, iw_s v h E → P (.inr E))  (x1 : Option Value) (jx1 : rn_jk x1) (r : rn_s n 26 (73, [some (.ref 454), x1, some (.int b2), some (.int b3), some (.int b4), some (.int b5), some (.int b6), some (.int b7)], [], aa_H g) v h) : P (fn_26_73 g b2 b3 b4 b5 b6 b7) := by
  unfold fn_26_73
  obtain ⟨n40, ln40, r⟩ := rn_steps 1 (41, [some (.ref 454), x1, some (.int b2), some (.int b3), some (.int b4), some (.int b5), some (.int b6), some (.int (b7 + 1))], [], aa_H g) rfl r
  exact hO0 _ (by omega) g b6 (b7 + 1) x1 jx1 r
noncomputable def fn_26_91 (g : aa_G)  : Int32 × aa_G := ((fn_25 g).1, (fn_25 g).2)
theorem dn_26_91 {v : Option Value} {h : zz_H} {n : Nat} {g : aa_G}   (x1 x2 x3 x4 x5 x6 x7 : Option Value) (jx1 : rn_jk x1) (jx2 : rn_jk x2) (jx3 : rn_jk x3) (jx4 : rn_jk x4) (jx5 : rn_jk x5) (jx6 : rn_jk x6) (jx7 : rn_jk x7) (r : rn_s n 26 (91, [some (.ref 454), x1, x2, x3, x4, x5, x6, x7], [], aa_H g) v h) : iw_s v h (fn_26_91 g) := by
  unfold fn_26_91
  obtain ⟨n41, ln41, r⟩ := rn_steps 0 (92, [some (.ref 454), x1, x2, x3, x4, x5, x6, x7], [.ref 454], aa_H g) rfl r
  obtain ⟨_, n42, v1, h1, -, ln42, rc, r⟩ := rn_call (m2 := 25) (as := [.ref 454]) (rest := []) rfl rfl r
  obtain ⟨rfl, rfl⟩ := dn_25 rc
  have r : rn_s _ 26 (95, [some (.ref 454), x1, x2, x3, x4, x5, x6, x7], [.int ((fn_25 g).1)], aa_H ((fn_25 g).2)) v h := r
  exact rn_ire rfl r
noncomputable def fn_26_110 (g : aa_G) (b2 : Int32) (b3 : Int32) (b4 : Int32) (s0 : Int32) : Int32 × aa_G := if s0 < b2 then (0, zz_w (zz_w g 454 3 s0) 454 4 b4) else if s0 ≤ b3 then (1, zz_w g 454 3 s0) else (0, zz_w (zz_w g 454 3 s0) 454 4 b4)
theorem dn_26_110 {v : Option Value} {h : zz_H} {n : Nat} {g : aa_G} {b2 : Int32} {b3 : Int32} {b4 : Int32} {s0 : Int32}  (x1 x5 x6 x7 : Option Value) (jx1 : rn_jk x1) (jx5 : rn_jk x5) (jx6 : rn_jk x6) (jx7 : rn_jk x7) (r : rn_s n 26 (110, [some (.ref 454), x1, some (.int b2), some (.int b3), some (.int b4), x5, x6, x7], [.int s0, .ref 454], aa_H g) v h) : iw_s v h (fn_26_110 g b2 b3 b4 s0) := by
  unfold fn_26_110
  obtain ⟨n44, ln44, r⟩ := rn_steps 3 (118, [some (.ref 454), x1, some (.int b2), some (.int b3), some (.int b4), x5, x6, x7], [.int b2, .int s0], aa_H (zz_w g 454 3 s0)) rfl r
  refine rn_ic (iw_s v h) rfl decide_eq_true_iff.symm r (fun c45 l46n l46 r => ?_) (fun c45 l46n l46 r => ?_)
  · obtain ⟨n47, ln47, r⟩ := rn_steps 3 (136, [some (.ref 454), x1, some (.int b2), some (.int b3), some (.int b4), x5, x6, x7], [.int 0], aa_H (zz_w (zz_w g 454 3 s0) 454 4 b4)) rfl r
    exact rn_ire rfl r
  · obtain ⟨n48, ln48, r⟩ := rn_steps 2 (126, [some (.ref 454), x1, some (.int b2), some (.int b3), some (.int b4), x5, x6, x7], [.int b3, .int s0], aa_H (zz_w g 454 3 s0)) rfl r
    refine rn_ic (iw_s v h) rfl decide_eq_true_iff.symm r (fun c49 l50n l50 r => ?_) (fun c49 l50n l50 r => ?_)
    · obtain ⟨n51, ln51, r⟩ := rn_steps 0 (138, [some (.ref 454), x1, some (.int b2), some (.int b3), some (.int b4), x5, x6, x7], [.int 1], aa_H (zz_w g 454 3 s0)) rfl r
      exact rn_ire rfl r
    · obtain ⟨n52, ln52, r⟩ := rn_steps 3 (136, [some (.ref 454), x1, some (.int b2), some (.int b3), some (.int b4), x5, x6, x7], [.int 0], aa_H (zz_w (zz_w g 454 3 s0) 454 4 b4)) rfl r
      exact rn_ire rfl r
noncomputable def fn_26_79 (g : aa_G) (b2 : Int32) (b3 : Int32) (b4 : Int32) (b5 : Int32) (b6 : Int32) (b7 : Int32) : Int32 × aa_G := if b7 = 0 then fn_26_91 g else if (fn_27 g) = 0 then if b5 = 0 then fn_26_110 g b2 b3 b4 b6 else fn_26_110 g b2 b3 b4 (-b6) else fn_26_91 g
theorem dn_26_79 {v : Option Value} {h : zz_H} {n : Nat} {g : aa_G} {b2 : Int32} {b3 : Int32} {b4 : Int32} {b5 : Int32} {b6 : Int32} {b7 : Int32}  (x1 : Option Value) (jx1 : rn_jk x1) (r : rn_s n 26 (79, [some (.ref 454), x1, some (.int b2), some (.int b3), some (.int b4), some (.int b5), some (.int b6), some (.int b7)], [], aa_H g) v h) : iw_s v h (fn_26_79 g b2 b3 b4 b5 b6 b7) := by
  unfold fn_26_79
  obtain ⟨n27, ln27, r⟩ := rn_steps 0 (81, [some (.ref 454), x1, some (.int b2), some (.int b3), some (.int b4), some (.int b5), some (.int b6), some (.int b7)], [.int b7], aa_H g) rfl r
  refine rn_if (iw_s v h) rfl decide_eq_true_iff.symm r (fun c28 l29n l29 r => ?_) (fun c28 l29n l29 r => ?_)
  · exact dn_26_91 x1 (some (.int b2)) (some (.int b3)) (some (.int b4)) (some (.int b5)) (some (.int b6)) (some (.int b7)) jx1 rn_ji rn_ji rn_ji rn_ji rn_ji rn_ji r
  · obtain ⟨n30, ln30, r⟩ := rn_steps 0 (85, [some (.ref 454), x1, some (.int b2), some (.int b3), some (.int b4), some (.int b5), some (.int b6), some (.int b7)], [.ref 454], aa_H g) rfl r
    obtain ⟨_, n31, v1, h1, -, ln31, rc, r⟩ := rn_call (m2 := 27) (as := [.ref 454]) (rest := []) rfl rfl r
    obtain ⟨rfl, rfl⟩ := dn_27 rc
    have r : rn_s _ 26 (88, [some (.ref 454), x1, some (.int b2), some (.int b3), some (.int b4), some (.int b5), some (.int b6), some (.int b7)], [.int (fn_27 g)], aa_H g) v h := r
    refine rn_if (iw_s v h) rfl decide_eq_true_iff.symm r (fun c33 l34n l34 r => ?_) (fun c33 l34n l34 r => ?_)
    · obtain ⟨n35, ln35, r⟩ := rn_steps 1 (99, [some (.ref 454), x1, some (.int b2), some (.int b3), some (.int b4), some (.int b5), some (.int b6), some (.int b7)], [.int b5, .ref 454], aa_H g) rfl r
      refine rn_if (iw_s v h) rfl decide_eq_true_iff.symm r (fun c36 l37n l37 r => ?_) (fun c36 l37n l37 r => ?_)
      · obtain ⟨n38, ln38, r⟩ := rn_steps 0 (110, [some (.ref 454), x1, some (.int b2), some (.int b3), some (.int b4), some (.int b5), some (.int b6), some (.int b7)], [.int b6, .ref 454], aa_H g) rfl r
        exact dn_26_110 x1 (some (.int b5)) (some (.int b6)) (some (.int b7)) jx1 rn_ji rn_ji rn_ji r
      · obtain ⟨n39, ln39, r⟩ := rn_steps 2 (110, [some (.ref 454), x1, some (.int b2), some (.int b3), some (.int b4), some (.int b5), some (.int b6), some (.int b7)], [.int (-b6), .ref 454], aa_H g) rfl r
        exact dn_26_110 x1 (some (.int b5)) (some (.int b6)) (some (.int b7)) jx1 rn_ji rn_ji rn_ji r
    · exact dn_26_91 x1 (some (.int b2)) (some (.int b3)) (some (.int b4)) (some (.int b5)) (some (.int b6)) (some (.int b7)) jx1 rn_ji rn_ji rn_ji rn_ji rn_ji rn_ji r
noncomputable def fn_26_41b (g : aa_G) (b2 : Int32) (b3 : Int32) (b4 : Int32) (b5 : Int32) (b6 : Int32) (b7 : Int32) : (aa_G × Int32 × Int32) ⊕ (Int32 × aa_G) := if 5 ≤ b7 then .inr (fn_26_79 g b2 b3 b4 b5 b6 b7) else if (fn_27 g) = 0 then .inr (fn_26_79 g b2 b3 b4 b5 b6 b7) else fn_26_73 (fn_21 g) b2 b3 b4 b5 (((b6 * 10) + (g 454 2)) - 48) b7
noncomputable def fn_26_41 (g : aa_G) (b2 : Int32) (b3 : Int32) (b4 : Int32) (b5 : Int32) (b6 : Int32) (b7 : Int32) : Int32 × aa_G := lp_f (0, g) (fun z : (aa_G × Int32 × Int32) => fn_26_41b z.1 b2 b3 b4 b5 z.2.1 z.2.2) (g, b6, b7)
theorem dn_26_41l {v : Option Value} {h : zz_H} {N : Nat} {b2 : Int32} {b3 : Int32} {b4 : Int32} {b5 : Int32} {d : Int32 × aa_G} : ∀ (n : Nat), n ≤ N → ∀ (g : aa_G) (b6 : Int32) (b7 : Int32) (x1 : Option Value) (jx1 : rn_jk x1), rn_s n 26 (41, [some (.ref 454), x1, some (.int b2), some (.int b3), some (.int b4), some (.int b5), some (.int b6), some (.int b7)], [], aa_H g) v h → (iw_s v h) (lp_f d (fun z : (aa_G × Int32 × Int32) => fn_26_41b z.1 b2 b3 b4 b5 z.2.1 z.2.2) (g, b6, b7)) := by
  generalize hf : (fun z : (aa_G × Int32 × Int32) => fn_26_41b z.1 b2 b3 b4 b5 z.2.1 z.2.2) = f
  intro n
  induction n using Nat.strongRecOn with
  | _ n ih =>
    intro hN g b6 b7 x1 jx1 r
    refine lp_go ?_
    rw [← congrFun hf (g, b6, b7)]
    show lp_q (iw_s v h) d f (fn_26_41b g b2 b3 b4 b5 b6 b7)
    unfold fn_26_41b
    obtain ⟨n16, ln16, r⟩ := rn_steps 1 (44, [some (.ref 454), x1, some (.int b2), some (.int b3), some (.int b4), some (.int b5), some (.int b6), some (.int b7)], [.int 5, .int b7], aa_H g) rfl r
    refine rn_ic (lp_q (iw_s v h) d f) rfl decide_eq_true_iff.symm r (fun c17 l18n l18 r => ?_) (fun c17 l18n l18 r => ?_)
    · exact dn_26_79 x1 jx1 r
    · obtain ⟨n19, ln19, r⟩ := rn_steps 0 (48, [some (.ref 454), x1, some (.int b2), some (.int b3), some (.int b4), some (.int b5), some (.int b6), some (.int b7)], [.ref 454], aa_H g) rfl r
      obtain ⟨_, n20, v1, h1, -, ln20, rc, r⟩ := rn_call (m2 := 27) (as := [.ref 454]) (rest := []) rfl rfl r
      obtain ⟨rfl, rfl⟩ := dn_27 rc
      have r : rn_s _ 26 (51, [some (.ref 454), x1, some (.int b2), some (.int b3), some (.int b4), some (.int b5), some (.int b6), some (.int b7)], [.int (fn_27 g)], aa_H g) v h := r
      refine rn_if (lp_q (iw_s v h) d f) rfl decide_eq_true_iff.symm r (fun c22 l23n l23 r => ?_) (fun c22 l23n l23 r => ?_)
      · exact dn_26_79 x1 jx1 r
      · obtain ⟨n24, ln24, r⟩ := rn_steps 9 (70, [some (.ref 454), x1, some (.int b2), some (.int b3), some (.int b4), some (.int b5), some (.int (((b6 * 10) + (g 454 2)) - 48)), some (.int b7)], [.ref 454], aa_H g) rfl r
        obtain ⟨_, n25, v1, h1, -, ln25, rc, r⟩ := rn_call (m2 := 21) (as := [.ref 454]) (rest := []) rfl rfl r
        obtain ⟨rfl, rfl⟩ := dn_21 rc
        have r : rn_s _ 26 (73, [some (.ref 454), x1, some (.int b2), some (.int b3), some (.int b4), some (.int b5), some (.int (((b6 * 10) + (g 454 2)) - 48)), some (.int b7)], [], aa_H (fn_21 g)) v h := r
        exact dn_26_73 (lp_q (iw_s v h) d f) (fun n2 l2 => ih n2 (by omega) (by omega)) (fun z hz => hz) x1 jx1 r
theorem dn_26_41 {v : Option Value} {h : zz_H} {n : Nat} {g : aa_G} {b2 : Int32} {b3 : Int32} {b4 : Int32} {b5 : Int32} {b6 : Int32} {b7 : Int32}  (x1 : Option Value) (jx1 : rn_jk x1) (r : rn_s n 26 (41, [some (.ref 454), x1, some (.int b2), some (.int b3), some (.int b4), some (.int b5), some (.int b6), some (.int b7)], [], aa_H g) v h) : (iw_s v h) (fn_26_41 g b2 b3 b4 b5 b6 b7) := dn_26_41l  n (Nat.le_refl n) g b6 b7 x1 jx1 r
noncomputable def fn_26_35 (g : aa_G) (b2 : Int32) (b3 : Int32) (b4 : Int32) (b5 : Int32) : Int32 × aa_G := fn_26_41 g b2 b3 b4 b5 0 0
theorem dn_26_35 {v : Option Value} {h : zz_H} {n : Nat} {g : aa_G} {b2 : Int32} {b3 : Int32} {b4 : Int32} {b5 : Int32}  (x1 x6 x7 : Option Value) (jx1 : rn_jk x1) (jx6 : rn_jk x6) (jx7 : rn_jk x7) (r : rn_s n 26 (35, [some (.ref 454), x1, some (.int b2), some (.int b3), some (.int b4), some (.int b5), x6, x7], [], aa_H g) v h) : iw_s v h (fn_26_35 g b2 b3 b4 b5) := by
  unfold fn_26_35
  obtain ⟨n15, ln15, r⟩ := rn_steps 3 (41, [some (.ref 454), x1, some (.int b2), some (.int b3), some (.int b4), some (.int b5), some (.int 0), some (.int 0)], [], aa_H g) rfl r
  exact dn_26_41 x1 jx1 r
noncomputable def fn_26_24 (g : aa_G) (b2 : Int32) (b3 : Int32) (b4 : Int32) (s0 : Int32) : Int32 × aa_G := if s0 = 0 then fn_26_35 g b2 b3 b4 s0 else fn_26_35 (fn_21 g) b2 b3 b4 s0
theorem dn_26_24 {v : Option Value} {h : zz_H} {n : Nat} {g : aa_G} {b2 : Int32} {b3 : Int32} {b4 : Int32} {s0 : Int32}  (x1 x5 x6 x7 : Option Value) (jx1 : rn_jk x1) (jx5 : rn_jk x5) (jx6 : rn_jk x6) (jx7 : rn_jk x7) (r : rn_s n 26 (24, [some (.ref 454), x1, some (.int b2), some (.int b3), some (.int b4), x5, x6, x7], [.int s0], aa_H g) v h) : iw_s v h (fn_26_24 g b2 b3 b4 s0) := by
  unfold fn_26_24
  obtain ⟨n9, ln9, r⟩ := rn_steps 1 (28, [some (.ref 454), x1, some (.int b2), some (.int b3), some (.int b4), some (.int s0), x6, x7], [.int s0], aa_H g) rfl r
  refine rn_if (iw_s v h) rfl decide_eq_true_iff.symm r (fun c10 l11n l11 r => ?_) (fun c10 l11n l11 r => ?_)
  · exact dn_26_35 x1 x6 x7 jx1 jx6 jx7 r
  · obtain ⟨n12, ln12, r⟩ := rn_steps 0 (32, [some (.ref 454), x1, some (.int b2), some (.int b3), some (.int b4), some (.int s0), x6, x7], [.ref 454], aa_H g) rfl r
    obtain ⟨_, n13, v1, h1, -, ln13, rc, r⟩ := rn_call (m2 := 21) (as := [.ref 454]) (rest := []) rfl rfl r
    obtain ⟨rfl, rfl⟩ := dn_21 rc
    have r : rn_s _ 26 (35, [some (.ref 454), x1, some (.int b2), some (.int b3), some (.int b4), some (.int s0), x6, x7], [], aa_H (fn_21 g)) v h := r
    exact dn_26_35 x1 x6 x7 jx1 jx6 jx7 r
noncomputable def fn_26_23 (g : aa_G) (b2 : Int32) (b3 : Int32) (b4 : Int32) : Int32 × aa_G := fn_26_24 g b2 b3 b4 0
theorem dn_26_23 {v : Option Value} {h : zz_H} {n : Nat} {g : aa_G} {b2 : Int32} {b3 : Int32} {b4 : Int32}  (x1 x5 x6 x7 : Option Value) (jx1 : rn_jk x1) (jx5 : rn_jk x5) (jx6 : rn_jk x6) (jx7 : rn_jk x7) (r : rn_s n 26 (23, [some (.ref 454), x1, some (.int b2), some (.int b3), some (.int b4), x5, x6, x7], [], aa_H g) v h) : iw_s v h (fn_26_23 g b2 b3 b4) := by
  unfold fn_26_23
  obtain ⟨n8, ln8, r⟩ := rn_steps 0 (24, [some (.ref 454), x1, some (.int b2), some (.int b3), some (.int b4), x5, x6, x7], [.int 0], aa_H g) rfl r
  exact dn_26_24 x1 x5 x6 x7 jx1 jx5 jx6 jx7 r
noncomputable def fn_26 (g : aa_G) (a1 : Int32) (a2 : Int32) (a3 : Int32) : Int32 × aa_G := if a1 = 0 then fn_26_23 g a2 a3 (g 454 1) else if (g 454 2) ≠ 45 then fn_26_23 g a2 a3 (g 454 1) else fn_26_24 g a2 a3 (g 454 1) 1
theorem dn_26 {v : Option Value} {h : zz_H} {n : Nat} {g : aa_G} {a1 : Int32} {a2 : Int32} {a3 : Int32}  (r : rn_s n 26 (0, zz_in [.ref 454, .int a1, .int a2, .int a3] (zz_nl 26), [], aa_H g) v h) : iw_s v h (fn_26 g a1 a2 a3) := by
  have r : rn_s n 26 (0, [some (.ref 454), some (.int a1), some (.int a2), some (.int a3), none, none, none, none], [], aa_H g) v h := r
  unfold fn_26
  obtain ⟨n1, ln1, r⟩ := rn_steps 3 (7, [some (.ref 454), some (.int a1), some (.int a2), some (.int a3), some (.int (g 454 1)), none, none, none], [.int a1], aa_H g) rfl r
  refine rn_if (iw_s v h) rfl decide_eq_true_iff.symm r (fun c2 l3n l3 r => ?_) (fun c2 l3n l3 r => ?_)
  · exact dn_26_23 (some (.int a1)) none none none rn_ji rn_jn rn_jn rn_jn r
  · obtain ⟨n4, ln4, r⟩ := rn_steps 2 (16, [some (.ref 454), some (.int a1), some (.int a2), some (.int a3), some (.int (g 454 1)), none, none, none], [.int 45, .int (g 454 2)], aa_H g) rfl r
    refine rn_ic (iw_s v h) rfl decide_eq_true_iff.symm r (fun c5 l6n l6 r => ?_) (fun c5 l6n l6 r => ?_)
    · exact dn_26_23 (some (.int a1)) none none none rn_ji rn_jn rn_jn rn_jn r
    · obtain ⟨n7, ln7, r⟩ := rn_steps 1 (24, [some (.ref 454), some (.int a1), some (.int a2), some (.int a3), some (.int (g 454 1)), none, none, none], [.int 1], aa_H g) rfl r
      exact dn_26_24 (some (.int a1)) none none none rn_ji rn_jn rn_jn rn_jn r
-- 56: UnequalHours Acts numbersOf
noncomputable def fn_56 (a0 : Int32) : Int32 := if a0.toInt = 111 then 2 else if a0.toInt = 112 then 0 else if a0.toInt = 113 then 1 else if a0.toInt = 114 then 2 else if a0.toInt = 115 then 4 else 0
theorem dn_56 {v : Option Value} {h : zz_H} {n : Nat} {g : aa_G} {a0 : Int32}  (r : rn_s n 56 (0, zz_in [.int a0] (zz_nl 56), [], aa_H g) v h) : ir_s g v h (fn_56 a0) := by
  have r : rn_s n 56 (0, [some (.int a0)], [], aa_H g) v h := r
  unfold fn_56
  obtain ⟨n1, ln1, r⟩ := rn_steps 0 (1, [some (.int a0)], [.int a0], aa_H g) rfl r
  obtain ⟨n2, ln2, r⟩ := rn_swi rfl r
  refine rn_sw1 (ir_s g v h) r (fun c3 r => ?_) (fun c3 r => ?_)
  · have r : rn_s _ 56 (38, [some (.int a0)], [], aa_H g) v h := r
    obtain ⟨n4, ln4, r⟩ := rn_steps 0 (39, [some (.int a0)], [.int 2], aa_H g) rfl r
    exact rn_ire rfl r
  · refine rn_sw1 (ir_s g v h) r (fun c5 r => ?_) (fun c5 r => ?_)
    · have r : rn_s _ 56 (42, [some (.int a0)], [], aa_H g) v h := r
      obtain ⟨n6, ln6, r⟩ := rn_steps 0 (43, [some (.int a0)], [.int 0], aa_H g) rfl r
      exact rn_ire rfl r
    · refine rn_sw1 (ir_s g v h) r (fun c7 r => ?_) (fun c7 r => ?_)
      · have r : rn_s _ 56 (36, [some (.int a0)], [], aa_H g) v h := r
        obtain ⟨n8, ln8, r⟩ := rn_steps 0 (37, [some (.int a0)], [.int 1], aa_H g) rfl r
        exact rn_ire rfl r
      · refine rn_sw1 (ir_s g v h) r (fun c9 r => ?_) (fun c9 r => ?_)
        · have r : rn_s _ 56 (38, [some (.int a0)], [], aa_H g) v h := r
          obtain ⟨n10, ln10, r⟩ := rn_steps 0 (39, [some (.int a0)], [.int 2], aa_H g) rfl r
          exact rn_ire rfl r
        · refine rn_sw1 (ir_s g v h) r (fun c11 r => ?_) (fun c11 r => ?_)
          · have r : rn_s _ 56 (40, [some (.int a0)], [], aa_H g) v h := r
            obtain ⟨n12, ln12, r⟩ := rn_steps 0 (41, [some (.int a0)], [.int 4], aa_H g) rfl r
            exact rn_ire rfl r
          · have r : rn_s _ 56 (42, [some (.int a0)], [], aa_H g) v h := r
            obtain ⟨n13, ln13, r⟩ := rn_steps 0 (43, [some (.int a0)], [.int 0], aa_H g) rfl r
            exact rn_ire rfl r
-- 55: UnequalHours Acts readAct
noncomputable def fn_55_21 (g : aa_G)  : Int32 × aa_G := ((fn_25 g).1, (fn_25 g).2)
theorem dn_55_21 {v : Option Value} {h : zz_H} {n : Nat} {g : aa_G}   (x0 x2 x3 : Option Value) (jx0 : rn_jk x0) (jx2 : rn_jk x2) (jx3 : rn_jk x3) (r : rn_s n 55 (21, [x0, some (.ref 454), x2, x3], [], aa_H g) v h) : iw_s v h (fn_55_21 g) := by
  unfold fn_55_21
  obtain ⟨n16, ln16, r⟩ := rn_steps 0 (22, [x0, some (.ref 454), x2, x3], [.ref 454], aa_H g) rfl r
  obtain ⟨_, n17, v1, h1, -, ln17, rc, r⟩ := rn_call (m2 := 25) (as := [.ref 454]) (rest := []) rfl rfl r
  obtain ⟨rfl, rfl⟩ := dn_25 rc
  have r : rn_s _ 55 (25, [x0, some (.ref 454), x2, x3], [.int ((fn_25 g).1)], aa_H ((fn_25 g).2)) v h := r
  exact rn_ire rfl r
noncomputable def fn_55_77 (g : aa_G) (b2 : Int32) (b3 : Int32) (s0 : Int32) : (aa_G × Int32) ⊕ (Int32 × aa_G) := if s0 ≠ 0 then .inl (zz_w g 458 (((g 456 0) * 4) + b3).toNatClampNeg (g 454 3), b3 + 1) else .inr (0, g)
theorem dn_55_77 {v : Option Value} {h : zz_H} {n : Nat} {g : aa_G} {b2 : Int32} {b3 : Int32} {s0 : Int32} (P : (aa_G × Int32) ⊕ (Int32 × aa_G) → Prop) (hO0 : ∀ n2, n2 < n → ∀ (yg : aa_G) (yb3 : Int32), rn_s n2 55 (45, [some (.ref 456), some (.ref 454), some (.int b2), some (.int yb3)], [], aa_H yg) v h → P (.inl (yg, yb3))) (hR : ∀ E, iw_s v h E → P (.inr E))  (r : rn_s n 55 (77, [some (.ref 456), some (.ref 454), some (.int b2), some (.int b3)], [.int s0], aa_H g) v h) : P (fn_55_77 g b2 b3 s0) := by
  unfold fn_55_77
  refine rn_if (P) rfl decide_eq_true_iff.symm r (fun c40 l41n l41 r => ?_) (fun c40 l41n l41 r => ?_)
  · obtain ⟨n42, ln42, r⟩ := rn_steps 9 (98, [some (.ref 456), some (.ref 454), some (.int b2), some (.int b3)], [.int (g 454 3), .int (((g 456 0) * 4) + b3), .ref 458], aa_H g) rfl r
    obtain ⟨hb44, n43, ln43, r⟩ := rn_ias (k := 458) rfl ⟨by decide, by decide⟩ rfl r
    have r : rn_s _ 55 (99, [some (.ref 456), some (.ref 454), some (.int b2), some (.int b3)], [], aa_H (zz_w g 458 (((g 456 0) * 4) + b3).toNatClampNeg (g 454 3))) v h := r
    obtain ⟨n45, ln45, r⟩ := rn_steps 1 (45, [some (.ref 456), some (.ref 454), some (.int b2), some (.int (b3 + 1))], [], aa_H (zz_w g 458 (((g 456 0) * 4) + b3).toNatClampNeg (g 454 3))) rfl r
    exact hO0 _ (by omega) (zz_w g 458 (((g 456 0) * 4) + b3).toNatClampNeg (g 454 3)) (b3 + 1) r
  · obtain ⟨n46, ln46, r⟩ := rn_steps 0 (81, [some (.ref 456), some (.ref 454), some (.int b2), some (.int b3)], [.int 0], aa_H g) rfl r
    exact hR _ (rn_ire rfl r)
noncomputable def fn_55_68 (g : aa_G) (b2 : Int32) (b3 : Int32) : (aa_G × Int32) ⊕ (Int32 × aa_G) := fn_55_77 ((fn_26 g 1 (-99999) 99999).2) b2 b3 ((fn_26 g 1 (-99999) 99999).1)
theorem dn_55_68 {v : Option Value} {h : zz_H} {n : Nat} {g : aa_G} {b2 : Int32} {b3 : Int32} (P : (aa_G × Int32) ⊕ (Int32 × aa_G) → Prop) (hO0 : ∀ n2, n2 < n → ∀ (yg : aa_G) (yb3 : Int32), rn_s n2 55 (45, [some (.ref 456), some (.ref 454), some (.int b2), some (.int yb3)], [], aa_H yg) v h → P (.inl (yg, yb3))) (hR : ∀ E, iw_s v h E → P (.inr E))  (r : rn_s n 55 (68, [some (.ref 456), some (.ref 454), some (.int b2), some (.int b3)], [], aa_H g) v h) : P (fn_55_68 g b2 b3) := by
  unfold fn_55_68
  obtain ⟨n34, ln34, r⟩ := rn_steps 3 (74, [some (.ref 456), some (.ref 454), some (.int b2), some (.int b3)], [.int 99999, .int (-99999), .int 1, .ref 454], aa_H g) rfl r
  obtain ⟨_, n35, v1, h1, -, ln35, rc, r⟩ := rn_call (m2 := 26) (as := [.ref 454, .int 1, .int (-99999), .int 99999]) (rest := []) rfl rfl r
  obtain ⟨rfl, rfl⟩ := dn_26 rc
  have r : rn_s _ 55 (77, [some (.ref 456), some (.ref 454), some (.int b2), some (.int b3)], [.int ((fn_26 g 1 (-99999) 99999).1)], aa_H ((fn_26 g 1 (-99999) 99999).2)) v h := r
  exact dn_55_77 (P) (fun n2 l2 => hO0 n2 (by omega)) (fun z hz => hR _ hz) r
noncomputable def fn_55_65 (g : aa_G) (b2 : Int32) (b3 : Int32) (s0 : Int32) : (aa_G × Int32) ⊕ (Int32 × aa_G) := if s0 = 0 then .inr (0, g) else fn_55_68 g b2 b3
theorem dn_55_65 {v : Option Value} {h : zz_H} {n : Nat} {g : aa_G} {b2 : Int32} {b3 : Int32} {s0 : Int32} (P : (aa_G × Int32) ⊕ (Int32 × aa_G) → Prop) (hO0 : ∀ n2, n2 < n → ∀ (yg : aa_G) (yb3 : Int32), rn_s n2 55 (45, [some (.ref 456), some (.ref 454), some (.int b2), some (.int yb3)], [], aa_H yg) v h → P (.inl (yg, yb3))) (hR : ∀ E, iw_s v h E → P (.inr E))  (r : rn_s n 55 (65, [some (.ref 456), some (.ref 454), some (.int b2), some (.int b3)], [.int s0], aa_H g) v h) : P (fn_55_65 g b2 b3 s0) := by
  unfold fn_55_65
  refine rn_if (P) rfl decide_eq_true_iff.symm r (fun c37 l38n l38 r => ?_) (fun c37 l38n l38 r => ?_)
  · obtain ⟨n39, ln39, r⟩ := rn_steps 0 (81, [some (.ref 456), some (.ref 454), some (.int b2), some (.int b3)], [.int 0], aa_H g) rfl r
    exact hR _ (rn_ire rfl r)
  · exact dn_55_68 (P) (fun n2 l2 => hO0 n2 (by omega)) (fun z hz => hR _ hz) r
noncomputable def fn_55_45b (g : aa_G) (b2 : Int32) (b3 : Int32) : (aa_G × Int32) ⊕ (Int32 × aa_G) := if b2 ≤ b3 then .inr (1, zz_w g 456 0 ((g 456 0) + 1)) else if 4 ≤ b3 then .inr (1, zz_w g 456 0 ((g 456 0) + 1)) else if b3 ≤ 0 then fn_55_68 g b2 b3 else fn_55_65 ((fn_33 g 44).2) b2 b3 ((fn_33 g 44).1)
noncomputable def fn_55_45 (g : aa_G) (b2 : Int32) (b3 : Int32) : Int32 × aa_G := lp_f (0, g) (fun z : (aa_G × Int32) => fn_55_45b z.1 b2 z.2) (g, b3)
theorem dn_55_45l {v : Option Value} {h : zz_H} {N : Nat} {b2 : Int32} {d : Int32 × aa_G} : ∀ (n : Nat), n ≤ N → ∀ (g : aa_G) (b3 : Int32), rn_s n 55 (45, [some (.ref 456), some (.ref 454), some (.int b2), some (.int b3)], [], aa_H g) v h → (iw_s v h) (lp_f d (fun z : (aa_G × Int32) => fn_55_45b z.1 b2 z.2) (g, b3)) := by
  generalize hf : (fun z : (aa_G × Int32) => fn_55_45b z.1 b2 z.2) = f
  intro n
  induction n using Nat.strongRecOn with
  | _ n ih =>
    intro hN g b3  r
    refine lp_go ?_
    rw [← congrFun hf (g, b3)]
    show lp_q (iw_s v h) d f (fn_55_45b g b2 b3)
    unfold fn_55_45b
    obtain ⟨n20, ln20, r⟩ := rn_steps 1 (47, [some (.ref 456), some (.ref 454), some (.int b2), some (.int b3)], [.int b2, .int b3], aa_H g) rfl r
    refine rn_ic (lp_q (iw_s v h) d f) rfl decide_eq_true_iff.symm r (fun c21 l22n l22 r => ?_) (fun c21 l22n l22 r => ?_)
    · obtain ⟨n23, ln23, r⟩ := rn_steps 6 (116, [some (.ref 456), some (.ref 454), some (.int b2), some (.int b3)], [.int 1], aa_H (zz_w g 456 0 ((g 456 0) + 1))) rfl r
      exact rn_ire rfl r
    · obtain ⟨n24, ln24, r⟩ := rn_steps 1 (52, [some (.ref 456), some (.ref 454), some (.int b2), some (.int b3)], [.int 4, .int b3], aa_H g) rfl r
      refine rn_ic (lp_q (iw_s v h) d f) rfl decide_eq_true_iff.symm r (fun c25 l26n l26 r => ?_) (fun c25 l26n l26 r => ?_)
      · obtain ⟨n27, ln27, r⟩ := rn_steps 6 (116, [some (.ref 456), some (.ref 454), some (.int b2), some (.int b3)], [.int 1], aa_H (zz_w g 456 0 ((g 456 0) + 1))) rfl r
        exact rn_ire rfl r
      · obtain ⟨n28, ln28, r⟩ := rn_steps 0 (56, [some (.ref 456), some (.ref 454), some (.int b2), some (.int b3)], [.int b3], aa_H g) rfl r
        refine rn_if (lp_q (iw_s v h) d f) rfl decide_eq_true_iff.symm r (fun c29 l30n l30 r => ?_) (fun c29 l30n l30 r => ?_)
        · exact dn_55_68 (lp_q (iw_s v h) d f) (fun n2 l2 => ih n2 (by omega) (by omega)) (fun z hz => hz) r
        · obtain ⟨n31, ln31, r⟩ := rn_steps 1 (62, [some (.ref 456), some (.ref 454), some (.int b2), some (.int b3)], [.int 44, .ref 454], aa_H g) rfl r
          obtain ⟨_, n32, v1, h1, -, ln32, rc, r⟩ := rn_call (m2 := 33) (as := [.ref 454, .int 44]) (rest := []) rfl rfl r
          obtain ⟨rfl, rfl⟩ := dn_33 rc
          have r : rn_s _ 55 (65, [some (.ref 456), some (.ref 454), some (.int b2), some (.int b3)], [.int ((fn_33 g 44).1)], aa_H ((fn_33 g 44).2)) v h := r
          exact dn_55_65 (lp_q (iw_s v h) d f) (fun n2 l2 => ih n2 (by omega) (by omega)) (fun z hz => hz) r
theorem dn_55_45 {v : Option Value} {h : zz_H} {n : Nat} {g : aa_G} {b2 : Int32} {b3 : Int32}  (r : rn_s n 55 (45, [some (.ref 456), some (.ref 454), some (.int b2), some (.int b3)], [], aa_H g) v h) : (iw_s v h) (fn_55_45 g b2 b3) := dn_55_45l  n (Nat.le_refl n) g b3 r
noncomputable def fn_55_43 (g : aa_G) (b2 : Int32) : Int32 × aa_G := fn_55_45 g b2 0
theorem dn_55_43 {v : Option Value} {h : zz_H} {n : Nat} {g : aa_G} {b2 : Int32}  (x3 : Option Value) (jx3 : rn_jk x3) (r : rn_s n 55 (43, [some (.ref 456), some (.ref 454), some (.int b2), x3], [], aa_H g) v h) : iw_s v h (fn_55_43 g b2) := by
  unfold fn_55_43
  obtain ⟨n19, ln19, r⟩ := rn_steps 1 (45, [some (.ref 456), some (.ref 454), some (.int b2), some (.int 0)], [], aa_H g) rfl r
  exact dn_55_45 r
noncomputable def fn_55 (g : aa_G)  : Int32 × aa_G := if 30 ≤ (g 456 0) then fn_55_21 g else if (fn_56 (g 454 2)) ≠ 0 then fn_55_43 (fn_21 (zz_w g 457 (g 456 0).toNatClampNeg (g 454 2))) (fn_56 (g 454 2)) else fn_55_21 g
theorem dn_55 {v : Option Value} {h : zz_H} {n : Nat} {g : aa_G}   (r : rn_s n 55 (0, zz_in [.ref 456, .ref 454] (zz_nl 55), [], aa_H g) v h) : iw_s v h (fn_55 g) := by
  have r : rn_s n 55 (0, [some (.ref 456), some (.ref 454), none, none], [], aa_H g) v h := r
  unfold fn_55
  obtain ⟨n1, ln1, r⟩ := rn_steps 1 (4, [some (.ref 456), some (.ref 454), none, none], [.int (g 454 2)], aa_H g) rfl r
  obtain ⟨_, n2, v1, h1, -, ln2, rc, r⟩ := rn_call (m2 := 56) (as := [.int (g 454 2)]) (rest := []) rfl rfl r
  obtain ⟨rfl, rfl⟩ := dn_56 rc
  have r : rn_s _ 55 (7, [some (.ref 456), some (.ref 454), none, none], [.int (fn_56 (g 454 2))], aa_H g) v h := r
  obtain ⟨n4, ln4, r⟩ := rn_steps 3 (14, [some (.ref 456), some (.ref 454), some (.int (fn_56 (g 454 2))), none], [.int 30, .int (g 456 0)], aa_H g) rfl r
  refine rn_ic (iw_s v h) rfl decide_eq_true_iff.symm r (fun c5 l6n l6 r => ?_) (fun c5 l6n l6 r => ?_)
  · exact dn_55_21 (some (.ref 456)) (some (.int (fn_56 (g 454 2)))) none rn_jr rn_ji rn_jn r
  · obtain ⟨n7, ln7, r⟩ := rn_steps 0 (18, [some (.ref 456), some (.ref 454), some (.int (fn_56 (g 454 2))), none], [.int (fn_56 (g 454 2))], aa_H g) rfl r
    refine rn_if (iw_s v h) rfl decide_eq_true_iff.symm r (fun c8 l9n l9 r => ?_) (fun c8 l9n l9 r => ?_)
    · obtain ⟨n10, ln10, r⟩ := rn_steps 5 (38, [some (.ref 456), some (.ref 454), some (.int (fn_56 (g 454 2))), none], [.int (g 454 2), .int (g 456 0), .ref 457], aa_H g) rfl r
      obtain ⟨hb12, n11, ln11, r⟩ := rn_ias (k := 457) rfl ⟨by decide, by decide⟩ rfl r
      have r : rn_s _ 55 (39, [some (.ref 456), some (.ref 454), some (.int (fn_56 (g 454 2))), none], [], aa_H (zz_w g 457 (g 456 0).toNatClampNeg (g 454 2))) v h := r
      obtain ⟨n13, ln13, r⟩ := rn_steps 0 (40, [some (.ref 456), some (.ref 454), some (.int (fn_56 (g 454 2))), none], [.ref 454], aa_H (zz_w g 457 (g 456 0).toNatClampNeg (g 454 2))) rfl r
      obtain ⟨_, n14, v1, h1, -, ln14, rc, r⟩ := rn_call (m2 := 21) (as := [.ref 454]) (rest := []) rfl rfl r
      obtain ⟨rfl, rfl⟩ := dn_21 rc
      have r : rn_s _ 55 (43, [some (.ref 456), some (.ref 454), some (.int (fn_56 (g 454 2))), none], [], aa_H (fn_21 (zz_w g 457 (g 456 0).toNatClampNeg (g 454 2)))) v h := r
      exact dn_55_43 none rn_jn r
    · exact dn_55_21 (some (.ref 456)) (some (.int (fn_56 (g 454 2)))) none rn_jr rn_ji rn_jn r
-- 22: UnequalHours Tape hasMore
noncomputable def fn_22 (g : aa_G)  : Int32 := if (g 454 0) ≤ (g 454 1) then 0 else 1
theorem dn_22 {v : Option Value} {h : zz_H} {n : Nat} {g : aa_G}   (r : rn_s n 22 (0, zz_in [.ref 454] (zz_nl 22), [], aa_H g) v h) : ir_s g v h (fn_22 g) := by
  have r : rn_s n 22 (0, [some (.ref 454)], [], aa_H g) v h := r
  unfold fn_22
  obtain ⟨n1, ln1, r⟩ := rn_steps 3 (8, [some (.ref 454)], [.int (g 454 0), .int (g 454 1)], aa_H g) rfl r
  refine rn_ic (ir_s g v h) rfl decide_eq_true_iff.symm r (fun c2 l3n l3 r => ?_) (fun c2 l3n l3 r => ?_)
  · obtain ⟨n4, ln4, r⟩ := rn_steps 0 (16, [some (.ref 454)], [.int 0], aa_H g) rfl r
    exact rn_ire rfl r
  · obtain ⟨n5, ln5, r⟩ := rn_steps 1 (16, [some (.ref 454)], [.int 1], aa_H g) rfl r
    exact rn_ire rfl r
-- 20: UnequalHours Tape rewind
noncomputable def fn_20 (g : aa_G)  : aa_G := fn_21 (zz_w (zz_w g 454 4 (-1)) 454 1 (-1))
theorem dn_20 {v : Option Value} {h : zz_H} {n : Nat} {g : aa_G}   (r : rn_s n 20 (0, zz_in [.ref 454] (zz_nl 20), [], aa_H g) v h) : ig_s v h (fn_20 g) := by
  have r : rn_s n 20 (0, [some (.ref 454)], [], aa_H g) v h := r
  unfold fn_20
  obtain ⟨n1, ln1, r⟩ := rn_steps 6 (11, [some (.ref 454)], [.ref 454], aa_H (zz_w (zz_w g 454 4 (-1)) 454 1 (-1))) rfl r
  obtain ⟨_, n2, v1, h1, -, ln2, rc, r⟩ := rn_call (m2 := 21) (as := [.ref 454]) (rest := []) rfl rfl r
  obtain ⟨rfl, rfl⟩ := dn_21 rc
  have r : rn_s _ 20 (14, [some (.ref 454)], [], aa_H (fn_21 (zz_w (zz_w g 454 4 (-1)) 454 1 (-1)))) v h := r
  exact rn_ret 1 rfl r
-- 54: UnequalHours Acts read
noncomputable def fn_54_39 (g : aa_G) (b2 : Int32) (s0 : Int32) : (aa_G × Int32) ⊕ (Int32 × aa_G) := if s0 ≠ 0 then .inl (g, b2 + 1) else .inr (-1, g)
theorem dn_54_39 {v : Option Value} {h : zz_H} {n : Nat} {g : aa_G} {b2 : Int32} {s0 : Int32} (P : (aa_G × Int32) ⊕ (Int32 × aa_G) → Prop) (hO0 : ∀ n2, n2 < n → ∀ (yg : aa_G) (yb2 : Int32), rn_s n2 54 (11, [some (.ref 456), some (.ref 454), some (.int yb2)], [], aa_H yg) v h → P (.inl (yg, yb2))) (hR : ∀ E, iw_s v h E → P (.inr E))  (r : rn_s n 54 (39, [some (.ref 456), some (.ref 454), some (.int b2)], [.int s0], aa_H g) v h) : P (fn_54_39 g b2 s0) := by
  unfold fn_54_39
  refine rn_if (P) rfl decide_eq_true_iff.symm r (fun c24 l25n l25 r => ?_) (fun c24 l25n l25 r => ?_)
  · obtain ⟨n26, ln26, r⟩ := rn_steps 1 (11, [some (.ref 456), some (.ref 454), some (.int (b2 + 1))], [], aa_H g) rfl r
    exact hO0 _ (by omega) g (b2 + 1) r
  · obtain ⟨n27, ln27, r⟩ := rn_steps 0 (43, [some (.ref 456), some (.ref 454), some (.int b2)], [.int (-1)], aa_H g) rfl r
    exact hR _ (rn_ire rfl r)
noncomputable def fn_54_30 (g : aa_G) (b2 : Int32) (s0 : Int32) : (aa_G × Int32) ⊕ (Int32 × aa_G) := if s0 = 0 then .inr (-1, g) else fn_54_39 ((fn_33 g 59).2) b2 ((fn_33 g 59).1)
theorem dn_54_30 {v : Option Value} {h : zz_H} {n : Nat} {g : aa_G} {b2 : Int32} {s0 : Int32} (P : (aa_G × Int32) ⊕ (Int32 × aa_G) → Prop) (hO0 : ∀ n2, n2 < n → ∀ (yg : aa_G) (yb2 : Int32), rn_s n2 54 (11, [some (.ref 456), some (.ref 454), some (.int yb2)], [], aa_H yg) v h → P (.inl (yg, yb2))) (hR : ∀ E, iw_s v h E → P (.inr E))  (r : rn_s n 54 (30, [some (.ref 456), some (.ref 454), some (.int b2)], [.int s0], aa_H g) v h) : P (fn_54_30 g b2 s0) := by
  unfold fn_54_30
  refine rn_if (P) rfl decide_eq_true_iff.symm r (fun c18 l19n l19 r => ?_) (fun c18 l19n l19 r => ?_)
  · obtain ⟨n20, ln20, r⟩ := rn_steps 0 (43, [some (.ref 456), some (.ref 454), some (.int b2)], [.int (-1)], aa_H g) rfl r
    exact hR _ (rn_ire rfl r)
  · obtain ⟨n21, ln21, r⟩ := rn_steps 1 (36, [some (.ref 456), some (.ref 454), some (.int b2)], [.int 59, .ref 454], aa_H g) rfl r
    obtain ⟨_, n22, v1, h1, -, ln22, rc, r⟩ := rn_call (m2 := 33) (as := [.ref 454, .int 59]) (rest := []) rfl rfl r
    obtain ⟨rfl, rfl⟩ := dn_33 rc
    have r : rn_s _ 54 (39, [some (.ref 456), some (.ref 454), some (.int b2)], [.int ((fn_33 g 59).1)], aa_H ((fn_33 g 59).2)) v h := r
    exact dn_54_39 (P) (fun n2 l2 => hO0 n2 (by omega)) (fun z hz => hR _ hz) r
noncomputable def fn_54_11b (g : aa_G) (b2 : Int32) : (aa_G × Int32) ⊕ (Int32 × aa_G) := if 500 ≤ b2 then .inr (g 456 0, g) else if (fn_22 g) = 0 then .inr (g 456 0, g) else fn_54_30 ((fn_55 g).2) b2 ((fn_55 g).1)
noncomputable def fn_54_11 (g : aa_G) (b2 : Int32) : Int32 × aa_G := lp_f (0, g) (fun z : (aa_G × Int32) => fn_54_11b z.1 z.2) (g, b2)
theorem dn_54_11l {v : Option Value} {h : zz_H} {N : Nat}  {d : Int32 × aa_G} : ∀ (n : Nat), n ≤ N → ∀ (g : aa_G) (b2 : Int32), rn_s n 54 (11, [some (.ref 456), some (.ref 454), some (.int b2)], [], aa_H g) v h → (iw_s v h) (lp_f d (fun z : (aa_G × Int32) => fn_54_11b z.1 z.2) (g, b2)) := by
  generalize hf : (fun z : (aa_G × Int32) => fn_54_11b z.1 z.2) = f
  intro n
  induction n using Nat.strongRecOn with
  | _ n ih =>
    intro hN g b2  r
    refine lp_go ?_
    rw [← congrFun hf (g, b2)]
    show lp_q (iw_s v h) d f (fn_54_11b g b2)
    unfold fn_54_11b
    obtain ⟨n5, ln5, r⟩ := rn_steps 1 (15, [some (.ref 456), some (.ref 454), some (.int b2)], [.int 500, .int b2], aa_H g) rfl r
    refine rn_ic (lp_q (iw_s v h) d f) rfl decide_eq_true_iff.symm r (fun c6 l7n l7 r => ?_) (fun c6 l7n l7 r => ?_)
    · obtain ⟨n8, ln8, r⟩ := rn_steps 1 (54, [some (.ref 456), some (.ref 454), some (.int b2)], [.int (g 456 0)], aa_H g) rfl r
      exact rn_ire rfl r
    · obtain ⟨n9, ln9, r⟩ := rn_steps 0 (19, [some (.ref 456), some (.ref 454), some (.int b2)], [.ref 454], aa_H g) rfl r
      obtain ⟨_, n10, v1, h1, -, ln10, rc, r⟩ := rn_call (m2 := 22) (as := [.ref 454]) (rest := []) rfl rfl r
      obtain ⟨rfl, rfl⟩ := dn_22 rc
      have r : rn_s _ 54 (22, [some (.ref 456), some (.ref 454), some (.int b2)], [.int (fn_22 g)], aa_H g) v h := r
      refine rn_if (lp_q (iw_s v h) d f) rfl decide_eq_true_iff.symm r (fun c12 l13n l13 r => ?_) (fun c12 l13n l13 r => ?_)
      · obtain ⟨n14, ln14, r⟩ := rn_steps 1 (54, [some (.ref 456), some (.ref 454), some (.int b2)], [.int (g 456 0)], aa_H g) rfl r
        exact rn_ire rfl r
      · obtain ⟨n15, ln15, r⟩ := rn_steps 1 (27, [some (.ref 456), some (.ref 454), some (.int b2)], [.ref 454, .ref 456], aa_H g) rfl r
        obtain ⟨_, n16, v1, h1, -, ln16, rc, r⟩ := rn_call (m2 := 55) (as := [.ref 456, .ref 454]) (rest := []) rfl rfl r
        obtain ⟨rfl, rfl⟩ := dn_55 rc
        have r : rn_s _ 54 (30, [some (.ref 456), some (.ref 454), some (.int b2)], [.int ((fn_55 g).1)], aa_H ((fn_55 g).2)) v h := r
        exact dn_54_30 (lp_q (iw_s v h) d f) (fun n2 l2 => ih n2 (by omega) (by omega)) (fun z hz => hz) r
theorem dn_54_11 {v : Option Value} {h : zz_H} {n : Nat} {g : aa_G} {b2 : Int32}  (r : rn_s n 54 (11, [some (.ref 456), some (.ref 454), some (.int b2)], [], aa_H g) v h) : (iw_s v h) (fn_54_11 g b2) := dn_54_11l  n (Nat.le_refl n) g b2 r
noncomputable def fn_54_4 (g : aa_G)  : Int32 × aa_G := fn_54_11 (zz_w g 456 0 0) 0
theorem dn_54_4 {v : Option Value} {h : zz_H} {n : Nat} {g : aa_G}   (x2 : Option Value) (jx2 : rn_jk x2) (r : rn_s n 54 (4, [some (.ref 456), some (.ref 454), x2], [], aa_H g) v h) : iw_s v h (fn_54_4 g) := by
  unfold fn_54_4
  obtain ⟨n4, ln4, r⟩ := rn_steps 4 (11, [some (.ref 456), some (.ref 454), some (.int 0)], [], aa_H (zz_w g 456 0 0)) rfl r
  exact dn_54_11 r
noncomputable def fn_54 (g : aa_G)  : Int32 × aa_G := fn_54_4 (fn_20 g)
theorem dn_54 {v : Option Value} {h : zz_H} {n : Nat} {g : aa_G}   (r : rn_s n 54 (0, zz_in [.ref 456, .ref 454] (zz_nl 54), [], aa_H g) v h) : iw_s v h (fn_54 g) := by
  have r : rn_s n 54 (0, [some (.ref 456), some (.ref 454), none], [], aa_H g) v h := r
  unfold fn_54
  obtain ⟨n1, ln1, r⟩ := rn_steps 0 (1, [some (.ref 456), some (.ref 454), none], [.ref 454], aa_H g) rfl r
  obtain ⟨_, n2, v1, h1, -, ln2, rc, r⟩ := rn_call (m2 := 20) (as := [.ref 454]) (rest := []) rfl rfl r
  obtain ⟨rfl, rfl⟩ := dn_20 rc
  have r : rn_s _ 54 (4, [some (.ref 456), some (.ref 454), none], [], aa_H (fn_20 g)) v h := r
  exact dn_54_4 none rn_jn r
-- 58: UnequalHours Acts number
noncomputable def fn_58 (g : aa_G) (a1 : Int32) (a2 : Int32) : Int32 := if (fn_14 a1 0 ((g 456 0) - 1)) = 0 then -1 else if (fn_14 a2 0 3) = 0 then -1 else g 458 ((a1 * 4) + a2).toNatClampNeg
theorem dn_58 {v : Option Value} {h : zz_H} {n : Nat} {g : aa_G} {a1 : Int32} {a2 : Int32}  (r : rn_s n 58 (0, zz_in [.ref 456, .int a1, .int a2] (zz_nl 58), [], aa_H g) v h) : ir_s g v h (fn_58 g a1 a2) := by
  have r : rn_s n 58 (0, [some (.ref 456), some (.int a1), some (.int a2)], [], aa_H g) v h := r
  unfold fn_58
  obtain ⟨n1, ln1, r⟩ := rn_steps 5 (8, [some (.ref 456), some (.int a1), some (.int a2)], [.int ((g 456 0) - 1), .int 0, .int a1], aa_H g) rfl r
  obtain ⟨_, n2, v1, h1, -, ln2, rc, r⟩ := rn_call (m2 := 14) (as := [.int a1, .int 0, .int ((g 456 0) - 1)]) (rest := []) rfl rfl r
  obtain ⟨rfl, rfl⟩ := dn_14 rc
  have r : rn_s _ 58 (11, [some (.ref 456), some (.int a1), some (.int a2)], [.int (fn_14 a1 0 ((g 456 0) - 1))], aa_H g) v h := r
  refine rn_if (ir_s g v h) rfl decide_eq_true_iff.symm r (fun c4 l5n l5 r => ?_) (fun c4 l5n l5 r => ?_)
  · obtain ⟨n6, ln6, r⟩ := rn_steps 0 (37, [some (.ref 456), some (.int a1), some (.int a2)], [.int (-1)], aa_H g) rfl r
    exact rn_ire rfl r
  · obtain ⟨n7, ln7, r⟩ := rn_steps 2 (17, [some (.ref 456), some (.int a1), some (.int a2)], [.int 3, .int 0, .int a2], aa_H g) rfl r
    obtain ⟨_, n8, v1, h1, -, ln8, rc, r⟩ := rn_call (m2 := 14) (as := [.int a2, .int 0, .int 3]) (rest := []) rfl rfl r
    obtain ⟨rfl, rfl⟩ := dn_14 rc
    have r : rn_s _ 58 (20, [some (.ref 456), some (.int a1), some (.int a2)], [.int (fn_14 a2 0 3)], aa_H g) v h := r
    refine rn_if (ir_s g v h) rfl decide_eq_true_iff.symm r (fun c10 l11n l11 r => ?_) (fun c10 l11n l11 r => ?_)
    · obtain ⟨n12, ln12, r⟩ := rn_steps 0 (37, [some (.ref 456), some (.int a1), some (.int a2)], [.int (-1)], aa_H g) rfl r
      exact rn_ire rfl r
    · obtain ⟨n13, ln13, r⟩ := rn_steps 6 (32, [some (.ref 456), some (.int a1), some (.int a2)], [.int ((a1 * 4) + a2), .ref 458], aa_H g) rfl r
      obtain ⟨hb15, n14, ln14, r⟩ := rn_ial (k := 458) rfl ⟨by decide, by decide⟩ rfl r
      have r : rn_s _ 58 (33, [some (.ref 456), some (.int a1), some (.int a2)], [.int (g 458 ((a1 * 4) + a2).toNatClampNeg)], aa_H g) v h := r
      obtain ⟨n16, ln16, r⟩ := rn_steps 0 (37, [some (.ref 456), some (.int a1), some (.int a2)], [.int (g 458 ((a1 * 4) + a2).toNatClampNeg)], aa_H g) rfl r
      exact rn_ire rfl r
-- 59: UnequalHours Acts letter
noncomputable def fn_59 (g : aa_G) (a1 : Int32) : Int32 := if (fn_14 a1 0 ((g 456 0) - 1)) = 0 then -1 else g 457 a1.toNatClampNeg
theorem dn_59 {v : Option Value} {h : zz_H} {n : Nat} {g : aa_G} {a1 : Int32}  (r : rn_s n 59 (0, zz_in [.ref 456, .int a1] (zz_nl 59), [], aa_H g) v h) : ir_s g v h (fn_59 g a1) := by
  have r : rn_s n 59 (0, [some (.ref 456), some (.int a1)], [], aa_H g) v h := r
  unfold fn_59
  obtain ⟨n1, ln1, r⟩ := rn_steps 5 (8, [some (.ref 456), some (.int a1)], [.int ((g 456 0) - 1), .int 0, .int a1], aa_H g) rfl r
  obtain ⟨_, n2, v1, h1, -, ln2, rc, r⟩ := rn_call (m2 := 14) (as := [.int a1, .int 0, .int ((g 456 0) - 1)]) (rest := []) rfl rfl r
  obtain ⟨rfl, rfl⟩ := dn_14 rc
  have r : rn_s _ 59 (11, [some (.ref 456), some (.int a1)], [.int (fn_14 a1 0 ((g 456 0) - 1))], aa_H g) v h := r
  refine rn_if (ir_s g v h) rfl decide_eq_true_iff.symm r (fun c4 l5n l5 r => ?_) (fun c4 l5n l5 r => ?_)
  · obtain ⟨n6, ln6, r⟩ := rn_steps 0 (24, [some (.ref 456), some (.int a1)], [.int (-1)], aa_H g) rfl r
    exact rn_ire rfl r
  · obtain ⟨n7, ln7, r⟩ := rn_steps 2 (19, [some (.ref 456), some (.int a1)], [.int a1, .ref 457], aa_H g) rfl r
    obtain ⟨hb9, n8, ln8, r⟩ := rn_ial (k := 457) rfl ⟨by decide, by decide⟩ rfl r
    have r : rn_s _ 59 (20, [some (.ref 456), some (.int a1)], [.int (g 457 a1.toNatClampNeg)], aa_H g) v h := r
    obtain ⟨n10, ln10, r⟩ := rn_steps 0 (24, [some (.ref 456), some (.int a1)], [.int (g 457 a1.toNatClampNeg)], aa_H g) rfl r
    exact rn_ire rfl r
-- 57: UnequalHours act
noncomputable def fn_57_70 (g : aa_G) (s0 : Int32) : Int32 × aa_G := if s0 = (-1000000) then (0, g) else (1, g)
theorem dn_57_70 {v : Option Value} {h : zz_H} {n : Nat} {g : aa_G} {s0 : Int32}  (x0 x1 x2 x3 : Option Value) (jx0 : rn_jk x0) (jx1 : rn_jk x1) (jx2 : rn_jk x2) (jx3 : rn_jk x3) (r : rn_s n 57 (70, [x0, x1, x2, x3], [.int s0], aa_H g) v h) : iw_s v h (fn_57_70 g s0) := by
  unfold fn_57_70
  obtain ⟨n35, ln35, r⟩ := rn_steps 0 (72, [x0, x1, x2, x3], [.int (-1000000), .int s0], aa_H g) rfl r
  refine rn_ic (iw_s v h) rfl decide_eq_true_iff.symm r (fun c36 l37n l37 r => ?_) (fun c36 l37n l37 r => ?_)
  · obtain ⟨n38, ln38, r⟩ := rn_steps 0 (80, [x0, x1, x2, x3], [.int 0], aa_H g) rfl r
    exact rn_ire rfl r
  · obtain ⟨n39, ln39, r⟩ := rn_steps 1 (80, [x0, x1, x2, x3], [.int 1], aa_H g) rfl r
    exact rn_ire rfl r
noncomputable def fn_57_86 (g : aa_G) (s0 : Int32) : Int32 × aa_G := if s0 = (-1) then (0, g) else (1, g)
theorem dn_57_86 {v : Option Value} {h : zz_H} {n : Nat} {g : aa_G} {s0 : Int32}  (x0 x1 x2 x3 : Option Value) (jx0 : rn_jk x0) (jx1 : rn_jk x1) (jx2 : rn_jk x2) (jx3 : rn_jk x3) (r : rn_s n 57 (86, [x0, x1, x2, x3], [.int s0], aa_H g) v h) : iw_s v h (fn_57_86 g s0) := by
  unfold fn_57_86
  obtain ⟨n40, ln40, r⟩ := rn_steps 0 (87, [x0, x1, x2, x3], [.int (-1), .int s0], aa_H g) rfl r
  refine rn_ic (iw_s v h) rfl decide_eq_true_iff.symm r (fun c41 l42n l42 r => ?_) (fun c41 l42n l42 r => ?_)
  · obtain ⟨n43, ln43, r⟩ := rn_steps 0 (95, [x0, x1, x2, x3], [.int 0], aa_H g) rfl r
    exact rn_ire rfl r
  · obtain ⟨n44, ln44, r⟩ := rn_steps 1 (95, [x0, x1, x2, x3], [.int 1], aa_H g) rfl r
    exact rn_ire rfl r
noncomputable def fn_57_102 (g : aa_G) (s0 : Int32) : Int32 × aa_G := if s0 = (-1) then (0, g) else (1, g)
theorem dn_57_102 {v : Option Value} {h : zz_H} {n : Nat} {g : aa_G} {s0 : Int32}  (x0 x1 x2 x3 : Option Value) (jx0 : rn_jk x0) (jx1 : rn_jk x1) (jx2 : rn_jk x2) (jx3 : rn_jk x3) (r : rn_s n 57 (102, [x0, x1, x2, x3], [.int s0], aa_H g) v h) : iw_s v h (fn_57_102 g s0) := by
  unfold fn_57_102
  obtain ⟨n45, ln45, r⟩ := rn_steps 0 (103, [x0, x1, x2, x3], [.int (-1), .int s0], aa_H g) rfl r
  refine rn_ic (iw_s v h) rfl decide_eq_true_iff.symm r (fun c46 l47n l47 r => ?_) (fun c46 l47n l47 r => ?_)
  · obtain ⟨n48, ln48, r⟩ := rn_steps 0 (111, [x0, x1, x2, x3], [.int 0], aa_H g) rfl r
    exact rn_ire rfl r
  · obtain ⟨n49, ln49, r⟩ := rn_steps 1 (111, [x0, x1, x2, x3], [.int 1], aa_H g) rfl r
    exact rn_ire rfl r
noncomputable def fn_57_136 (g : aa_G) (s0 : Int32) : Int32 × aa_G := if s0 = (-1) then (0, g) else (1, g)
theorem dn_57_136 {v : Option Value} {h : zz_H} {n : Nat} {g : aa_G} {s0 : Int32}  (x0 x1 x2 x3 : Option Value) (jx0 : rn_jk x0) (jx1 : rn_jk x1) (jx2 : rn_jk x2) (jx3 : rn_jk x3) (r : rn_s n 57 (136, [x0, x1, x2, x3], [.int s0], aa_H g) v h) : iw_s v h (fn_57_136 g s0) := by
  unfold fn_57_136
  obtain ⟨n50, ln50, r⟩ := rn_steps 0 (137, [x0, x1, x2, x3], [.int (-1), .int s0], aa_H g) rfl r
  refine rn_ic (iw_s v h) rfl decide_eq_true_iff.symm r (fun c51 l52n l52 r => ?_) (fun c51 l52n l52 r => ?_)
  · obtain ⟨n53, ln53, r⟩ := rn_steps 0 (145, [x0, x1, x2, x3], [.int 0], aa_H g) rfl r
    exact rn_ire rfl r
  · obtain ⟨n54, ln54, r⟩ := rn_steps 1 (145, [x0, x1, x2, x3], [.int 1], aa_H g) rfl r
    exact rn_ire rfl r
noncomputable def fn_57 (g : aa_G) (a1 : Int32) : Int32 × aa_G := if (fn_59 g a1).toInt = 111 then fn_57_70 ((fn_60 g (fn_58 g a1 0) (fn_58 g a1 1)).2) ((fn_60 g (fn_58 g a1 0) (fn_58 g a1 1)).1) else if (fn_59 g a1).toInt = 112 then (0, g) else if (fn_59 g a1).toInt = 113 then fn_57_86 ((fn_61 g (fn_58 g a1 0)).2) ((fn_61 g (fn_58 g a1 0)).1) else if (fn_59 g a1).toInt = 114 then fn_57_102 ((fn_62 g (fn_58 g a1 0) (fn_58 g a1 1)).2) ((fn_62 g (fn_58 g a1 0) (fn_58 g a1 1)).1) else if (fn_59 g a1).toInt = 115 then fn_57_136 ((fn_65 g (fn_58 g a1 0) (fn_58 g a1 1) (fn_58 g a1 2) (fn_58 g a1 3)).2) ((fn_65 g (fn_58 g a1 0) (fn_58 g a1 1) (fn_58 g a1 2) (fn_58 g a1 3)).1) else (0, g)
theorem dn_57 {v : Option Value} {h : zz_H} {n : Nat} {g : aa_G} {a1 : Int32} (hi : rem_ok g) (r : rn_s n 57 (0, zz_in [.ref 1, .int a1] (zz_nl 57), [], aa_H g) v h) : iw_s v h (fn_57 g a1) := by
  have r : rn_s n 57 (0, [some (.ref 1), some (.int a1), none, none], [], aa_H g) v h := r
  unfold fn_57
  obtain ⟨n1, ln1, r⟩ := rn_steps 3 (6, [some (.ref 1), some (.int a1), none, none], [.int 0, .int a1, .ref 456], aa_H g) rfl r
  obtain ⟨_, n2, v1, h1, -, ln2, rc, r⟩ := rn_call (m2 := 58) (as := [.ref 456, .int a1, .int 0]) (rest := []) rfl rfl r
  obtain ⟨rfl, rfl⟩ := dn_58 rc
  have r : rn_s _ 57 (9, [some (.ref 1), some (.int a1), none, none], [.int (fn_58 g a1 0)], aa_H g) v h := r
  obtain ⟨n4, ln4, r⟩ := rn_steps 4 (16, [some (.ref 1), some (.int a1), some (.int (fn_58 g a1 0)), none], [.int 1, .int a1, .ref 456], aa_H g) rfl r
  obtain ⟨_, n5, v1, h1, -, ln5, rc, r⟩ := rn_call (m2 := 58) (as := [.ref 456, .int a1, .int 1]) (rest := []) rfl rfl r
  obtain ⟨rfl, rfl⟩ := dn_58 rc
  have r : rn_s _ 57 (19, [some (.ref 1), some (.int a1), some (.int (fn_58 g a1 0)), none], [.int (fn_58 g a1 1)], aa_H g) v h := r
  obtain ⟨n7, ln7, r⟩ := rn_steps 3 (25, [some (.ref 1), some (.int a1), some (.int (fn_58 g a1 0)), some (.int (fn_58 g a1 1))], [.int a1, .ref 456], aa_H g) rfl r
  obtain ⟨_, n8, v1, h1, -, ln8, rc, r⟩ := rn_call (m2 := 59) (as := [.ref 456, .int a1]) (rest := []) rfl rfl r
  obtain ⟨rfl, rfl⟩ := dn_59 rc
  have r : rn_s _ 57 (28, [some (.ref 1), some (.int a1), some (.int (fn_58 g a1 0)), some (.int (fn_58 g a1 1))], [.int (fn_59 g a1)], aa_H g) v h := r
  obtain ⟨n10, ln10, r⟩ := rn_swi rfl r
  refine rn_sw1 (iw_s v h) r (fun c11 r => ?_) (fun c11 r => ?_)
  · have r : rn_s _ 57 (64, [some (.ref 1), some (.int a1), some (.int (fn_58 g a1 0)), some (.int (fn_58 g a1 1))], [], aa_H g) v h := r
    obtain ⟨n12, ln12, r⟩ := rn_steps 2 (67, [some (.ref 1), some (.int a1), some (.int (fn_58 g a1 0)), some (.int (fn_58 g a1 1))], [.int (fn_58 g a1 1), .int (fn_58 g a1 0), .ref 1], aa_H g) rfl r
    obtain ⟨_, n13, v1, h1, -, ln13, rc, r⟩ := rn_call (m2 := 60) (as := [.ref 1, .int (fn_58 g a1 0), .int (fn_58 g a1 1)]) (rest := []) rfl rfl r
    obtain ⟨rfl, rfl⟩ := dn_60 hi rc
    have r : rn_s _ 57 (70, [some (.ref 1), some (.int a1), some (.int (fn_58 g a1 0)), some (.int (fn_58 g a1 1))], [.int ((fn_60 g (fn_58 g a1 0) (fn_58 g a1 1)).1)], aa_H ((fn_60 g (fn_58 g a1 0) (fn_58 g a1 1)).2)) v h := r
    exact dn_57_70 (some (.ref 1)) (some (.int a1)) (some (.int (fn_58 g a1 0))) (some (.int (fn_58 g a1 1))) rn_jr rn_ji rn_ji rn_ji r
  · refine rn_sw1 (iw_s v h) r (fun c15 r => ?_) (fun c15 r => ?_)
    · have r : rn_s _ 57 (146, [some (.ref 1), some (.int a1), some (.int (fn_58 g a1 0)), some (.int (fn_58 g a1 1))], [], aa_H g) v h := r
      obtain ⟨n16, ln16, r⟩ := rn_steps 0 (147, [some (.ref 1), some (.int a1), some (.int (fn_58 g a1 0)), some (.int (fn_58 g a1 1))], [.int 0], aa_H g) rfl r
      exact rn_ire rfl r
    · refine rn_sw1 (iw_s v h) r (fun c17 r => ?_) (fun c17 r => ?_)
      · have r : rn_s _ 57 (81, [some (.ref 1), some (.int a1), some (.int (fn_58 g a1 0)), some (.int (fn_58 g a1 1))], [], aa_H g) v h := r
        obtain ⟨n18, ln18, r⟩ := rn_steps 1 (83, [some (.ref 1), some (.int a1), some (.int (fn_58 g a1 0)), some (.int (fn_58 g a1 1))], [.int (fn_58 g a1 0), .ref 1], aa_H g) rfl r
        obtain ⟨_, n19, v1, h1, -, ln19, rc, r⟩ := rn_call (m2 := 61) (as := [.ref 1, .int (fn_58 g a1 0)]) (rest := []) rfl rfl r
        obtain ⟨rfl, rfl⟩ := dn_61 hi rc
        have r : rn_s _ 57 (86, [some (.ref 1), some (.int a1), some (.int (fn_58 g a1 0)), some (.int (fn_58 g a1 1))], [.int ((fn_61 g (fn_58 g a1 0)).1)], aa_H ((fn_61 g (fn_58 g a1 0)).2)) v h := r
        exact dn_57_86 (some (.ref 1)) (some (.int a1)) (some (.int (fn_58 g a1 0))) (some (.int (fn_58 g a1 1))) rn_jr rn_ji rn_ji rn_ji r
      · refine rn_sw1 (iw_s v h) r (fun c21 r => ?_) (fun c21 r => ?_)
        · have r : rn_s _ 57 (96, [some (.ref 1), some (.int a1), some (.int (fn_58 g a1 0)), some (.int (fn_58 g a1 1))], [], aa_H g) v h := r
          obtain ⟨n22, ln22, r⟩ := rn_steps 2 (99, [some (.ref 1), some (.int a1), some (.int (fn_58 g a1 0)), some (.int (fn_58 g a1 1))], [.int (fn_58 g a1 1), .int (fn_58 g a1 0), .ref 1], aa_H g) rfl r
          obtain ⟨_, n23, v1, h1, -, ln23, rc, r⟩ := rn_call (m2 := 62) (as := [.ref 1, .int (fn_58 g a1 0), .int (fn_58 g a1 1)]) (rest := []) rfl rfl r
          obtain ⟨rfl, rfl⟩ := dn_62 hi rc
          have r : rn_s _ 57 (102, [some (.ref 1), some (.int a1), some (.int (fn_58 g a1 0)), some (.int (fn_58 g a1 1))], [.int ((fn_62 g (fn_58 g a1 0) (fn_58 g a1 1)).1)], aa_H ((fn_62 g (fn_58 g a1 0) (fn_58 g a1 1)).2)) v h := r
          exact dn_57_102 (some (.ref 1)) (some (.int a1)) (some (.int (fn_58 g a1 0))) (some (.int (fn_58 g a1 1))) rn_jr rn_ji rn_ji rn_ji r
        · refine rn_sw1 (iw_s v h) r (fun c25 r => ?_) (fun c25 r => ?_)
          · have r : rn_s _ 57 (112, [some (.ref 1), some (.int a1), some (.int (fn_58 g a1 0)), some (.int (fn_58 g a1 1))], [], aa_H g) v h := r
            obtain ⟨n26, ln26, r⟩ := rn_steps 6 (121, [some (.ref 1), some (.int a1), some (.int (fn_58 g a1 0)), some (.int (fn_58 g a1 1))], [.int 2, .int a1, .ref 456, .int (fn_58 g a1 1), .int (fn_58 g a1 0), .ref 1], aa_H g) rfl r
            obtain ⟨_, n27, v1, h1, -, ln27, rc, r⟩ := rn_call (m2 := 58) (as := [.ref 456, .int a1, .int 2]) (rest := [.int (fn_58 g a1 1), .int (fn_58 g a1 0), .ref 1]) rfl rfl r
            obtain ⟨rfl, rfl⟩ := dn_58 rc
            have r : rn_s _ 57 (124, [some (.ref 1), some (.int a1), some (.int (fn_58 g a1 0)), some (.int (fn_58 g a1 1))], [.int (fn_58 g a1 2), .int (fn_58 g a1 1), .int (fn_58 g a1 0), .ref 1], aa_H g) v h := r
            obtain ⟨n29, ln29, r⟩ := rn_steps 3 (130, [some (.ref 1), some (.int a1), some (.int (fn_58 g a1 0)), some (.int (fn_58 g a1 1))], [.int 3, .int a1, .ref 456, .int (fn_58 g a1 2), .int (fn_58 g a1 1), .int (fn_58 g a1 0), .ref 1], aa_H g) rfl r
            obtain ⟨_, n30, v1, h1, -, ln30, rc, r⟩ := rn_call (m2 := 58) (as := [.ref 456, .int a1, .int 3]) (rest := [.int (fn_58 g a1 2), .int (fn_58 g a1 1), .int (fn_58 g a1 0), .ref 1]) rfl rfl r
            obtain ⟨rfl, rfl⟩ := dn_58 rc
            have r : rn_s _ 57 (133, [some (.ref 1), some (.int a1), some (.int (fn_58 g a1 0)), some (.int (fn_58 g a1 1))], [.int (fn_58 g a1 3), .int (fn_58 g a1 2), .int (fn_58 g a1 1), .int (fn_58 g a1 0), .ref 1], aa_H g) v h := r
            obtain ⟨_, n32, v1, h1, -, ln32, rc, r⟩ := rn_call (m2 := 65) (as := [.ref 1, .int (fn_58 g a1 0), .int (fn_58 g a1 1), .int (fn_58 g a1 2), .int (fn_58 g a1 3)]) (rest := []) rfl rfl r
            obtain ⟨rfl, rfl⟩ := dn_65 hi rc
            have r : rn_s _ 57 (136, [some (.ref 1), some (.int a1), some (.int (fn_58 g a1 0)), some (.int (fn_58 g a1 1))], [.int ((fn_65 g (fn_58 g a1 0) (fn_58 g a1 1) (fn_58 g a1 2) (fn_58 g a1 3)).1)], aa_H ((fn_65 g (fn_58 g a1 0) (fn_58 g a1 1) (fn_58 g a1 2) (fn_58 g a1 3)).2)) v h := r
            exact dn_57_136 (some (.ref 1)) (some (.int a1)) (some (.int (fn_58 g a1 0))) (some (.int (fn_58 g a1 1))) rn_jr rn_ji rn_ji rn_ji r
          · have r : rn_s _ 57 (146, [some (.ref 1), some (.int a1), some (.int (fn_58 g a1 0)), some (.int (fn_58 g a1 1))], [], aa_H g) v h := r
            obtain ⟨n34, ln34, r⟩ := rn_steps 0 (147, [some (.ref 1), some (.int a1), some (.int (fn_58 g a1 0)), some (.int (fn_58 g a1 1))], [.int 0], aa_H g) rfl r
            exact rn_ire rfl r
-- 38: UnequalHours endOfReading
noncomputable def fn_38 (g : aa_G)  : aa_G := zz_w (zz_w g 1 13 (g 454 4)) 454 0 0
theorem dn_38 {v : Option Value} {h : zz_H} {n : Nat} {g : aa_G}   (r : rn_s n 38 (0, zz_in [.ref 1] (zz_nl 38), [], aa_H g) v h) : ig_s v h (fn_38 g) := by
  have r : rn_s n 38 (0, [some (.ref 1)], [], aa_H g) v h := r
  unfold fn_38
  obtain ⟨n1, ln1, r⟩ := rn_steps 8 (19, [some (.ref 1)], [], aa_H (zz_w (zz_w g 1 13 (g 454 4)) 454 0 0)) rfl r
  exact rn_ret 1 rfl r
-- 263: UnequalHoursModel doAct
noncomputable def fn_263_56 (g : aa_G) (s0 : Int32) : Int32 × aa_G := if s0 = (-1000000) then (0, g) else (1, g)
theorem dn_263_56 {v : Option Value} {h : zz_H} {n : Nat} {g : aa_G} {s0 : Int32}  (x0 x1 : Option Value) (jx0 : rn_jk x0) (jx1 : rn_jk x1) (r : rn_s n 263 (56, [x0, x1], [.int s0], aa_H g) v h) : iw_s v h (fn_263_56 g s0) := by
  unfold fn_263_56
  obtain ⟨n58, ln58, r⟩ := rn_steps 0 (59, [x0, x1], [.int (-1000000), .int s0], aa_H g) rfl r
  refine rn_ic (iw_s v h) rfl decide_eq_true_iff.symm r (fun c59 l60n l60 r => ?_) (fun c59 l60n l60 r => ?_)
  · obtain ⟨n61, ln61, r⟩ := rn_steps 0 (67, [x0, x1], [.int 0], aa_H g) rfl r
    exact rn_ire rfl r
  · obtain ⟨n62, ln62, r⟩ := rn_steps 1 (67, [x0, x1], [.int 1], aa_H g) rfl r
    exact rn_ire rfl r
noncomputable def fn_263_80 (g : aa_G) (s0 : Int32) : Int32 × aa_G := if s0 = (-1) then (0, g) else (1, g)
theorem dn_263_80 {v : Option Value} {h : zz_H} {n : Nat} {g : aa_G} {s0 : Int32}  (x0 x1 : Option Value) (jx0 : rn_jk x0) (jx1 : rn_jk x1) (r : rn_s n 263 (80, [x0, x1], [.int s0], aa_H g) v h) : iw_s v h (fn_263_80 g s0) := by
  unfold fn_263_80
  obtain ⟨n68, ln68, r⟩ := rn_steps 0 (81, [x0, x1], [.int (-1), .int s0], aa_H g) rfl r
  refine rn_ic (iw_s v h) rfl decide_eq_true_iff.symm r (fun c69 l70n l70 r => ?_) (fun c69 l70n l70 r => ?_)
  · obtain ⟨n71, ln71, r⟩ := rn_steps 0 (89, [x0, x1], [.int 0], aa_H g) rfl r
    exact rn_ire rfl r
  · obtain ⟨n72, ln72, r⟩ := rn_steps 1 (89, [x0, x1], [.int 1], aa_H g) rfl r
    exact rn_ire rfl r
noncomputable def fn_263_110 (g : aa_G) (s0 : Int32) : Int32 × aa_G := if s0 = (-1) then (0, g) else (1, g)
theorem dn_263_110 {v : Option Value} {h : zz_H} {n : Nat} {g : aa_G} {s0 : Int32}  (x0 x1 : Option Value) (jx0 : rn_jk x0) (jx1 : rn_jk x1) (r : rn_s n 263 (110, [x0, x1], [.int s0], aa_H g) v h) : iw_s v h (fn_263_110 g s0) := by
  unfold fn_263_110
  obtain ⟨n73, ln73, r⟩ := rn_steps 0 (111, [x0, x1], [.int (-1), .int s0], aa_H g) rfl r
  refine rn_ic (iw_s v h) rfl decide_eq_true_iff.symm r (fun c74 l75n l75 r => ?_) (fun c74 l75n l75 r => ?_)
  · obtain ⟨n76, ln76, r⟩ := rn_steps 0 (119, [x0, x1], [.int 0], aa_H g) rfl r
    exact rn_ire rfl r
  · obtain ⟨n77, ln77, r⟩ := rn_steps 1 (119, [x0, x1], [.int 1], aa_H g) rfl r
    exact rn_ire rfl r
noncomputable def fn_263_156 (g : aa_G) (s0 : Int32) : Int32 × aa_G := if s0 = (-1) then (0, g) else (1, g)
theorem dn_263_156 {v : Option Value} {h : zz_H} {n : Nat} {g : aa_G} {s0 : Int32}  (x0 x1 : Option Value) (jx0 : rn_jk x0) (jx1 : rn_jk x1) (r : rn_s n 263 (156, [x0, x1], [.int s0], aa_H g) v h) : iw_s v h (fn_263_156 g s0) := by
  unfold fn_263_156
  obtain ⟨n63, ln63, r⟩ := rn_steps 0 (157, [x0, x1], [.int (-1), .int s0], aa_H g) rfl r
  refine rn_ic (iw_s v h) rfl decide_eq_true_iff.symm r (fun c64 l65n l65 r => ?_) (fun c64 l65n l65 r => ?_)
  · obtain ⟨n66, ln66, r⟩ := rn_steps 0 (165, [x0, x1], [.int 0], aa_H g) rfl r
    exact rn_ire rfl r
  · obtain ⟨n67, ln67, r⟩ := rn_steps 1 (165, [x0, x1], [.int 1], aa_H g) rfl r
    exact rn_ire rfl r
noncomputable def fn_263 (g : aa_G) (a1 : Int32) : Int32 × aa_G := if (g 552 a1.toNatClampNeg).toInt = 111 then fn_263_56 ((fn_254 g (g 552 (a1 + 1).toNatClampNeg) (g 552 (a1 + 2).toNatClampNeg)).2) ((fn_254 g (g 552 (a1 + 1).toNatClampNeg) (g 552 (a1 + 2).toNatClampNeg)).1) else if (g 552 a1.toNatClampNeg).toInt = 112 then fn_263_156 ((fn_257 g (g 552 (a1 + 1).toNatClampNeg) (g 552 (a1 + 2).toNatClampNeg) (g 552 (a1 + 3).toNatClampNeg) (g 552 (a1 + 4).toNatClampNeg)).2) ((fn_257 g (g 552 (a1 + 1).toNatClampNeg) (g 552 (a1 + 2).toNatClampNeg) (g 552 (a1 + 3).toNatClampNeg) (g 552 (a1 + 4).toNatClampNeg)).1) else if (g 552 a1.toNatClampNeg).toInt = 113 then fn_263_80 ((fn_256 g (g 552 (a1 + 1).toNatClampNeg)).2) ((fn_256 g (g 552 (a1 + 1).toNatClampNeg)).1) else if (g 552 a1.toNatClampNeg).toInt = 114 then fn_263_110 ((fn_259 g (g 552 (a1 + 1).toNatClampNeg) (g 552 (a1 + 2).toNatClampNeg)).2) ((fn_259 g (g 552 (a1 + 1).toNatClampNeg) (g 552 (a1 + 2).toNatClampNeg)).1) else fn_263_156 ((fn_257 g (g 552 (a1 + 1).toNatClampNeg) (g 552 (a1 + 2).toNatClampNeg) (g 552 (a1 + 3).toNatClampNeg) (g 552 (a1 + 4).toNatClampNeg)).2) ((fn_257 g (g 552 (a1 + 1).toNatClampNeg) (g 552 (a1 + 2).toNatClampNeg) (g 552 (a1 + 3).toNatClampNeg) (g 552 (a1 + 4).toNatClampNeg)).1)
theorem dn_263 {v : Option Value} {h : zz_H} {n : Nat} {g : aa_G} {a1 : Int32}  (r : rn_s n 263 (0, zz_in [.ref 540, .int a1] (zz_nl 263), [], aa_H g) v h) : iw_s v h (fn_263 g a1) := by
  have r : rn_s n 263 (0, [some (.ref 540), some (.int a1)], [], aa_H g) v h := r
  unfold fn_263
  obtain ⟨n1, ln1, r⟩ := rn_steps 2 (5, [some (.ref 540), some (.int a1)], [.int a1, .ref 552], aa_H g) rfl r
  obtain ⟨hb3, n2, ln2, r⟩ := rn_ial (k := 552) rfl ⟨by decide, by decide⟩ rfl r
  have r : rn_s _ 263 (6, [some (.ref 540), some (.int a1)], [.int (g 552 a1.toNatClampNeg)], aa_H g) v h := r
  obtain ⟨n4, ln4, r⟩ := rn_swi rfl r
  refine rn_sw1 (iw_s v h) r (fun c5 r => ?_) (fun c5 r => ?_)
  · have r : rn_s _ 263 (36, [some (.ref 540), some (.int a1)], [], aa_H g) v h := r
    obtain ⟨n6, ln6, r⟩ := rn_steps 5 (44, [some (.ref 540), some (.int a1)], [.int (a1 + 1), .ref 552, .ref 540], aa_H g) rfl r
    obtain ⟨hb8, n7, ln7, r⟩ := rn_ial (k := 552) rfl ⟨by decide, by decide⟩ rfl r
    have r : rn_s _ 263 (45, [some (.ref 540), some (.int a1)], [.int (g 552 (a1 + 1).toNatClampNeg), .ref 540], aa_H g) v h := r
    obtain ⟨n9, ln9, r⟩ := rn_steps 4 (52, [some (.ref 540), some (.int a1)], [.int (a1 + 2), .ref 552, .int (g 552 (a1 + 1).toNatClampNeg), .ref 540], aa_H g) rfl r
    obtain ⟨hb11, n10, ln10, r⟩ := rn_ial (k := 552) rfl ⟨by decide, by decide⟩ rfl r
    have r : rn_s _ 263 (53, [some (.ref 540), some (.int a1)], [.int (g 552 (a1 + 2).toNatClampNeg), .int (g 552 (a1 + 1).toNatClampNeg), .ref 540], aa_H g) v h := r
    obtain ⟨_, n12, v1, h1, -, ln12, rc, r⟩ := rn_call (m2 := 254) (as := [.ref 540, .int (g 552 (a1 + 1).toNatClampNeg), .int (g 552 (a1 + 2).toNatClampNeg)]) (rest := []) rfl rfl r
    obtain ⟨rfl, rfl⟩ := dn_254 rc
    have r : rn_s _ 263 (56, [some (.ref 540), some (.int a1)], [.int ((fn_254 g (g 552 (a1 + 1).toNatClampNeg) (g 552 (a1 + 2).toNatClampNeg)).1)], aa_H ((fn_254 g (g 552 (a1 + 1).toNatClampNeg) (g 552 (a1 + 2).toNatClampNeg)).2)) v h := r
    exact dn_263_56 (some (.ref 540)) (some (.int a1)) rn_jr rn_ji r
  · refine rn_sw1 (iw_s v h) r (fun c14 r => ?_) (fun c14 r => ?_)
    · have r : rn_s _ 263 (120, [some (.ref 540), some (.int a1)], [], aa_H g) v h := r
      obtain ⟨n15, ln15, r⟩ := rn_steps 5 (128, [some (.ref 540), some (.int a1)], [.int (a1 + 1), .ref 552, .ref 540], aa_H g) rfl r
      obtain ⟨hb17, n16, ln16, r⟩ := rn_ial (k := 552) rfl ⟨by decide, by decide⟩ rfl r
      have r : rn_s _ 263 (129, [some (.ref 540), some (.int a1)], [.int (g 552 (a1 + 1).toNatClampNeg), .ref 540], aa_H g) v h := r
      obtain ⟨n18, ln18, r⟩ := rn_steps 4 (136, [some (.ref 540), some (.int a1)], [.int (a1 + 2), .ref 552, .int (g 552 (a1 + 1).toNatClampNeg), .ref 540], aa_H g) rfl r
      obtain ⟨hb20, n19, ln19, r⟩ := rn_ial (k := 552) rfl ⟨by decide, by decide⟩ rfl r
      have r : rn_s _ 263 (137, [some (.ref 540), some (.int a1)], [.int (g 552 (a1 + 2).toNatClampNeg), .int (g 552 (a1 + 1).toNatClampNeg), .ref 540], aa_H g) v h := r
      obtain ⟨n21, ln21, r⟩ := rn_steps 4 (144, [some (.ref 540), some (.int a1)], [.int (a1 + 3), .ref 552, .int (g 552 (a1 + 2).toNatClampNeg), .int (g 552 (a1 + 1).toNatClampNeg), .ref 540], aa_H g) rfl r
      obtain ⟨hb23, n22, ln22, r⟩ := rn_ial (k := 552) rfl ⟨by decide, by decide⟩ rfl r
      have r : rn_s _ 263 (145, [some (.ref 540), some (.int a1)], [.int (g 552 (a1 + 3).toNatClampNeg), .int (g 552 (a1 + 2).toNatClampNeg), .int (g 552 (a1 + 1).toNatClampNeg), .ref 540], aa_H g) v h := r
      obtain ⟨n24, ln24, r⟩ := rn_steps 4 (152, [some (.ref 540), some (.int a1)], [.int (a1 + 4), .ref 552, .int (g 552 (a1 + 3).toNatClampNeg), .int (g 552 (a1 + 2).toNatClampNeg), .int (g 552 (a1 + 1).toNatClampNeg), .ref 540], aa_H g) rfl r
      obtain ⟨hb26, n25, ln25, r⟩ := rn_ial (k := 552) rfl ⟨by decide, by decide⟩ rfl r
      have r : rn_s _ 263 (153, [some (.ref 540), some (.int a1)], [.int (g 552 (a1 + 4).toNatClampNeg), .int (g 552 (a1 + 3).toNatClampNeg), .int (g 552 (a1 + 2).toNatClampNeg), .int (g 552 (a1 + 1).toNatClampNeg), .ref 540], aa_H g) v h := r
      obtain ⟨_, n27, v1, h1, -, ln27, rc, r⟩ := rn_call (m2 := 257) (as := [.ref 540, .int (g 552 (a1 + 1).toNatClampNeg), .int (g 552 (a1 + 2).toNatClampNeg), .int (g 552 (a1 + 3).toNatClampNeg), .int (g 552 (a1 + 4).toNatClampNeg)]) (rest := []) rfl rfl r
      obtain ⟨rfl, rfl⟩ := dn_257 rc
      have r : rn_s _ 263 (156, [some (.ref 540), some (.int a1)], [.int ((fn_257 g (g 552 (a1 + 1).toNatClampNeg) (g 552 (a1 + 2).toNatClampNeg) (g 552 (a1 + 3).toNatClampNeg) (g 552 (a1 + 4).toNatClampNeg)).1)], aa_H ((fn_257 g (g 552 (a1 + 1).toNatClampNeg) (g 552 (a1 + 2).toNatClampNeg) (g 552 (a1 + 3).toNatClampNeg) (g 552 (a1 + 4).toNatClampNeg)).2)) v h := r
      exact dn_263_156 (some (.ref 540)) (some (.int a1)) rn_jr rn_ji r
    · refine rn_sw1 (iw_s v h) r (fun c29 r => ?_) (fun c29 r => ?_)
      · have r : rn_s _ 263 (68, [some (.ref 540), some (.int a1)], [], aa_H g) v h := r
        obtain ⟨n30, ln30, r⟩ := rn_steps 5 (76, [some (.ref 540), some (.int a1)], [.int (a1 + 1), .ref 552, .ref 540], aa_H g) rfl r
        obtain ⟨hb32, n31, ln31, r⟩ := rn_ial (k := 552) rfl ⟨by decide, by decide⟩ rfl r
        have r : rn_s _ 263 (77, [some (.ref 540), some (.int a1)], [.int (g 552 (a1 + 1).toNatClampNeg), .ref 540], aa_H g) v h := r
        obtain ⟨_, n33, v1, h1, -, ln33, rc, r⟩ := rn_call (m2 := 256) (as := [.ref 540, .int (g 552 (a1 + 1).toNatClampNeg)]) (rest := []) rfl rfl r
        obtain ⟨rfl, rfl⟩ := dn_256 rc
        have r : rn_s _ 263 (80, [some (.ref 540), some (.int a1)], [.int ((fn_256 g (g 552 (a1 + 1).toNatClampNeg)).1)], aa_H ((fn_256 g (g 552 (a1 + 1).toNatClampNeg)).2)) v h := r
        exact dn_263_80 (some (.ref 540)) (some (.int a1)) rn_jr rn_ji r
      · refine rn_sw1 (iw_s v h) r (fun c35 r => ?_) (fun c35 r => ?_)
        · have r : rn_s _ 263 (90, [some (.ref 540), some (.int a1)], [], aa_H g) v h := r
          obtain ⟨n36, ln36, r⟩ := rn_steps 5 (98, [some (.ref 540), some (.int a1)], [.int (a1 + 1), .ref 552, .ref 540], aa_H g) rfl r
          obtain ⟨hb38, n37, ln37, r⟩ := rn_ial (k := 552) rfl ⟨by decide, by decide⟩ rfl r
          have r : rn_s _ 263 (99, [some (.ref 540), some (.int a1)], [.int (g 552 (a1 + 1).toNatClampNeg), .ref 540], aa_H g) v h := r
          obtain ⟨n39, ln39, r⟩ := rn_steps 4 (106, [some (.ref 540), some (.int a1)], [.int (a1 + 2), .ref 552, .int (g 552 (a1 + 1).toNatClampNeg), .ref 540], aa_H g) rfl r
          obtain ⟨hb41, n40, ln40, r⟩ := rn_ial (k := 552) rfl ⟨by decide, by decide⟩ rfl r
          have r : rn_s _ 263 (107, [some (.ref 540), some (.int a1)], [.int (g 552 (a1 + 2).toNatClampNeg), .int (g 552 (a1 + 1).toNatClampNeg), .ref 540], aa_H g) v h := r
          obtain ⟨_, n42, v1, h1, -, ln42, rc, r⟩ := rn_call (m2 := 259) (as := [.ref 540, .int (g 552 (a1 + 1).toNatClampNeg), .int (g 552 (a1 + 2).toNatClampNeg)]) (rest := []) rfl rfl r
          obtain ⟨rfl, rfl⟩ := dn_259 rc
          have r : rn_s _ 263 (110, [some (.ref 540), some (.int a1)], [.int ((fn_259 g (g 552 (a1 + 1).toNatClampNeg) (g 552 (a1 + 2).toNatClampNeg)).1)], aa_H ((fn_259 g (g 552 (a1 + 1).toNatClampNeg) (g 552 (a1 + 2).toNatClampNeg)).2)) v h := r
          exact dn_263_110 (some (.ref 540)) (some (.int a1)) rn_jr rn_ji r
        · have r : rn_s _ 263 (120, [some (.ref 540), some (.int a1)], [], aa_H g) v h := r
          obtain ⟨n44, ln44, r⟩ := rn_steps 5 (128, [some (.ref 540), some (.int a1)], [.int (a1 + 1), .ref 552, .ref 540], aa_H g) rfl r
          obtain ⟨hb46, n45, ln45, r⟩ := rn_ial (k := 552) rfl ⟨by decide, by decide⟩ rfl r
          have r : rn_s _ 263 (129, [some (.ref 540), some (.int a1)], [.int (g 552 (a1 + 1).toNatClampNeg), .ref 540], aa_H g) v h := r
          obtain ⟨n47, ln47, r⟩ := rn_steps 4 (136, [some (.ref 540), some (.int a1)], [.int (a1 + 2), .ref 552, .int (g 552 (a1 + 1).toNatClampNeg), .ref 540], aa_H g) rfl r
          obtain ⟨hb49, n48, ln48, r⟩ := rn_ial (k := 552) rfl ⟨by decide, by decide⟩ rfl r
          have r : rn_s _ 263 (137, [some (.ref 540), some (.int a1)], [.int (g 552 (a1 + 2).toNatClampNeg), .int (g 552 (a1 + 1).toNatClampNeg), .ref 540], aa_H g) v h := r
          obtain ⟨n50, ln50, r⟩ := rn_steps 4 (144, [some (.ref 540), some (.int a1)], [.int (a1 + 3), .ref 552, .int (g 552 (a1 + 2).toNatClampNeg), .int (g 552 (a1 + 1).toNatClampNeg), .ref 540], aa_H g) rfl r
          obtain ⟨hb52, n51, ln51, r⟩ := rn_ial (k := 552) rfl ⟨by decide, by decide⟩ rfl r
          have r : rn_s _ 263 (145, [some (.ref 540), some (.int a1)], [.int (g 552 (a1 + 3).toNatClampNeg), .int (g 552 (a1 + 2).toNatClampNeg), .int (g 552 (a1 + 1).toNatClampNeg), .ref 540], aa_H g) v h := r
          obtain ⟨n53, ln53, r⟩ := rn_steps 4 (152, [some (.ref 540), some (.int a1)], [.int (a1 + 4), .ref 552, .int (g 552 (a1 + 3).toNatClampNeg), .int (g 552 (a1 + 2).toNatClampNeg), .int (g 552 (a1 + 1).toNatClampNeg), .ref 540], aa_H g) rfl r
          obtain ⟨hb55, n54, ln54, r⟩ := rn_ial (k := 552) rfl ⟨by decide, by decide⟩ rfl r
          have r : rn_s _ 263 (153, [some (.ref 540), some (.int a1)], [.int (g 552 (a1 + 4).toNatClampNeg), .int (g 552 (a1 + 3).toNatClampNeg), .int (g 552 (a1 + 2).toNatClampNeg), .int (g 552 (a1 + 1).toNatClampNeg), .ref 540], aa_H g) v h := r
          obtain ⟨_, n56, v1, h1, -, ln56, rc, r⟩ := rn_call (m2 := 257) (as := [.ref 540, .int (g 552 (a1 + 1).toNatClampNeg), .int (g 552 (a1 + 2).toNatClampNeg), .int (g 552 (a1 + 3).toNatClampNeg), .int (g 552 (a1 + 4).toNatClampNeg)]) (rest := []) rfl rfl r
          obtain ⟨rfl, rfl⟩ := dn_257 rc
          have r : rn_s _ 263 (156, [some (.ref 540), some (.int a1)], [.int ((fn_257 g (g 552 (a1 + 1).toNatClampNeg) (g 552 (a1 + 2).toNatClampNeg) (g 552 (a1 + 3).toNatClampNeg) (g 552 (a1 + 4).toNatClampNeg)).1)], aa_H ((fn_257 g (g 552 (a1 + 1).toNatClampNeg) (g 552 (a1 + 2).toNatClampNeg) (g 552 (a1 + 3).toNatClampNeg) (g 552 (a1 + 4).toNatClampNeg)).2)) v h := r
          exact dn_263_156 (some (.ref 540)) (some (.int a1)) rn_jr rn_ji r
-- 169: UnequalHoursModel fails
noncomputable def fn_169 (g : aa_G) (a1 : Int32) : Int32 × aa_G := (0, zz_w g 540 6 a1)
theorem dn_169 {v : Option Value} {h : zz_H} {n : Nat} {g : aa_G} {a1 : Int32}  (r : rn_s n 169 (0, zz_in [.ref 540, .int a1] (zz_nl 169), [], aa_H g) v h) : iw_s v h (fn_169 g a1) := by
  have r : rn_s n 169 (0, [some (.ref 540), some (.int a1)], [], aa_H g) v h := r
  unfold fn_169
  obtain ⟨n1, ln1, r⟩ := rn_steps 3 (6, [some (.ref 540), some (.int a1)], [.int 0], aa_H (zz_w g 540 6 a1)) rfl r
  exact rn_ire rfl r
-- 167: UnequalHoursModel here
noncomputable def fn_167 (g : aa_G)  : Int32 := if (g 540 4) ≤ (g 540 5) then -1 else (g 543 (g 540 5).toNatClampNeg) &&& 255
theorem dn_167 {v : Option Value} {h : zz_H} {n : Nat} {g : aa_G}   (r : rn_s n 167 (0, zz_in [.ref 540] (zz_nl 167), [], aa_H g) v h) : ir_s g v h (fn_167 g) := by
  have r : rn_s n 167 (0, [some (.ref 540)], [], aa_H g) v h := r
  unfold fn_167
  obtain ⟨n1, ln1, r⟩ := rn_steps 3 (8, [some (.ref 540)], [.int (g 540 4), .int (g 540 5)], aa_H g) rfl r
  refine rn_ic (ir_s g v h) rfl decide_eq_true_iff.symm r (fun c2 l3n l3 r => ?_) (fun c2 l3n l3 r => ?_)
  · obtain ⟨n4, ln4, r⟩ := rn_steps 0 (28, [some (.ref 540)], [.int (-1)], aa_H g) rfl r
    exact rn_ire rfl r
  · obtain ⟨n5, ln5, r⟩ := rn_steps 3 (19, [some (.ref 540)], [.int (g 540 5), .ref 543], aa_H g) rfl r
    obtain ⟨hb7, n6, ln6, r⟩ := rn_bal (k := 543) rfl ⟨by decide, by decide⟩ rfl (by decide) r
    have r : rn_s _ 167 (20, [some (.ref 540)], [.int (g 543 (g 540 5).toNatClampNeg)], aa_H g) v h := r
    obtain ⟨n8, ln8, r⟩ := rn_steps 2 (28, [some (.ref 540)], [.int ((g 543 (g 540 5).toNatClampNeg) &&& 255)], aa_H g) rfl r
    exact rn_ire rfl r
-- 173: UnequalHoursModel takes
noncomputable def fn_173 (g : aa_G) (a1 : Int32) : Int32 × aa_G := if (fn_167 g) = a1 then (1, zz_w g 540 5 ((g 540 5) + 1)) else ((fn_169 g (g 540 5)).1, (fn_169 g (g 540 5)).2)
theorem dn_173 {v : Option Value} {h : zz_H} {n : Nat} {g : aa_G} {a1 : Int32}  (r : rn_s n 173 (0, zz_in [.ref 540, .int a1] (zz_nl 173), [], aa_H g) v h) : iw_s v h (fn_173 g a1) := by
  have r : rn_s n 173 (0, [some (.ref 540), some (.int a1)], [], aa_H g) v h := r
  unfold fn_173
  obtain ⟨n1, ln1, r⟩ := rn_steps 0 (1, [some (.ref 540), some (.int a1)], [.ref 540], aa_H g) rfl r
  obtain ⟨_, n2, v1, h1, -, ln2, rc, r⟩ := rn_call (m2 := 167) (as := [.ref 540]) (rest := []) rfl rfl r
  obtain ⟨rfl, rfl⟩ := dn_167 rc
  have r : rn_s _ 173 (4, [some (.ref 540), some (.int a1)], [.int (fn_167 g)], aa_H g) v h := r
  obtain ⟨n4, ln4, r⟩ := rn_steps 0 (5, [some (.ref 540), some (.int a1)], [.int a1, .int (fn_167 g)], aa_H g) rfl r
  refine rn_ic (iw_s v h) rfl decide_eq_true_iff.symm r (fun c5 l6n l6 r => ?_) (fun c5 l6n l6 r => ?_)
  · obtain ⟨n7, ln7, r⟩ := rn_steps 6 (28, [some (.ref 540), some (.int a1)], [.int 1], aa_H (zz_w g 540 5 ((g 540 5) + 1))) rfl r
    exact rn_ire rfl r
  · obtain ⟨n8, ln8, r⟩ := rn_steps 2 (13, [some (.ref 540), some (.int a1)], [.int (g 540 5), .ref 540], aa_H g) rfl r
    obtain ⟨_, n9, v1, h1, -, ln9, rc, r⟩ := rn_call (m2 := 169) (as := [.ref 540, .int (g 540 5)]) (rest := []) rfl rfl r
    obtain ⟨rfl, rfl⟩ := dn_169 rc
    have r : rn_s _ 173 (16, [some (.ref 540), some (.int a1)], [.int ((fn_169 g (g 540 5)).1)], aa_H ((fn_169 g (g 540 5)).2)) v h := r
    exact rn_ire rfl r
-- 172: UnequalHoursModel isFigure
noncomputable def fn_172 (a0 : Int32) : Int32 := if a0 < 48 then 0 else if 57 < a0 then 0 else 1
theorem dn_172 {v : Option Value} {h : zz_H} {n : Nat} {g : aa_G} {a0 : Int32}  (r : rn_s n 172 (0, zz_in [.int a0] (zz_nl 172), [], aa_H g) v h) : ir_s g v h (fn_172 a0) := by
  have r : rn_s n 172 (0, [some (.int a0)], [], aa_H g) v h := r
  unfold fn_172
  obtain ⟨n1, ln1, r⟩ := rn_steps 1 (3, [some (.int a0)], [.int 48, .int a0], aa_H g) rfl r
  refine rn_ic (ir_s g v h) rfl decide_eq_true_iff.symm r (fun c2 l3n l3 r => ?_) (fun c2 l3n l3 r => ?_)
  · obtain ⟨n4, ln4, r⟩ := rn_steps 0 (17, [some (.int a0)], [.int 0], aa_H g) rfl r
    exact rn_ire rfl r
  · obtain ⟨n5, ln5, r⟩ := rn_steps 1 (9, [some (.int a0)], [.int 57, .int a0], aa_H g) rfl r
    refine rn_ic (ir_s g v h) rfl decide_eq_true_iff.symm r (fun c6 l7n l7 r => ?_) (fun c6 l7n l7 r => ?_)
    · obtain ⟨n8, ln8, r⟩ := rn_steps 0 (17, [some (.int a0)], [.int 0], aa_H g) rfl r
      exact rn_ire rfl r
    · obtain ⟨n9, ln9, r⟩ := rn_steps 1 (17, [some (.int a0)], [.int 1], aa_H g) rfl r
      exact rn_ire rfl r
-- 171: UnequalHoursModel readDigits
noncomputable def fn_171_99 (g : aa_G) (s0 : Int32) : Int32 × aa_G := if s0 = 0 then (0, g) else (1, g)
theorem dn_171_99 {v : Option Value} {h : zz_H} {n : Nat} {g : aa_G} {s0 : Int32}  (x0 x1 : Option Value) (jx0 : rn_jk x0) (jx1 : rn_jk x1) (r : rn_s n 171 (99, [x0, x1], [.int s0], aa_H g) v h) : iw_s v h (fn_171_99 g s0) := by
  unfold fn_171_99
  refine rn_if (iw_s v h) rfl decide_eq_true_iff.symm r (fun c37 l38n l38 r => ?_) (fun c37 l38n l38 r => ?_)
  · obtain ⟨n39, ln39, r⟩ := rn_steps 0 (107, [x0, x1], [.int 0], aa_H g) rfl r
    exact rn_ire rfl r
  · obtain ⟨n40, ln40, r⟩ := rn_steps 1 (107, [x0, x1], [.int 1], aa_H g) rfl r
    exact rn_ire rfl r
noncomputable def fn_171_81 (g : aa_G)  : Int32 × aa_G := if (fn_172 (fn_167 g)) = 0 then (1, g) else fn_171_99 ((fn_169 g (g 540 5)).2) ((fn_169 g (g 540 5)).1)
theorem dn_171_81 {v : Option Value} {h : zz_H} {n : Nat} {g : aa_G}   (x1 : Option Value) (jx1 : rn_jk x1) (r : rn_s n 171 (81, [some (.ref 540), x1], [], aa_H g) v h) : iw_s v h (fn_171_81 g) := by
  unfold fn_171_81
  obtain ⟨n26, ln26, r⟩ := rn_steps 0 (82, [some (.ref 540), x1], [.ref 540], aa_H g) rfl r
  obtain ⟨_, n27, v1, h1, -, ln27, rc, r⟩ := rn_call (m2 := 167) (as := [.ref 540]) (rest := []) rfl rfl r
  obtain ⟨rfl, rfl⟩ := dn_167 rc
  have r : rn_s _ 171 (85, [some (.ref 540), x1], [.int (fn_167 g)], aa_H g) v h := r
  obtain ⟨_, n29, v1, h1, -, ln29, rc, r⟩ := rn_call (m2 := 172) (as := [.int (fn_167 g)]) (rest := []) rfl rfl r
  obtain ⟨rfl, rfl⟩ := dn_172 rc
  have r : rn_s _ 171 (88, [some (.ref 540), x1], [.int (fn_172 (fn_167 g))], aa_H g) v h := r
  refine rn_if (iw_s v h) rfl decide_eq_true_iff.symm r (fun c31 l32n l32 r => ?_) (fun c31 l32n l32 r => ?_)
  · obtain ⟨n33, ln33, r⟩ := rn_steps 1 (107, [some (.ref 540), x1], [.int 1], aa_H g) rfl r
    exact rn_ire rfl r
  · obtain ⟨n34, ln34, r⟩ := rn_steps 2 (96, [some (.ref 540), x1], [.int (g 540 5), .ref 540], aa_H g) rfl r
    obtain ⟨_, n35, v1, h1, -, ln35, rc, r⟩ := rn_call (m2 := 169) (as := [.ref 540, .int (g 540 5)]) (rest := []) rfl rfl r
    obtain ⟨rfl, rfl⟩ := dn_169 rc
    have r : rn_s _ 171 (99, [some (.ref 540), x1], [.int ((fn_169 g (g 540 5)).1)], aa_H ((fn_169 g (g 540 5)).2)) v h := r
    exact dn_171_99 (some (.ref 540)) x1 rn_jr jx1 r
noncomputable def fn_171_29b (g : aa_G) (b1 : Int32) : aa_G ⊕ (Int32 × aa_G) := if (fn_172 (fn_167 g)) = 0 then .inr (fn_171_81 g) else if 5 ≤ ((g 540 5) - b1) then .inr (fn_171_81 g) else .inl (zz_w (zz_w g 540 7 (((10 * (g 540 7)) + (fn_167 g)) - 48)) 540 5 ((g 540 5) + 1))
noncomputable def fn_171_29 (g : aa_G) (b1 : Int32) : Int32 × aa_G := lp_f (0, g) (fun z : aa_G => fn_171_29b z b1) g
theorem dn_171_29l {v : Option Value} {h : zz_H} {N : Nat} {b1 : Int32} {d : Int32 × aa_G} : ∀ (n : Nat), n ≤ N → ∀ (g : aa_G), rn_s n 171 (29, [some (.ref 540), some (.int b1)], [], aa_H g) v h → (iw_s v h) (lp_f d (fun z : aa_G => fn_171_29b z b1) g) := by
  generalize hf : (fun z : aa_G => fn_171_29b z b1) = f
  intro n
  induction n using Nat.strongRecOn with
  | _ n ih =>
    intro hN g  r
    refine lp_go ?_
    rw [← congrFun hf g]
    show lp_q (iw_s v h) d f (fn_171_29b g b1)
    unfold fn_171_29b
    obtain ⟨n12, ln12, r⟩ := rn_steps 0 (30, [some (.ref 540), some (.int b1)], [.ref 540], aa_H g) rfl r
    obtain ⟨_, n13, v1, h1, -, ln13, rc, r⟩ := rn_call (m2 := 167) (as := [.ref 540]) (rest := []) rfl rfl r
    obtain ⟨rfl, rfl⟩ := dn_167 rc
    have r : rn_s _ 171 (33, [some (.ref 540), some (.int b1)], [.int (fn_167 g)], aa_H g) v h := r
    obtain ⟨_, n15, v1, h1, -, ln15, rc, r⟩ := rn_call (m2 := 172) (as := [.int (fn_167 g)]) (rest := []) rfl rfl r
    obtain ⟨rfl, rfl⟩ := dn_172 rc
    have r : rn_s _ 171 (36, [some (.ref 540), some (.int b1)], [.int (fn_172 (fn_167 g))], aa_H g) v h := r
    refine rn_if (lp_q (iw_s v h) d f) rfl decide_eq_true_iff.symm r (fun c17 l18n l18 r => ?_) (fun c17 l18n l18 r => ?_)
    · exact dn_171_81 (some (.int b1)) rn_ji r
    · obtain ⟨n19, ln19, r⟩ := rn_steps 4 (46, [some (.ref 540), some (.int b1)], [.int 5, .int ((g 540 5) - b1)], aa_H g) rfl r
      refine rn_ic (lp_q (iw_s v h) d f) rfl decide_eq_true_iff.symm r (fun c20 l21n l21 r => ?_) (fun c20 l21n l21 r => ?_)
      · exact dn_171_81 (some (.int b1)) rn_ji r
      · obtain ⟨n22, ln22, r⟩ := rn_steps 5 (58, [some (.ref 540), some (.int b1)], [.ref 540, .int (10 * (g 540 7)), .ref 540], aa_H g) rfl r
        obtain ⟨_, n23, v1, h1, -, ln23, rc, r⟩ := rn_call (m2 := 167) (as := [.ref 540]) (rest := [.int (10 * (g 540 7)), .ref 540]) rfl rfl r
        obtain ⟨rfl, rfl⟩ := dn_167 rc
        have r : rn_s _ 171 (61, [some (.ref 540), some (.int b1)], [.int (fn_167 g), .int (10 * (g 540 7)), .ref 540], aa_H g) v h := r
        obtain ⟨n25, ln25, r⟩ := rn_steps 10 (29, [some (.ref 540), some (.int b1)], [], aa_H (zz_w (zz_w g 540 7 (((10 * (g 540 7)) + (fn_167 g)) - 48)) 540 5 ((g 540 5) + 1))) rfl r
        exact ih _ (by omega) (by omega) (zz_w (zz_w g 540 7 (((10 * (g 540 7)) + (fn_167 g)) - 48)) 540 5 ((g 540 5) + 1)) r
theorem dn_171_29 {v : Option Value} {h : zz_H} {n : Nat} {g : aa_G} {b1 : Int32}  (r : rn_s n 171 (29, [some (.ref 540), some (.int b1)], [], aa_H g) v h) : (iw_s v h) (fn_171_29 g b1) := dn_171_29l  n (Nat.le_refl n) g r
noncomputable def fn_171 (g : aa_G)  : Int32 × aa_G := if (fn_172 (fn_167 g)) ≠ 0 then fn_171_29 (zz_w g 540 7 0) (g 540 5) else ((fn_169 g (g 540 5)).1, (fn_169 g (g 540 5)).2)
theorem dn_171 {v : Option Value} {h : zz_H} {n : Nat} {g : aa_G}   (r : rn_s n 171 (0, zz_in [.ref 540] (zz_nl 171), [], aa_H g) v h) : iw_s v h (fn_171 g) := by
  have r : rn_s n 171 (0, [some (.ref 540), none], [], aa_H g) v h := r
  unfold fn_171
  obtain ⟨n1, ln1, r⟩ := rn_steps 0 (1, [some (.ref 540), none], [.ref 540], aa_H g) rfl r
  obtain ⟨_, n2, v1, h1, -, ln2, rc, r⟩ := rn_call (m2 := 167) (as := [.ref 540]) (rest := []) rfl rfl r
  obtain ⟨rfl, rfl⟩ := dn_167 rc
  have r : rn_s _ 171 (4, [some (.ref 540), none], [.int (fn_167 g)], aa_H g) v h := r
  obtain ⟨_, n4, v1, h1, -, ln4, rc, r⟩ := rn_call (m2 := 172) (as := [.int (fn_167 g)]) (rest := []) rfl rfl r
  obtain ⟨rfl, rfl⟩ := dn_172 rc
  have r : rn_s _ 171 (7, [some (.ref 540), none], [.int (fn_172 (fn_167 g))], aa_H g) v h := r
  refine rn_if (iw_s v h) rfl decide_eq_true_iff.symm r (fun c6 l7n l7 r => ?_) (fun c6 l7n l7 r => ?_)
  · obtain ⟨n8, ln8, r⟩ := rn_steps 5 (29, [some (.ref 540), some (.int (g 540 5))], [], aa_H (zz_w g 540 7 0)) rfl r
    exact dn_171_29 r
  · obtain ⟨n9, ln9, r⟩ := rn_steps 2 (15, [some (.ref 540), none], [.int (g 540 5), .ref 540], aa_H g) rfl r
    obtain ⟨_, n10, v1, h1, -, ln10, rc, r⟩ := rn_call (m2 := 169) (as := [.ref 540, .int (g 540 5)]) (rest := []) rfl rfl r
    obtain ⟨rfl, rfl⟩ := dn_169 rc
    have r : rn_s _ 171 (18, [some (.ref 540), none], [.int ((fn_169 g (g 540 5)).1)], aa_H ((fn_169 g (g 540 5)).2)) v h := r
    exact rn_ire rfl r
-- 170: UnequalHoursModel readSigned
noncomputable def fn_170_83 (g : aa_G) (s0 : Int32) : Int32 × aa_G := if s0 = 0 then (0, g) else (1, g)
theorem dn_170_83 {v : Option Value} {h : zz_H} {n : Nat} {g : aa_G} {s0 : Int32}  (x0 x1 x2 x3 x4 : Option Value) (jx0 : rn_jk x0) (jx1 : rn_jk x1) (jx2 : rn_jk x2) (jx3 : rn_jk x3) (jx4 : rn_jk x4) (r : rn_s n 170 (83, [x0, x1, x2, x3, x4], [.int s0], aa_H g) v h) : iw_s v h (fn_170_83 g s0) := by
  unfold fn_170_83
  refine rn_if (iw_s v h) rfl decide_eq_true_iff.symm r (fun c33 l34n l34 r => ?_) (fun c33 l34n l34 r => ?_)
  · obtain ⟨n35, ln35, r⟩ := rn_steps 0 (91, [x0, x1, x2, x3, x4], [.int 0], aa_H g) rfl r
    exact rn_ire rfl r
  · obtain ⟨n36, ln36, r⟩ := rn_steps 1 (91, [x0, x1, x2, x3, x4], [.int 1], aa_H g) rfl r
    exact rn_ire rfl r
noncomputable def fn_170_63 (g : aa_G) (b1 : Int32) (b2 : Int32) (b3 : Int32) (s0 : Int32) : Int32 × aa_G := if (fn_154 s0 b1 b2) ≠ 0 then (1, zz_w g 540 7 s0) else fn_170_83 ((fn_169 (zz_w g 540 7 s0) b3).2) ((fn_169 (zz_w g 540 7 s0) b3).1)
theorem dn_170_63 {v : Option Value} {h : zz_H} {n : Nat} {g : aa_G} {b1 : Int32} {b2 : Int32} {b3 : Int32} {s0 : Int32}  (x4 : Option Value) (jx4 : rn_jk x4) (r : rn_s n 170 (63, [some (.ref 540), some (.int b1), some (.int b2), some (.int b3), x4], [.int s0, .ref 540], aa_H g) v h) : iw_s v h (fn_170_63 g b1 b2 b3 s0) := by
  unfold fn_170_63
  obtain ⟨n24, ln24, r⟩ := rn_steps 4 (72, [some (.ref 540), some (.int b1), some (.int b2), some (.int b3), x4], [.int b2, .int b1, .int s0], aa_H (zz_w g 540 7 s0)) rfl r
  obtain ⟨_, n25, v1, h1, -, ln25, rc, r⟩ := rn_call (m2 := 154) (as := [.int s0, .int b1, .int b2]) (rest := []) rfl rfl r
  obtain ⟨rfl, rfl⟩ := dn_154 rc
  have r : rn_s _ 170 (75, [some (.ref 540), some (.int b1), some (.int b2), some (.int b3), x4], [.int (fn_154 s0 b1 b2)], aa_H (zz_w g 540 7 s0)) v h := r
  refine rn_if (iw_s v h) rfl decide_eq_true_iff.symm r (fun c27 l28n l28 r => ?_) (fun c27 l28n l28 r => ?_)
  · obtain ⟨n29, ln29, r⟩ := rn_steps 1 (91, [some (.ref 540), some (.int b1), some (.int b2), some (.int b3), x4], [.int 1], aa_H (zz_w g 540 7 s0)) rfl r
    exact rn_ire rfl r
  · obtain ⟨n30, ln30, r⟩ := rn_steps 1 (80, [some (.ref 540), some (.int b1), some (.int b2), some (.int b3), x4], [.int b3, .ref 540], aa_H (zz_w g 540 7 s0)) rfl r
    obtain ⟨_, n31, v1, h1, -, ln31, rc, r⟩ := rn_call (m2 := 169) (as := [.ref 540, .int b3]) (rest := []) rfl rfl r
    obtain ⟨rfl, rfl⟩ := dn_169 rc
    have r : rn_s _ 170 (83, [some (.ref 540), some (.int b1), some (.int b2), some (.int b3), x4], [.int ((fn_169 (zz_w g 540 7 s0) b3).1)], aa_H ((fn_169 (zz_w g 540 7 s0) b3).2)) v h := r
    exact dn_170_83 (some (.ref 540)) (some (.int b1)) (some (.int b2)) (some (.int b3)) x4 rn_jr rn_ji rn_ji rn_ji jx4 r
noncomputable def fn_170_40 (g : aa_G) (b1 : Int32) (b2 : Int32) (b3 : Int32) (b4 : Int32) (s0 : Int32) : Int32 × aa_G := if s0 ≠ 0 then if b4 = 0 then fn_170_63 g b1 b2 b3 (g 540 7) else fn_170_63 g b1 b2 b3 (-(g 540 7)) else (0, g)
theorem dn_170_40 {v : Option Value} {h : zz_H} {n : Nat} {g : aa_G} {b1 : Int32} {b2 : Int32} {b3 : Int32} {b4 : Int32} {s0 : Int32}  (r : rn_s n 170 (40, [some (.ref 540), some (.int b1), some (.int b2), some (.int b3), some (.int b4)], [.int s0], aa_H g) v h) : iw_s v h (fn_170_40 g b1 b2 b3 b4 s0) := by
  unfold fn_170_40
  refine rn_if (iw_s v h) rfl decide_eq_true_iff.symm r (fun c16 l17n l17 r => ?_) (fun c16 l17n l17 r => ?_)
  · obtain ⟨n18, ln18, r⟩ := rn_steps 1 (48, [some (.ref 540), some (.int b1), some (.int b2), some (.int b3), some (.int b4)], [.int b4, .ref 540], aa_H g) rfl r
    refine rn_if (iw_s v h) rfl decide_eq_true_iff.symm r (fun c19 l20n l20 r => ?_) (fun c19 l20n l20 r => ?_)
    · obtain ⟨n21, ln21, r⟩ := rn_steps 1 (63, [some (.ref 540), some (.int b1), some (.int b2), some (.int b3), some (.int b4)], [.int (g 540 7), .ref 540], aa_H g) rfl r
      exact dn_170_63 (some (.int b4)) rn_ji r
    · obtain ⟨n22, ln22, r⟩ := rn_steps 3 (63, [some (.ref 540), some (.int b1), some (.int b2), some (.int b3), some (.int b4)], [.int (-(g 540 7)), .ref 540], aa_H g) rfl r
      exact dn_170_63 (some (.int b4)) rn_ji r
  · obtain ⟨n23, ln23, r⟩ := rn_steps 0 (44, [some (.ref 540), some (.int b1), some (.int b2), some (.int b3), some (.int b4)], [.int 0], aa_H g) rfl r
    exact rn_ire rfl r
noncomputable def fn_170_36 (g : aa_G) (b1 : Int32) (b2 : Int32) (b3 : Int32) (b4 : Int32) : Int32 × aa_G := fn_170_40 ((fn_171 g).2) b1 b2 b3 b4 ((fn_171 g).1)
theorem dn_170_36 {v : Option Value} {h : zz_H} {n : Nat} {g : aa_G} {b1 : Int32} {b2 : Int32} {b3 : Int32} {b4 : Int32}  (r : rn_s n 170 (36, [some (.ref 540), some (.int b1), some (.int b2), some (.int b3), some (.int b4)], [], aa_H g) v h) : iw_s v h (fn_170_36 g b1 b2 b3 b4) := by
  unfold fn_170_36
  obtain ⟨n13, ln13, r⟩ := rn_steps 0 (37, [some (.ref 540), some (.int b1), some (.int b2), some (.int b3), some (.int b4)], [.ref 540], aa_H g) rfl r
  obtain ⟨_, n14, v1, h1, -, ln14, rc, r⟩ := rn_call (m2 := 171) (as := [.ref 540]) (rest := []) rfl rfl r
  obtain ⟨rfl, rfl⟩ := dn_171 rc
  have r : rn_s _ 170 (40, [some (.ref 540), some (.int b1), some (.int b2), some (.int b3), some (.int b4)], [.int ((fn_171 g).1)], aa_H ((fn_171 g).2)) v h := r
  exact dn_170_40 r
noncomputable def fn_170_19 (g : aa_G) (b1 : Int32) (b2 : Int32) (b3 : Int32) (s0 : Int32) : Int32 × aa_G := if s0 = 0 then fn_170_36 g b1 b2 b3 s0 else fn_170_36 (zz_w g 540 5 ((g 540 5) + 1)) b1 b2 b3 s0
theorem dn_170_19 {v : Option Value} {h : zz_H} {n : Nat} {g : aa_G} {b1 : Int32} {b2 : Int32} {b3 : Int32} {s0 : Int32}  (x4 : Option Value) (jx4 : rn_jk x4) (r : rn_s n 170 (19, [some (.ref 540), some (.int b1), some (.int b2), some (.int b3), x4], [.int s0], aa_H g) v h) : iw_s v h (fn_170_19 g b1 b2 b3 s0) := by
  unfold fn_170_19
  obtain ⟨n9, ln9, r⟩ := rn_steps 1 (23, [some (.ref 540), some (.int b1), some (.int b2), some (.int b3), some (.int s0)], [.int s0], aa_H g) rfl r
  refine rn_if (iw_s v h) rfl decide_eq_true_iff.symm r (fun c10 l11n l11 r => ?_) (fun c10 l11n l11 r => ?_)
  · exact dn_170_36 r
  · obtain ⟨n12, ln12, r⟩ := rn_steps 5 (36, [some (.ref 540), some (.int b1), some (.int b2), some (.int b3), some (.int s0)], [], aa_H (zz_w g 540 5 ((g 540 5) + 1))) rfl r
    exact dn_170_36 r
noncomputable def fn_170 (g : aa_G) (a1 : Int32) (a2 : Int32) : Int32 × aa_G := if (fn_167 g) ≠ 45 then fn_170_19 g a1 a2 (g 540 5) 0 else fn_170_19 g a1 a2 (g 540 5) 1
theorem dn_170 {v : Option Value} {h : zz_H} {n : Nat} {g : aa_G} {a1 : Int32} {a2 : Int32}  (r : rn_s n 170 (0, zz_in [.ref 540, .int a1, .int a2] (zz_nl 170), [], aa_H g) v h) : iw_s v h (fn_170 g a1 a2) := by
  have r : rn_s n 170 (0, [some (.ref 540), some (.int a1), some (.int a2), none, none], [], aa_H g) v h := r
  unfold fn_170
  obtain ⟨n1, ln1, r⟩ := rn_steps 3 (6, [some (.ref 540), some (.int a1), some (.int a2), some (.int (g 540 5)), none], [.ref 540], aa_H g) rfl r
  obtain ⟨_, n2, v1, h1, -, ln2, rc, r⟩ := rn_call (m2 := 167) (as := [.ref 540]) (rest := []) rfl rfl r
  obtain ⟨rfl, rfl⟩ := dn_167 rc
  have r : rn_s _ 170 (9, [some (.ref 540), some (.int a1), some (.int a2), some (.int (g 540 5)), none], [.int (fn_167 g)], aa_H g) v h := r
  obtain ⟨n4, ln4, r⟩ := rn_steps 0 (11, [some (.ref 540), some (.int a1), some (.int a2), some (.int (g 540 5)), none], [.int 45, .int (fn_167 g)], aa_H g) rfl r
  refine rn_ic (iw_s v h) rfl decide_eq_true_iff.symm r (fun c5 l6n l6 r => ?_) (fun c5 l6n l6 r => ?_)
  · obtain ⟨n7, ln7, r⟩ := rn_steps 0 (19, [some (.ref 540), some (.int a1), some (.int a2), some (.int (g 540 5)), none], [.int 0], aa_H g) rfl r
    exact dn_170_19 none rn_jn r
  · obtain ⟨n8, ln8, r⟩ := rn_steps 1 (19, [some (.ref 540), some (.int a1), some (.int a2), some (.int (g 540 5)), none], [.int 1], aa_H g) rfl r
    exact dn_170_19 none rn_jn r
-- 262: UnequalHoursModel numbersOf
noncomputable def fn_262 (a0 : Int32) : Int32 := if a0 = 111 then 2 else if a0 ≠ 114 then if a0 ≠ 113 then if a0 ≠ 115 then 0 else 4 else 1 else 2
theorem dn_262 {v : Option Value} {h : zz_H} {n : Nat} {g : aa_G} {a0 : Int32}  (r : rn_s n 262 (0, zz_in [.int a0] (zz_nl 262), [], aa_H g) v h) : ir_s g v h (fn_262 a0) := by
  have r : rn_s n 262 (0, [some (.int a0)], [], aa_H g) v h := r
  unfold fn_262
  obtain ⟨n1, ln1, r⟩ := rn_steps 1 (3, [some (.int a0)], [.int 111, .int a0], aa_H g) rfl r
  refine rn_ic (ir_s g v h) rfl decide_eq_true_iff.symm r (fun c2 l3n l3 r => ?_) (fun c2 l3n l3 r => ?_)
  · obtain ⟨n4, ln4, r⟩ := rn_steps 1 (37, [some (.int a0)], [.int 2], aa_H g) rfl r
    exact rn_ire rfl r
  · obtain ⟨n5, ln5, r⟩ := rn_steps 1 (9, [some (.int a0)], [.int 114, .int a0], aa_H g) rfl r
    refine rn_ic (ir_s g v h) rfl decide_eq_true_iff.symm r (fun c6 l7n l7 r => ?_) (fun c6 l7n l7 r => ?_)
    · obtain ⟨n8, ln8, r⟩ := rn_steps 1 (19, [some (.int a0)], [.int 113, .int a0], aa_H g) rfl r
      refine rn_ic (ir_s g v h) rfl decide_eq_true_iff.symm r (fun c9 l10n l10 r => ?_) (fun c9 l10n l10 r => ?_)
      · obtain ⟨n11, ln11, r⟩ := rn_steps 1 (29, [some (.int a0)], [.int 115, .int a0], aa_H g) rfl r
        refine rn_ic (ir_s g v h) rfl decide_eq_true_iff.symm r (fun c12 l13n l13 r => ?_) (fun c12 l13n l13 r => ?_)
        · obtain ⟨n14, ln14, r⟩ := rn_steps 0 (37, [some (.int a0)], [.int 0], aa_H g) rfl r
          exact rn_ire rfl r
        · obtain ⟨n15, ln15, r⟩ := rn_steps 1 (37, [some (.int a0)], [.int 4], aa_H g) rfl r
          exact rn_ire rfl r
      · obtain ⟨n16, ln16, r⟩ := rn_steps 1 (37, [some (.int a0)], [.int 1], aa_H g) rfl r
        exact rn_ire rfl r
    · obtain ⟨n17, ln17, r⟩ := rn_steps 1 (37, [some (.int a0)], [.int 2], aa_H g) rfl r
      exact rn_ire rfl r
-- 261: UnequalHoursModel readAct
noncomputable def fn_261_21 (g : aa_G)  : Int32 × aa_G := ((fn_169 g (g 540 5)).1, (fn_169 g (g 540 5)).2)
theorem dn_261_21 {v : Option Value} {h : zz_H} {n : Nat} {g : aa_G}   (x1 x2 x3 : Option Value) (jx1 : rn_jk x1) (jx2 : rn_jk x2) (jx3 : rn_jk x3) (r : rn_s n 261 (21, [some (.ref 540), x1, x2, x3], [], aa_H g) v h) : iw_s v h (fn_261_21 g) := by
  unfold fn_261_21
  obtain ⟨n18, ln18, r⟩ := rn_steps 2 (26, [some (.ref 540), x1, x2, x3], [.int (g 540 5), .ref 540], aa_H g) rfl r
  obtain ⟨_, n19, v1, h1, -, ln19, rc, r⟩ := rn_call (m2 := 169) (as := [.ref 540, .int (g 540 5)]) (rest := []) rfl rfl r
  obtain ⟨rfl, rfl⟩ := dn_169 rc
  have r : rn_s _ 261 (29, [some (.ref 540), x1, x2, x3], [.int ((fn_169 g (g 540 5)).1)], aa_H ((fn_169 g (g 540 5)).2)) v h := r
  exact rn_ire rfl r
noncomputable def fn_261_88 (g : aa_G) (b1 : Int32) (b2 : Int32) (b3 : Int32) (s0 : Int32) : (aa_G × Int32) ⊕ (Int32 × aa_G) := if s0 ≠ 0 then .inl (zz_w g 552 (b2 + b3).toNatClampNeg (g 540 7), b3 + 1) else .inr (0, g)
theorem dn_261_88 {v : Option Value} {h : zz_H} {n : Nat} {g : aa_G} {b1 : Int32} {b2 : Int32} {b3 : Int32} {s0 : Int32} (P : (aa_G × Int32) ⊕ (Int32 × aa_G) → Prop) (hO0 : ∀ n2, n2 < n → ∀ (yg : aa_G) (yb3 : Int32), rn_s n2 261 (59, [some (.ref 540), some (.int b1), some (.int b2), some (.int yb3)], [], aa_H yg) v h → P (.inl (yg, yb3))) (hR : ∀ E, iw_s v h E → P (.inr E))  (r : rn_s n 261 (88, [some (.ref 540), some (.int b1), some (.int b2), some (.int b3)], [.int s0], aa_H g) v h) : P (fn_261_88 g b1 b2 b3 s0) := by
  unfold fn_261_88
  refine rn_if (P) rfl decide_eq_true_iff.symm r (fun c40 l41n l41 r => ?_) (fun c40 l41n l41 r => ?_)
  · obtain ⟨n42, ln42, r⟩ := rn_steps 6 (104, [some (.ref 540), some (.int b1), some (.int b2), some (.int b3)], [.int (g 540 7), .int (b2 + b3), .ref 552], aa_H g) rfl r
    obtain ⟨hb44, n43, ln43, r⟩ := rn_ias (k := 552) rfl ⟨by decide, by decide⟩ rfl r
    have r : rn_s _ 261 (105, [some (.ref 540), some (.int b1), some (.int b2), some (.int b3)], [], aa_H (zz_w g 552 (b2 + b3).toNatClampNeg (g 540 7))) v h := r
    obtain ⟨n45, ln45, r⟩ := rn_steps 1 (59, [some (.ref 540), some (.int b1), some (.int b2), some (.int (b3 + 1))], [], aa_H (zz_w g 552 (b2 + b3).toNatClampNeg (g 540 7))) rfl r
    exact hO0 _ (by omega) (zz_w g 552 (b2 + b3).toNatClampNeg (g 540 7)) (b3 + 1) r
  · obtain ⟨n46, ln46, r⟩ := rn_steps 0 (92, [some (.ref 540), some (.int b1), some (.int b2), some (.int b3)], [.int 0], aa_H g) rfl r
    exact hR _ (rn_ire rfl r)
noncomputable def fn_261_78 (g : aa_G) (b1 : Int32) (b2 : Int32) (b3 : Int32) : (aa_G × Int32) ⊕ (Int32 × aa_G) := fn_261_88 ((fn_170 g (-99999) 99999).2) b1 b2 b3 ((fn_170 g (-99999) 99999).1)
theorem dn_261_78 {v : Option Value} {h : zz_H} {n : Nat} {g : aa_G} {b1 : Int32} {b2 : Int32} {b3 : Int32} (P : (aa_G × Int32) ⊕ (Int32 × aa_G) → Prop) (hO0 : ∀ n2, n2 < n → ∀ (yg : aa_G) (yb3 : Int32), rn_s n2 261 (59, [some (.ref 540), some (.int b1), some (.int b2), some (.int yb3)], [], aa_H yg) v h → P (.inl (yg, yb3))) (hR : ∀ E, iw_s v h E → P (.inr E))  (r : rn_s n 261 (78, [some (.ref 540), some (.int b1), some (.int b2), some (.int b3)], [], aa_H g) v h) : P (fn_261_78 g b1 b2 b3) := by
  unfold fn_261_78
  obtain ⟨n34, ln34, r⟩ := rn_steps 2 (85, [some (.ref 540), some (.int b1), some (.int b2), some (.int b3)], [.int 99999, .int (-99999), .ref 540], aa_H g) rfl r
  obtain ⟨_, n35, v1, h1, -, ln35, rc, r⟩ := rn_call (m2 := 170) (as := [.ref 540, .int (-99999), .int 99999]) (rest := []) rfl rfl r
  obtain ⟨rfl, rfl⟩ := dn_170 rc
  have r : rn_s _ 261 (88, [some (.ref 540), some (.int b1), some (.int b2), some (.int b3)], [.int ((fn_170 g (-99999) 99999).1)], aa_H ((fn_170 g (-99999) 99999).2)) v h := r
  exact dn_261_88 (P) (fun n2 l2 => hO0 n2 (by omega)) (fun z hz => hR _ hz) r
noncomputable def fn_261_75 (g : aa_G) (b1 : Int32) (b2 : Int32) (b3 : Int32) (s0 : Int32) : (aa_G × Int32) ⊕ (Int32 × aa_G) := if s0 = 0 then .inr (0, g) else fn_261_78 g b1 b2 b3
theorem dn_261_75 {v : Option Value} {h : zz_H} {n : Nat} {g : aa_G} {b1 : Int32} {b2 : Int32} {b3 : Int32} {s0 : Int32} (P : (aa_G × Int32) ⊕ (Int32 × aa_G) → Prop) (hO0 : ∀ n2, n2 < n → ∀ (yg : aa_G) (yb3 : Int32), rn_s n2 261 (59, [some (.ref 540), some (.int b1), some (.int b2), some (.int yb3)], [], aa_H yg) v h → P (.inl (yg, yb3))) (hR : ∀ E, iw_s v h E → P (.inr E))  (r : rn_s n 261 (75, [some (.ref 540), some (.int b1), some (.int b2), some (.int b3)], [.int s0], aa_H g) v h) : P (fn_261_75 g b1 b2 b3 s0) := by
  unfold fn_261_75
  refine rn_if (P) rfl decide_eq_true_iff.symm r (fun c37 l38n l38 r => ?_) (fun c37 l38n l38 r => ?_)
  · obtain ⟨n39, ln39, r⟩ := rn_steps 0 (92, [some (.ref 540), some (.int b1), some (.int b2), some (.int b3)], [.int 0], aa_H g) rfl r
    exact hR _ (rn_ire rfl r)
  · exact dn_261_78 (P) (fun n2 l2 => hO0 n2 (by omega)) (fun z hz => hR _ hz) r
noncomputable def fn_261_59b (g : aa_G) (b1 : Int32) (b2 : Int32) (b3 : Int32) : (aa_G × Int32) ⊕ (Int32 × aa_G) := if b1 < b3 then .inr ((fn_173 (zz_w g 540 34 ((g 540 34) + 1)) 59).1, (fn_173 (zz_w g 540 34 ((g 540 34) + 1)) 59).2) else if b3 ≤ 1 then fn_261_78 g b1 b2 b3 else fn_261_75 ((fn_173 g 44).2) b1 b2 b3 ((fn_173 g 44).1)
noncomputable def fn_261_59 (g : aa_G) (b1 : Int32) (b2 : Int32) (b3 : Int32) : Int32 × aa_G := lp_f (0, g) (fun z : (aa_G × Int32) => fn_261_59b z.1 b1 b2 z.2) (g, b3)
theorem dn_261_59l {v : Option Value} {h : zz_H} {N : Nat} {b1 : Int32} {b2 : Int32} {d : Int32 × aa_G} : ∀ (n : Nat), n ≤ N → ∀ (g : aa_G) (b3 : Int32), rn_s n 261 (59, [some (.ref 540), some (.int b1), some (.int b2), some (.int b3)], [], aa_H g) v h → (iw_s v h) (lp_f d (fun z : (aa_G × Int32) => fn_261_59b z.1 b1 b2 z.2) (g, b3)) := by
  generalize hf : (fun z : (aa_G × Int32) => fn_261_59b z.1 b1 b2 z.2) = f
  intro n
  induction n using Nat.strongRecOn with
  | _ n ih =>
    intro hN g b3  r
    refine lp_go ?_
    rw [← congrFun hf (g, b3)]
    show lp_q (iw_s v h) d f (fn_261_59b g b1 b2 b3)
    unfold fn_261_59b
    obtain ⟨n22, ln22, r⟩ := rn_steps 1 (61, [some (.ref 540), some (.int b1), some (.int b2), some (.int b3)], [.int b1, .int b3], aa_H g) rfl r
    refine rn_ic (lp_q (iw_s v h) d f) rfl decide_eq_true_iff.symm r (fun c23 l24n l24 r => ?_) (fun c23 l24n l24 r => ?_)
    · obtain ⟨n25, ln25, r⟩ := rn_steps 7 (124, [some (.ref 540), some (.int b1), some (.int b2), some (.int b3)], [.int 59, .ref 540], aa_H (zz_w g 540 34 ((g 540 34) + 1))) rfl r
      obtain ⟨_, n26, v1, h1, -, ln26, rc, r⟩ := rn_call (m2 := 173) (as := [.ref 540, .int 59]) (rest := []) rfl rfl r
      obtain ⟨rfl, rfl⟩ := dn_173 rc
      have r : rn_s _ 261 (127, [some (.ref 540), some (.int b1), some (.int b2), some (.int b3)], [.int ((fn_173 (zz_w g 540 34 ((g 540 34) + 1)) 59).1)], aa_H ((fn_173 (zz_w g 540 34 ((g 540 34) + 1)) 59).2)) v h := r
      exact rn_ire rfl r
    · obtain ⟨n28, ln28, r⟩ := rn_steps 1 (66, [some (.ref 540), some (.int b1), some (.int b2), some (.int b3)], [.int 1, .int b3], aa_H g) rfl r
      refine rn_ic (lp_q (iw_s v h) d f) rfl decide_eq_true_iff.symm r (fun c29 l30n l30 r => ?_) (fun c29 l30n l30 r => ?_)
      · exact dn_261_78 (lp_q (iw_s v h) d f) (fun n2 l2 => ih n2 (by omega) (by omega)) (fun z hz => hz) r
      · obtain ⟨n31, ln31, r⟩ := rn_steps 1 (72, [some (.ref 540), some (.int b1), some (.int b2), some (.int b3)], [.int 44, .ref 540], aa_H g) rfl r
        obtain ⟨_, n32, v1, h1, -, ln32, rc, r⟩ := rn_call (m2 := 173) (as := [.ref 540, .int 44]) (rest := []) rfl rfl r
        obtain ⟨rfl, rfl⟩ := dn_173 rc
        have r : rn_s _ 261 (75, [some (.ref 540), some (.int b1), some (.int b2), some (.int b3)], [.int ((fn_173 g 44).1)], aa_H ((fn_173 g 44).2)) v h := r
        exact dn_261_75 (lp_q (iw_s v h) d f) (fun n2 l2 => ih n2 (by omega) (by omega)) (fun z hz => hz) r
theorem dn_261_59 {v : Option Value} {h : zz_H} {n : Nat} {g : aa_G} {b1 : Int32} {b2 : Int32} {b3 : Int32}  (r : rn_s n 261 (59, [some (.ref 540), some (.int b1), some (.int b2), some (.int b3)], [], aa_H g) v h) : (iw_s v h) (fn_261_59 g b1 b2 b3) := dn_261_59l  n (Nat.le_refl n) g b3 r
noncomputable def fn_261_49 (g : aa_G) (b1 : Int32) (b2 : Int32) : Int32 × aa_G := fn_261_59 (zz_w g 540 5 ((g 540 5) + 1)) b1 b2 1
theorem dn_261_49 {v : Option Value} {h : zz_H} {n : Nat} {g : aa_G} {b1 : Int32} {b2 : Int32}  (x3 : Option Value) (jx3 : rn_jk x3) (r : rn_s n 261 (49, [some (.ref 540), some (.int b1), some (.int b2), x3], [.ref 540, .ref 540], aa_H g) v h) : iw_s v h (fn_261_49 g b1 b2) := by
  unfold fn_261_49
  obtain ⟨n21, ln21, r⟩ := rn_steps 5 (59, [some (.ref 540), some (.int b1), some (.int b2), some (.int 1)], [], aa_H (zz_w g 540 5 ((g 540 5) + 1))) rfl r
  exact dn_261_59 r
noncomputable def fn_261 (g : aa_G)  : Int32 × aa_G := if (fn_262 (fn_167 g)) = 0 then fn_261_21 g else if (g 540 34) ≠ 30 then fn_261_49 (zz_w g 552 (5 * (g 540 34)).toNatClampNeg (fn_167 g)) (fn_262 (fn_167 g)) (5 * (g 540 34)) else fn_261_21 g
theorem dn_261 {v : Option Value} {h : zz_H} {n : Nat} {g : aa_G}   (r : rn_s n 261 (0, zz_in [.ref 540] (zz_nl 261), [], aa_H g) v h) : iw_s v h (fn_261 g) := by
  have r : rn_s n 261 (0, [some (.ref 540), none, none, none], [], aa_H g) v h := r
  unfold fn_261
  obtain ⟨n1, ln1, r⟩ := rn_steps 0 (1, [some (.ref 540), none, none, none], [.ref 540], aa_H g) rfl r
  obtain ⟨_, n2, v1, h1, -, ln2, rc, r⟩ := rn_call (m2 := 167) (as := [.ref 540]) (rest := []) rfl rfl r
  obtain ⟨rfl, rfl⟩ := dn_167 rc
  have r : rn_s _ 261 (4, [some (.ref 540), none, none, none], [.int (fn_167 g)], aa_H g) v h := r
  obtain ⟨_, n4, v1, h1, -, ln4, rc, r⟩ := rn_call (m2 := 262) (as := [.int (fn_167 g)]) (rest := []) rfl rfl r
  obtain ⟨rfl, rfl⟩ := dn_262 rc
  have r : rn_s _ 261 (7, [some (.ref 540), none, none, none], [.int (fn_262 (fn_167 g))], aa_H g) v h := r
  obtain ⟨n6, ln6, r⟩ := rn_steps 1 (9, [some (.ref 540), some (.int (fn_262 (fn_167 g))), none, none], [.int (fn_262 (fn_167 g))], aa_H g) rfl r
  refine rn_if (iw_s v h) rfl decide_eq_true_iff.symm r (fun c7 l8n l8 r => ?_) (fun c7 l8n l8 r => ?_)
  · exact dn_261_21 (some (.int (fn_262 (fn_167 g)))) none none rn_ji rn_jn rn_jn r
  · obtain ⟨n9, ln9, r⟩ := rn_steps 2 (18, [some (.ref 540), some (.int (fn_262 (fn_167 g))), none, none], [.int 30, .int (g 540 34)], aa_H g) rfl r
    refine rn_ic (iw_s v h) rfl decide_eq_true_iff.symm r (fun c10 l11n l11 r => ?_) (fun c10 l11n l11 r => ?_)
    · obtain ⟨n12, ln12, r⟩ := rn_steps 8 (43, [some (.ref 540), some (.int (fn_262 (fn_167 g))), some (.int (5 * (g 540 34))), none], [.ref 540, .int (5 * (g 540 34)), .ref 552], aa_H g) rfl r
      obtain ⟨_, n13, v1, h1, -, ln13, rc, r⟩ := rn_call (m2 := 167) (as := [.ref 540]) (rest := [.int (5 * (g 540 34)), .ref 552]) rfl rfl r
      obtain ⟨rfl, rfl⟩ := dn_167 rc
      have r : rn_s _ 261 (46, [some (.ref 540), some (.int (fn_262 (fn_167 g))), some (.int (5 * (g 540 34))), none], [.int (fn_167 g), .int (5 * (g 540 34)), .ref 552], aa_H g) v h := r
      obtain ⟨hb16, n15, ln15, r⟩ := rn_ias (k := 552) rfl ⟨by decide, by decide⟩ rfl r
      have r : rn_s _ 261 (47, [some (.ref 540), some (.int (fn_262 (fn_167 g))), some (.int (5 * (g 540 34))), none], [], aa_H (zz_w g 552 (5 * (g 540 34)).toNatClampNeg (fn_167 g))) v h := r
      obtain ⟨n17, ln17, r⟩ := rn_steps 1 (49, [some (.ref 540), some (.int (fn_262 (fn_167 g))), some (.int (5 * (g 540 34))), none], [.ref 540, .ref 540], aa_H (zz_w g 552 (5 * (g 540 34)).toNatClampNeg (fn_167 g))) rfl r
      exact dn_261_49 none rn_jn r
    · exact dn_261_21 (some (.int (fn_262 (fn_167 g)))) none none rn_ji rn_jn rn_jn r
-- 165: UnequalHoursModel beginText
noncomputable def fn_165 (g : aa_G)  : aa_G := zz_w (zz_w g 540 5 0) 540 6 (-1)
theorem dn_165 {v : Option Value} {h : zz_H} {n : Nat} {g : aa_G}   (r : rn_s n 165 (0, zz_in [.ref 540] (zz_nl 165), [], aa_H g) v h) : ig_s v h (fn_165 g) := by
  have r : rn_s n 165 (0, [some (.ref 540)], [], aa_H g) v h := r
  unfold fn_165
  obtain ⟨n1, ln1, r⟩ := rn_steps 5 (10, [some (.ref 540)], [], aa_H (zz_w (zz_w g 540 5 0) 540 6 (-1))) rfl r
  exact rn_ret 1 rfl r
-- 260: UnequalHoursModel acts
noncomputable def fn_260_30 (g : aa_G) (s0 : Int32) : (aa_G × Int32) ⊕ (Int32 × aa_G) := .inl (g, s0)
theorem dn_260_30 {v : Option Value} {h : zz_H} {n : Nat} {g : aa_G} {s0 : Int32} (P : (aa_G × Int32) ⊕ (Int32 × aa_G) → Prop) (hO0 : ∀ n2, n2 < n → ∀ (yg : aa_G) (yb1 : Int32) (yx2 : Option Value) (_ : rn_jk yx2), rn_s n2 260 (11, [some (.ref 540), some (.int yb1), yx2], [], aa_H yg) v h → P (.inl (yg, yb1))) (hR : ∀ E, iw_s v h E → P (.inr E))  (x1 x2 : Option Value) (jx1 : rn_jk x1) (jx2 : rn_jk x2) (r : rn_s n 260 (30, [some (.ref 540), x1, x2], [.int s0], aa_H g) v h) : P (fn_260_30 g s0) := by
  unfold fn_260_30
  obtain ⟨n19, ln19, r⟩ := rn_steps 1 (11, [some (.ref 540), some (.int s0), x2], [], aa_H g) rfl r
  exact hO0 _ (by omega) g s0 x2 jx2 r
noncomputable def fn_260_71 (g : aa_G) (b2 : Int32) : Int32 × aa_G := if (g 540 34) ≤ b2 then (b2, zz_w g 540 35 (-1)) else (b2, zz_w g 540 35 b2)
theorem dn_260_71 {v : Option Value} {h : zz_H} {n : Nat} {g : aa_G} {b2 : Int32}  (x1 : Option Value) (jx1 : rn_jk x1) (r : rn_s n 260 (71, [some (.ref 540), x1, some (.int b2)], [], aa_H g) v h) : iw_s v h (fn_260_71 g b2) := by
  unfold fn_260_71
  obtain ⟨n26, ln26, r⟩ := rn_steps 3 (77, [some (.ref 540), x1, some (.int b2)], [.int (g 540 34), .int b2, .ref 540], aa_H g) rfl r
  refine rn_ic (iw_s v h) rfl decide_eq_true_iff.symm r (fun c27 l28n l28 r => ?_) (fun c27 l28n l28 r => ?_)
  · obtain ⟨n29, ln29, r⟩ := rn_steps 2 (89, [some (.ref 540), x1, some (.int b2)], [.int b2], aa_H (zz_w g 540 35 (-1))) rfl r
    exact rn_ire rfl r
  · obtain ⟨n30, ln30, r⟩ := rn_steps 3 (89, [some (.ref 540), x1, some (.int b2)], [.int b2], aa_H (zz_w g 540 35 b2)) rfl r
    exact rn_ire rfl r
noncomputable def fn_260_62 (g : aa_G) (b2 : Int32) (s0 : Int32) : (aa_G × Int32) ⊕ (Int32 × aa_G) := if s0 = 0 then .inr (fn_260_71 g b2) else .inl (g, b2 + 1)
theorem dn_260_62 {v : Option Value} {h : zz_H} {n : Nat} {g : aa_G} {b2 : Int32} {s0 : Int32} (P : (aa_G × Int32) ⊕ (Int32 × aa_G) → Prop) (hO0 : ∀ n2, n2 < n → ∀ (yg : aa_G) (yb2 : Int32) (yx1 : Option Value) (_ : rn_jk yx1), rn_s n2 260 (47, [some (.ref 540), yx1, some (.int yb2)], [], aa_H yg) v h → P (.inl (yg, yb2))) (hR : ∀ E, iw_s v h E → P (.inr E))  (x1 : Option Value) (jx1 : rn_jk x1) (r : rn_s n 260 (62, [some (.ref 540), x1, some (.int b2)], [.int s0], aa_H g) v h) : P (fn_260_62 g b2 s0) := by
  unfold fn_260_62
  refine rn_if (P) rfl decide_eq_true_iff.symm r (fun c31 l32n l32 r => ?_) (fun c31 l32n l32 r => ?_)
  · exact hR _ (dn_260_71 x1 jx1 r)
  · obtain ⟨n33, ln33, r⟩ := rn_iin (i := 2) rfl rfl jx1 rfl rfl ⟨Nat.le_of_ble_eq_true rfl, Nat.le_of_ble_eq_true rfl⟩ r
    have r : rn_s _ 260 (68, [some (.ref 540), x1, some (.int (b2 + 1))], [], aa_H g) v h := r
    obtain ⟨n34, ln34, r⟩ := rn_steps 0 (47, [some (.ref 540), x1, some (.int (b2 + 1))], [], aa_H g) rfl r
    exact hO0 _ (by omega) g (b2 + 1) x1 jx1 r
noncomputable def fn_260_47b (g : aa_G) (b2 : Int32) : (aa_G × Int32) ⊕ (Int32 × aa_G) := if (g 540 34) ≤ b2 then .inr (fn_260_71 g b2) else fn_260_62 ((fn_263 g (5 * b2)).2) b2 ((fn_263 g (5 * b2)).1)
noncomputable def fn_260_47 (g : aa_G) (b2 : Int32) : Int32 × aa_G := lp_f (0, g) (fun z : (aa_G × Int32) => fn_260_47b z.1 z.2) (g, b2)
theorem dn_260_47l {v : Option Value} {h : zz_H} {N : Nat}  {d : Int32 × aa_G} : ∀ (n : Nat), n ≤ N → ∀ (g : aa_G) (b2 : Int32) (x1 : Option Value) (jx1 : rn_jk x1), rn_s n 260 (47, [some (.ref 540), x1, some (.int b2)], [], aa_H g) v h → (iw_s v h) (lp_f d (fun z : (aa_G × Int32) => fn_260_47b z.1 z.2) (g, b2)) := by
  generalize hf : (fun z : (aa_G × Int32) => fn_260_47b z.1 z.2) = f
  intro n
  induction n using Nat.strongRecOn with
  | _ n ih =>
    intro hN g b2 x1 jx1 r
    refine lp_go ?_
    rw [← congrFun hf (g, b2)]
    show lp_q (iw_s v h) d f (fn_260_47b g b2)
    unfold fn_260_47b
    obtain ⟨n20, ln20, r⟩ := rn_steps 2 (52, [some (.ref 540), x1, some (.int b2)], [.int (g 540 34), .int b2], aa_H g) rfl r
    refine rn_ic (lp_q (iw_s v h) d f) rfl decide_eq_true_iff.symm r (fun c21 l22n l22 r => ?_) (fun c21 l22n l22 r => ?_)
    · exact dn_260_71 x1 jx1 r
    · obtain ⟨n23, ln23, r⟩ := rn_steps 3 (59, [some (.ref 540), x1, some (.int b2)], [.int (5 * b2), .ref 540], aa_H g) rfl r
      obtain ⟨_, n24, v1, h1, -, ln24, rc, r⟩ := rn_call (m2 := 263) (as := [.ref 540, .int (5 * b2)]) (rest := []) rfl rfl r
      obtain ⟨rfl, rfl⟩ := dn_263 rc
      have r : rn_s _ 260 (62, [some (.ref 540), x1, some (.int b2)], [.int ((fn_263 g (5 * b2)).1)], aa_H ((fn_263 g (5 * b2)).2)) v h := r
      exact dn_260_62 (lp_q (iw_s v h) d f) (fun n2 l2 => ih n2 (by omega) (by omega)) (fun z hz => hz) x1 jx1 r
theorem dn_260_47 {v : Option Value} {h : zz_H} {n : Nat} {g : aa_G} {b2 : Int32}  (x1 : Option Value) (jx1 : rn_jk x1) (r : rn_s n 260 (47, [some (.ref 540), x1, some (.int b2)], [], aa_H g) v h) : (iw_s v h) (fn_260_47 g b2) := dn_260_47l  n (Nat.le_refl n) g b2 x1 jx1 r
noncomputable def fn_260_34 (g : aa_G) (b1 : Int32) : Int32 × aa_G := if b1 ≠ 0 then fn_260_47 (zz_w g 540 4 0) 0 else (-1, zz_w g 540 4 0)
theorem dn_260_34 {v : Option Value} {h : zz_H} {n : Nat} {g : aa_G} {b1 : Int32}  (x2 : Option Value) (jx2 : rn_jk x2) (r : rn_s n 260 (34, [some (.ref 540), some (.int b1), x2], [], aa_H g) v h) : iw_s v h (fn_260_34 g b1) := by
  unfold fn_260_34
  obtain ⟨n14, ln14, r⟩ := rn_steps 3 (40, [some (.ref 540), some (.int b1), x2], [.int b1], aa_H (zz_w g 540 4 0)) rfl r
  refine rn_if (iw_s v h) rfl decide_eq_true_iff.symm r (fun c15 l16n l16 r => ?_) (fun c15 l16n l16 r => ?_)
  · obtain ⟨n17, ln17, r⟩ := rn_steps 1 (47, [some (.ref 540), some (.int b1), some (.int 0)], [], aa_H (zz_w g 540 4 0)) rfl r
    exact dn_260_47 (some (.int b1)) rn_ji r
  · obtain ⟨n18, ln18, r⟩ := rn_steps 0 (44, [some (.ref 540), some (.int b1), x2], [.int (-1)], aa_H (zz_w g 540 4 0)) rfl r
    exact rn_ire rfl r
noncomputable def fn_260_11b (g : aa_G) (b1 : Int32) : (aa_G × Int32) ⊕ (Int32 × aa_G) := if b1 = 0 then .inr (fn_260_34 g b1) else if (g 540 4) ≤ (g 540 5) then .inr (fn_260_34 g b1) else fn_260_30 ((fn_261 g).2) ((fn_261 g).1)
noncomputable def fn_260_11 (g : aa_G) (b1 : Int32) : Int32 × aa_G := lp_f (0, g) (fun z : (aa_G × Int32) => fn_260_11b z.1 z.2) (g, b1)
theorem dn_260_11l {v : Option Value} {h : zz_H} {N : Nat}  {d : Int32 × aa_G} : ∀ (n : Nat), n ≤ N → ∀ (g : aa_G) (b1 : Int32) (x2 : Option Value) (jx2 : rn_jk x2), rn_s n 260 (11, [some (.ref 540), some (.int b1), x2], [], aa_H g) v h → (iw_s v h) (lp_f d (fun z : (aa_G × Int32) => fn_260_11b z.1 z.2) (g, b1)) := by
  generalize hf : (fun z : (aa_G × Int32) => fn_260_11b z.1 z.2) = f
  intro n
  induction n using Nat.strongRecOn with
  | _ n ih =>
    intro hN g b1 x2 jx2 r
    refine lp_go ?_
    rw [← congrFun hf (g, b1)]
    show lp_q (iw_s v h) d f (fn_260_11b g b1)
    unfold fn_260_11b
    obtain ⟨n5, ln5, r⟩ := rn_steps 0 (12, [some (.ref 540), some (.int b1), x2], [.int b1], aa_H g) rfl r
    refine rn_if (lp_q (iw_s v h) d f) rfl decide_eq_true_iff.symm r (fun c6 l7n l7 r => ?_) (fun c6 l7n l7 r => ?_)
    · exact dn_260_34 x2 jx2 r
    · obtain ⟨n8, ln8, r⟩ := rn_steps 3 (23, [some (.ref 540), some (.int b1), x2], [.int (g 540 4), .int (g 540 5)], aa_H g) rfl r
      refine rn_ic (lp_q (iw_s v h) d f) rfl decide_eq_true_iff.symm r (fun c9 l10n l10 r => ?_) (fun c9 l10n l10 r => ?_)
      · exact dn_260_34 x2 jx2 r
      · obtain ⟨n11, ln11, r⟩ := rn_steps 0 (27, [some (.ref 540), some (.int b1), x2], [.ref 540], aa_H g) rfl r
        obtain ⟨_, n12, v1, h1, -, ln12, rc, r⟩ := rn_call (m2 := 261) (as := [.ref 540]) (rest := []) rfl rfl r
        obtain ⟨rfl, rfl⟩ := dn_261 rc
        have r : rn_s _ 260 (30, [some (.ref 540), some (.int b1), x2], [.int ((fn_261 g).1)], aa_H ((fn_261 g).2)) v h := r
        exact dn_260_30 (lp_q (iw_s v h) d f) (fun n2 l2 => ih n2 (by omega) (by omega)) (fun z hz => hz) (some (.int b1)) x2 rn_ji jx2 r
theorem dn_260_11 {v : Option Value} {h : zz_H} {n : Nat} {g : aa_G} {b1 : Int32}  (x2 : Option Value) (jx2 : rn_jk x2) (r : rn_s n 260 (11, [some (.ref 540), some (.int b1), x2], [], aa_H g) v h) : (iw_s v h) (fn_260_11 g b1) := dn_260_11l  n (Nat.le_refl n) g b1 x2 jx2 r
noncomputable def fn_260_4 (g : aa_G)  : Int32 × aa_G := fn_260_11 (zz_w g 540 34 0) 1
theorem dn_260_4 {v : Option Value} {h : zz_H} {n : Nat} {g : aa_G}   (x1 x2 : Option Value) (jx1 : rn_jk x1) (jx2 : rn_jk x2) (r : rn_s n 260 (4, [some (.ref 540), x1, x2], [], aa_H g) v h) : iw_s v h (fn_260_4 g) := by
  unfold fn_260_4
  obtain ⟨n4, ln4, r⟩ := rn_steps 4 (11, [some (.ref 540), some (.int 1), x2], [], aa_H (zz_w g 540 34 0)) rfl r
  exact dn_260_11 x2 jx2 r
noncomputable def fn_260 (g : aa_G)  : Int32 × aa_G := fn_260_4 (fn_165 g)
theorem dn_260 {v : Option Value} {h : zz_H} {n : Nat} {g : aa_G}   (r : rn_s n 260 (0, zz_in [.ref 540] (zz_nl 260), [], aa_H g) v h) : iw_s v h (fn_260 g) := by
  have r : rn_s n 260 (0, [some (.ref 540), none, none], [], aa_H g) v h := r
  unfold fn_260
  obtain ⟨n1, ln1, r⟩ := rn_steps 0 (1, [some (.ref 540), none, none], [.ref 540], aa_H g) rfl r
  obtain ⟨_, n2, v1, h1, -, ln2, rc, r⟩ := rn_call (m2 := 165) (as := [.ref 540]) (rest := []) rfl rfl r
  obtain ⟨rfl, rfl⟩ := dn_165 rc
  have r : rn_s _ 260 (4, [some (.ref 540), none, none], [], aa_H (fn_165 g)) v h := r
  exact dn_260_4 none none rn_jn rn_jn r
end
section
/-! ACTS: how both sides read them -/
theorem tr_w {m : Nat} {as : List Value} {g : aa_G} {φ : Option Value → zz_H → Prop} {E : Int32 × aa_G} (f : zz_fin none m (0, zz_in as (zz_nl m), [], aa_H g) φ) (d : ∀ n v h, rn_s n m (0, zz_in as (zz_nl m), [], aa_H g) v h → iw_s v h E) : φ (some (.int E.1)) (aa_H E.2) := by
  obtain ⟨n, v, h, r, p⟩ := rn_of f
  obtain ⟨rfl, rfl⟩ := d n v h r
  exact p
theorem tr_r {m : Nat} {as : List Value} {g : aa_G} {φ : Option Value → zz_H → Prop} {E : Int32} (f : zz_fin none m (0, zz_in as (zz_nl m), [], aa_H g) φ) (d : ∀ n v h, rn_s n m (0, zz_in as (zz_nl m), [], aa_H g) v h → ir_s g v h E) : φ (some (.int E)) (aa_H g) := by
  obtain ⟨n, v, h, r, p⟩ := rn_of f
  obtain ⟨rfl, rfl⟩ := d n v h r
  exact p
theorem tr_v {m : Nat} {as : List Value} {g : aa_G} {φ : Option Value → zz_H → Prop} {E : aa_G} (f : zz_fin none m (0, zz_in as (zz_nl m), [], aa_H g) φ) (d : ∀ n v h, rn_s n m (0, zz_in as (zz_nl m), [], aa_H g) v h → ig_s v h E) : φ none (aa_H E) := by
  obtain ⟨n, v, h, r, p⟩ := rn_of f
  obtain ⟨rfl, rfl⟩ := d n v h r
  exact p
theorem vi_i {a b : Int32} (h : (some (Value.int a) : Option Value) = some (.int b)) : a = b := by
  have := Option.some.inj h
  injection this
theorem pr_e {a : Int32} {g : aa_G} {E : Int32 × aa_G} (h1 : E.1 = a) (h2 : E.2 = g) : E = (a, g) := by rw [← h1, ← h2]
/-- the class's tape, the model's: numbers, signs -/
theorem ar_num {g : aa_G} {b : Nat → Int32} {n p : Nat} (h : tc_ok g b n) (hp : p ≤ n) : (∃ f g', sp_num b n true (-99999) 99999 p = .inl f ∧ fn_26 (tc_at g b n p) 1 (-99999) 99999 = (0, g') ∧ tc_bad g f g') ∨ (∃ q z, sp_num b n true (-99999) 99999 p = .inr (q, z) ∧ p < q ∧ q ≤ n ∧ fn_26 (tc_at g b n p) 1 (-99999) 99999 = (1, tc_at (zz_w g 454 3 z) b n q)) := by
  have k := tr_w (tc_num h hp true (-99999) 99999) (fun n v h r => dn_26 r)
  rcases k with ⟨f, k1, k2, g', k3, k4⟩ | ⟨q, z, k1, k2, k3⟩
  · exact .inl ⟨f, g', k1, pr_e (vi_i k2) (ep_H k3), k4⟩
  · obtain ⟨q1, q2⟩ := sp_num_n k1 hp
    exact .inr ⟨q, z, k1, q2, q1, pr_e (vi_i k2) (ep_H k3)⟩
theorem am_num {g : aa_G} {b : Nat → Int32} {n p : Nat} {x : Int32} (h : tm_ok g b n) (hp : p ≤ n) : (∃ f g', sp_num b n true (-99999) 99999 p = .inl f ∧ fn_170 (tm_at g p x) (-99999) 99999 = (0, g') ∧ tm_bad g f g') ∨ (∃ q z, sp_num b n true (-99999) 99999 p = .inr (q, z) ∧ fn_170 (tm_at g p x) (-99999) 99999 = (1, tm_at g q z)) := by
  have k := tr_w (tm_signed (lo := -99999) (hi := 99999) (z := x) h hp) (fun n v h r => dn_170 r)
  rcases k with ⟨f, k1, k2, g', k3, k4⟩ | ⟨q, z, k1, k2, k3⟩
  · exact .inl ⟨f, g', k1, pr_e (vi_i k2) (ep_H k3), k4⟩
  · exact .inr ⟨q, z, k1, pr_e (vi_i k2) (ep_H k3)⟩
theorem ar_pass {g : aa_G} {b : Nat → Int32} {n p : Nat} {c : Int32} (h : tc_ok g b n) (hc : c ≠ -1) : (sp_hb b n p = c ∧ p < n ∧ fn_33 (tc_at g b n p) c = (1, tc_at g b n (p + 1))) ∨ (sp_hb b n p ≠ c ∧ ∃ g', fn_33 (tc_at g b n p) c = (0, g') ∧ tc_bad g p g') := by
  have k := tr_w (tc_pass (p := p) h hc) (fun n v h r => dn_33 r)
  rcases k with ⟨k1, k2, k3, k4⟩ | ⟨k1, k2, g', k3, k4⟩
  · exact .inl ⟨k2, k3, pr_e (vi_i k1) (ep_H k4)⟩
  · exact .inr ⟨k2, g', pr_e (vi_i k1) (ep_H k3), k4⟩
theorem am_pass {g : aa_G} {b : Nat → Int32} {n p : Nat} {z c : Int32} (h : tm_ok g b n) (hp : p ≤ n) (hc : c ≠ -1) : (sp_hb b n p = c ∧ p < n ∧ fn_173 (tm_at g p z) c = (1, tm_at g (p + 1) z)) ∨ (sp_hb b n p ≠ c ∧ ∃ g', fn_173 (tm_at g p z) c = (0, g') ∧ tm_bad g p g') := by
  have k := tr_w (tm_takes (z := z) h hp hc) (fun n v h r => dn_173 r)
  rcases k with ⟨k1, k2, k3, k4⟩ | ⟨k1, k2, g', k3, k4⟩
  · exact .inl ⟨k2, k3, pr_e (vi_i k1) (ep_H k4)⟩
  · exact .inr ⟨k2, g', pr_e (vi_i k1) (ep_H k3), k4⟩
theorem ar_step {g : aa_G} {b : Nat → Int32} {n p : Nat} (h : tc_ok g b n) (hp : p < n) : fn_21 (tc_at g b n p) = tc_at g b n (p + 1) := by
  have k := tr_v (tc_step h hp) (fun n v h r => dn_21 r)
  exact ep_H k.2
theorem ar_fail {g : aa_G} {b : Nat → Int32} {n p : Nat} : ∃ g', fn_25 (tc_at g b n p) = (0, g') ∧ tc_bad g p g' := by
  have k := tr_w (tc_fail (g := g) (b := b) (n := n) (p := p)) (fun n v h r => dn_25 r)
  obtain ⟨k1, g', k2, k3⟩ := k
  exact ⟨g', pr_e (vi_i k1) (ep_H k2), k3⟩
theorem ar_more {g : aa_G} {b : Nat → Int32} {n p : Nat} (h : tc_ok g b n) (hp : p ≤ 500) : fn_22 (tc_at g b n p) = if p < n then 1 else 0 := by
  have k := (tr_r (tc_more h hp) (fun n v h r => dn_22 r)).1
  rcases k with ⟨k1, k2⟩ | ⟨k1, k2⟩
  · rw [if_pos k2]; exact vi_i k1
  · rw [if_neg k2]; exact vi_i k1
theorem ar_rew {g : aa_G} {b : Nat → Int32} {n : Nat} (h : tc_ok g b n) : fn_20 g = tc_at (zz_w g 454 4 (-1)) b n 0 := by
  have k := tr_v (tc_rew h) (fun n v h r => dn_20 r)
  exact ep_H k.2
theorem am_here {g : aa_G} {b : Nat → Int32} {n p : Nat} {z : Int32} (h : tm_ok g b n) (hp : p ≤ 500) : fn_167 (tm_at g p z) = sp_hb b n p := vi_i (tr_r (tm_here (z := z) h hp) (fun n v h r => dn_167 r)).1
theorem am_fails {g : aa_G} (c : Int32) : fn_169 g c = (0, zz_w g 540 6 c) := by
  have k := tr_w (tm_fails (g := g) c) (fun n v h r => dn_169 r)
  exact pr_e (vi_i k.1) (ep_H k.2)
/-- how many numbers an ACT has -/
def ac_n (c : Int32) : Nat := if c.toInt = 111 then 2 else if c.toInt = 113 then 1 else if c.toInt = 114 then 2 else if c.toInt = 115 then 4 else 0
theorem ac_56 (c : Int32) : fn_56 c = Int32.ofNat (ac_n c) := by
  unfold fn_56 ac_n
  by_cases h1 : c.toInt = 111
  · rw [if_pos h1, if_pos h1]; rfl
  · rw [if_neg h1, if_neg h1]
    by_cases h2 : c.toInt = 112
    · rw [if_pos h2, if_neg (by omega), if_neg (by omega), if_neg (by omega)]; rfl
    · rw [if_neg h2]
      by_cases h3 : c.toInt = 113
      · rw [if_pos h3, if_pos h3]; rfl
      · rw [if_neg h3, if_neg h3]
        by_cases h4 : c.toInt = 114
        · rw [if_pos h4, if_pos h4]; rfl
        · rw [if_neg h4, if_neg h4]
          by_cases h5 : c.toInt = 115
          · rw [if_pos h5, if_pos h5]; rfl
          · rw [if_neg h5, if_neg h5]; rfl
theorem ac_le (c : Int32) : ac_n c ≤ 4 := by
  unfold ac_n
  split
  · omega
  · split
    · omega
    · split
      · omega
      · split <;> omega
theorem ac_262 (c : Int32) : fn_262 c = Int32.ofNat (ac_n c) := by
  have e : ∀ k : Int32, c = k ↔ c.toInt = k.toInt := fun k => ti_eq
  unfold fn_262 ac_n
  have e1 := e 111
  have e2 := e 114
  have e3 := e 113
  have e4 := e 115
  rw [show (111 : Int32).toInt = 111 from rfl] at e1
  rw [show (114 : Int32).toInt = 114 from rfl] at e2
  rw [show (113 : Int32).toInt = 113 from rfl] at e3
  rw [show (115 : Int32).toInt = 115 from rfl] at e4
  by_cases h1 : c.toInt = 111
  · simp only [if_pos h1, e1.mpr h1]; rfl
  · by_cases h3 : c.toInt = 113
    · simp only [if_neg h1, if_pos h3, e3.mpr h3]; rfl
    · by_cases h4 : c.toInt = 114
      · simp only [if_neg h1, if_neg h3, if_pos h4, e2.mpr h4]; rfl
      · by_cases h5 : c.toInt = 115
        · simp only [if_neg h1, if_neg h3, if_neg h4, if_pos h5, e4.mpr h5]; rfl
        · have n1 := mt e1.mp h1
          have n2 := mt e2.mp h4
          have n3 := mt e3.mp h3
          have n4 := mt e4.mp h5
          simp only [if_neg h1, if_neg h3, if_neg h4, if_neg h5, ne_eq, n1, n2, n3, n4, not_false_eq_true, if_true, if_false]
          rfl
/-- what reading ACTS leaves alone -/
def af_c (g g' : aa_G) : Prop := ∀ k j, ¬ (k = 454 ∧ 1 ≤ j ∧ j ≤ 4) → ¬ (k = 456 ∧ j = 0) → k ≠ 457 → k ≠ 458 → g' k j = g k j
def af_m (g g' : aa_G) : Prop := ∀ k j, ¬ (k = 540 ∧ ((5 ≤ j ∧ j ≤ 7) ∨ j = 34)) → k ≠ 552 → g' k j = g k j
/-- so many ACTS lie on both sides -/
def al_s (gc gm : aa_G) (N : Nat) : Prop := ∀ j, j < N → gc 457 j = gm 552 (5 * j) ∧ ac_n (gc 457 j) ≠ 0 ∧ ∀ k, k < ac_n (gc 457 j) → gc 458 (4 * j + k) = gm 552 (5 * j + 1 + k)
/-- both fail at one place -/
def ab_s (g0 m0 : aa_G) (rc rm : Int32 × aa_G) : Prop := ∃ f gc' gm', rc = (0, gc') ∧ rm = (0, gm') ∧ af_c g0 gc' ∧ af_m m0 gm' ∧ gc' 454 4 = Int32.ofNat f ∧ gm' 540 6 = Int32.ofNat f
theorem sp_num_z {b : Nat → Int32} {n p q : Nat} {neg : Bool} {lo hi z : Int32} (h : sp_num b n neg lo hi p = .inr (q, z)) : lo.toInt ≤ z.toInt ∧ z.toInt ≤ hi.toInt := by
  unfold sp_num at h
  dsimp only at h
  generalize (if sp_neg b n p neg = true then p + 1 else p) = a at h
  generalize (if sp_neg b n p neg = true then -(sp_run b n 5 a 0).2 else (sp_run b n 5 a 0).2) = v at h
  split at h
  · cases h
  · split at h
    · cases h
    · rename_i k
      have h := Sum.inr.inj h
      have h2 := congrArg Prod.snd h
      dsimp only at h2
      rw [h2] at k
      exact ⟨Int.not_lt.mp fun z => k (.inl (aa_lt32.mpr z)), Int.not_lt.mp fun z => k (.inr (aa_lt32.mpr z))⟩
theorem am_34 {N : Nat} (h : N < 30) : (aa_iv (aa_gc 540) 34).1 ≤ (Int32.ofNat (N + 1)).toInt ∧ (Int32.ofNat (N + 1)).toInt ≤ (aa_iv (aa_gc 540) 34).2 := by
  rw [show aa_iv (aa_gc 540) 34 = (0, 30) from by decide +kernel, zz_ofN (by omega)]
  exact ⟨by show (0 : Int) ≤ _; omega, by show _ ≤ (30 : Int); omega⟩
theorem am_552 {z : Int32} {j : Nat} (h : (-99999 : Int32).toInt ≤ z.toInt ∧ z.toInt ≤ (99999 : Int32).toInt) : (aa_iv (aa_gc 552) j).1 ≤ z.toInt ∧ z.toInt ≤ (aa_iv (aa_gc 552) j).2 := by
  rw [show aa_iv (aa_gc 552) j = (-99999, 99999) from (aa_flat_ok (by decide +kernel) j 0).trans (by decide +kernel)]
  exact h
theorem am_tm {g : aa_G} {p : Nat} {z : Int32} (h : aa_inv g) (hp : p ≤ 500) : aa_inv (tm_at g p z) := by
  have r := z.le_toInt
  have r2 := z.toInt_lt
  refine aa_inv_w (aa_inv_w h ?_ ?_) ?_ ?_
  · rw [show aa_iv (aa_gc 540) 5 = (0, 500) from by decide +kernel, zz_ofN (by omega)]; show (0 : Int) ≤ _; omega
  · rw [show aa_iv (aa_gc 540) 5 = (0, 500) from by decide +kernel, zz_ofN (by omega)]; show _ ≤ (500 : Int); omega
  · rw [show aa_iv (aa_gc 540) 7 = (-2147483648, 2147483647) from by decide +kernel]; show (-2147483648 : Int) ≤ _; omega
  · rw [show aa_iv (aa_gc 540) 7 = (-2147483648, 2147483647) from by decide +kernel]; show _ ≤ (2147483647 : Int); omega
section AR
variable {b : Nat → Int32} {n : Nat} {g0 m0 : aa_G}
theorem af_ok {g : aa_G} (h : tc_ok g0 b n) (f : af_c g0 g) : tc_ok g b n := ⟨(f 454 0 (by omega) (by omega) (by omega) (by omega)).trans h.1, h.2.1, fun j hj => (f 455 j (by omega) (by omega) (by omega) (by omega)).trans (h.2.2 j hj)⟩
theorem am_ok {g : aa_G} (h : tm_ok m0 b n) (f : af_m m0 g) : tm_ok g b n := ⟨(f 540 4 (by omega) (by omega)).trans h.1, h.2.1, fun j hj => by rw [f 543 j (by omega) (by omega)]; exact h.2.2 j hj⟩
theorem af_bad {g g' : aa_G} {f : Nat} (h : af_c g0 g) (k : tc_bad g f g') : af_c g0 g' := fun a j z1 z2 z3 z4 => (k.1 a j (by omega)).trans (h a j z1 z2 z3 z4)
theorem am_bad {g g' : aa_G} {f : Nat} (h : af_m m0 g) (k : tm_bad g f g') : af_m m0 g' := fun a j z1 z2 => (k.1 a j (by omega)).trans (h a j z1 z2)
theorem af_w {g : aa_G} {k j : Nat} {v : Int32} (h : af_c g0 g) (hk : (k = 454 ∧ 1 ≤ j ∧ j ≤ 4) ∨ (k = 456 ∧ j = 0) ∨ k = 457 ∨ k = 458) : af_c g0 (zz_w g k j v) := fun a i z1 z2 z3 z4 => (aa_w_ne _ _ (by omega)).trans (h a i z1 z2 z3 z4)
theorem am_w {g : aa_G} {k j : Nat} {v : Int32} (h : af_m m0 g) (hk : (k = 540 ∧ ((5 ≤ j ∧ j ≤ 7) ∨ j = 34)) ∨ k = 552) : af_m m0 (zz_w g k j v) := fun a i z1 z2 => (aa_w_ne _ _ (by omega)).trans (h a i z1 z2)
theorem tz_c (g : aa_G) (p : Nat) {k j : Nat} (h : ¬ (k = 454 ∧ (j = 1 ∨ j = 2))) : tc_at g b n p k j = g k j := by
  unfold tc_at
  rw [aa_w_ne _ _ (by omega), aa_w_ne _ _ (by omega)]
theorem tz_m (g : aa_G) (p : Nat) (z : Int32) {k j : Nat} (h : ¬ (k = 540 ∧ (j = 5 ∨ j = 7))) : tm_at g p z k j = g k j := by
  unfold tm_at
  rw [aa_w_ne _ _ (by omega), aa_w_ne _ _ (by omega)]
theorem tz_w (g : aa_G) (p : Nat) (z : Int32) {k j : Nat} {v : Int32} (h : ¬ (k = 540 ∧ (j = 5 ∨ j = 7))) : zz_w (tm_at g p z) k j v = tm_at (zz_w g k j v) p z := by
  unfold tm_at
  rw [zz_w_comm _ _ _ (by omega), zz_w_comm (k := 540) (j := 5) _ _ _ (by omega)]
theorem tz_wc (g : aa_G) (p : Nat) {k j : Nat} {v : Int32} (h : ¬ (k = 454 ∧ (j = 1 ∨ j = 2))) : zz_w (tc_at g b n p) k j v = tc_at (zz_w g k j v) b n p := by
  unfold tc_at
  rw [zz_w_comm _ _ _ (by omega), zz_w_comm (k := 454) (j := 1) _ _ _ (by omega)]
theorem tz_7 (g : aa_G) (p : Nat) (z : Int32) : tm_at g p z 540 7 = z := aa_w_at _ _ _ _
/-- how an ACT's numbers end -/
def an_res (b : Nat → Int32) (n : Nat) (g0 m0 : aa_G) (N w p : Nat) (gc gm : aa_G) (rc rm : Int32 × aa_G) : Prop := ab_s g0 m0 rc rm ∨
    ∃ q gc' gm' x', p ≤ q ∧ q ≤ n ∧ rc = (1, tc_at gc' b n q) ∧ rm = fn_173 (tm_at gm' q x') 59 ∧ af_c g0 gc' ∧ af_m m0 gm' ∧ gc' 456 0 = Int32.ofNat (N + 1) ∧ gm' 540 34 = Int32.ofNat (N + 1) ∧ (∀ k, k < w → gc' 458 (4 * N + k) = gm' 552 (5 * N + 1 + k)) ∧ (∀ j, gc' 457 j = gc 457 j) ∧ (∀ j, j < 4 * N → gc' 458 j = gc 458 j) ∧ (∀ j, j ≤ 5 * N → gm' 552 j = gm 552 j) ∧ gc' 454 4 = gc 454 4 ∧ gm' 540 6 = gm 540 6 ∧ (aa_inv gm → aa_inv gm')
/-- an ACT's numbers, from the i-th on -/
theorem an_loop (hc : tc_ok g0 b n) (hm : tm_ok m0 b n) {N w : Nat} (hN : N < 30) (hw : w ≤ 4) : ∀ (m i p : Nat) (gc gm : aa_G) (x : Int32), i + m = w → p ≤ n → af_c g0 gc → af_m m0 gm → gc 456 0 = Int32.ofNat N → gm 540 34 = Int32.ofNat N → (∀ k, k < i → gc 458 (4 * N + k) = gm 552 (5 * N + 1 + k)) →
    an_res b n g0 m0 N w p gc gm (fn_55_45 (tc_at gc b n p) (Int32.ofNat w) (Int32.ofNat i)) (fn_261_59 (tm_at gm p x) (Int32.ofNat w) (Int32.ofNat (5 * N)) (Int32.ofNat (i + 1)))
  | 0, i, p, gc, gm, x, hi, hp, fc, fm, c0, m1, hk => by
    have hiw : i = w := by omega
    subst hiw
    right
    refine ⟨p, zz_w gc 456 0 (Int32.ofNat (N + 1)), zz_w gm 540 34 (Int32.ofNat (N + 1)), x, Nat.le_refl p, hp, ?_, ?_, af_w fc (by omega), am_w fm (by omega), aa_w_at _ _ _ _, aa_w_at _ _ _ _, fun k hk' => ?_, fun j => aa_w_ne _ _ (by omega), fun j _ => aa_w_ne _ _ (by omega), fun j _ => aa_w_ne _ _ (by omega), aa_w_ne _ _ (by omega), aa_w_ne _ _ (by omega), fun z => aa_inv_w z (am_34 hN).1 (am_34 hN).2⟩
    · unfold fn_55_45
      refine lp_r ?_
      show fn_55_45b (tc_at gc b n p) (Int32.ofNat i) (Int32.ofNat i) = _
      unfold fn_55_45b
      rw [if_pos (aa_le32.mpr (Int.le_refl _)), tz_c _ _ (by omega), c0, aa_succ, tz_wc _ _ (by omega)]
    · unfold fn_261_59
      refine lp_r ?_
      show fn_261_59b (tm_at gm p x) (Int32.ofNat i) (Int32.ofNat (5 * N)) (Int32.ofNat (i + 1)) = _
      unfold fn_261_59b
      rw [if_pos (aa_lt32.mpr (by rw [zz_ofN (by omega), zz_ofN (by omega)]; omega)), tz_m _ _ _ (by omega), m1, aa_succ, tz_w _ _ _ (by omega)]
    · rw [aa_w_ne _ _ (by omega), aa_w_ne _ _ (by omega)]
      exact hk k hk'
  | m + 1, i, p, gc, gm, x, hi, hp, fc, fm, c0, m1, hk => by
    have hcc := af_ok hc fc
    have hmm := am_ok hm fm
    have hn5 := hc.2.1
    -- the number at q
    have num : ∀ q y, p ≤ q → q ≤ n → (fn_55_45b (tc_at gc b n p) (Int32.ofNat w) (Int32.ofNat i) = fn_55_68 (tc_at gc b n q) (Int32.ofNat w) (Int32.ofNat i)) → (fn_261_59b (tm_at gm p x) (Int32.ofNat w) (Int32.ofNat (5 * N)) (Int32.ofNat (i + 1)) = fn_261_78 (tm_at gm q y) (Int32.ofNat w) (Int32.ofNat (5 * N)) (Int32.ofNat (i + 1))) → an_res b n g0 m0 N w p gc gm (fn_55_45 (tc_at gc b n p) (Int32.ofNat w) (Int32.ofNat i)) (fn_261_59 (tm_at gm p x) (Int32.ofNat w) (Int32.ofNat (5 * N)) (Int32.ofNat (i + 1))) := by
      intro q y hpq hq e1 e2
      rcases ar_num hcc hq with ⟨f, gx, n1, n2, n3⟩ | ⟨q2, z, n1, n2, n3, n4⟩
      · left
        rcases am_num (x := y) hmm hq with ⟨f', gy, k1, k2, k3⟩ | ⟨_, _, k1, _⟩
        · rw [n1] at k1
          cases k1
          refine ⟨f, gx, gy, ?_, ?_, af_bad fc n3, am_bad fm k3, n3.2, k3.2⟩
          · unfold fn_55_45
            refine lp_r ?_
            show fn_55_45b (tc_at gc b n p) (Int32.ofNat w) (Int32.ofNat i) = _
            rw [e1]
            unfold fn_55_68 fn_55_77
            rw [n2, if_neg (fun z => z rfl)]
          · unfold fn_261_59
            refine lp_r ?_
            show fn_261_59b (tm_at gm p x) (Int32.ofNat w) (Int32.ofNat (5 * N)) (Int32.ofNat (i + 1)) = _
            rw [e2]
            unfold fn_261_78 fn_261_88
            rw [k2, if_neg (fun z => z rfl)]
        · rw [n1] at k1
          cases k1
      · rcases am_num (x := y) hmm hq with ⟨f', gy, k1, k2, k3⟩ | ⟨q3, z', k1, k2⟩
        · rw [n1] at k1
          cases k1
        · rw [n1] at k1
          cases k1
          have s1 : fn_55_45 (tc_at gc b n p) (Int32.ofNat w) (Int32.ofNat i) = fn_55_45 (tc_at (zz_w (zz_w gc 454 3 z) 458 (4 * N + i) z) b n q2) (Int32.ofNat w) (Int32.ofNat (i + 1)) := by
            unfold fn_55_45
            refine lp_l ?_
            show fn_55_45b (tc_at gc b n p) (Int32.ofNat w) (Int32.ofNat i) = _
            rw [e1]
            unfold fn_55_68 fn_55_77
            rw [n4, if_pos (fun z => absurd (show (1 : Int32) = 0 from z) (by decide))]
            dsimp only
            rw [tz_c _ _ (by omega), tz_c _ _ (by omega), aa_w_ne _ _ (by omega), c0, aa_w_at, show Int32.ofNat N * 4 = Int32.ofNat (N * 4) from (Int32.ofNat_mul N 4).symm, i_add, zz_toN (by omega), aa_succ, tz_wc _ _ (by omega), show N * 4 + i = 4 * N + i by omega]
          have s2 : fn_261_59 (tm_at gm p x) (Int32.ofNat w) (Int32.ofNat (5 * N)) (Int32.ofNat (i + 1)) = fn_261_59 (tm_at (zz_w gm 552 (5 * N + 1 + i) z) q2 z) (Int32.ofNat w) (Int32.ofNat (5 * N)) (Int32.ofNat (i + 1 + 1)) := by
            unfold fn_261_59
            refine lp_l ?_
            show fn_261_59b (tm_at gm p x) (Int32.ofNat w) (Int32.ofNat (5 * N)) (Int32.ofNat (i + 1)) = _
            rw [e2]
            unfold fn_261_78 fn_261_88
            rw [k2, if_pos (fun z => absurd (show (1 : Int32) = 0 from z) (by decide))]
            dsimp only
            rw [tz_7, i_add, zz_toN (by omega), aa_succ, tz_w _ _ _ (by omega), show 5 * N + (i + 1) = 5 * N + 1 + i by omega]
          rw [s1, s2]
          rcases an_loop hc hm hN hw m (i + 1) q2 (zz_w (zz_w gc 454 3 z) 458 (4 * N + i) z) (zz_w gm 552 (5 * N + 1 + i) z) z (by omega) n3 (af_w (af_w fc (by omega)) (by omega)) (am_w fm (by omega)) (by rw [aa_w_ne _ _ (by omega), aa_w_ne _ _ (by omega)]; exact c0) (by rw [aa_w_ne _ _ (by omega)]; exact m1) (fun k hk' => by
            by_cases hki : k = i
            · rw [hki, aa_w_at, aa_w_at]
            · rw [aa_w_ne _ _ (by omega), aa_w_ne _ _ (by omega), aa_w_ne _ _ (by omega)]
              exact hk k (by omega)) with r | ⟨q4, gc', gm', x', r1, r2, r3, r4, r5, r6, r7, r8, r9, r10, r11, r12, r13, r14, r15⟩
          · exact .inl r
          · refine .inr ⟨q4, gc', gm', x', by omega, r2, r3, r4, r5, r6, r7, r8, r9, fun j => ?_, fun j hj => ?_, fun j hj => ?_, ?_, ?_, fun z => r15 (aa_inv_w z (am_552 (sp_num_z n1)).1 (am_552 (sp_num_z n1)).2)⟩
            · rw [r10, aa_w_ne _ _ (by omega), aa_w_ne _ _ (by omega)]
            · rw [r11 j hj, aa_w_ne _ _ (by omega), aa_w_ne _ _ (by omega)]
            · rw [r12 j hj, aa_w_ne _ _ (by omega)]
            · rw [r13, aa_w_ne _ _ (by omega), aa_w_ne _ _ (by omega)]
            · rw [r14, aa_w_ne _ _ (by omega)]
    have b1 : ¬ (Int32.ofNat w ≤ Int32.ofNat i) := fun z => by
      have := (i_le (by omega) (by omega)).mp z
      omega
    have b2 : ¬ ((4 : Int32) ≤ Int32.ofNat i) := fun z => by
      have := aa_le32.mp z
      rw [zz_ofN (by omega), show (4 : Int32).toInt = 4 from rfl] at this
      omega
    have b3 : ¬ (Int32.ofNat w < Int32.ofNat (i + 1)) := fun z => by
      have := aa_lt32.mp z
      rw [zz_ofN (by omega), zz_ofN (by omega)] at this
      omega
    by_cases hi0 : i = 0
    · refine num p x (Nat.le_refl p) hp ?_ ?_
      · unfold fn_55_45b
        rw [if_neg b1, if_neg b2, if_pos (by rw [hi0]; decide)]
      · unfold fn_261_59b
        rw [if_neg b3, if_pos (by rw [hi0]; decide)]
    · have b4 : ¬ (Int32.ofNat i ≤ 0) := fun z => by
        have := aa_le32.mp z
        rw [zz_ofN (by omega), show (0 : Int32).toInt = 0 from rfl] at this
        omega
      have b5 : ¬ (Int32.ofNat (i + 1) ≤ 1) := fun z => by
        have := aa_le32.mp z
        rw [zz_ofN (by omega), show (1 : Int32).toInt = 1 from rfl] at this
        omega
      rcases ar_pass (p := p) (c := 44) hcc (by decide) with ⟨p1, p2, p3⟩ | ⟨p1, gx, p2, p3⟩
      · rcases am_pass (z := x) (c := 44) hmm hp (by decide) with ⟨k1, k2, k3⟩ | ⟨k1, -⟩
        · refine num (p + 1) x (by omega) p2 ?_ ?_
          · unfold fn_55_45b
            rw [if_neg b1, if_neg b2, if_neg b4, p3]
            unfold fn_55_65
            rw [if_neg (fun z => absurd (show (1 : Int32) = 0 from z) (by decide))]
          · unfold fn_261_59b
            rw [if_neg b3, if_neg b5, k3]
            unfold fn_261_75
            rw [if_neg (fun z => absurd (show (1 : Int32) = 0 from z) (by decide))]
        · exact absurd p1 k1
      · rcases am_pass (z := x) (c := 44) hmm hp (by decide) with ⟨k1, -⟩ | ⟨k1, gy, k2, k3⟩
        · exact absurd k1 p1
        · left
          refine ⟨p, gx, gy, ?_, ?_, af_bad fc p3, am_bad fm k3, p3.2, k3.2⟩
          · unfold fn_55_45
            refine lp_r ?_
            show fn_55_45b (tc_at gc b n p) (Int32.ofNat w) (Int32.ofNat i) = _
            unfold fn_55_45b
            rw [if_neg b1, if_neg b2, if_neg b4, p2]
            unfold fn_55_65
            rw [if_pos rfl]
          · unfold fn_261_59
            refine lp_r ?_
            show fn_261_59b (tm_at gm p x) (Int32.ofNat w) (Int32.ofNat (5 * N)) (Int32.ofNat (i + 1)) = _
            unfold fn_261_59b
            rw [if_neg b3, if_neg b5, k2]
            unfold fn_261_75
            rw [if_pos rfl]
end AR
end
section
/-! ACTS: read whole, done one by one -/
section AQ
variable {b : Nat → Int32} {n : Nat} {g0 m0 : aa_G}
theorem ac_rng {c : Int32} (h : ac_n c ≠ 0) : (-99999 : Int32).toInt ≤ c.toInt ∧ c.toInt ≤ (99999 : Int32).toInt := by
  rw [show (-99999 : Int32).toInt = -99999 from rfl, show (99999 : Int32).toInt = 99999 from rfl]
  unfold ac_n at h
  by_cases h1 : c.toInt = 111
  · omega
  · by_cases h2 : c.toInt = 113
    · omega
    · by_cases h3 : c.toInt = 114
      · omega
      · by_cases h4 : c.toInt = 115
        · omega
        · rw [if_neg h1, if_neg h2, if_neg h3, if_neg h4] at h
          exact absurd rfl h
theorem ac_hb {p : Nat} (h : ac_n (sp_hb b n p) ≠ 0) : p < n := by
  apply Classical.byContradiction
  intro z
  rw [show sp_hb b n p = -1 from if_neg z] at h
  exact h (by decide)
/-- an ACT with its ; -/
def aq_res (b : Nat → Int32) (n : Nat) (g0 m0 : aa_G) (N p : Nat) (gc gm : aa_G) (rc : Int32 × aa_G) (rm : Int32 × aa_G) : Prop := ab_s g0 m0 rc rm ∨
    ∃ q gc' gm' x', p < q ∧ q ≤ n ∧ rc = (1, tc_at gc' b n q) ∧ rm = (1, tm_at gm' q x') ∧ af_c g0 gc' ∧ af_m m0 gm' ∧ gc' 456 0 = Int32.ofNat (N + 1) ∧ gm' 540 34 = Int32.ofNat (N + 1) ∧ N < 30 ∧ al_s gc' gm' (N + 1) ∧ gc' 454 4 = gc 454 4 ∧ gm' 540 6 = gm 540 6 ∧ (aa_inv gm → aa_inv gm')
/-- the class's two calls as one -/
noncomputable def aq_c (g : aa_G) : Int32 × aa_G := if (fn_55 g).1 = 0 then (0, (fn_55 g).2) else fn_33 (fn_55 g).2 59
theorem aq_one (hc : tc_ok g0 b n) (hm : tm_ok m0 b n) {N p : Nat} {gc gm : aa_G} {x : Int32} (hN : N ≤ 30) (hp : p ≤ n) (fc : af_c g0 gc) (fm : af_m m0 gm) (c0 : gc 456 0 = Int32.ofNat N) (m1 : gm 540 34 = Int32.ofNat N) (hal : al_s gc gm N) : aq_res b n g0 m0 N p gc gm (aq_c (tc_at gc b n p)) (fn_261 (tm_at gm p x)) := by
  have hcc := af_ok hc fc
  have hmm := am_ok hm fm
  have hn5 := hc.2.1
  have sgn : tc_at gc b n p 454 2 = sp_hb b n p := aa_w_at _ _ _ _
  have n454 : ∀ k j, ¬ (k = 454 ∧ (j = 1 ∨ j = 2)) → tc_at gc b n p k j = gc k j := fun k j z => tz_c _ _ z
  have atp : tm_at gm p x 540 5 = Int32.ofNat p := by
    unfold tm_at
    rw [aa_w_ne _ _ (by omega), aa_w_at]
  -- both fail here
  have bad : fn_55 (tc_at gc b n p) = fn_55_21 (tc_at gc b n p) → fn_261 (tm_at gm p x) = fn_261_21 (tm_at gm p x) → aq_res b n g0 m0 N p gc gm (aq_c (tc_at gc b n p)) (fn_261 (tm_at gm p x)) := by
    intro e1 e2
    obtain ⟨gx, x1, x2⟩ := ar_fail (g := gc) (b := b) (n := n) (p := p)
    have e55 : fn_55 (tc_at gc b n p) = (0, gx) := by
      rw [e1]
      unfold fn_55_21
      rw [x1]
    have e261 : fn_261 (tm_at gm p x) = (0, zz_w (tm_at gm p x) 540 6 (Int32.ofNat p)) := by
      rw [e2]
      unfold fn_261_21
      rw [am_fails, atp]
    left
    refine ⟨p, gx, _, ?_, e261, af_bad fc x2, fun a j z1 z2 => ?_, x2.2, aa_w_at _ _ _ _⟩
    · unfold aq_c
      rw [e55, if_pos rfl]
    · rw [aa_w_ne _ _ (by omega), tz_m _ _ _ (by omega)]
      exact fm a j z1 z2
  have v30 : (30 : Int32) ≤ Int32.ofNat N ↔ N = 30 := by
    rw [aa_le32, zz_ofN (by omega), show (30 : Int32).toInt = 30 from rfl]
    omega
  have v30' : Int32.ofNat N ≠ 30 ↔ N ≠ 30 := by
    rw [ti_ne, zz_ofN (by omega), show (30 : Int32).toInt = 30 from rfl]
    omega
  have z0 : ∀ c, Int32.ofNat (ac_n c) = 0 ↔ ac_n c = 0 := fun c => by
    have := ac_le c
    rw [ti_eq, zz_ofN (by omega), show (0 : Int32).toInt = 0 from rfl]
    omega
  by_cases h30 : N = 30
  · refine bad ?_ ?_
    · unfold fn_55
      rw [n454 456 0 (by omega), c0, if_pos (v30.mpr h30)]
    · unfold fn_261
      rw [am_here hmm (by omega), ac_262]
      by_cases hw : ac_n (sp_hb b n p) = 0
      · rw [if_pos ((z0 _).mpr hw)]
      · rw [if_neg (mt (z0 _).mp hw), tz_m _ _ _ (by omega), m1, if_neg (mt v30'.mp (fun z => z h30))]
  · by_cases hw : ac_n (sp_hb b n p) = 0
    · refine bad ?_ ?_
      · unfold fn_55
        rw [n454 456 0 (by omega), c0, if_neg (mt v30.mp h30), sgn, ac_56, if_neg (fun z => z ((z0 _).mpr hw))]
      · unfold fn_261
        rw [am_here hmm (by omega), ac_262, if_pos ((z0 _).mpr hw)]
    · have hpn := ac_hb hw
      have hw4 := ac_le (sp_hb b n p)
      have e55 : fn_55 (tc_at gc b n p) = fn_55_45 (tc_at (zz_w gc 457 N (sp_hb b n p)) b n (p + 1)) (Int32.ofNat (ac_n (sp_hb b n p))) (Int32.ofNat 0) := by
        unfold fn_55 fn_55_43
        rw [n454 456 0 (by omega), c0, if_neg (mt v30.mp h30), sgn, ac_56, if_pos (mt (z0 _).mp hw), zz_toN (by omega), tz_wc _ _ (by omega), ar_step (af_ok hc (af_w fc (by omega))) hpn]
        rfl
      have e261 : fn_261 (tm_at gm p x) = fn_261_59 (tm_at (zz_w gm 552 (5 * N) (sp_hb b n p)) (p + 1) x) (Int32.ofNat (ac_n (sp_hb b n p))) (Int32.ofNat (5 * N)) (Int32.ofNat (0 + 1)) := by
        unfold fn_261 fn_261_49
        rw [am_here hmm (by omega), ac_262, if_neg (mt (z0 _).mp hw), tz_m _ _ _ (by omega), m1, if_pos (v30'.mpr h30), show (5 : Int32) * Int32.ofNat N = Int32.ofNat (5 * N) from (Int32.ofNat_mul 5 N).symm, zz_toN (by omega), tz_w _ _ _ (by omega)]
        have e5 : tm_at (zz_w gm 552 (5 * N) (sp_hb b n p)) p x 540 5 = Int32.ofNat p := by
          unfold tm_at
          rw [aa_w_ne _ _ (by omega), aa_w_at]
        rw [e5, aa_succ, tm_over5]
        rfl
      have step := an_loop hc hm (N := N) (w := ac_n (sp_hb b n p)) (by omega) hw4 (ac_n (sp_hb b n p)) 0 (p + 1) (zz_w gc 457 N (sp_hb b n p)) (zz_w gm 552 (5 * N) (sp_hb b n p)) x (by omega) hpn (af_w fc (by omega)) (am_w fm (by omega)) (by rw [aa_w_ne _ _ (by omega)]; exact c0) (by rw [aa_w_ne _ _ (by omega)]; exact m1) (fun k hk => absurd hk (Nat.not_lt_zero k))
      rw [← e55, ← e261] at step
      rcases step with ⟨f, gx, gy, s1, s2, s3, s4, s5, s6⟩ | ⟨q, gx, gy, x', r1, r2, r3, r4, r5, r6, r7, r8, r9, r10, r11, r12, r13, r14, r15⟩
      · left
        refine ⟨f, gx, gy, ?_, s2, s3, s4, s5, s6⟩
        unfold aq_c
        rw [s1, if_pos rfl]
      · have hcx := af_ok hc r5
        have hmx := am_ok hm r6
        have ec : aq_c (tc_at gc b n p) = fn_33 (tc_at gx b n q) 59 := by
          unfold aq_c
          rw [r3, if_neg (fun z => absurd (show (1 : Int32) = 0 from z) (by decide))]
        rcases ar_pass (p := q) (c := 59) hcx (by decide) with ⟨p1, p2, p3⟩ | ⟨p1, gz, p2, p3⟩
        · rcases am_pass (z := x') (c := 59) hmx r2 (by decide) with ⟨k1, k2, k3⟩ | ⟨k1, -⟩
          · right
            refine ⟨q + 1, gx, gy, x', by omega, p2, ec.trans p3, r4.trans k3, r5, r6, r7, r8, by omega, fun j hj => ?_, ?_, ?_, fun z => r15 (aa_inv_w z (am_552 (ac_rng hw)).1 (am_552 (ac_rng hw)).2)⟩
            · by_cases hjN : j = N
              · subst hjN
                have L : gx 457 j = sp_hb b n p := by rw [r10, aa_w_at]
                rw [L]
                refine ⟨?_, hw, fun k hk => ?_⟩
                · rw [r12 _ (Nat.le_refl _), aa_w_at]
                · have := r9 k hk
                  exact this
              · obtain ⟨a1, a2, a3⟩ := hal j (by omega)
                have L : gx 457 j = gc 457 j := by rw [r10, aa_w_ne _ _ (by omega)]
                rw [L]
                have wl := ac_le (gc 457 j)
                refine ⟨?_, a2, fun k hk => ?_⟩
                · rw [r12 _ (by omega), aa_w_ne _ _ (by omega)]
                  exact a1
                · rw [r11 _ (by omega), r12 _ (by omega), aa_w_ne _ _ (by omega), aa_w_ne _ _ (by omega)]
                  exact a3 k hk
            · rw [r13, aa_w_ne _ _ (by omega)]
            · rw [r14, aa_w_ne _ _ (by omega)]
          · exact absurd p1 k1
        · rcases am_pass (z := x') (c := 59) hmx r2 (by decide) with ⟨k1, -⟩ | ⟨k1, gw, k2, k3⟩
          · exact absurd k1 p1
          · left
            exact ⟨q, gz, gw, ec.trans p2, r4.trans k2, af_bad r5 p3, am_bad r6 k3, p3.2, k3.2⟩
/-- all that is on the tape -/
theorem aq_loop (hc : tc_ok g0 b n) (hm : tm_ok m0 b n) : ∀ (m p i N : Nat) (gc gm : aa_G) (x : Int32), n ≤ p + m → p ≤ n → i ≤ p → N ≤ 30 → af_c g0 gc → af_m m0 gm → gc 456 0 = Int32.ofNat N → gm 540 34 = Int32.ofNat N → al_s gc gm N → gc 454 4 = -1 → gm 540 6 = -1 →
    (∃ f gc' gm', fn_54_11 (tc_at gc b n p) (Int32.ofNat i) = (-1, gc') ∧ fn_260_11 (tm_at gm p x) 1 = (-1, zz_w gm' 540 4 0) ∧ af_c g0 gc' ∧ af_m m0 gm' ∧ gc' 454 4 = Int32.ofNat f ∧ gm' 540 6 = Int32.ofNat f) ∨
    ∃ N' gc' gm', N' ≤ 30 ∧ fn_54_11 (tc_at gc b n p) (Int32.ofNat i) = (Int32.ofNat N', gc') ∧ fn_260_11 (tm_at gm p x) 1 = fn_260_47 (zz_w gm' 540 4 0) 0 ∧ af_c g0 gc' ∧ af_m m0 gm' ∧ gc' 456 0 = Int32.ofNat N' ∧ gm' 540 34 = Int32.ofNat N' ∧ al_s gc' gm' N' ∧ gc' 454 4 = -1 ∧ gm' 540 6 = -1 ∧ (aa_inv gm → aa_inv gm') := by
  intro m
  induction m with
  | zero =>
    intro p i N gc gm x hm0 hp hip hN fc fm c0 m1 hal f1 f2
    have hpn : p = n := by omega
    have hcc := af_ok hc fc
    have hmm := am_ok hm fm
    have hn5 := hc.2.1
    right
    refine ⟨N, tc_at gc b n p, tm_at gm p x, hN, ?_, ?_, fun k j z1 z2 z3 z4 => (tz_c _ _ (by omega)).trans (fc k j z1 z2 z3 z4), fun k j z1 z2 => (tz_m _ _ _ (by omega)).trans (fm k j z1 z2), (tz_c _ _ (by omega)).trans c0, (tz_m _ _ _ (by omega)).trans m1, fun j hj => ?_, (tz_c _ _ (by omega)).trans f1, (tz_m _ _ _ (by omega)).trans f2, fun z => am_tm z (by omega)⟩
    · unfold fn_54_11
      refine lp_r ?_
      show fn_54_11b (tc_at gc b n p) (Int32.ofNat i) = _
      unfold fn_54_11b
      rw [tz_c _ _ (by omega), c0, ar_more hcc (by omega), if_neg (show ¬ p < n by omega)]
      by_cases h5 : (500 : Int32) ≤ Int32.ofNat i
      · rw [if_pos h5]
      · rw [if_neg h5, if_pos rfl]
    · unfold fn_260_11
      refine lp_r ?_
      show fn_260_11b (tm_at gm p x) 1 = _
      have e5 : tm_at gm p x 540 5 = Int32.ofNat p := by
        unfold tm_at
        rw [aa_w_ne _ _ (by omega), aa_w_at]
      unfold fn_260_11b fn_260_34
      rw [if_neg (by decide), e5, tz_m gm p x (k := 540) (j := 4) (by omega), hmm.1, if_pos ((i_le (by omega) (by omega)).mpr (by omega)), if_pos (by decide)]
    · rw [tz_c _ _ (by omega), tz_m _ _ _ (by omega)]
      obtain ⟨a1, a2, a3⟩ := hal j hj
      exact ⟨a1, a2, fun k hk => by rw [tz_c _ _ (by omega), tz_m _ _ _ (by omega)]; exact a3 k hk⟩
  | succ m ih =>
    intro p i N gc gm x hm0 hp hip hN fc fm c0 m1 hal f1 f2
    have hcc := af_ok hc fc
    have hmm := am_ok hm fm
    have hn5 := hc.2.1
    by_cases hpn : p < n
    · have e5 : tm_at gm p x 540 5 = Int32.ofNat p := by
        unfold tm_at
        rw [aa_w_ne _ _ (by omega), aa_w_at]
      have cb : fn_54_11b (tc_at gc b n p) (Int32.ofNat i) = if (aq_c (tc_at gc b n p)).1 ≠ 0 then .inl ((aq_c (tc_at gc b n p)).2, Int32.ofNat (i + 1)) else .inr (-1, (aq_c (tc_at gc b n p)).2) := by
        unfold fn_54_11b
        rw [if_neg (fun z => by
          have := aa_le32.mp z
          rw [zz_ofN (by omega), show (500 : Int32).toInt = 500 from rfl] at this
          omega), ar_more hcc (by omega), if_pos hpn, if_neg (c := (1 : Int32) = 0) (by decide)]
        unfold fn_54_30 fn_54_39 aq_c
        by_cases hz : (fn_55 (tc_at gc b n p)).1 = 0
        · rw [if_pos hz, if_pos hz, if_neg (fun z => z rfl)]
        · rw [if_neg hz, if_neg hz, aa_succ]
      have mb : fn_260_11b (tm_at gm p x) 1 = .inl ((fn_261 (tm_at gm p x)).2, (fn_261 (tm_at gm p x)).1) := by
        unfold fn_260_11b fn_260_30
        rw [if_neg (by decide), e5, tz_m gm p x (k := 540) (j := 4) (by omega), hmm.1, if_neg (fun z => by
          have := (i_le (by omega) (by omega)).mp z
          omega)]
      have ms : fn_260_11 (tm_at gm p x) 1 = fn_260_11 (fn_261 (tm_at gm p x)).2 (fn_261 (tm_at gm p x)).1 := by
        unfold fn_260_11
        exact lp_l mb
      rcases aq_one hc hm (x := x) hN hp fc fm c0 m1 hal with ⟨f, gx, gy, s1, s2, s3, s4, s5, s6⟩ | ⟨q, gx, gy, x', r1, r2, r3, r4, r5, r6, r7, r8, r9, r10, r11, r12, r13⟩
      · left
        refine ⟨f, gx, gy, ?_, ?_, s3, s4, s5, s6⟩
        · unfold fn_54_11
          refine lp_r ?_
          show fn_54_11b (tc_at gc b n p) (Int32.ofNat i) = _
          rw [cb, s1, if_neg (fun z => z rfl)]
        · rw [ms, s2]
          unfold fn_260_11
          refine lp_r ?_
          show fn_260_11b gy 0 = _
          unfold fn_260_11b fn_260_34
          rw [if_pos rfl, if_neg (fun z => z rfl)]
      · have cs : fn_54_11 (tc_at gc b n p) (Int32.ofNat i) = fn_54_11 (tc_at gx b n q) (Int32.ofNat (i + 1)) := by
          unfold fn_54_11
          refine lp_l ?_
          show fn_54_11b (tc_at gc b n p) (Int32.ofNat i) = _
          rw [cb, r3, if_pos (fun z => absurd (show (1 : Int32) = 0 from z) (by decide))]
        rw [cs, ms, r4]
        rcases ih q (i + 1) (N + 1) gx gy x' (by omega) r2 (by omega) (by omega) r5 r6 r7 r8 r10 (r11.trans f1) (r12.trans f2) with w | ⟨N', gc', gm', w0, w1, w2, w3, w4, w5, w6, w7, w8, w9, w10⟩
        · exact .inl w
        · exact .inr ⟨N', gc', gm', w0, w1, w2, w3, w4, w5, w6, w7, w8, w9, fun z => w10 (r13 z)⟩
    · exact (by
        have hpn : p = n := by omega
        right
        refine ⟨N, tc_at gc b n p, tm_at gm p x, hN, ?_, ?_, fun k j z1 z2 z3 z4 => (tz_c _ _ (by omega)).trans (fc k j z1 z2 z3 z4), fun k j z1 z2 => (tz_m _ _ _ (by omega)).trans (fm k j z1 z2), (tz_c _ _ (by omega)).trans c0, (tz_m _ _ _ (by omega)).trans m1, fun j hj => ?_, (tz_c _ _ (by omega)).trans f1, (tz_m _ _ _ (by omega)).trans f2, fun z => am_tm z (by omega)⟩
        · unfold fn_54_11
          refine lp_r ?_
          show fn_54_11b (tc_at gc b n p) (Int32.ofNat i) = _
          unfold fn_54_11b
          rw [tz_c _ _ (by omega), c0, ar_more hcc (by omega), if_neg (show ¬ p < n by omega)]
          by_cases h5 : (500 : Int32) ≤ Int32.ofNat i
          · rw [if_pos h5]
          · rw [if_neg h5, if_pos rfl]
        · unfold fn_260_11
          refine lp_r ?_
          show fn_260_11b (tm_at gm p x) 1 = _
          have e5 : tm_at gm p x 540 5 = Int32.ofNat p := by
            unfold tm_at
            rw [aa_w_ne _ _ (by omega), aa_w_at]
          unfold fn_260_11b fn_260_34
          rw [if_neg (by decide), e5, tz_m gm p x (k := 540) (j := 4) (by omega), hmm.1, if_pos ((i_le (by omega) (by omega)).mpr (by omega)), if_pos (by decide)]
        · rw [tz_c _ _ (by omega), tz_m _ _ _ (by omega)]
          obtain ⟨a1, a2, a3⟩ := hal j hj
          exact ⟨a1, a2, fun k hk => by rw [tz_c _ _ (by omega), tz_m _ _ _ (by omega)]; exact a3 k hk⟩)
end AQ
end
section
/-! contracts at a call: what is not written is as it was -/
theorem ko_rng (a : Int32) : (-2147483648 : Int) ≤ a.toInt ∧ a.toInt ≤ 2147483647 := by
  have r1 := a.le_toInt
  have r2 := a.toInt_lt
  exact ⟨by omega, by omega⟩
theorem ko_ne {ws : aa_W} {g g' : aa_G} (hf : aa_fr ws g g') {k : Nat} (h : (ws.all fun w => !(Nat.beq w.1 (aa_gc k))) = true) (j : Nat) : g' k j = g k j := by
  rcases hf.1 k j with e | ⟨w, hw, w1, -⟩
  · exact e
  · have h1 := List.all_eq_true.mp h w hw
    rw [w1] at h1
    rw [show Nat.beq (aa_gc k) (aa_gc k) = true from Nat.beq_refl _] at h1
    cases h1
theorem ko_at {ws : aa_W} {g g' : aa_G} (hf : aa_fr ws g g') {k j : Nat} (h : (ws.all fun w => !(Nat.beq w.1 (aa_gc k)) || !(decide (w.2.1 ≤ (j : Int)) && decide ((j : Int) ≤ w.2.2))) = true) : g' k j = g k j := by
  rcases hf.1 k j with e | ⟨w, hw, w1, w2, w3⟩
  · exact e
  · have h1 := List.all_eq_true.mp h w hw
    rw [w1, show Nat.beq (aa_gc k) (aa_gc k) = true from Nat.beq_refl _, decide_eq_true w2, decide_eq_true w3] at h1
    cases h1
/-- of a run that is known to end, by its contract and by what it does -/
theorem ko_fw {m : Nat} {as : List Value} {g : aa_G} {K : aa_K} {ν : List Int} {E : Int32 × aa_G} (f : zz_fin none m (0, zz_in as (zz_nl m), [], aa_H g) (aa_post aa_Phi K ν g)) (d : ∀ n v h, rn_s n m (0, zz_in as (zz_nl m), [], aa_H g) v h → iw_s v h E) : zz_fin none m (0, zz_in as (zz_nl m), [], aa_H g) (fun v h => v = some (.int E.1) ∧ h = aa_H E.2 ∧ aa_inv E.2 ∧ aa_Phi E.2 ∧ aa_fr K.1.2.2 g E.2) := rn_also f fun n v h r ⟨g', e, k1, k2, k3, _⟩ => by
  obtain ⟨e1, e2⟩ := d n v h r
  have e3 : E.2 = g' := ep_H (e2.symm.trans e)
  exact ⟨e1, e2, by rw [e3]; exact k1, by rw [e3]; exact k2, by rw [e3]; exact k3⟩
theorem ko_fi {m : Nat} {as : List Value} {g : aa_G} {K : aa_K} {ν : List Int} {E : Int32} (f : zz_fin none m (0, zz_in as (zz_nl m), [], aa_H g) (aa_post aa_Phi K ν g)) (d : ∀ n v h, rn_s n m (0, zz_in as (zz_nl m), [], aa_H g) v h → ir_s g v h E) : zz_fin none m (0, zz_in as (zz_nl m), [], aa_H g) (fun v h => v = some (.int E) ∧ h = aa_H g) := rn_also f fun n v h r _ => d n v h r
theorem ko_bw {m n : Nat} {as : List Value} {g : aa_G} {K : aa_K} {ν : List Int} {E : Int32 × aa_G} {v : Option Value} {h : zz_H} (f : zz_fin none m (0, zz_in as (zz_nl m), [], aa_H g) (aa_post aa_Phi K ν g)) (d : iw_s v h E) (r : rn_s n m (0, zz_in as (zz_nl m), [], aa_H g) v h) : aa_inv E.2 ∧ aa_Phi E.2 ∧ aa_fr K.1.2.2 g E.2 := by
  obtain ⟨g', e, k1, k2, k3, _⟩ := rn_fin f r
  have e3 : E.2 = g' := ep_H (d.2.symm.trans e)
  rw [e3]
  exact ⟨k1, k2, k3⟩
theorem ko_bv {m n : Nat} {as : List Value} {g : aa_G} {K : aa_K} {ν : List Int} {E : aa_G} {v : Option Value} {h : zz_H} (f : zz_fin none m (0, zz_in as (zz_nl m), [], aa_H g) (aa_post aa_Phi K ν g)) (d : ig_s v h E) (r : rn_s n m (0, zz_in as (zz_nl m), [], aa_H g) v h) : aa_inv E ∧ aa_Phi E ∧ aa_fr K.1.2.2 g E := by
  obtain ⟨g', e, k1, k2, k3, _⟩ := rn_fin f r
  have e3 : E = g' := ep_H (d.2.symm.trans e)
  rw [e3]
  exact ⟨k1, k2, k3⟩
theorem ko_Phi {g : aa_G} {k j : Nat} {v : Int32} (hk : k < 540) (h : aa_Phi g) : aa_Phi (zz_w g k j v) := aa_Phi_same ⟨fun i _ _ _ _ _ _ => aa_w_ne _ _ (by omega), funext fun i => aa_w_ne _ _ (by omega), aa_w_ne _ _ (by omega), aa_w_ne _ _ (by omega), aa_w_ne _ _ (by omega), funext fun i => aa_w_ne _ _ (by omega), funext fun i => aa_w_ne _ _ (by omega)⟩ h
theorem ko_ring {g : aa_G} (hi : aa_inv g) : rem_ok g := by
  have k1 := hi 66 0
  have k2 := hi 66 1
  rw [show aa_iv (aa_gc 66) 0 = (0, 12) from by decide +kernel] at k1
  rw [show aa_iv (aa_gc 66) 1 = (0, 11) from by decide +kernel] at k2
  have k1 : (0 : Int) ≤ (g 66 0).toInt ∧ (g 66 0).toInt ≤ 12 := k1
  have k2 : (0 : Int) ≤ (g 66 1).toInt ∧ (g 66 1).toInt ≤ 11 := k2
  exact ⟨(g 66 0).toInt.toNat, (g 66 1).toInt.toNat, by omega, by omega, aa_eqN (by omega) (by omega), aa_eqN (by omega) (by omega)⟩
/-! CONTRACTS AT A CALL (printed by wip/dc/kon.py) -/
theorem ko_57 {g : aa_G} {a0 : Int32} (hi : aa_inv g) (hφ : aa_Phi g) (h0 : (0 : Int) ≤ a0.toInt ∧ a0.toInt ≤ 2147483647) (h1 : (-1 : Int) ≤ (g 1 14).toInt ∧ (g 1 14).toInt ≤ -1) (h2 : (0 : Int) ≤ (g 454 0).toInt ∧ (g 454 0).toInt ≤ 0) (h3 : (-1 : Int) ≤ (g 454 4).toInt ∧ (g 454 4).toInt ≤ -1) : zz_fin none 57 (0, zz_in [.ref 1, .int a0] (zz_nl 57), [], aa_H g) (aa_post aa_Phi aa_k56 [a0.toInt, (g 1 14).toInt, (g 454 0).toInt, (g 454 4).toInt] g) := by
  have hK : aa_met aa_Phi aa_k56 := aa_met_p3 aa_good_free _ (List.mem_of_getElem? (i := 83) rfl)
  refine hK [a0.toInt, (g 1 14).toInt, (g 454 0).toInt, (g 454 4).toInt] g [.ref 1, .int a0] (aa_vb_new (aa_vb_new (aa_vb_new (aa_vb_new (⟨rfl, fun i q v hq => by cases hq⟩ : aa_vb [] []) (lo := 0) (hi := 2147483647) (gr := 0) h0.1 h0.2 (fun z => absurd rfl z)) (lo := -1) (hi := -1) (gr := 0) h1.1 h1.2 (fun z => absurd rfl z)) (lo := 0) (hi := 0) (gr := 0) h2.1 h2.2 (fun z => absurd rfl z)) (lo := -1) (hi := -1) (gr := 0) h3.1 h3.2 (fun z => absurd rfl z)) (fun f hf => by cases hf) (fun q hq => ?_) ⟨⟨Nat.succ_ne_zero _, 1, rfl, rfl⟩, ⟨Nat.one_ne_zero, a0, rfl, aa_id_ev rfl⟩, trivial⟩ hi hφ
  rcases List.mem_cons.mp hq with rfl | hq
  · exact ⟨1, 14, _, rfl, rfl, aa_id_ev rfl, by rw [aa_rd_of (by decide)]⟩
  rcases List.mem_cons.mp hq with rfl | hq
  · exact ⟨454, 0, _, rfl, rfl, aa_id_ev rfl, by rw [aa_rd_of (by decide)]⟩
  rcases List.mem_cons.mp hq with rfl | hq
  · exact ⟨454, 4, _, rfl, rfl, aa_id_ev rfl, by rw [aa_rd_of (by decide)]⟩
  cases hq
theorem ko_263 {g : aa_G} {a0 : Int32} (hi : aa_inv g) (hφ : aa_Phi g) (h0 : (0 : Int) ≤ a0.toInt ∧ a0.toInt ≤ 145) (h1 : (0 : Int) ≤ (g 540 4).toInt ∧ (g 540 4).toInt ≤ 0) (h2 : (1 : Int) ≤ (g 540 34).toInt ∧ (g 540 34).toInt ≤ 30) : zz_fin none 263 (0, zz_in [.ref 540, .int a0] (zz_nl 263), [], aa_H g) (aa_post aa_Phi aa_m111 [a0.toInt, (g 540 4).toInt, (g 540 34).toInt] g) := by
  have hK : aa_met aa_Phi aa_m111 := (aa_mL98 aa_hands_met _ List.mem_cons_self)
  refine hK [a0.toInt, (g 540 4).toInt, (g 540 34).toInt] g [.ref 540, .int a0] (aa_vb_new (aa_vb_new (aa_vb_new (⟨rfl, fun i q v hq => by cases hq⟩ : aa_vb [] []) (lo := 0) (hi := 145) (gr := 0) h0.1 h0.2 (fun z => absurd rfl z)) (lo := 0) (hi := 0) (gr := 0) h1.1 h1.2 (fun z => absurd rfl z)) (lo := 1) (hi := 30) (gr := 0) h2.1 h2.2 (fun z => absurd rfl z)) (fun f hf => by cases hf) (fun q hq => ?_) ⟨⟨Nat.succ_ne_zero _, 540, rfl, rfl⟩, ⟨Nat.one_ne_zero, a0, rfl, aa_id_ev rfl⟩, trivial⟩ hi hφ
  rcases List.mem_cons.mp hq with rfl | hq
  · exact ⟨540, 4, _, rfl, rfl, aa_id_ev rfl, by rw [aa_rd_of (by decide)]⟩
  rcases List.mem_cons.mp hq with rfl | hq
  · exact ⟨540, 34, _, rfl, rfl, aa_id_ev rfl, by rw [aa_rd_of (by decide)]⟩
  cases hq
theorem ko_54 {g : aa_G} (hi : aa_inv g) (hφ : aa_Phi g)  : zz_fin none 54 (0, zz_in [.ref 456, .ref 454] (zz_nl 54), [], aa_H g) (aa_post aa_Phi aa_k44 [] g) := by
  have hK : aa_met aa_Phi aa_k44 := aa_met_p3 aa_good_free _ (List.mem_of_getElem? (i := 95) rfl)
  refine hK [] g [.ref 456, .ref 454] (⟨rfl, fun i q v hq => by cases hq⟩ : aa_vb [] []) (fun f hf => by cases hf) (fun q hq => by cases hq) ⟨⟨Nat.succ_ne_zero _, 456, rfl, rfl⟩, ⟨Nat.succ_ne_zero _, 454, rfl, rfl⟩, trivial⟩ hi hφ
theorem ko_38 {g : aa_G} (hi : aa_inv g) (hφ : aa_Phi g)  : zz_fin none 38 (0, zz_in [.ref 1] (zz_nl 38), [], aa_H g) (aa_post aa_Phi aa_k26 [] g) := by
  have hK : aa_met aa_Phi aa_k26 := aa_met_p3 aa_good_free _ (List.mem_of_getElem? (i := 113) rfl)
  refine hK [] g [.ref 1] (⟨rfl, fun i q v hq => by cases hq⟩ : aa_vb [] []) (fun f hf => by cases hf) (fun q hq => by cases hq) ⟨⟨Nat.succ_ne_zero _, 1, rfl, rfl⟩, trivial⟩ hi hφ
/-! ACTS done: the class's acts() -/
noncomputable def ca_st (many : Int32) (z : aa_G × Int32) : (aa_G × Int32) ⊕ (Int32 × aa_G) := if many ≤ z.2 then .inr (many, z.1) else if (fn_57 z.1 z.2).1 ≠ 0 then .inl ((fn_57 z.1 z.2).2, z.2 + 1) else .inr (z.2, zz_w (fn_57 z.1 z.2).2 1 14 z.2)
noncomputable def ca_lp (g : aa_G) (many i : Int32) : Int32 × aa_G := lp_f (0, g) (ca_st many) (g, i)
noncomputable def fn_53 (g : aa_G) : Int32 × aa_G := if (fn_54 g).1 ≠ -1 then ca_lp (zz_w (fn_38 (fn_54 g).2) 1 14 (-1)) (fn_54 g).1 0 else (-1, fn_38 (fn_54 g).2)
/-- while ACTS are done -/
def ca_ok (g : aa_G) : Prop := aa_inv g ∧ aa_Phi g ∧ g 1 14 = -1 ∧ g 454 0 = 0 ∧ g 454 4 = -1
theorem ca_ko {g : aa_G} {i : Int32} (h : ca_ok g) (hi : 0 ≤ i.toInt) : zz_fin none 57 (0, zz_in [.ref 1, .int i] (zz_nl 57), [], aa_H g) (aa_post aa_Phi aa_k56 [i.toInt, (g 1 14).toInt, (g 454 0).toInt, (g 454 4).toInt] g) := by
  obtain ⟨h1, h2, h3, h4, h5⟩ := h
  have e1 : (g 1 14).toInt = -1 := by rw [h3]; rfl
  have e2 : (g 454 0).toInt = 0 := by rw [h4]; rfl
  have e3 : (g 454 4).toInt = -1 := by rw [h5]; rfl
  exact ko_57 h1 h2 ⟨hi, (ko_rng i).2⟩ (by omega) (by omega) (by omega)
theorem ca_next {g : aa_G} {E : Int32 × aa_G} (h : ca_ok g) (k : aa_inv E.2 ∧ aa_Phi E.2 ∧ aa_fr aa_k56.1.2.2 g E.2) : ca_ok E.2 := by
  obtain ⟨h1, h2, h3, h4, h5⟩ := h
  obtain ⟨k1, k2, k3⟩ := k
  exact ⟨k1, k2, (ko_at k3 (by decide +kernel)).trans h3, (ko_at k3 (by decide +kernel)).trans h4, (ko_at k3 (by decide +kernel)).trans h5⟩
theorem ca_run {v : Option Value} {h : zz_H} {many : Int32} {d : Int32 × aa_G} : ∀ (n : Nat) (i : Int32) (g : aa_G), ca_ok g → 0 ≤ i.toInt → rn_s n 53 (30, [some (.ref 1), some (.int many), some (.int i)], [], aa_H g) v h → iw_s v h (lp_f d (ca_st many) (g, i)) := by
  intro n
  induction n using Nat.strongRecOn with
  | _ n ih =>
    intro i g hg hi r
    refine lp_go (P := iw_s v h) ?_
    show lp_q (iw_s v h) d (ca_st many) (if many ≤ i then .inr (many, g) else if (fn_57 g i).1 ≠ 0 then .inl ((fn_57 g i).2, i + 1) else .inr (i, zz_w (fn_57 g i).2 1 14 i))
    obtain ⟨n1, l1, r⟩ := rn_steps 1 (32, [some (.ref 1), some (.int many), some (.int i)], [.int many, .int i], aa_H g) rfl r
    refine rn_ic (lp_q (iw_s v h) d (ca_st many)) rfl decide_eq_true_iff.symm r (fun c l2n l2 r => ?_) (fun c l2n l2 r => ?_)
    · obtain ⟨n3, l3, r⟩ := rn_steps 0 (57, [some (.ref 1), some (.int many), some (.int i)], [.int many], aa_H g) rfl r
      exact rn_ire rfl r
    · obtain ⟨n3, l3, r⟩ := rn_steps 1 (37, [some (.ref 1), some (.int many), some (.int i)], [.int i, .ref 1], aa_H g) rfl r
      obtain ⟨_, n4, v1, h1, -, l4, rc, r⟩ := rn_call (m2 := 57) (as := [.ref 1, .int i]) (rest := []) rfl rfl r
      have d57 := dn_57 (ko_ring hg.1) rc
      have nx := ca_next hg (ko_bw (ca_ko hg hi) d57 rc)
      obtain ⟨rfl, rfl⟩ := d57
      have r : rn_s n4 53 (40, [some (.ref 1), some (.int many), some (.int i)], [.int (fn_57 g i).1], aa_H (fn_57 g i).2) v h := r
      refine rn_if (lp_q (iw_s v h) d (ca_st many)) rfl decide_eq_true_iff.symm r (fun c2 l5n l5 r => ?_) (fun c2 l5n l5 r => ?_)
      · obtain ⟨n6, l6, r⟩ := rn_steps 1 (30, [some (.ref 1), some (.int many), some (.int (i + 1))], [], aa_H (fn_57 g i).2) rfl r
        refine ih n6 (by omega) (i + 1) _ nx ?_ r
        have c' := mt aa_le32.mpr c
        have := many.toInt_lt
        rw [aa_add32 (by rw [show (1 : Int32).toInt = 1 from rfl]; omega) (by rw [show (1 : Int32).toInt = 1 from rfl]; omega), show (1 : Int32).toInt = 1 from rfl]
        omega
      · obtain ⟨n6, l6, r⟩ := rn_steps 3 (49, [some (.ref 1), some (.int many), some (.int i)], [.int i], aa_H (zz_w (fn_57 g i).2 1 14 i)) rfl r
        exact rn_ire rfl r
theorem ca_54 {g : aa_G} {E : Int32 × aa_G} {n : Nat} {v : Option Value} {h : zz_H} (hi : aa_inv g) (hφ : aa_Phi g) (d : iw_s v h E) (r : rn_s n 54 (0, zz_in [.ref 456, .ref 454] (zz_nl 54), [], aa_H g) v h) : (aa_inv E.2 ∧ aa_Phi E.2) ∧ (E.1 ≠ -1 → (E.2 454 4) = -1) := by
  have k := ko_bw (ko_54 hi hφ) d r
  refine ⟨⟨k.1, k.2.1⟩, fun hne => ?_⟩
  obtain ⟨g', e, k1, k2, k3, A, hA, ρ, q1, q2, q3, q4⟩ := rn_fin (ko_54 hi hφ) r
  have e3 : E.2 = g' := ep_H (d.2.symm.trans e)
  rcases List.mem_cons.mp hA with rfl | hA
  · exfalso
    have q4 : aa_mr ([] ++ ρ) [(1, (-1, []))] v := q4
    rw [d.1] at q4
    obtain ⟨-, z, hz, hz2⟩ := q4
    have hz := Option.some.inj hz
    injection hz with hz
    have hz2 : (-1 : Int) = z.toInt := Option.some.inj hz2
    exact hne (ti_eq.mpr (by rw [hz, ← hz2]; rfl))
  · rcases List.mem_cons.mp hA with rfl | hA
    · have w := aa_vh_at q3 (k := 454) (j := 4) (r := (454, [])) (sl := (4, [])) (f := (-1, [])) List.mem_cons_self rfl rfl
      have w : (-1 : Int) = aa_rd g' 454 4 := Option.some.inj w
      rw [aa_rd_of (by decide)] at w
      rw [e3]
      exact ti_eq.mpr w.symm
    · cases hA
theorem dn_53 {v : Option Value} {h : zz_H} {n : Nat} {g : aa_G} (hi : aa_inv g) (hφ : aa_Phi g) (r : rn_s n 53 (0, zz_in [.ref 1] (zz_nl 53), [], aa_H g) v h) : iw_s v h (fn_53 g) := by
  have r : rn_s n 53 (0, [some (.ref 1), none, none], [], aa_H g) v h := r
  unfold fn_53
  obtain ⟨n1, l1, r⟩ := rn_steps 3 (8, [some (.ref 1), none, none], [.ref 454, .ref 456], aa_H g) rfl r
  obtain ⟨_, n2, v1, h1, -, l2, rc, r⟩ := rn_call (m2 := 54) (as := [.ref 456, .ref 454]) (rest := []) rfl rfl r
  have d54 := dn_54 rc
  obtain ⟨⟨i1, f1⟩, fl⟩ := ca_54 hi hφ d54 rc
  obtain ⟨rfl, rfl⟩ := d54
  have r : rn_s n2 53 (11, [some (.ref 1), none, none], [.int (fn_54 g).1], aa_H (fn_54 g).2) v h := r
  obtain ⟨n3, l3, r⟩ := rn_steps 1 (13, [some (.ref 1), some (.int (fn_54 g).1), none], [.ref 1], aa_H (fn_54 g).2) rfl r
  obtain ⟨_, n4, v1, h1, -, l4, rc, r⟩ := rn_call (m2 := 38) (as := [.ref 1]) (rest := []) rfl rfl r
  have d38 := dn_38 rc
  have k38 := ko_bv (ko_38 i1 f1) d38 rc
  obtain ⟨rfl, rfl⟩ := d38
  have r : rn_s n4 53 (16, [some (.ref 1), some (.int (fn_54 g).1), none], [], aa_H (fn_38 (fn_54 g).2)) v h := r
  obtain ⟨n5, l5, r⟩ := rn_steps 1 (18, [some (.ref 1), some (.int (fn_54 g).1), none], [.int (-1), .int (fn_54 g).1], aa_H (fn_38 (fn_54 g).2)) rfl r
  refine rn_ic (iw_s v h) rfl decide_eq_true_iff.symm r (fun c l6n l6 r => ?_) (fun c l6n l6 r => ?_)
  · obtain ⟨n7, l7, r⟩ := rn_steps 4 (30, [some (.ref 1), some (.int (fn_54 g).1), some (.int 0)], [], aa_H (zz_w (fn_38 (fn_54 g).2) 1 14 (-1))) rfl r
    have e38 : ∀ x : aa_G, fn_38 x = zz_w (zz_w x 1 13 (x 454 4)) 454 0 0 := fun x => rfl
    refine ca_run _ 0 _ ⟨aa_inv_w k38.1 (by decide +kernel) (by decide +kernel), ko_Phi (by omega) k38.2.1, aa_w_at _ _ _ _, ?_, ?_⟩ (by decide) r
    · rw [aa_w_ne _ _ (by omega), e38, aa_w_at]
    · rw [aa_w_ne _ _ (by omega), e38, aa_w_ne _ _ (by omega), aa_w_ne _ _ (by omega)]
      exact fl c
  · obtain ⟨n7, l7, r⟩ := rn_steps 0 (22, [some (.ref 1), some (.int (fn_54 g).1), none], [.int (-1)], aa_H (fn_38 (fn_54 g).2)) rfl r
    exact rn_ire rfl r
end
section
/-! acts() on both sides -/
/-- an ACT of both sides -/
theorem ad_one {B : rq_Q} (hcp : rq_cp B) (hbf : rq_bf B) {gc gm : aa_G} (hi : aa_inv gm) (h : rr_g (qb_s B) gc gm) {N i : Nat} (hN : N ≤ 30) (hiN : i < N) (c0 : gc 456 0 = Int32.ofNat N) (hal : al_s gc gm N) : mu_ok B (fn_57 gc (Int32.ofNat i)) (fn_263 gm (Int32.ofNat (5 * i))) := by
  obtain ⟨a1, a2, a3⟩ := hal i hiN
  have eN : (Int32.ofNat N - 1).toInt = N - 1 := by
    rw [i_sub1 (by omega) (by omega), zz_ofN (by omega)]
    omega
  have e59 : fn_59 gc (Int32.ofNat i) = gc 457 i := by
    unfold fn_59
    rw [c0, if_neg (ti_14n.mpr (by rw [eN, zz_ofN (by omega)]; exact ⟨by show (0 : Int) ≤ _; omega, by omega⟩)), zz_toN (by omega)]
  have e58 : ∀ k, k < 4 → fn_58 gc (Int32.ofNat i) (Int32.ofNat k) = gc 458 (4 * i + k) := fun k hk => by
    unfold fn_58
    rw [c0, if_neg (ti_14n.mpr (by rw [eN, zz_ofN (by omega)]; exact ⟨by show (0 : Int) ≤ _; omega, by omega⟩)), if_neg (ti_14n.mpr (by rw [zz_ofN (by omega)]; exact ⟨by show (0 : Int) ≤ _; omega, by show _ ≤ (3 : Int); omega⟩)), show Int32.ofNat i * 4 = Int32.ofNat (i * 4) from (Int32.ofNat_mul i 4).symm, i_add, zz_toN (by omega), show i * 4 + k = 4 * i + k by omega]
  have f0 := e58 0 (by omega)
  have f1 := e58 1 (by omega)
  have f2 := e58 2 (by omega)
  have f3 := e58 3 (by omega)
  rw [show (Int32.ofNat 0 : Int32) = 0 from rfl] at f0
  rw [show (Int32.ofNat 1 : Int32) = 1 from rfl] at f1
  rw [show (Int32.ofNat 2 : Int32) = 2 from rfl] at f2
  rw [show (Int32.ofNat 3 : Int32) = 3 from rfl] at f3
  unfold fn_57 fn_263
  rw [e59, f0, f1, zz_toN (by omega), show Int32.ofNat (5 * i) + 1 = Int32.ofNat (5 * i + 1) from i_add _ 1, show Int32.ofNat (5 * i) + 2 = Int32.ofNat (5 * i + 2) from i_add _ 2, show Int32.ofNat (5 * i) + 3 = Int32.ofNat (5 * i + 3) from i_add _ 3, show Int32.ofNat (5 * i) + 4 = Int32.ofNat (5 * i + 4) from i_add _ 4, zz_toN (by omega), zz_toN (by omega), zz_toN (by omega), zz_toN (by omega), ← a1]
  have tail : ∀ (rc rm : Int32 × aa_G) (z : Int32), mu_ok B rc rm → mu_ok B (if rc.1 = z then (0, rc.2) else (1, rc.2)) (if rm.1 = z then (0, rm.2) else (1, rm.2)) := fun rc rm z ⟨k1, k2⟩ => by
    rw [k1]
    by_cases hz : rm.1 = z
    · rw [if_pos hz, if_pos hz]
      exact mu_mk rfl k2
    · rw [if_neg hz, if_neg hz]
      exact mu_mk rfl k2
  by_cases h1 : (gc 457 i).toInt = 111
  · have w : ac_n (gc 457 i) = 2 := if_pos h1
    rw [w] at a3
    rw [if_pos h1, if_pos h1, a3 0 (by omega), a3 1 (by omega)]
    unfold fn_57_70 fn_263_56
    exact tail _ _ _ (mu_offset hcp hbf hi h _ _)
  · by_cases h3 : (gc 457 i).toInt = 113
    · have w : ac_n (gc 457 i) = 1 := by unfold ac_n; rw [if_neg h1, if_pos h3]
      rw [w] at a3
      rw [if_neg h1, if_neg h1, if_neg (show ¬ (gc 457 i).toInt = 112 by omega), if_neg (show ¬ (gc 457 i).toInt = 112 by omega), if_pos h3, if_pos h3, a3 0 (by omega)]
      unfold fn_57_86 fn_263_80
      exact tail _ _ _ (mu_parts hcp hbf hi h _)
    · by_cases h4 : (gc 457 i).toInt = 114
      · have w : ac_n (gc 457 i) = 2 := by unfold ac_n; rw [if_neg h1, if_neg h3, if_pos h4]
        rw [w] at a3
        rw [if_neg h1, if_neg h1, if_neg (show ¬ (gc 457 i).toInt = 112 by omega), if_neg (show ¬ (gc 457 i).toInt = 112 by omega), if_neg h3, if_neg h3, if_pos h4, if_pos h4, a3 0 (by omega), a3 1 (by omega)]
        unfold fn_57_102 fn_263_110
        exact tail _ _ _ (mu_remove hcp hbf hi h _ _)
      · have h5 : (gc 457 i).toInt = 115 := by
          apply Classical.byContradiction
          intro z
          exact a2 (by unfold ac_n; rw [if_neg h1, if_neg h3, if_neg h4, if_neg z])
        have w : ac_n (gc 457 i) = 4 := by unfold ac_n; rw [if_neg h1, if_neg h3, if_neg h4, if_pos h5]
        rw [w] at a3
        rw [if_neg h1, if_neg h1, if_neg (show ¬ (gc 457 i).toInt = 112 by omega), if_neg (show ¬ (gc 457 i).toInt = 112 by omega), if_neg h3, if_neg h3, if_neg h4, if_neg h4, if_pos h5, f2, f3, a3 0 (by omega), a3 1 (by omega), a3 2 (by omega), a3 3 (by omega)]
        unfold fn_57_136 fn_263_156
        exact tail _ _ _ (mu_set hcp hbf hi h _ _ _ _)
/-- while ACTS are done: the model -/
def ma_ok (g : aa_G) (N : Nat) : Prop := aa_inv g ∧ aa_Phi g ∧ g 540 4 = 0 ∧ g 540 34 = Int32.ofNat N
theorem ma_next {g : aa_G} {N i : Nat} (hN : N ≤ 30) (hiN : i < N) (h : ma_ok g N) : ma_ok (fn_263 g (Int32.ofNat (5 * i))).2 N ∧ ∀ j, (fn_263 g (Int32.ofNat (5 * i))).2 552 j = g 552 j := by
  obtain ⟨h1, h2, h3, h4⟩ := h
  have e3 : (g 540 4).toInt = 0 := by rw [h3]; rfl
  have e4 : (g 540 34).toInt = N := by rw [h4, zz_ofN (by omega)]
  obtain ⟨n, v, h, r, -⟩ := rn_of (ko_263 (a0 := Int32.ofNat (5 * i)) h1 h2 (by rw [zz_ofN (by omega)]; omega) (by omega) (by omega))
  obtain ⟨k1, k2, k3⟩ := ko_bw (ko_263 (a0 := Int32.ofNat (5 * i)) h1 h2 (by rw [zz_ofN (by omega)]; omega) (by omega) (by omega)) (dn_263 r) r
  exact ⟨⟨k1, k2, (ko_at k3 (by decide +kernel)).trans h3, (ko_at k3 (by decide +kernel)).trans h4⟩, fun j => ko_ne k3 (by decide +kernel) j⟩
theorem ca_nx {g : aa_G} {i : Int32} (hg : ca_ok g) (hi : 0 ≤ i.toInt) : ca_ok (fn_57 g i).2 ∧ (∀ j, (fn_57 g i).2 457 j = g 457 j) ∧ (∀ j, (fn_57 g i).2 458 j = g 458 j) ∧ (fn_57 g i).2 456 0 = g 456 0 := by
  obtain ⟨n, v, h, r, -⟩ := rn_of (ca_ko hg hi)
  have k := ko_bw (ca_ko hg hi) (dn_57 (ko_ring hg.1) r) r
  exact ⟨ca_next hg k, fun j => ko_ne k.2.2 (by decide +kernel) j, fun j => ko_ne k.2.2 (by decide +kernel) j, ko_at k.2.2 (by decide +kernel)⟩
theorem ad_loop {B : rq_Q} (hcp : rq_cp B) (hbf : rq_bf B) {N : Nat} (hN : N ≤ 30) {d : Int32 × aa_G} : ∀ (m i : Nat) (gc gm : aa_G), i + m = N → ca_ok gc → ma_ok gm N → rr_g (qb_s B) gc gm → gc 456 0 = Int32.ofNat N → al_s gc gm N →
    ∃ x gc' gm', lp_f d (ca_st (Int32.ofNat N)) (gc, Int32.ofNat i) = (x, gc') ∧ fn_260_47 gm (Int32.ofNat i) = (x, gm') ∧ rr_g (qb_s B) gc' gm' ∧ gc' 1 14 = gm' 540 35 := by
  intro m
  induction m with
  | zero =>
    intro i gc gm hi hc hm h c0 hal
    have hiN : i = N := by omega
    subst hiN
    obtain ⟨-, -, c14, -, -⟩ := hc
    obtain ⟨mi, -, m4, m34⟩ := hm
    refine ⟨Int32.ofNat i, gc, zz_w gm 540 35 (-1), lp_r ?_, ?_, ?_, ?_⟩
    · show (if Int32.ofNat i ≤ Int32.ofNat i then _ else _) = _
      rw [if_pos (aa_le32.mpr (Int.le_refl _))]
    · unfold fn_260_47
      refine lp_r ?_
      show fn_260_47b gm (Int32.ofNat i) = _
      unfold fn_260_47b fn_260_71
      rw [m34, if_pos (aa_le32.mpr (Int.le_refl _)), if_pos (aa_le32.mpr (Int.le_refl _))]
    · obtain ⟨q1, q2, ⟨cc, e, q3⟩, s1, s2, s3, s4, s5, s6, s7⟩ := h
      have hsame : rr_g (qb_s B) gc gm := ⟨q1, q2, ⟨cc, e, q3⟩, s1, s2, s3, s4, s5, s6, s7⟩
      obtain ⟨p1, p2, ⟨cc', e', p3⟩, t1, t2, t3, t4, t5, t6, t7⟩ := hsame
      refine ⟨rq_same (qb_cp hcp) mi (by omega) (fun _ _ _ _ => rfl) (fun q hq => aa_w_ne _ _ (by omega)) p1, fun k hk => ⟨?_, fun z => ?_⟩, ⟨cc', e', p3.1, ⟨p3.2.1.1, (aa_w_ne _ _ (by omega)).trans p3.2.1.2.1, p3.2.1.2.2⟩, fun j hj => rq_same (qb_cp hcp) mi (by have := p3.1.1; omega) (fun _ _ _ _ => rfl) (fun q hq => aa_w_ne _ _ (by omega)) (p3.2.2 j hj)⟩, ?_, fun k hk => ?_, ?_, .inr c14, ?_, ?_, fun j hj => ?_⟩
      · rw [aa_w_ne _ _ (by omega)]; exact (p2 k hk).1
      · rw [aa_w_ne _ _ (by omega)] at z
        exact rq_same (qb_cp hcp) mi (by omega) (fun _ _ _ _ => rfl) (fun q hq => aa_w_ne _ _ (by omega)) ((p2 k hk).2 z)
      · rw [aa_w_ne _ _ (by omega)]; exact t1
      · rw [aa_w_ne _ _ (by omega)]; exact t2 k hk
      · rw [aa_w_ne _ _ (by omega)]; exact t3
      · rw [aa_w_ne _ _ (by omega)]; exact t5
      · rw [aa_w_ne _ _ (by omega)]; exact t6
      · rw [aa_w_ne _ _ (by omega)] at hj
        rw [aa_w_ne _ _ (by omega)]; exact t7 j hj
    · rw [c14, aa_w_at]
  | succ m ih =>
    intro i gc gm hi hc hm h c0 hal
    have hiN : i < N := by omega
    have mi := hm.1
    have c14 := hc.2.2.1
    have m34 := hm.2.2.2
    obtain ⟨k1, k2⟩ := ad_one hcp hbf mi h hN hiN c0 hal
    obtain ⟨nc, n1, n2, n3⟩ := ca_nx (i := Int32.ofNat i) hc (by rw [zz_ofN (by omega)]; omega)
    obtain ⟨nm, n4⟩ := ma_next hN hiN hm
    have b1 : ¬ (Int32.ofNat N ≤ Int32.ofNat i) := fun z => by
      have := (i_le (by omega) (by omega)).mp z
      omega
    have mb : fn_260_47b gm (Int32.ofNat i) = if (fn_263 gm (Int32.ofNat (5 * i))).1 = 0 then .inr (Int32.ofNat i, zz_w (fn_263 gm (Int32.ofNat (5 * i))).2 540 35 (Int32.ofNat i)) else .inl ((fn_263 gm (Int32.ofNat (5 * i))).2, Int32.ofNat (i + 1)) := by
      unfold fn_260_47b fn_260_62 fn_260_71
      rw [m34, if_neg b1, show (5 : Int32) * Int32.ofNat i = Int32.ofNat (5 * i) from (Int32.ofNat_mul 5 i).symm, nm.2.2.2, if_neg b1, aa_succ]
    have cb : ca_st (Int32.ofNat N) (gc, Int32.ofNat i) = if (fn_57 gc (Int32.ofNat i)).1 ≠ 0 then .inl ((fn_57 gc (Int32.ofNat i)).2, Int32.ofNat (i + 1)) else .inr (Int32.ofNat i, zz_w (fn_57 gc (Int32.ofNat i)).2 1 14 (Int32.ofNat i)) := by
      unfold ca_st
      dsimp only
      rw [if_neg b1, aa_succ]
    by_cases hz : (fn_263 gm (Int32.ofNat (5 * i))).1 = 0
    · refine ⟨Int32.ofNat i, _, zz_w (fn_263 gm (Int32.ofNat (5 * i))).2 540 35 (Int32.ofNat i), lp_r (by rw [cb, if_neg (fun z => z (k1.trans hz))]), ?_, ?_, ?_⟩
      · unfold fn_260_47
        refine lp_r ?_
        show fn_260_47b gm (Int32.ofNat i) = _
        rw [mb, if_pos hz]
      · obtain ⟨p1, p2, ⟨cc', e', p3⟩, t1, t2, t3, t4, t5, t6, t7⟩ := k2
        have ni := nm.1
        refine ⟨rq_same (qb_cp hcp) ni (by omega) (fun _ _ _ _ => aa_w_ne _ _ (by omega)) (fun q hq => aa_w_ne _ _ (by omega)) p1, fun k hk => ⟨?_, fun z => ?_⟩, ⟨cc', e', p3.1, ⟨(aa_w_ne _ _ (by omega)).trans p3.2.1.1, (aa_w_ne _ _ (by omega)).trans p3.2.1.2.1, (aa_w_ne _ _ (by omega)).trans p3.2.1.2.2⟩, fun j hj => rq_same (qb_cp hcp) ni (by have := p3.1.1; omega) (fun _ _ _ _ => aa_w_ne _ _ (by omega)) (fun q hq => aa_w_ne _ _ (by omega)) (p3.2.2 j hj)⟩, ?_, fun k hk => ?_, ?_, .inl ?_, ?_, ?_, fun j hj => ?_⟩
        · rw [aa_w_ne _ _ (by omega), aa_w_ne _ _ (by omega)]; exact (p2 k hk).1
        · rw [aa_w_ne _ _ (by omega)] at z
          exact rq_same (qb_cp hcp) ni (by omega) (fun _ _ _ _ => aa_w_ne _ _ (by omega)) (fun q hq => aa_w_ne _ _ (by omega)) ((p2 k hk).2 z)
        · rw [aa_w_ne _ _ (by omega), aa_w_ne _ _ (by omega)]; exact t1
        · rw [aa_w_ne _ _ (by omega), aa_w_ne _ _ (by omega)]; exact t2 k hk
        · rw [aa_w_ne _ _ (by omega), aa_w_ne _ _ (by omega)]; exact t3
        · rw [aa_w_at, aa_w_at]
        · rw [aa_w_ne _ _ (by omega)]; exact t5
        · rw [aa_w_ne _ _ (by omega), aa_w_ne _ _ (by omega)]; exact t6
        · rw [aa_w_ne _ _ (by omega)] at hj
          rw [aa_w_ne _ _ (by omega), aa_w_ne _ _ (by omega)]; exact t7 j hj
      · rw [aa_w_at, aa_w_at]
    · have s1 : lp_f d (ca_st (Int32.ofNat N)) (gc, Int32.ofNat i) = lp_f d (ca_st (Int32.ofNat N)) ((fn_57 gc (Int32.ofNat i)).2, Int32.ofNat (i + 1)) := lp_l (by rw [cb, if_pos (fun z => hz (k1.symm.trans z))])
      have s2 : fn_260_47 gm (Int32.ofNat i) = fn_260_47 (fn_263 gm (Int32.ofNat (5 * i))).2 (Int32.ofNat (i + 1)) := by
        unfold fn_260_47
        refine lp_l ?_
        show fn_260_47b gm (Int32.ofNat i) = _
        rw [mb, if_neg hz]
      rw [s1, s2]
      refine ih (i + 1) _ _ (by omega) nc nm k2 (n3.trans c0) fun j hj => ?_
      obtain ⟨a1, a2, a3⟩ := hal j hj
      refine ⟨?_, ?_, ?_⟩
      · rw [n1, n4]; exact a1
      · rw [n1]; exact a2
      · rw [n1]
        intro k hk
        rw [n2, n4]
        exact a3 k hk
theorem zz_id {g : aa_G} {k j : Nat} {v : Int32} (h : g k j = v) : zz_w g k j v = g := by
  funext a b
  by_cases e : a = k ∧ b = j
  · rw [e.1, e.2, aa_w_at, h]
  · rw [aa_w_ne _ _ e]
/-- the two tapes as one -/
theorem rt_tape {Q : rq_Q} {gc gm : aa_G} (h : rr_g Q gc gm) (hi : aa_inv gm) : ∃ n, n ≤ 500 ∧ gc 454 0 = Int32.ofNat n ∧ gm 540 4 = Int32.ofNat n ∧ tc_ok gc (gc 455) n ∧ tm_ok gm (gc 455) n := by
  obtain ⟨-, -, -, s1, s2, -⟩ := h
  have k := hi 540 4
  rw [show aa_iv (aa_gc 540) 4 = (0, 500) from by decide +kernel] at k
  have k : (0 : Int) ≤ (gm 540 4).toInt ∧ (gm 540 4).toInt ≤ 500 := k
  obtain ⟨n, n1, n2, n3⟩ := ti_nat k.1
  exact ⟨n, by omega, s1.trans n2, n2, ⟨s1.trans n2, by omega, fun _ _ => rfl⟩, ⟨n2, by omega, fun j hj => s2 j (by omega)⟩⟩
theorem rr_af {B : rq_Q} (hcp : rq_cp B) {gc gm gc' gm' : aa_G} (hi : aa_inv gm) (h : rr_g (qb_s B) gc gm) (fc : af_c gc gc') (fm : af_m gm gm') {x : Int32} (f1 : gc' 454 4 = x) (f2 : gm' 540 6 = x) : rr_g (qb_s B) (zz_w (zz_w gc' 1 13 (gc' 454 4)) 454 0 0) (zz_w gm' 540 4 0) := by
  have wc : ∀ k j, ¬ (k = 1 ∧ j = 13) → ¬ (k = 454 ∧ j ≤ 4) → ¬ (k = 456 ∧ j = 0) → k ≠ 457 → k ≠ 458 → zz_w (zz_w gc' 1 13 (gc' 454 4)) 454 0 0 k j = gc k j := fun k j z1 z2 z3 z4 z5 => (aa_w_ne _ _ (by omega)).trans ((aa_w_ne _ _ z1).trans (fc k j (by omega) z3 z4 z5))
  have wm : ∀ k j, ¬ (k = 540 ∧ (4 ≤ j ∧ j ≤ 7 ∨ j = 34)) → k ≠ 552 → zz_w gm' 540 4 0 k j = gm k j := fun k j z1 z2 => (aa_w_ne _ _ (by omega)).trans (fm k j (by omega) z2)
  obtain ⟨p1, p2, ⟨cc', e', p3⟩, t1, t2, t3, t4, t5, t6, t7⟩ := h
  refine ⟨rq_same (qb_cp hcp) hi (by omega) (fun k j _ _ => wc k j (by omega) (by omega) (by omega) (by omega) (by omega)) (fun q hq => wm _ _ (by omega) (by omega)) p1, fun k hk => ⟨?_, fun z => ?_⟩, ⟨cc', e', p3.1, ⟨(wc _ _ (by omega) (by omega) (by omega) (by omega) (by omega)).trans p3.2.1.1, (wm _ _ (by omega) (by omega)).trans p3.2.1.2.1, (wc _ _ (by omega) (by omega) (by omega) (by omega) (by omega)).trans p3.2.1.2.2⟩, fun i hi' => rq_same (qb_cp hcp) hi (by have := p3.1.1; omega) (fun k j _ _ => wc k j (by omega) (by omega) (by omega) (by omega) (by omega)) (fun q hq => wm _ _ (by omega) (by omega)) (p3.2.2 i hi')⟩, ?_, fun k hk => ?_, ?_, ?_, ?_, ?_, fun j hj => ?_⟩
  · rw [wc _ _ (by omega) (by omega) (by omega) (by omega) (by omega), wm _ _ (by omega) (by omega)]; exact (p2 k hk).1
  · rw [wm _ _ (by omega) (by omega)] at z
    exact rq_same (qb_cp hcp) hi (by omega) (fun k j _ _ => wc k j (by omega) (by omega) (by omega) (by omega) (by omega)) (fun q hq => wm _ _ (by omega) (by omega)) ((p2 k hk).2 z)
  · rw [aa_w_at, aa_w_at]
  · rw [wc _ _ (by omega) (by omega) (by omega) (by omega) (by omega), wm _ _ (by omega) (by omega)]; exact t2 k hk
  · rw [aa_w_ne _ _ (by omega), aa_w_at, aa_w_ne _ _ (by omega), f1, f2]
  · rw [wc _ _ (by omega) (by omega) (by omega) (by omega) (by omega), wm _ _ (by omega) (by omega)]; exact t4
  · rw [wm _ _ (by omega) (by omega)]; exact t5
  · rw [wc _ _ (by omega) (by omega) (by omega) (by omega) (by omega), wm _ _ (by omega) (by omega)]; exact t6
  · rw [wm _ _ (by omega) (by omega)] at hj
    rw [wc _ _ (by omega) (by omega) (by omega) (by omega) (by omega), wm _ _ (by omega) (by omega)]; exact t7 j hj
/-- what acts() stands on beside the relation: both heaps in order -/
theorem mu_acts {B : rq_Q} (hcp : rq_cp B) (hbf : rq_bf B) {gc gm : aa_G} (ic : aa_inv gc) (φc : aa_Phi gc) (hi : aa_inv gm) (hφ : aa_Phi gm) (h : rr_g (qb_s B) gc gm) (h14 : gc 1 14 = gm 540 35) : mu_ok B (fn_53 gc) (fn_260 gm) ∧ (fn_53 gc).2 1 14 = (fn_260 gm).2 540 35 := by
  obtain ⟨n, n5, c0, m0, tc, tm⟩ := rt_tape h hi
  have ec : fn_54 gc = fn_54_11 (tc_at (zz_w (zz_w gc 454 4 (-1)) 456 0 0) (gc 455) n 0) (Int32.ofNat 0) := by
    unfold fn_54 fn_54_4
    rw [ar_rew tc, tz_wc _ _ (by omega)]
    rfl
  have em : fn_260 gm = fn_260_11 (tm_at (zz_w (zz_w gm 540 6 (-1)) 540 34 0) 0 (gm 540 7)) 1 := by
    unfold fn_260 fn_260_4 fn_165 tm_at
    have e : zz_w (zz_w (zz_w gm 540 5 0) 540 6 (-1)) 540 34 0 = zz_w (zz_w (zz_w (zz_w gm 540 6 (-1)) 540 34 0) 540 5 (Int32.ofNat 0)) 540 7 (gm 540 7) := by
      rw [zz_id (g := zz_w (zz_w (zz_w gm 540 6 (-1)) 540 34 0) 540 5 (Int32.ofNat 0)) (by rw [aa_w_ne _ _ (by omega), aa_w_ne _ _ (by omega), aa_w_ne _ _ (by omega)]), zz_w_comm (zz_w gm 540 6 (-1)) (k := 540) (j := 34) (a := 540) (b := 5) _ _ (by omega), zz_w_comm gm (k := 540) (j := 6) (a := 540) (b := 5) _ _ (by omega)]
      rfl
    rw [e]
  have hl := aq_loop (g0 := gc) (m0 := gm) tc tm n 0 0 0 (zz_w (zz_w gc 454 4 (-1)) 456 0 0) (zz_w (zz_w gm 540 6 (-1)) 540 34 0) (gm 540 7) (by omega) (Nat.zero_le _) (Nat.le_refl 0) (by omega) (fun k j z1 z2 z3 z4 => (aa_w_ne _ _ (by omega)).trans (aa_w_ne _ _ (by omega))) (fun k j z1 z2 => (aa_w_ne _ _ (by omega)).trans (aa_w_ne _ _ (by omega))) (aa_w_at _ _ _ _) (aa_w_at _ _ _ _) (fun j hj => absurd hj (Nat.not_lt_zero j)) ((aa_w_ne _ _ (by omega)).trans (aa_w_at _ _ _ _)) ((aa_w_ne _ _ (by omega)).trans (aa_w_at _ _ _ _))
  rw [← ec, ← em] at hl
  have e38 : ∀ x : aa_G, fn_38 x = zz_w (zz_w x 1 13 (x 454 4)) 454 0 0 := fun x => rfl
  rcases hl with ⟨f, gc', gm', a1, a2, a3, a4, a5, a6⟩ | ⟨N, gc', gm', b0, b1, b2, b3, b4, b5, b6, b7, b8, b9, b10⟩
  · unfold fn_53
    rw [a1, a2, if_neg (fun z => z rfl)]
    dsimp only
    rw [e38]
    refine ⟨mu_mk rfl (rr_af hcp hi h a3 a4 a5 a6), ?_⟩
    show zz_w (zz_w gc' 1 13 (gc' 454 4)) 454 0 0 1 14 = zz_w gm' 540 4 0 540 35
    rw [aa_w_ne _ _ (by omega), aa_w_ne _ _ (by omega), aa_w_ne _ _ (by omega), a3 1 14 (by omega) (by omega) (by omega) (by omega), a4 540 35 (by omega) (by omega)]
    exact h14
  · unfold fn_53 ca_lp
    rw [b1, if_pos (c := (Int32.ofNat N, gc').1 ≠ -1) (show Int32.ofNat N ≠ -1 from ml_n1 (by omega))]
    dsimp only
    rw [e38]
    -- the class's heap as the ACTS begin
    have hrun : ca_ok (zz_w (zz_w (zz_w gc' 1 13 (gc' 454 4)) 454 0 0) 1 14 (-1)) := by
      obtain ⟨n1, v, hh, r, -⟩ := rn_of (ko_54 ic φc)
      obtain ⟨⟨i1, f1⟩, fl⟩ := ca_54 ic φc (dn_54 r) r
      rw [b1] at i1 f1 fl
      obtain ⟨n2, v2, hh2, r2, -⟩ := rn_of (ko_38 i1 f1)
      have k38 := ko_bv (ko_38 i1 f1) (dn_38 r2) r2
      rw [e38] at k38
      refine ⟨aa_inv_w k38.1 (by decide +kernel) (by decide +kernel), ko_Phi (by omega) k38.2.1, aa_w_at _ _ _ _, ?_, ?_⟩
      · rw [aa_w_ne _ _ (by omega), aa_w_at]
      · rw [aa_w_ne _ _ (by omega), aa_w_ne _ _ (by omega), aa_w_ne _ _ (by omega)]
        exact b8
    -- the model's
    have mrun : ma_ok (zz_w gm' 540 4 0) N := by
      have i1 : aa_inv gm' := b10 (aa_inv_w (aa_inv_w hi (by decide +kernel) (by decide +kernel)) (by decide +kernel) (by decide +kernel))
      refine ⟨aa_inv_w i1 (by decide +kernel) (by decide +kernel), ?_, aa_w_at _ _ _ _, ?_⟩
      · have w : ∀ k j, ¬ (k = 540 ∧ (4 ≤ j ∧ j ≤ 7 ∨ j = 34)) → k ≠ 552 → zz_w gm' 540 4 0 k j = gm k j := fun k j z1 z2 => (aa_w_ne _ _ (by omega)).trans (b4 k j (by omega) z2)
        exact aa_Phi_same ⟨fun i _ _ _ _ _ _ => w _ _ (by omega) (by omega), funext fun i => w _ _ (by omega) (by omega), w _ _ (by omega) (by omega), w _ _ (by omega) (by omega), w _ _ (by omega) (by omega), funext fun i => w _ _ (by omega) (by omega), funext fun i => w _ _ (by omega) (by omega)⟩ hφ
      · rw [aa_w_ne _ _ (by omega)]; exact b6
    have rr1 := rr_af hcp hi h b3 b4 b8 b9
    have rr2 : rr_g (qb_s B) (zz_w (zz_w (zz_w gc' 1 13 (gc' 454 4)) 454 0 0) 1 14 (-1)) (zz_w gm' 540 4 0) := by
      obtain ⟨p1, p2, ⟨cc', e', p3⟩, t1, t2, t3, t4, t5, t6, t7⟩ := rr1
      have ni := mrun.1
      refine ⟨rq_same (qb_cp hcp) ni (by omega) (fun _ _ _ _ => aa_w_ne _ _ (by omega)) (fun q hq => rfl) p1, fun k hk => ⟨(aa_w_ne _ _ (by omega)).trans (p2 k hk).1, fun z => rq_same (qb_cp hcp) ni (by omega) (fun _ _ _ _ => aa_w_ne _ _ (by omega)) (fun q hq => rfl) ((p2 k hk).2 z)⟩, ⟨cc', e', p3.1, ⟨(aa_w_ne _ _ (by omega)).trans p3.2.1.1, p3.2.1.2.1, (aa_w_ne _ _ (by omega)).trans p3.2.1.2.2⟩, fun j hj => rq_same (qb_cp hcp) ni (by have := p3.1.1; omega) (fun _ _ _ _ => aa_w_ne _ _ (by omega)) (fun q hq => rfl) (p3.2.2 j hj)⟩, (aa_w_ne _ _ (by omega)).trans t1, fun k hk => (t2 k hk).trans (aa_w_ne _ _ (by omega)).symm, (aa_w_ne _ _ (by omega)).trans t3, .inr (aa_w_at _ _ _ _), t5, (aa_w_ne _ _ (by omega)).trans t6, fun j hj => (aa_w_ne _ _ (by omega)).trans (t7 j hj)⟩
    obtain ⟨x, gx, gy, l1, l2, l3, l4⟩ := ad_loop hcp hbf b0 (d := (0, zz_w (zz_w (zz_w gc' 1 13 (gc' 454 4)) 454 0 0) 1 14 (-1))) N 0 _ _ (by omega) hrun mrun rr2 (by rw [aa_w_ne _ _ (by omega), aa_w_ne _ _ (by omega), aa_w_ne _ _ (by omega)]; exact b5) (fun j hj => by
      obtain ⟨d1, d2, d3⟩ := b7 j hj
      refine ⟨?_, ?_, ?_⟩
      · rw [aa_w_ne _ _ (by omega), aa_w_ne _ _ (by omega), aa_w_ne _ _ (by omega), aa_w_ne _ _ (by omega)]; exact d1
      · rw [aa_w_ne _ _ (by omega), aa_w_ne _ _ (by omega), aa_w_ne _ _ (by omega)]; exact d2
      · rw [aa_w_ne _ _ (by omega), aa_w_ne _ _ (by omega), aa_w_ne _ _ (by omega)]
        intro k hk
        rw [aa_w_ne _ _ (by omega), aa_w_ne _ _ (by omega), aa_w_ne _ _ (by omega), aa_w_ne _ _ (by omega)]
        exact d3 k hk)
    rw [show (Int32.ofNat 0 : Int32) = 0 from rfl] at l1 l2
    rw [l1, b2, l2]
    exact ⟨mu_mk rfl l3, l4⟩
end
section
/-! text() on both sides -/
/-- YDAYS in order -/
def ws_A (A : sp_A) : Prop := ∀ t, t < A.1.1 → (∀ i, i < A.2.1 t → 0 ≤ (A.2.2 t i 0).toInt ∧ (A.2.2 t i 0).toInt ≤ 359) ∧ ∀ i, i + 1 < A.2.1 t → (A.2.2 t i 0).toInt < (A.2.2 t (i + 1) 0).toInt
theorem sp_then_r {r : Nat ⊕ (Nat × Int32)} {k : Nat → Int32 → Nat ⊕ (Nat × sp_A)} {q : Nat} {A : sp_A} (h : sp_then r k = .inr (q, A)) : ∃ q1 z, r = .inr (q1, z) ∧ k q1 z = .inr (q, A) := by
  cases r with
  | inl f => cases h
  | inr x => exact ⟨x.1, x.2, rfl, h⟩
theorem sp_pass_r {b : Nat → Int32} {n p q : Nat} {c : Int32} {k : Nat → Nat ⊕ (Nat × sp_A)} {A : sp_A} (h : sp_pass b n c p k = .inr (q, A)) : k (p + 1) = .inr (q, A) := by
  unfold sp_pass at h
  split at h
  · exact h
  · cases h
theorem ws_town {A : sp_A} {z : Int32} (h : ws_A A) : ws_A (sp_town A z) := by
  intro t ht
  have ht : t < A.1.1 + 1 := ht
  by_cases e : t = A.1.1
  · have c0 : (sp_town A z).2.1 t = 0 := if_pos e
    rw [c0]
    exact ⟨fun i hi => absurd hi (Nat.not_lt_zero i), fun i hi => absurd hi (Nat.not_lt_zero _)⟩
  · have c0 : (sp_town A z).2.1 t = A.2.1 t := if_neg e
    rw [c0]
    exact h t (by omega)
theorem ws_point {A : sp_A} {y d k p : Int32} (h : ws_A A) (h1 : A.1.1 ≠ 0) (hy : (sp_low A).toInt ≤ y.toInt ∧ y.toInt ≤ (359 : Int32).toInt) : ws_A (sp_point A y d k p) := by
  intro t ht
  have ht : t < A.1.1 := ht
  have e359 : (359 : Int32).toInt = 359 := rfl
  rw [e359] at hy
  by_cases e : t = A.1.1 - 1
  · have c0 : (sp_point A y d k p).2.1 t = A.2.1 t + 1 := if_pos e
    rw [c0]
    have v : ∀ i, (sp_point A y d k p).2.2 t i 0 = if i = A.2.1 t then y else A.2.2 t i 0 := fun i => by
      show (if t = A.1.1 - 1 ∧ i = A.2.1 (A.1.1 - 1) then sp_fld y d k p 0 else A.2.2 t i 0) = _
      rw [← e]
      by_cases hi : i = A.2.1 t
      · rw [if_pos ⟨rfl, hi⟩, if_pos hi]
        rfl
      · rw [if_neg fun z => hi z.2, if_neg hi]
    obtain ⟨b1, b2⟩ := h t ht
    have low : 0 ≤ y.toInt ∧ (A.2.1 t ≠ 0 → (A.2.2 t (A.2.1 t - 1) 0).toInt < y.toInt) := by
      unfold sp_low at hy
      rw [← e] at hy
      by_cases h0 : A.2.1 t = 0
      · rw [if_pos h0, show ((-1 : Int32) + 1).toInt = 0 from rfl] at hy
        exact ⟨hy.1, fun z => absurd h0 z⟩
      · rw [if_neg h0] at hy
        have q := b1 (A.2.1 t - 1) (by omega)
        rw [aa_add32 (by rw [show (1 : Int32).toInt = 1 from rfl]; omega) (by rw [show (1 : Int32).toInt = 1 from rfl]; omega), show (1 : Int32).toInt = 1 from rfl] at hy
        exact ⟨by omega, fun _ => by omega⟩
    refine ⟨fun i hi => ?_, fun i hi => ?_⟩
    · rw [v]
      by_cases hi2 : i = A.2.1 t
      · rw [if_pos hi2]
        exact ⟨low.1, hy.2⟩
      · rw [if_neg hi2]
        exact b1 i (by omega)
    · rw [v, v, if_neg (by omega)]
      by_cases hi2 : i + 1 = A.2.1 t
      · rw [if_pos hi2]
        have := low.2 (by omega)
        rwa [show A.2.1 t - 1 = i by omega] at this
      · rw [if_neg hi2]
        exact b2 i (by omega)
  · have c0 : (sp_point A y d k p).2.1 t = A.2.1 t := if_neg e
    have v : ∀ i, (sp_point A y d k p).2.2 t i 0 = A.2.2 t i 0 := fun i => if_neg fun z => e z.1
    rw [c0]
    obtain ⟨b1, b2⟩ := h t ht
    exact ⟨fun i hi => by rw [v]; exact b1 i hi, fun i hi => by rw [v, v]; exact b2 i hi⟩
theorem ws_item {b : Nat → Int32} {n p q : Nat} {A A' : sp_A} (h : sp_item b n p A = .inr (q, A')) (hw : ws_A A) : ws_A A' := by
  unfold sp_item at h
  split at h
  · unfold sp_rtown at h
    split at h
    · cases h
    · obtain ⟨q1, z, -, e⟩ := sp_then_r h
      have e := Sum.inr.inj e
      have e2 := congrArg Prod.snd e
      dsimp only at e2
      rw [← e2]
      exact ws_town hw
  · split at h
    · rename_i c
      obtain ⟨q1, y, e1, e2⟩ := sp_then_r h
      have hy := sp_num_z e1
      have e2 := sp_pass_r e2
      split at e2
      · unfold sp_hours at e2
        obtain ⟨q2, d, -, e3⟩ := sp_then_r e2
        have e3 := sp_pass_r e3
        obtain ⟨q3, k, -, e4⟩ := sp_then_r e3
        have e5 := congrArg Prod.snd (Sum.inr.inj e4)
        dsimp only at e5
        rw [← e5]
        exact ws_point hw c.2.1 hy
      · unfold sp_kind at e2
        obtain ⟨q2, z, -, e3⟩ := sp_then_r e2
        have e5 := congrArg Prod.snd (Sum.inr.inj e3)
        dsimp only at e5
        rw [← e5]
        exact ws_point hw c.2.1 hy
    · cases h
theorem ws_items {b : Nat → Int32} {n : Nat} : ∀ (k p c : Nat) (A : sp_A) {c' : Nat} {A' : sp_A}, sp_items b n k p c A = .inr (c', A') → ws_A A → ws_A A'
  | 0, p, c, A, c', A', h, hw => by
    have h : (Sum.inr (c, A) : Nat ⊕ (Nat × sp_A)) = .inr (c', A') := h
    cases h
    exact hw
  | k + 1, p, c, A, c', A', h, hw => by
    rw [sp_items] at h
    split at h
    · split at h
      · cases h
      · rename_i q A1 e
        split at h
        · exact ws_items k (q + 1) (c + 1) A1 h (ws_item e hw)
        · cases h
    · cases h
      exact hw
/-- the towns of a row 0 -/
noncomputable def av_A (g : aa_G) : sp_A := (((g 541 0).toInt.toNat, fun t => g 541 (50 * t + 3)), (fun t => (g 541 (50 * t + 4)).toInt.toNat, fun t i f => g 541 (50 * t + 4 * i + 5 + f)))
theorem av_m {g : aa_G} (hi : aa_inv g) : mv0 g (av_A g) := by
  have n4 : 0 ≤ (g 541 0).toInt ∧ (g 541 0).toInt ≤ 4 := iv_n hi (r := 0)
  refine ⟨aa_eqN (by show (g 541 0).toInt = ((g 541 0).toInt.toNat : Int); omega) (by show (g 541 0).toInt.toNat < _; omega), by show (g 541 0).toInt.toNat ≤ 4; omega, fun t ht => ?_⟩
  have ht : t < (g 541 0).toInt.toNat := ht
  obtain ⟨c, hc, h1⟩ := tq_count hi (show t < 4 by omega)
  have ec : (g 541 (50 * t + 4)).toInt.toNat = c := by rw [h1, i_12 hc]; omega
  refine ⟨by show g 541 (3 + 50 * t) = g 541 (50 * t + 3); rw [Nat.add_comm], ?_, ?_, fun i hi' => ?_⟩
  · show g 541 (3 + 50 * t + 1) = Int32.ofNat (g 541 (50 * t + 4)).toInt.toNat
    rw [ec, show 3 + 50 * t + 1 = 50 * t + 4 by omega, h1]
  · show (g 541 (50 * t + 4)).toInt.toNat ≤ 12
    omega
  · refine ⟨?_, ?_, ?_, ?_⟩
    · show g 541 (5 + 50 * t + 4 * i) = g 541 (50 * t + 4 * i + 5 + 0)
      congr 1
      omega
    · show g 541 (5 + 50 * t + 4 * i + 1) = g 541 (50 * t + 4 * i + 5 + 1)
      congr 1
      omega
    · show g 541 (5 + 50 * t + 4 * i + 2) = g 541 (50 * t + 4 * i + 5 + 2)
      congr 1
      omega
    · show g 541 (5 + 50 * t + 4 * i + 3) = g 541 (50 * t + 4 * i + 5 + 3)
      congr 1
      omega
theorem av_cs {gc gm : aa_G} (hi : aa_inv gm) (h : q1_s gc gm 2 0) : cvs gc 2 (av_A gm) ∧ ws_A (av_A gm) := by
  have n4 : 0 ≤ (gm 541 0).toInt ∧ (gm 541 0).toInt ≤ 4 := iv_n hi (r := 0)
  obtain ⟨h0, -, -, h4⟩ := h
  have h0 : gc 2 0 = gm 541 0 := h0
  refine ⟨⟨h0.trans (aa_eqN (by show (gm 541 0).toInt = ((gm 541 0).toInt.toNat : Int); omega) (by show (gm 541 0).toInt.toNat < _; omega)), by show (gm 541 0).toInt.toNat ≤ 4; omega, fun t ht => ?_⟩, fun t ht => ?_⟩
  · have ht : t < (gm 541 0).toInt.toNat := ht
    obtain ⟨c, hc, h1⟩ := tq_count hi (show t < 4 by omega)
    have ec : (gm 541 (50 * t + 4)).toInt.toNat = c := by rw [h1, i_12 hc]; omega
    obtain ⟨a1, a2, a3, a4⟩ := h4 t (by show (t : Int) < (gm 541 0).toInt; omega)
    rw [show 399 * 0 + 50 * t + 3 = 50 * t + 3 by omega] at a1 a2 a3 a4
    have hz : (gm 541 (50 * t + 3 + 1)).toInt = c := by
      show (gm 541 (50 * t + 4)).toInt = c
      rw [h1, i_12 hc]
    refine ⟨a1, ?_, by show (gm 541 (50 * t + 4)).toInt.toNat ≤ 12; omega, fun i hi' => ?_⟩
    · show gc (5 * t + (2 + 12)) 1 = Int32.ofNat (gm 541 (50 * t + 4)).toInt.toNat
      rw [ec, a2]
      exact h1
    · have hi' : i < (gm 541 (50 * t + 4)).toInt.toNat := hi'
      have b := fun o o1 o2 => a3 i (by rw [hz]; omega) o o1 o2
      refine ⟨?_, ?_, ?_, ?_⟩
      · rw [b 1 (by omega) (by omega)]
        show gm 541 (50 * t + 3 + 1 + 4 * i + 1) = gm 541 (50 * t + 4 * i + 5 + 0)
        congr 1
        omega
      · rw [b 2 (by omega) (by omega)]
        show gm 541 (50 * t + 3 + 1 + 4 * i + 2) = gm 541 (50 * t + 4 * i + 5 + 1)
        congr 1
        omega
      · rw [b 3 (by omega) (by omega)]
        show gm 541 (50 * t + 3 + 1 + 4 * i + 3) = gm 541 (50 * t + 4 * i + 5 + 2)
        congr 1
        omega
      · rw [b 4 (by omega) (by omega)]
        show gm 541 (50 * t + 3 + 1 + 4 * i + 4) = gm 541 (50 * t + 4 * i + 5 + 3)
        congr 1
        omega
  · have ht : t < (gm 541 0).toInt.toNat := ht
    obtain ⟨c, hc, h1⟩ := tq_count hi (show t < 4 by omega)
    have ec : (gm 541 (50 * t + 4)).toInt.toNat = c := by rw [h1, i_12 hc]; omega
    obtain ⟨a1, a2, a3, a4⟩ := h4 t (by show (t : Int) < (gm 541 0).toInt; omega)
    rw [show 399 * 0 + 50 * t + 3 = 50 * t + 3 by omega] at a1 a2 a3 a4
    have hz : (gm 541 (50 * t + 3 + 1)).toInt = c := by
      show (gm 541 (50 * t + 4)).toInt = c
      rw [h1, i_12 hc]
    refine ⟨fun i hi' => ?_, fun i hi' => ?_⟩
    · have hi' : i < (gm 541 (50 * t + 4)).toInt.toNat := hi'
      have g1 := iv_t hi (r := 0) (t := t) (o := 2 + 4 * i) (by omega) (by omega)
      have e : aa_town (2 + 4 * i) = (0, 359) := by
        unfold aa_town
        rw [if_neg (fun z => by have := Nat.eq_of_beq_eq_true z; omega), if_neg (fun z => by have := Nat.eq_of_beq_eq_true z; omega), show (2 + 4 * i - 2) % 4 = 0 by omega]
        rfl
      rw [e, show 399 * 0 + 50 * t + 3 + (2 + 4 * i) = 50 * t + 4 * i + 5 + 0 by omega] at g1
      exact g1
    · have hi' : i + 1 < (gm 541 (50 * t + 4)).toInt.toNat := hi'
      have := a4 i (by rw [hz]; omega)
      rw [show 50 * t + 3 + 1 + 4 * i + 1 = 50 * t + 4 * i + 5 + 0 by omega, show 50 * t + 3 + 1 + 4 * (i + 1) + 1 = 50 * t + 4 * (i + 1) + 5 + 0 by omega] at this
      exact this
/-- towns that are told alike are alike -/
theorem av_q {gc gm : aa_G} {A : sp_A} (h1 : cvs gc 2 A) (h2 : mv0 gm A) (h3 : ws_A A) (e1 : gc 2 1 = gm 541 1) (e2 : gc 4 0 = gm 541 2) : q1_s gc gm 2 0 := by
  obtain ⟨a1, a2, a3⟩ := h1
  obtain ⟨b1, b2, b3⟩ := h2
  have b1 : gm 541 0 = Int32.ofNat A.1.1 := b1
  refine ⟨a1.trans b1.symm, e1, e2, fun t ht => ?_⟩
  have ht : (t : Int) < (gm 541 0).toInt := ht
  rw [b1, zz_ofN (by omega)] at ht
  obtain ⟨c1, c2, c3, c4⟩ := a3 t (by omega)
  obtain ⟨d1, d2, d3, d4⟩ := b3 t (by omega)
  obtain ⟨w1, w2⟩ := h3 t (by omega)
  rw [show 399 * 0 + 50 * t + 3 = 50 * t + 3 by omega]
  have d2' : gm 541 (50 * t + 3 + 1) = Int32.ofNat (A.2.1 t) := by rw [show 50 * t + 3 + 1 = 3 + 50 * t + 1 by omega]; exact d2
  refine ⟨?_, c2.trans d2'.symm, fun i hi o o1 o2 => ?_, fun i hi => ?_⟩
  · rw [c1, Nat.add_comm]; exact d1.symm
  · rw [d2', zz_ofN (by omega)] at hi
    obtain ⟨x1, x2, x3, x4⟩ := c4 i (by omega)
    obtain ⟨y1, y2, y3, y4⟩ := d4 i (by omega)
    rcases (show o = 1 ∨ o = 2 ∨ o = 3 ∨ o = 4 by omega) with rfl | rfl | rfl | rfl
    · rw [x1, ← y1]
      congr 1
      omega
    · rw [x2, ← y2]
      congr 1
      omega
    · rw [x3, ← y3]
      congr 1
      omega
    · rw [x4, ← y4]
      congr 1
      omega
  · rw [d2', zz_ofN (by omega)] at hi
    have w := w2 i (by omega)
    obtain ⟨y1, -⟩ := d4 i (by omega)
    obtain ⟨y2, -⟩ := d4 (i + 1) (by omega)
    rw [show 50 * t + 3 + 1 + 4 * i + 1 = 5 + 50 * t + 4 * i by omega, show 50 * t + 3 + 1 + 4 * (i + 1) + 1 = 5 + 50 * t + 4 * (i + 1) by omega, y1, y2]
    exact w
/-- what text() of the class, of the model does: by ct_text, mt_text -/
def xt_c (b : Nat → Int32) (n e c : Nat) (A : sp_A) (g g' : aa_G) (x : Int32) : Prop := g' 454 0 = 0 ∧ ct_keep g g' e ∧ ((∃ f, sp_items b n (n + 1) 0 0 A = .inl f ∧ x = -1 ∧ g' 1 13 = Int32.ofNat f ∧ (∀ k j, ¬ (34 ≤ k ∧ k ≤ 65) → k ≠ 454 → ¬ (k = 1 ∧ j = 13) → g' k j = g k j)) ∨ (∃ c' A', sp_items b n (n + 1) 0 0 A = .inr (c', A') ∧ x = Int32.ofNat c' ∧ g' 1 13 = -1 ∧ cvs g' 2 A' ∧ cp_rest g g' 2 2 ∧ cp_st g g' (32 * e + 68) 2 ∧ g' 66 0 = Int32.ofNat (min (c + 1) 12) ∧ g' 66 1 = Int32.ofNat ((e + 1) % 12)))
def xt_m (b : Nat → Int32) (n c : Nat) (A : sp_A) (g g' : aa_G) (x : Int32) : Prop := g' 540 4 = 0 ∧ mt_keep g g' ∧ ((∃ f, sp_items b n (n + 1) 0 0 A = .inl f ∧ x = -1 ∧ g' 540 6 = Int32.ofNat f ∧ g' 540 1 = g 540 1 ∧ ∀ j, j < 5985 → g' 541 j = g 541 j) ∨ (∃ c' A', sp_items b n (n + 1) 0 0 A = .inr (c', A') ∧ x = Int32.ofNat c' ∧ g' 540 6 = -1 ∧ mv0 g' A' ∧ mt_row g g' ∧ g' 540 1 = Int32.ofNat (min (c + 1) 12) ∧ (∀ q, q < 399 → g' 541 (399 * (3 + min c 11) + q) = g 541 q) ∧ (∀ i q, q < 399 → i < min c 11 → g' 541 (399 * (3 + i) + q) = g 541 (399 * (3 + i + (if c = 12 then 1 else 0)) + q)) ∧ ∀ j, 399 ≤ j → j < 1197 → g' 541 j = g 541 j))
theorem mu_text {B : rq_Q} (hcp : rq_cp B) (hbf2 : ∀ (gc gc' gm gm' : aa_G), cp_bl gc gc' 4 4 → (∀ q, q < 399 → (q = 2 ∨ 203 ≤ q) → gm' 541 q = gm 541 q) → B gc gm 2 0 → B gc' gm' 2 0) {gc gm gc' gm' : aa_G} {b : Nat → Int32} {n c e : Nat} {x y : Int32} (hi : aa_inv gm) (h : rr_g (qb_s B) gc gm) (hd : rd_g (qb_s B) gc gm c e) (hc : xt_c b n e c (av_A gm) gc gc' x) (hm : xt_m b n c (av_A gm) gm gm' y) : x = y ∧ rr_g (qb_s B) gc' gm' := by
  obtain ⟨h0, h2, -, s1, s2, s3, s4, s5, s6, s7⟩ := h
  obtain ⟨x0, xk, xr⟩ := hc
  obtain ⟨y0, yk, yr⟩ := hm
  have he := hd.1.2
  have fc : ∀ k j, ¬ (2 ≤ k ∧ k ≤ 65) → ¬ (32 * e + 68 ≤ k ∧ k ≤ 32 * e + 99) → ¬ (k = 66 ∧ j ≤ 1) → k ≠ 454 → ¬ (k = 1 ∧ j = 13) → gc' k j = gc k j := xk
  have fm : ∀ k j, k ≠ 541 → ¬ (k = 540 ∧ (j = 1 ∨ (4 ≤ j ∧ j ≤ 7))) → gm' k j = gm k j := yk
  have rest : (qb_s B gc' gm' 2 0) → gc' 1 13 = gm' 540 6 → (∀ j, 399 ≤ j → j < 1197 → gm' 541 j = gm 541 j) → (∃ c e, rd_g (qb_s B) gc' gm' c e) → rr_g (qb_s B) gc' gm' := by
    intro r1 r2 r3 r4
    refine ⟨r1, fun k hk => ⟨?_, fun z => ?_⟩, r4, ?_, fun k hk => ?_, r2, ?_, ?_, ?_, fun j hj => ?_⟩
    · rw [fc 453 k (by omega) (by omega) (by omega) (by omega) (by omega), fm 542 k (by omega) (by omega)]; exact (h2 k hk).1
    · rw [fm 542 k (by omega) (by omega)] at z
      exact rq_same (qb_cp hcp) hi (by omega) (fun k' j _ _ => fc k' j (by omega) (by omega) (by omega) (by omega) (by omega)) (fun q hq => r3 _ (by omega) (by omega)) ((h2 k hk).2 z)
    · rw [x0, y0]
    · rw [fm 543 k (by omega) (by omega), fc 455 k (by omega) (by omega) (by omega) (by omega) (by omega)]; exact s2 k hk
    · rw [fc 1 14 (by omega) (by omega) (by omega) (by omega) (by omega), fm 540 35 (by omega) (by omega)]; exact s4
    · rw [fm 540 16 (by omega) (by omega)]; exact s5
    · rw [fc 459 0 (by omega) (by omega) (by omega) (by omega) (by omega), fm 540 37 (by omega) (by omega)]; exact s6
    · rw [fm 540 37 (by omega) (by omega)] at hj
      rw [fc 460 j (by omega) (by omega) (by omega) (by omega) (by omega), fm 553 j (by omega) (by omega)]; exact s7 j hj
  rcases xr with ⟨f, u1, u2, u3, u4⟩ | ⟨c', A', u1, u2, u3, u4, u5, u6, u7, u8⟩
  · rcases yr with ⟨f', v1, v2, v3, v4, v5⟩ | ⟨_, _, v1, -⟩
    · rw [u1] at v1
      cases v1
      obtain ⟨d1, ⟨d2, d3, d4⟩, d5⟩ := hd
      refine ⟨u2.trans v2.symm, rest (rq_same (qb_cp hcp) hi (by omega) (fun k j _ _ => u4 k j (by omega) (by omega) (by omega)) (fun q hq => v5 _ (by omega)) h0) (u3.trans v3.symm) (fun j _ _ => v5 j (by omega)) ⟨c, e, d1, ⟨(u4 66 0 (by omega) (by omega) (by omega)).trans d2, v4.trans d3, (u4 66 1 (by omega) (by omega) (by omega)).trans d4⟩, fun i hi' => rq_same (qb_cp hcp) hi (by omega) (fun k j _ _ => u4 k j (by omega) (by omega) (by omega)) (fun q hq => v5 _ (by omega)) (d5 i hi')⟩⟩
    · rw [u1] at v1
      cases v1
  · rcases yr with ⟨_, v1, -⟩ | ⟨c2, A2, v1, v2, v3, v4, v5, v6, v7, v8, v9⟩
    · rw [u1] at v1
      cases v1
    · rw [u1] at v1
      cases v1
      obtain ⟨q1, qb⟩ := h0
      have hw := ws_items _ _ _ _ u1 (av_cs hi q1).2
      have mr : ∀ j, j < 399 → ¬ (j = 0 ∨ (3 ≤ j ∧ j < 203)) → gm' 541 j = gm 541 j := v5
      obtain ⟨r1, r2, r3⟩ := u5
      have hq : qb_s B gc' gm' 2 0 := ⟨av_q u4 v4 hw (r1.trans (q1.2.1.trans (mr 1 (by omega) (by omega)).symm)) ((r2 0 (by omega)).trans (q1.2.2.1.trans (mr 2 (by omega) (by omega)).symm)), hbf2 gc gc' gm gm' ⟨r2, r3⟩ (fun q hq z => mr q hq (by omega)) qb⟩
      refine ⟨u2.trans v2.symm, rest hq (u3.trans v3.symm) v9 ⟨_, _, rd_push (qb_cp hcp) hi ⟨q1, qb⟩ hd u6 u7 u8 (fun k j z1 z2 z3 => fc k j (by omega) (by omega) (by omega) (by omega) (by omega)) v6 (fun q hq => ?_) v8⟩⟩
      rw [Nat.mul_zero, Nat.zero_add]
      exact v7 q hq
end
section
/-! BELLS: bells() of the class, with what it leaves -/
/-- what the class's bells() leaves -/
def xb_c (r : Nat ⊕ Nat) (e c : Nat) (g g' : aa_G) : Prop := g' 454 0 = 0 ∧ g' 1 13 = bl_flt r ∧ ct_keep g g' e ∧ (match r with
  | .inl _ => ∀ k j, ¬ (34 ≤ k ∧ k ≤ 65) → k ≠ 454 → ¬ (k = 1 ∧ j = 13) → g' k j = g k j
  | .inr N => (g' 2 0 = g 2 0 ∧ g' 2 1 = g 2 1 ∧ (∀ t, t < 4 → cp_tw g g' (5 * t + 14) (5 * t + 14)) ∧ g' 4 0 = Int32.ofNat N) ∧ cp_st g g' (32 * e + 68) 2 ∧ g' 66 0 = Int32.ofNat (min (c + 1) 12) ∧ g' 66 1 = Int32.ofNat ((e + 1) % 12))
def cb_al2 (g : aa_G) (r : Nat ⊕ Nat) (v : Option Value) (h : zz_H) : Prop := (∃ f, r = .inl f ∧ v = some (.int (-1)) ∧ ∃ g', h = aa_H g' ∧ cb_bad g f g') ∨ (∃ N, r = .inr N ∧ N ≤ 8 ∧ v = some (.int (Int32.ofNat N)) ∧ ∃ g', h = aa_H g' ∧ cb_rest g g' ∧ g' 36 0 = Int32.ofNat N)
theorem cb_rest.al2 {g g1 : aa_G} {r : Nat ⊕ Nat} {v : Option Value} {h : zz_H} (hf : cb_rest g g1) (k : cb_al2 g1 r v h) : cb_al2 g r v h := by
  rcases k with ⟨f, k1, k2, g', k3, k4⟩ | ⟨N, k1, k0, k2, g', k3, k4⟩
  · exact .inl ⟨f, k1, k2, g', k3, fun a j e1 e2 => (k4.1 a j e1 e2).trans (hf a j e1 (by omega)), k4.2⟩
  · exact .inr ⟨N, k1, k0, k2, g', k3, fun a j e1 e2 => (k4.1 a j e1 e2).trans (hf a j e1 e2), k4.2⟩
theorem cb_loop2 {b : Nat → Int32} {n : Nat} : ∀ (k p i N T : Nat) (g : aa_G), n < k + p → i ≤ p → p ≤ n → N ≤ 8 → T ≤ 40 → tc_ok g b n → g 36 0 = Int32.ofNat N → g 36 1 = Int32.ofNat T → zz_fin none 42 (10, [some (.ref 454), some (.ref 36), some (.int (Int32.ofNat i))], [], aa_H (tc_at g b n p)) (cb_al2 g (cl_loop b n k p N T)) := by
  intro k
  induction k with
  | zero => intro p i N T g hk hi hp; omega
  | succ k ih =>
    intro p i N T g hk hi hp hN hT h h0 h1
    have hn := h.2.1
    have k0 : tc_at g b n p 36 0 = Int32.ofNat N := (tc_at_ne _ _ _ _ (by omega)).trans h0
    refine zz_fin.steps (n := 2) (s' := (14, [some (.ref 454), some (.ref 36), some (.int (Int32.ofNat i))], [.int 500, .int (Int32.ofNat i)], aa_H (tc_at g b n p))) rfl ?_
    refine zz_fin.ic rfl (fun c1 => ?_) (fun c1 => ?_)
    · have c1 : (500 : Int32).toInt ≤ (Int32.ofNat i).toInt := aa_le32.mp (of_decide_eq_true c1)
      rw [zz_ofN (by omega), show (500 : Int32).toInt = 500 from rfl] at c1
      have hno : ¬ p < n := by omega
      refine zz_fin.steps (n := 2) (s' := (53, [some (.ref 454), some (.ref 36), some (.int (Int32.ofNat i))], [.int ((tc_at g b n p) 36 0)], aa_H (tc_at g b n p))) rfl ?_
      rw [k0, cl_no hno]
      exact zz_fin.at (n := 1) rfl (.inr ⟨N, rfl, hN, rfl, _, rfl, fun k j e1 e2 => tc_at_ne _ _ _ _ (by omega), k0⟩)
    · refine zz_fin.steps (n := 1) (s' := (18, [some (.ref 454), some (.ref 36), some (.int (Int32.ofNat i))], [.ref 454], aa_H (tc_at g b n p))) rfl ?_
      refine zz_fin.call rfl rfl (Nat.le_of_ble_eq_true rfl) (tc_more h (by omega)) ?_
      rintro v h ⟨⟨rfl, hno⟩ | ⟨rfl, hno⟩, rfl⟩
      · refine zz_fin.if rfl (fun cz => zc_no1 cz) (fun cz => ?_)
        refine zz_fin.steps (n := 2) (s' := (26, [some (.ref 454), some (.ref 36), some (.int (Int32.ofNat i))], [.ref 36, .ref 454], aa_H (tc_at g b n p))) rfl ?_
        refine zz_fin.call rfl rfl (Nat.le_of_ble_eq_true rfl) (cb_bell h hN hT hp h0 h1) ?_
        rintro v h' (⟨f, e, rfl, g', rfl, hb⟩ | ⟨q, F, ts, e, hq, rfl, g1, rfl, hs⟩)
        · rw [cl_inl hno (show cb_q b n (cb_bellf b n p N T) = .inl f by rw [e]; rfl)]
          refine zz_fin.if rfl (fun cz => ?_) (fun cz => zc_no0 cz)
          exact zz_fin.at (n := 2) rfl (.inl ⟨f, rfl, rfl, g', rfl, hb⟩)
        · refine zz_fin.if rfl (fun cz => zc_no1 cz) (fun cz => ?_)
          have h2 : tc_ok g1 b n := ⟨(hs.1 454 0 (by omega) (by omega) (by omega) (by omega)).trans h.1, h.2.1, fun j hj => (hs.1 455 j (by omega) (by omega) (by omega) (by omega)).trans (h.2.2 j hj)⟩
          have hr : cb_rest g g1 := fun k j e1 e2 => hs.1 k j (by omega) (by omega) (by omega) (by omega)
          refine zz_fin.steps (n := 2) (s' := (35, [some (.ref 454), some (.ref 36), some (.int (Int32.ofNat i))], [.int 59, .ref 454], aa_H (tc_at g1 b n q))) rfl ?_
          refine zz_fin.call rfl rfl (Nat.le_of_ble_eq_true rfl) (tc_pass h2 (c := 59) (by decide)) ?_
          rintro v h' (⟨rfl, k1, k2, rfl⟩ | ⟨rfl, k1, g', rfl, k2⟩)
          · have e2 : cb_q b n (cb_bellf b n p N T) = .inr (q + 1, (F, ts)) := by
              rw [e]
              exact if_pos k1
            rw [cl_inr hno e2]
            refine zz_fin.if rfl (fun cz => ?_) (fun cz => absurd rfl cz)
            refine zz_fin.steps (n := 2) (s' := (10, [some (.ref 454), some (.ref 36), some (.int (Int32.ofNat i + 1))], [], aa_H (tc_at g1 b n (q + 1)))) rfl ?_
            rw [aa_succ]
            obtain ⟨i1, i2⟩ := cb_pb (b := b) (n := n) (p := p) (N := N) hT
            have hall : p < q + 1 ∧ T + ts.length ≤ 40 ∧ N ≠ 8 := by
              cases hb : pb_bell b n p N T with
              | inl f =>
                have := i1 f hb
                rw [e2] at this
                cases this
              | inr r =>
                obtain ⟨q5, F5, T5, cs5⟩ := r
                obtain ⟨a1, a2, a3, a4, a5, a6, ts5, f1, f2⟩ := i2 q5 F5 T5 cs5 hb
                rw [e2] at f2
                cases f2
                exact ⟨a1, by omega, a6⟩
            exact (ih (q + 1) (i + 1) (N + 1) (T + ts.length) g1 (by omega) (by omega) k2 (by omega) hall.2.1 h2 hs.2.1 hs.2.2.1).mono fun v h' k => hr.al2 k
          · have e2 : cb_q b n (cb_bellf b n p N T) = .inl q := by
              rw [e]
              exact if_neg k1
            rw [cl_inl hno e2]
            refine zz_fin.if rfl (fun cz => absurd cz (by decide)) (fun cz => ?_)
            exact zz_fin.at (n := 2) rfl (.inl ⟨q, rfl, rfl, g', rfl, fun k j e1 e3 => (k2.1 k j e3).trans (hr k j e1 (by omega)), k2.2⟩)
      · refine zz_fin.if rfl (fun cz => ?_) (fun cz => zc_no0 cz)
        refine zz_fin.steps (n := 2) (s' := (53, [some (.ref 454), some (.ref 36), some (.int (Int32.ofNat i))], [.int ((tc_at g b n p) 36 0)], aa_H (tc_at g b n p))) rfl ?_
        rw [k0, cl_no hno]
        exact zz_fin.at (n := 1) rfl (.inr ⟨N, rfl, hN, rfl, _, rfl, fun k j e1 e2 => tc_at_ne _ _ _ _ (by omega), k0⟩)
theorem cb_read2 {g : aa_G} {b : Nat → Int32} {n : Nat} (h : tc_ok g b n) : zz_fin none 42 (0, zz_in [.ref 454, .ref 36] (zz_nl 42), [], aa_H g) (cb_al2 (zz_w (zz_w (zz_w g 454 4 (-1)) 36 0 0) 36 1 0) (cl_loop b n (n + 1) 0 0 0)) := by
  have hn := h.2.1
  refine zz_fin.steps (n := 1) (s' := (1, [some (.ref 454), some (.ref 36), none], [.ref 454], aa_H g)) rfl ?_
  refine zz_fin.call rfl rfl (Nat.le_of_ble_eq_true rfl) (tc_rew h) ?_
  rintro v h ⟨rfl, rfl⟩
  refine zz_fin.steps (n := 1) (s' := (5, [some (.ref 454), some (.ref 36), none], [.ref 36], aa_H (tc_at (zz_w g 454 4 (-1)) b n 0))) rfl ?_
  refine zz_fin.call (ψ := fun v h' => v = none ∧ h' = aa_H (zz_w (zz_w (tc_at (zz_w g 454 4 (-1)) b n 0) 36 0 0) 36 1 0)) rfl rfl (Nat.le_of_ble_eq_true rfl) (zz_fin.at (n := 7) rfl ⟨rfl, rfl⟩) ?_
  rintro v h' ⟨rfl, rfl⟩
  rw [tc_comm _ _ _ _ (by decide), tc_comm _ _ _ _ (by decide)]
  refine zz_fin.steps (n := 2) (s' := (10, [some (.ref 454), some (.ref 36), some (.int (Int32.ofNat 0))], [], aa_H (tc_at (zz_w (zz_w (zz_w g 454 4 (-1)) 36 0 0) 36 1 0) b n 0))) rfl ?_
  exact cb_loop2 (n + 1) 0 0 0 0 _ (by omega) (Nat.le_refl _) (Nat.zero_le _) (by omega) (by omega) ⟨(aa_w_ne _ _ (by omega)).trans ((aa_w_ne _ _ (by omega)).trans ((aa_w_ne _ _ (by omega)).trans h.1)), h.2.1, fun j hj => (aa_w_ne _ _ (by omega)).trans ((aa_w_ne _ _ (by omega)).trans ((aa_w_ne _ _ (by omega)).trans (h.2.2 j hj)))⟩ ((aa_w_ne _ _ (by omega)).trans (aa_w_at _ _ _ _)) (aa_w_at _ _ _ _)
theorem cb_bells2 {g : aa_G} {b : Nat → Int32} {n e c : Nat} (h : tc_ok g b n) (he : e < 12) (hc : c ≤ 12) (h0 : g 66 0 = Int32.ofNat c) (h1 : g 66 1 = Int32.ofNat e) : zz_fin none 41 (0, zz_in [.ref 1] (zz_nl 41), [], aa_H g) (fun v h => ∃ g', h = aa_H g' ∧ v = some (.int (bl_ans (cl_loop b n (n + 1) 0 0 0))) ∧ xb_c (cl_loop b n (n + 1) 0 0 0) e c g g') := by
  refine zz_fin.steps (n := 4) (s' := (8, [some (.ref 1), none], [.ref 2, .ref 34], aa_H g)) rfl ?_
  refine zz_fin.call rfl rfl (Nat.le_of_ble_eq_true rfl) (cp_state cs_ok_34 cs_ok_2 (show 34 + 32 ≤ 2 ∨ 2 + 32 ≤ 34 by omega)) ?_
  rintro v h' ⟨rfl, g1, rfl, k1, k2⟩
  have k2 : cp_fr g g1 34 65 := k2
  have ht1 : tc_ok g1 b n := ⟨(k2 454 0 (by omega)).trans h.1, h.2.1, fun j hj => (k2 455 j (by omega)).trans (h.2.2 j hj)⟩
  refine zz_fin.steps (n := 5) (s' := (22, [some (.ref 1), none], [.ref 36, .ref 454], aa_H g1)) rfl ?_
  refine zz_fin.call rfl rfl (Nat.le_of_ble_eq_true rfl) (cb_read2 ht1) ?_
  rintro v h' (⟨f, hs, rfl, g2, rfl, b1, b2⟩ | ⟨N, hs, hN, rfl, g2, rfl, hr, hr0⟩)
  · refine zz_fin.steps (n := 2) (s' := (27, [some (.ref 1), some (.int (-1))], [.ref 1], aa_H g2)) rfl ?_
    refine zz_fin.call rfl rfl (Nat.le_of_ble_eq_true rfl) (ct_eor) ?_
    rintro v h ⟨rfl, rfl⟩
    refine zz_fin.steps (n := 2) (s' := (32, [some (.ref 1), some (.int (-1))], [.int (-1), .int (-1)], aa_H (zz_w (zz_w g2 1 13 (g2 454 4)) 454 0 0))) rfl ?_
    refine zz_fin.ic rfl (fun cz => ?_) (fun cz => absurd rfl cz)
    rw [hs]
    have fr : ∀ k j, ¬ ((34 ≤ k ∧ k ≤ 65)) → k ≠ 454 → ¬ (k = 1 ∧ j = 13) → (zz_w (zz_w g2 1 13 (g2 454 4)) 454 0 0) k j = g k j := fun k j e1 e2 e3 => by
      rw [aa_w_ne _ _ (by omega), aa_w_ne _ _ (by omega), b1 k j (by omega) (by omega), aa_w_ne _ _ (by omega), aa_w_ne _ _ (by omega), aa_w_ne _ _ (by omega)]
      exact k2 k j (by omega)
    exact zz_fin.at (n := 2) rfl ⟨_, rfl, rfl, aa_w_at _ _ _ _, (aa_w_ne _ _ (by omega)).trans ((aa_w_at _ _ _ _).trans b2), fun k j z1 z2 z3 z4 z5 => fr k j (by omega) z4 z5, fr⟩
  · refine zz_fin.steps (n := 2) (s' := (27, [some (.ref 1), some (.int (Int32.ofNat N))], [.ref 1], aa_H g2)) rfl ?_
    refine zz_fin.call rfl rfl (Nat.le_of_ble_eq_true rfl) (ct_eor) ?_
    rintro v h ⟨rfl, rfl⟩
    refine zz_fin.steps (n := 2) (s' := (32, [some (.ref 1), some (.int (Int32.ofNat N))], [.int (-1), .int (Int32.ofNat N)], aa_H (zz_w (zz_w g2 1 13 (g2 454 4)) 454 0 0))) rfl ?_
    have hne : Int32.ofNat N ≠ -1 := fun z => by
      have e := zz_ofN (n := N) (by omega)
      rw [z, show (-1 : Int32).toInt = -1 from rfl] at e
      omega
    refine zz_fin.ic rfl (fun cz => absurd (of_decide_eq_true cz) hne) (fun cz => ?_)
    have fr : ∀ k j, ¬ ((34 ≤ k ∧ k ≤ 65)) → k ≠ 454 → ¬ (k = 1 ∧ j = 13) → (zz_w (zz_w g2 1 13 (g2 454 4)) 454 0 0) k j = g k j := fun k j e1 e2 e3 => by
      rw [aa_w_ne _ _ (by omega), aa_w_ne _ _ (by omega), hr k j (by omega) (by omega), aa_w_ne _ _ (by omega), aa_w_ne _ _ (by omega), aa_w_ne _ _ (by omega)]
      exact k2 k j (by omega)
    refine zz_fin.steps (n := 3) (s' := (40, [some (.ref 1), some (.int (Int32.ofNat N))], [.ref 34, .ref 1], aa_H (zz_w (zz_w g2 1 13 (g2 454 4)) 454 0 0))) rfl ?_
    have hG13 : (zz_w (zz_w g2 1 13 (g2 454 4)) 454 0 0) 1 13 = -1 := by
      rw [aa_w_ne _ _ (by omega), aa_w_at, hr 454 4 (by omega) (by omega), aa_w_ne _ _ (by omega), aa_w_ne _ _ (by omega), aa_w_at]
    have hG0 : (zz_w (zz_w g2 1 13 (g2 454 4)) 454 0 0) 454 0 = 0 := aa_w_at _ _ _ _
    generalize hG : zz_w (zz_w g2 1 13 (g2 454 4)) 454 0 0 = G3 at fr hG13 hG0 ⊢
    refine zz_fin.call rfl rfl (Nat.le_of_ble_eq_true rfl) (cd_adopt cs_ok_34 (by omega) he hc ((fr 66 0 (by omega) (by omega) (by omega)).trans h0) ((fr 66 1 (by omega) (by omega) (by omega)).trans h1)) ?_
    rintro v h' ⟨rfl, g4, g5, rfl, ⟨p1, p2, p3, p4⟩, q1, q2⟩
    have s4 : ∀ k j, ¬ (32 * e + 68 ≤ k ∧ k ≤ 32 * e + 99) → ¬ (k = 66 ∧ j ≤ 1) → g4 k j = G3 k j := p4
    rw [hs]
    have q2' : ∀ k j, ¬ (2 ≤ k ∧ k ≤ 33) → g5 k j = g4 k j := q2
    have dr : ∀ k j, 34 ≤ k → k ≤ 65 → G3 k j = g2 k j := fun k j z1 z2 => by rw [← hG, aa_w_ne _ _ (by omega), aa_w_ne _ _ (by omega)]
    have dr2 : ∀ k j, 34 ≤ k → k ≤ 65 → ¬ (36 ≤ k ∧ k ≤ 45) → G3 k j = g1 k j := fun k j z1 z2 z3 => by rw [dr k j z1 z2, hr k j z3 (by omega), aa_w_ne _ _ (by omega), aa_w_ne _ _ (by omega), aa_w_ne _ _ (by omega)]
    have d4 : ∀ k j, 34 ≤ k → k ≤ 65 → g4 k j = G3 k j := fun k j z1 z2 => s4 k j (by omega) (by omega)
    refine zz_fin.at (n := 2) rfl ⟨g5, rfl, rfl, (q2 454 0 (by omega)).trans ((s4 454 0 (by omega) (by omega)).trans hG0), (q2 1 13 (by omega)).trans ((s4 1 13 (by omega) (by omega)).trans hG13), fun k j z1 z2 z3 z4 z5 => (q2' k j (by omega)).trans ((s4 k j z2 z3).trans (fr k j (by omega) z4 z5)), ⟨?_, ?_, fun t ht => ⟨fun j hj => ?_, fun o j o1 o2 hj => ?_⟩, ?_⟩, cp_via (cp_src p1 fun k j z1 z2 => fr k j (by omega) (by omega) (by omega)) (fun k j z1 z2 => q2' k j (by omega)), (q2' 66 0 (by omega)).trans p2, (q2' 66 1 (by omega)).trans p3⟩
    · rw [q1.1 0 (by omega), d4 34 0 (by omega) (by omega), dr2 34 0 (by omega) (by omega) (by omega)]
      exact k1.1 0 (by omega)
    · rw [q1.1 1 (by omega), d4 34 1 (by omega) (by omega), dr2 34 1 (by omega) (by omega) (by omega)]
      exact k1.1 1 (by omega)
    · have a := (q1.2.2 t ht).1 j hj
      have a2 := (k1.2.2 t ht).1 j hj
      rw [show 5 * t + (2 + 12) = 5 * t + 14 by omega] at a a2
      rw [a, d4 _ j (by omega) (by omega), dr2 _ j (by omega) (by omega) (by omega)]
      exact a2
    · have a := (q1.2.2 t ht).2 o j o1 o2 hj
      have a2 := (k1.2.2 t ht).2 o j o1 o2 hj
      rw [show 5 * t + (2 + 12) = 5 * t + 14 by omega] at a a2
      rw [a, d4 _ j (by omega) (by omega), dr2 _ j (by omega) (by omega) (by omega)]
      exact a2
    · rw [q1.2.1.1 0 (by omega), d4 _ 0 (by omega) (by omega), dr _ 0 (by omega) (by omega)]
      exact hr0
end
