/-! THE PAIRS OF CALLS: text, bells, end, feed -/
theorem lr_tape {g : aa_G} (hi : aa_inv g) (hR : lr_R g) : ∃ n, n ≤ 500 ∧ g 454 0 = Int32.ofNat n ∧ g 540 4 = Int32.ofNat n := by
  have k := hi 454 0
  rw [show aa_iv (aa_gc 454) 0 = (0, 500) from by decide +kernel] at k
  have k : (0 : Int) ≤ (g 454 0).toInt ∧ (g 454 0).toInt ≤ 500 := k
  have e : g 454 0 = Int32.ofNat (g 454 0).toInt.toNat := aa_eqN (by omega) (by omega)
  exact ⟨(g 454 0).toInt.toNat, by omega, e, hR.1.2.2.2.1.symm.trans e⟩
theorem lr_nat {a : Int32} {c d : Nat} (h : a = Int32.ofNat c) (k : a = Int32.ofNat d) (hc : c < 2147483648) (hd : d < 2147483648) : c = d := by
  have e := congrArg Int32.toInt (h.symm.trans k)
  rw [zz_ofN hc, zz_ofN hd] at e
  omega
theorem lr_rd {Q : rq_Q} {g g1 : aa_G} {c e : Nat} (q : rr_g Q g g1) (hc : c ≤ 12) (he : e < 12) (r0 : g 66 0 = Int32.ofNat c) (r1 : g 66 1 = Int32.ofNat e) : rd_g Q g g1 c e := by
  obtain ⟨-, -, ⟨c2, e2, ⟨w1, w2⟩, ⟨w3, w4, w5⟩, w6⟩, -⟩ := q
  have x1 := lr_nat w3 r0 (by omega) (by omega)
  have x2 := lr_nat w5 r1 (by omega) (by omega)
  subst x1
  subst x2
  exact ⟨⟨w1, w2⟩, ⟨w3, w4, w5⟩, w6⟩
theorem lq_15 {g : aa_G} (hi : aa_inv g) (hφ : aa_Phi g) (hR : lr_R g) : lq_ok true 15 162 [] g := by
  obtain ⟨n, hn, t0, t1⟩ := lr_tape hi hR
  have hR0 := hR.1
  obtain ⟨h0, -, ⟨c, e, ⟨hc, he⟩, ⟨r0, r1, r2⟩, -⟩, s1, s2, -⟩ := hR0
  have hA := (av_cs hi h0.1).1
  refine zz_fin.mono ((ct_text (g := g) (b := g 455) (n := n) ⟨t0, hn, fun j _ => rfl⟩ hA he hc r0 r2).and (ko_15 hi hφ)) ?_
  rintro v h ⟨⟨g1, rfl, a1, a2, a3⟩, g1', q, i1, p1, f1, -⟩
  cases ep_H q
  have wc : lk_c aa_k29.1.2.2 = true := by decide +kernel
  obtain ⟨q1, q2, q3⟩ := lk_mid wc hi hR f1
  obtain ⟨x, hv, hx⟩ : ∃ x, v = some (.int x) ∧ xt_c (g 455) n e c (av_A g) g g1 x := by
    rcases a3 with ⟨f, b1, b2, b3⟩ | ⟨c', A', b1, b2, b3⟩
    · exact ⟨-1, b2, a1, a2, .inl ⟨f, b1, rfl, b3⟩⟩
    · exact ⟨_, b2, a1, a2, .inr ⟨c', A', b1, rfl, b3⟩⟩
  have e541 : g1 541 = g 541 := funext fun j => lk_ce wc f1 (by decide) j
  have eA : av_A g1 = av_A g := by unfold av_A; rw [e541]
  rw [← eA] at hx
  have hd := lr_rd q1 hc he r0 r2
  refine ⟨x, g1, hv, rfl, ?_⟩
  refine zz_fin.mono ((mt_text (g := g1) (b := g 455) (n := n) (c := c) (A := av_A g1) ⟨(lk_ce wc f1 (by decide) 4).trans t1, hn, fun j hj => by rw [lk_ce wc f1 (k := 543) (by decide) j]; exact s2 j (by omega)⟩ (av_m i1) ((lk_ce wc f1 (by decide) 1).trans r1) hc).and (ko_162 i1 p1)) ?_
  rintro v h ⟨⟨g2, rfl, b1, b2, b3⟩, g2', q', i2, p2, f2, -⟩
  cases ep_H q'
  obtain ⟨y, hy, hm⟩ : ∃ y, v = some (.int y) ∧ xt_m (g 455) n c (av_A g1) g1 g2 y := by
    rcases b3 with ⟨f, k1, k2, k3⟩ | ⟨c', A', k1, k2, k3⟩
    · exact ⟨-1, k2, b1, b2, .inl ⟨f, k1, rfl, k3⟩⟩
    · exact ⟨_, k2, b1, b2, .inr ⟨c', A', k1, rfl, k3⟩⟩
  obtain ⟨z1, z2⟩ := mu_text lr_cp lr_bf2 i1 q1 hd hx hm
  obtain ⟨w1, w2⟩ := lk_end (by decide +kernel) i2 f2 z2 (lk_ee (by decide +kernel) f1 f2 q2) q3
  exact ⟨y, g2, hy, fun _ => z1.symm, rfl, i2, p2, w1, w2⟩
theorem lq_41 {g : aa_G} (hi : aa_inv g) (hφ : aa_Phi g) (hR : lr_R g) : lq_ok true 41 178 [] g := by
  obtain ⟨n, hn, t0, t1⟩ := lr_tape hi hR
  have hR0 := hR.1
  obtain ⟨h0, -, ⟨c, e, ⟨hc, he⟩, ⟨r0, r1, r2⟩, -⟩, s1, s2, -⟩ := hR0
  refine zz_fin.mono ((cb_bells2 (g := g) (b := g 455) (n := n) ⟨t0, hn, fun j _ => rfl⟩ he hc r0 r2).and (ko_41 hi hφ)) ?_
  rintro v h ⟨⟨g1, rfl, hv, hx⟩, g1', q, i1, p1, f1, -⟩
  cases ep_H q
  have wc : lk_c aa_k41.1.2.2 = true := by decide +kernel
  obtain ⟨q1, q2, q3⟩ := lk_mid wc hi hR f1
  have hd := lr_rd q1 hc he r0 r2
  refine ⟨_, g1, hv, rfl, ?_⟩
  obtain ⟨m1, m2⟩ := bm_all (g := g1) (b := g 455) (n := n) (c := c) ⟨(lk_ce wc f1 (by decide) 4).trans t1, hn, fun j hj => by rw [lk_ce wc f1 (k := 543) (by decide) j]; exact s2 j (by omega)⟩ ((lk_ce wc f1 (by decide) 1).trans r1) hc
  refine zz_fin.mono (ko_fw (ko_178 i1 p1) fun _ _ _ r => dn_178 r) ?_
  rintro v h ⟨k1, k2, i2, p2, f2⟩
  have z2 := mu_bells lr_cp i1 q1 hd hx m2 (fun _ _ => trivial)
  obtain ⟨w1, w2⟩ := lk_end (by decide +kernel) i2 f2 z2 (lk_ee (by decide +kernel) f1 f2 q2) q3
  refine ⟨_, _, k1, fun _ => ?_, k2, i2, p2, w1, w2⟩
  rw [m1, cl_ml (n + 1) 0 0 0 (by omega)]
/-- other bytes on both tapes -/
theorem rr_tape {Q : rq_Q} (hQ : rq_cp Q) {gc gc' gm gm' : aa_G} (hi : aa_inv gm) (h : rr_g Q gc gm) (fc : ∀ k j, k < 540 → k ≠ 455 → ¬ (k = 454 ∧ j = 0) → gc' k j = gc k j) (fm : ∀ k j, 540 ≤ k → k ≠ 543 → ¬ (k = 540 ∧ j = 4) → gm' k j = gm k j) (t1 : gc' 454 0 = gm' 540 4) (t2 : ∀ k, k < 500 → gm' 543 k &&& 255 = gc' 455 k) : rr_g Q gc' gm' := by
  obtain ⟨h1, h2, ⟨c, e, h3, h4, h5⟩, -, -, s3, s4, s5, s6, s7⟩ := h
  have m541 : ∀ j, gm' 541 j = gm 541 j := fun j => fm 541 j (by omega) (by omega) (by omega)
  refine ⟨rq_same hQ hi (by omega) (fun k j a b => fc k j (by omega) (by omega) (by omega)) (fun q hq => m541 _) h1, fun k hk => ⟨?_, fun z => rq_same hQ hi (by omega) (fun k' j a b => fc k' j (by omega) (by omega) (by omega)) (fun q hq => m541 _) ((h2 k hk).2 ?_)⟩, ⟨c, e, h3, ⟨(fc 66 0 (by omega) (by omega) (by omega)).trans h4.1, (fm 540 1 (by omega) (by omega) (by omega)).trans h4.2.1, (fc 66 1 (by omega) (by omega) (by omega)).trans h4.2.2⟩, fun i hi' => rq_same hQ hi (by omega) (fun k j a b => fc k j (by omega) (by omega) (by omega)) (fun q hq => m541 _) (h5 i hi')⟩, t1, t2, ?_, ?_, ?_, ?_, fun j hj => ?_⟩
  · rw [fc 453 k (by omega) (by omega) (by omega), fm 542 k (by omega) (by omega) (by omega)]; exact (h2 k hk).1
  · rw [fm 542 k (by omega) (by omega) (by omega)] at z; exact z
  · rw [fc 1 13 (by omega) (by omega) (by omega), fm 540 6 (by omega) (by omega) (by omega)]; exact s3
  · rw [fc 1 14 (by omega) (by omega) (by omega), fm 540 35 (by omega) (by omega) (by omega)]; exact s4
  · rw [fm 540 16 (by omega) (by omega) (by omega)]; exact s5
  · rw [fc 459 0 (by omega) (by omega) (by omega), fm 540 37 (by omega) (by omega) (by omega)]; exact s6
  · rw [fm 540 37 (by omega) (by omega) (by omega)] at hj
    rw [fc 460 j (by omega) (by omega) (by omega), fm 553 j (by omega) (by omega) (by omega)]; exact s7 j hj
theorem lq_13 {g : aa_G} {a0 : Int32} (hi : aa_inv g) (hφ : aa_Phi g) (hR : lr_R g) : lq_ok true 13 160 [.int a0] g :=
  lq_mks (y := fn_160 (fn_13 g a0).2 a0) hi hR (ko_fw (ko_13 hi hφ) fun _ _ _ r => dn_13 r) (fun i1 p1 => ko_fw (ko_160 i1 p1) fun _ _ _ r => dn_160 r) (by decide +kernel) (by decide +kernel) (by decide +kernel) fun i1 p1 q => by
    have s1 : g 454 0 = (fn_13 g a0).2 540 4 := q.2.2.2.1
    have s2 := q.2.2.2.2.1
    have e1 : fn_154 a0 0 ((fn_13 g a0).2 540 4) = fn_14 a0 0 (g 454 0) := by rw [← s1]; rfl
    unfold fn_160
    rw [e1]
    generalize hx : fn_13 g a0 = x at q s1 s2 i1
    unfold fn_13 at hx
    by_cases hz : fn_14 a0 0 (g 454 0) ≠ 0
    · rw [if_pos (c := fn_14 a0 0 (g 454 0) ≠ 0) hz] at hx ⊢
      subst hx
      refine ⟨rfl, rr_tape (qb_cp lr_cp) i1 q (fun k j k1 k2 k3 => ?_) (fun k j k1 k2 k3 => ?_) ?_ fun k hk => ?_⟩
      · show zz_w g 454 0 a0 k j = g k j
        exact aa_w_ne _ _ (by omega)
      · show zz_w (zz_w g 454 0 a0) 540 4 a0 k j = zz_w g 454 0 a0 k j
        exact aa_w_ne _ _ (by omega)
      · show zz_w g 454 0 a0 454 0 = zz_w (zz_w g 454 0 a0) 540 4 a0 540 4
        rw [aa_w_at, aa_w_at]
      · have z : zz_w (zz_w g 454 0 a0) 540 4 a0 543 k = zz_w g 454 0 a0 543 k := aa_w_ne _ _ (by omega)
        have z2 : zz_w g 454 0 a0 455 k = g 455 k := aa_w_ne _ _ (by omega)
        show zz_w (zz_w g 454 0 a0) 540 4 a0 543 k &&& 255 = zz_w g 454 0 a0 455 k
        rw [z, z2]
        exact s2 k hk
    · rw [if_neg (c := fn_14 a0 0 (g 454 0) ≠ 0) hz] at hx ⊢
      subst hx
      exact ⟨rfl, q⟩
theorem lq_11 {g : aa_G} {a0 a1 a2 a3 a4 : Int32} (hi : aa_inv g) (hφ : aa_Phi g) (hR : lr_R g) : lq_ok false 11 158 [.int a0, .int a1, .int a2, .int a3, .int a4] g := by
  obtain ⟨n, hn, t0, t1⟩ := lr_tape hi hR
  refine zz_fin.mono ((fd_feedc (a0 := a0) (a1 := a1) (a2 := a2) (a3 := a3) (a4 := a4) hn t0).and (ko_fw (ko_11 hi hφ) fun _ _ _ r => dn_11 r)) ?_
  rintro v h ⟨⟨g1, rfl, r1⟩, kv, q, i1, p1, f1⟩
  have q := (ep_H q).symm
  rw [q] at i1 p1 f1
  have wc : lk_c aa_k1.1.2.2 = true := by decide +kernel
  obtain ⟨q1, q2, q3⟩ := lk_mid wc hi hR f1
  refine ⟨_, g1, kv, rfl, ?_⟩
  have t1' : g1 540 4 = Int32.ofNat n := (lk_ce wc f1 (by decide) 4).trans t1
  refine zz_fin.mono ((fd_feedm (a0 := a0) (a1 := a1) (a2 := a2) (a3 := a3) (a4 := a4) hn t1').and (ko_fw (ko_158 i1 p1) fun _ _ _ r => dn_158 r)) ?_
  rintro v h ⟨⟨g2, rfl, r2⟩, kv2, q', i2, p2, f2⟩
  have q' := (ep_H q').symm
  rw [q'] at i2 p2 f2
  have z2 : rr_g (qb_s lr_B) g1 g2 := by
    rcases r1 with ⟨n1, rfl⟩ | ⟨n1, r1⟩
    · rcases r2 with ⟨n2, rfl⟩ | ⟨n2, r2⟩
      · exact hR.1
      · omega
    · rcases r2 with ⟨n2, rfl⟩ | ⟨n2, r2⟩
      · omega
      · refine rr_tape (qb_cp lr_cp) i1 q1 (fun k j k1 k2 k3 => r1.2.2 k j (by omega) (by omega)) (fun k j k1 k2 k3 => r2.2.2 k j (by omega) (by omega)) (r1.1.trans r2.1.symm) fun k hk => ?_
        rw [← r2.2.2 455 k (by omega) (by omega)]
        exact fd_R.feed (c := n) (fun k hk => hR.1.2.2.2.2.1 k hk) r1 r2 k hk
  obtain ⟨w1, w2⟩ := lk_end (by decide +kernel) i2 f2 z2 (lk_ee (by decide +kernel) f1 f2 q2) q3
  exact ⟨_, g2, kv2, fun z => absurd z (by decide), rfl, i2, p2, w1, w2⟩
