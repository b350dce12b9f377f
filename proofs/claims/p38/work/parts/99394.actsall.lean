/-! acts() on both sides -/
/-- an ACT of both sides -/
theorem ad_one {B : rq_Q} (hcp : rq_cp B) (hbf : rq_bf B) {gc gm : aa_G} (hi : aa_inv gm) (h : rr_g (qb_s B) gc gm) {N i : Nat} (hN : N ≤ 30) (hiN : i < N) (c0 : gc 456 0 = Int32.ofNat N) (hal : al_s gc gm N) : mu_ok B (fn_57 gc (Int32.ofNat i)) (fn_263 gm (Int32.ofNat (5 * i))) := by
  obtain ⟨a1, a2, a3⟩ := hal i hiN
  have eN : (Int32.ofNat N - 1).toInt = N - 1 := by
    rw [i_sub1 (by omega) (by omega), zz_ofN (by omega)]
    omega
  have e59 : fn_59 gc (Int32.ofNat i) = gc 457 i := by
    unfold fn_59
    rw [c0, if_neg (ti_14n.mpr (by rw [eN, zz_ofN (by omega)]; exact ⟨by show (0 : Int) ≤ _; omega, by omega⟩)), zz_toN (by omega)]
  have e58 : ∀ k, k < 4 → fn_58 gc (Int32.ofNat i) (Int32.ofNat k) = gc 458 (4 * i + k) := fun k hk => by
    unfold fn_58
    rw [c0, if_neg (ti_14n.mpr (by rw [eN, zz_ofN (by omega)]; exact ⟨by show (0 : Int) ≤ _; omega, by omega⟩)), if_neg (ti_14n.mpr (by rw [zz_ofN (by omega)]; exact ⟨by show (0 : Int) ≤ _; omega, by show _ ≤ (3 : Int); omega⟩)), show Int32.ofNat i * 4 = Int32.ofNat (i * 4) from (Int32.ofNat_mul i 4).symm, i_add, zz_toN (by omega), show i * 4 + k = 4 * i + k by omega]
  have f0 := e58 0 (by omega)
  have f1 := e58 1 (by omega)
  have f2 := e58 2 (by omega)
  have f3 := e58 3 (by omega)
  rw [show (Int32.ofNat 0 : Int32) = 0 from rfl] at f0
  rw [show (Int32.ofNat 1 : Int32) = 1 from rfl] at f1
  rw [show (Int32.ofNat 2 : Int32) = 2 from rfl] at f2
  rw [show (Int32.ofNat 3 : Int32) = 3 from rfl] at f3
  unfold fn_57 fn_263
  rw [e59, f0, f1, zz_toN (by omega), show Int32.ofNat (5 * i) + 1 = Int32.ofNat (5 * i + 1) from i_add _ 1, show Int32.ofNat (5 * i) + 2 = Int32.ofNat (5 * i + 2) from i_add _ 2, show Int32.ofNat (5 * i) + 3 = Int32.ofNat (5 * i + 3) from i_add _ 3, show Int32.ofNat (5 * i) + 4 = Int32.ofNat (5 * i + 4) from i_add _ 4, zz_toN (by omega), zz_toN (by omega), zz_toN (by omega), zz_toN (by omega), ← a1]
  have tail : ∀ (rc rm : Int32 × aa_G) (z : Int32), mu_ok B rc rm → mu_ok B (if rc.1 = z then (0, rc.2) else (1, rc.2)) (if rm.1 = z then (0, rm.2) else (1, rm.2)) := fun rc rm z ⟨k1, k2⟩ => by
    rw [k1]
    by_cases hz : rm.1 = z
    · rw [if_pos hz, if_pos hz]
      exact mu_mk rfl k2
    · rw [if_neg hz, if_neg hz]
      exact mu_mk rfl k2
  by_cases h1 : (gc 457 i).toInt = 111
  · have w : ac_n (gc 457 i) = 2 := if_pos h1
    rw [w] at a3
    rw [if_pos h1, if_pos h1, a3 0 (by omega), a3 1 (by omega)]
    unfold fn_57_70 fn_263_56
    exact tail _ _ _ (mu_offset hcp hbf hi h _ _)
  · by_cases h3 : (gc 457 i).toInt = 113
    · have w : ac_n (gc 457 i) = 1 := by unfold ac_n; rw [if_neg h1, if_pos h3]
      rw [w] at a3
      rw [if_neg h1, if_neg h1, if_neg (show ¬ (gc 457 i).toInt = 112 by omega), if_neg (show ¬ (gc 457 i).toInt = 112 by omega), if_pos h3, if_pos h3, a3 0 (by omega)]
      unfold fn_57_86 fn_263_80
      exact tail _ _ _ (mu_parts hcp hbf hi h _)
    · by_cases h4 : (gc 457 i).toInt = 114
      · have w : ac_n (gc 457 i) = 2 := by unfold ac_n; rw [if_neg h1, if_neg h3, if_pos h4]
        rw [w] at a3
        rw [if_neg h1, if_neg h1, if_neg (show ¬ (gc 457 i).toInt = 112 by omega), if_neg (show ¬ (gc 457 i).toInt = 112 by omega), if_neg h3, if_neg h3, if_pos h4, if_pos h4, a3 0 (by omega), a3 1 (by omega)]
        unfold fn_57_102 fn_263_110
        exact tail _ _ _ (mu_remove hcp hbf hi h _ _)
      · have h5 : (gc 457 i).toInt = 115 := by
          apply Classical.byContradiction
          intro z
          exact a2 (by unfold ac_n; rw [if_neg h1, if_neg h3, if_neg h4, if_neg z])
        have w : ac_n (gc 457 i) = 4 := by unfold ac_n; rw [if_neg h1, if_neg h3, if_neg h4, if_pos h5]
        rw [w] at a3
        rw [if_neg h1, if_neg h1, if_neg (show ¬ (gc 457 i).toInt = 112 by omega), if_neg (show ¬ (gc 457 i).toInt = 112 by omega), if_neg h3, if_neg h3, if_neg h4, if_neg h4, if_pos h5, f2, f3, a3 0 (by omega), a3 1 (by omega), a3 2 (by omega), a3 3 (by omega)]
        unfold fn_57_136 fn_263_156
        exact tail _ _ _ (mu_set hcp hbf hi h _ _ _ _)
/-- while ACTS are done: the model -/
def ma_ok (g : aa_G) (N : Nat) : Prop := aa_inv g ∧ aa_Phi g ∧ g 540 4 = 0 ∧ g 540 34 = Int32.ofNat N
theorem ma_next {g : aa_G} {N i : Nat} (hN : N ≤ 30) (hiN : i < N) (h : ma_ok g N) : ma_ok (fn_263 g (Int32.ofNat (5 * i))).2 N ∧ ∀ j, (fn_263 g (Int32.ofNat (5 * i))).2 552 j = g 552 j := by
  obtain ⟨h1, h2, h3, h4⟩ := h
  have e3 : (g 540 4).toInt = 0 := by rw [h3]; rfl
  have e4 : (g 540 34).toInt = N := by rw [h4, zz_ofN (by omega)]
  obtain ⟨n, v, h, r, -⟩ := rn_of (ko_263 (a0 := Int32.ofNat (5 * i)) h1 h2 (by rw [zz_ofN (by omega)]; omega) (by omega) (by omega))
  obtain ⟨k1, k2, k3⟩ := ko_bw (ko_263 (a0 := Int32.ofNat (5 * i)) h1 h2 (by rw [zz_ofN (by omega)]; omega) (by omega) (by omega)) (dn_263 r) r
  exact ⟨⟨k1, k2, (ko_at k3 (by decide +kernel)).trans h3, (ko_at k3 (by decide +kernel)).trans h4⟩, fun j => ko_ne k3 (by decide +kernel) j⟩
theorem ca_nx {g : aa_G} {i : Int32} (hg : ca_ok g) (hi : 0 ≤ i.toInt) : ca_ok (fn_57 g i).2 ∧ (∀ j, (fn_57 g i).2 457 j = g 457 j) ∧ (∀ j, (fn_57 g i).2 458 j = g 458 j) ∧ (fn_57 g i).2 456 0 = g 456 0 := by
  obtain ⟨n, v, h, r, -⟩ := rn_of (ca_ko hg hi)
  have k := ko_bw (ca_ko hg hi) (dn_57 (ko_ring hg.1) r) r
  exact ⟨ca_next hg k, fun j => ko_ne k.2.2 (by decide +kernel) j, fun j => ko_ne k.2.2 (by decide +kernel) j, ko_at k.2.2 (by decide +kernel)⟩
theorem ad_loop {B : rq_Q} (hcp : rq_cp B) (hbf : rq_bf B) {N : Nat} (hN : N ≤ 30) {d : Int32 × aa_G} : ∀ (m i : Nat) (gc gm : aa_G), i + m = N → ca_ok gc → ma_ok gm N → rr_g (qb_s B) gc gm → gc 456 0 = Int32.ofNat N → al_s gc gm N →
    ∃ x gc' gm', lp_f d (ca_st (Int32.ofNat N)) (gc, Int32.ofNat i) = (x, gc') ∧ fn_260_47 gm (Int32.ofNat i) = (x, gm') ∧ rr_g (qb_s B) gc' gm' ∧ gc' 1 14 = gm' 540 35 := by
  intro m
  induction m with
  | zero =>
    intro i gc gm hi hc hm h c0 hal
    have hiN : i = N := by omega
    subst hiN
    obtain ⟨-, -, c14, -, -⟩ := hc
    obtain ⟨mi, -, m4, m34⟩ := hm
    refine ⟨Int32.ofNat i, gc, zz_w gm 540 35 (-1), lp_r ?_, ?_, ?_, ?_⟩
    · show (if Int32.ofNat i ≤ Int32.ofNat i then _ else _) = _
      rw [if_pos (aa_le32.mpr (Int.le_refl _))]
    · unfold fn_260_47
      refine lp_r ?_
      show fn_260_47b gm (Int32.ofNat i) = _
      unfold fn_260_47b fn_260_71
      rw [m34, if_pos (aa_le32.mpr (Int.le_refl _)), if_pos (aa_le32.mpr (Int.le_refl _))]
    · obtain ⟨q1, q2, ⟨cc, e, q3⟩, s1, s2, s3, s4, s5, s6, s7⟩ := h
      have hsame : rr_g (qb_s B) gc gm := ⟨q1, q2, ⟨cc, e, q3⟩, s1, s2, s3, s4, s5, s6, s7⟩
      obtain ⟨p1, p2, ⟨cc', e', p3⟩, t1, t2, t3, t4, t5, t6, t7⟩ := hsame
      refine ⟨rq_same (qb_cp hcp) mi (by omega) (fun _ _ _ _ => rfl) (fun q hq => aa_w_ne _ _ (by omega)) p1, fun k hk => ⟨?_, fun z => ?_⟩, ⟨cc', e', p3.1, ⟨p3.2.1.1, (aa_w_ne _ _ (by omega)).trans p3.2.1.2.1, p3.2.1.2.2⟩, fun j hj => rq_same (qb_cp hcp) mi (by have := p3.1.1; omega) (fun _ _ _ _ => rfl) (fun q hq => aa_w_ne _ _ (by omega)) (p3.2.2 j hj)⟩, ?_, fun k hk => ?_, ?_, .inr c14, ?_, ?_, fun j hj => ?_⟩
      · rw [aa_w_ne _ _ (by omega)]; exact (p2 k hk).1
      · rw [aa_w_ne _ _ (by omega)] at z
        exact rq_same (qb_cp hcp) mi (by omega) (fun _ _ _ _ => rfl) (fun q hq => aa_w_ne _ _ (by omega)) ((p2 k hk).2 z)
      · rw [aa_w_ne _ _ (by omega)]; exact t1
      · rw [aa_w_ne _ _ (by omega)]; exact t2 k hk
      · rw [aa_w_ne _ _ (by omega)]; exact t3
      · rw [aa_w_ne _ _ (by omega)]; exact t5
      · rw [aa_w_ne _ _ (by omega)]; exact t6
      · rw [aa_w_ne _ _ (by omega)] at hj
        rw [aa_w_ne _ _ (by omega)]; exact t7 j hj
    · rw [c14, aa_w_at]
  | succ m ih =>
    intro i gc gm hi hc hm h c0 hal
    have hiN : i < N := by omega
    have mi := hm.1
    have c14 := hc.2.2.1
    have m34 := hm.2.2.2
    obtain ⟨k1, k2⟩ := ad_one hcp hbf mi h hN hiN c0 hal
    obtain ⟨nc, n1, n2, n3⟩ := ca_nx (i := Int32.ofNat i) hc (by rw [zz_ofN (by omega)]; omega)
    obtain ⟨nm, n4⟩ := ma_next hN hiN hm
    have b1 : ¬ (Int32.ofNat N ≤ Int32.ofNat i) := fun z => by
      have := (i_le (by omega) (by omega)).mp z
      omega
    have mb : fn_260_47b gm (Int32.ofNat i) = if (fn_263 gm (Int32.ofNat (5 * i))).1 = 0 then .inr (Int32.ofNat i, zz_w (fn_263 gm (Int32.ofNat (5 * i))).2 540 35 (Int32.ofNat i)) else .inl ((fn_263 gm (Int32.ofNat (5 * i))).2, Int32.ofNat (i + 1)) := by
      unfold fn_260_47b fn_260_62 fn_260_71
      rw [m34, if_neg b1, show (5 : Int32) * Int32.ofNat i = Int32.ofNat (5 * i) from (Int32.ofNat_mul 5 i).symm, nm.2.2.2, if_neg b1, aa_succ]
    have cb : ca_st (Int32.ofNat N) (gc, Int32.ofNat i) = if (fn_57 gc (Int32.ofNat i)).1 ≠ 0 then .inl ((fn_57 gc (Int32.ofNat i)).2, Int32.ofNat (i + 1)) else .inr (Int32.ofNat i, zz_w (fn_57 gc (Int32.ofNat i)).2 1 14 (Int32.ofNat i)) := by
      unfold ca_st
      dsimp only
      rw [if_neg b1, aa_succ]
    by_cases hz : (fn_263 gm (Int32.ofNat (5 * i))).1 = 0
    · refine ⟨Int32.ofNat i, _, zz_w (fn_263 gm (Int32.ofNat (5 * i))).2 540 35 (Int32.ofNat i), lp_r (by rw [cb, if_neg (fun z => z (k1.trans hz))]), ?_, ?_, ?_⟩
      · unfold fn_260_47
        refine lp_r ?_
        show fn_260_47b gm (Int32.ofNat i) = _
        rw [mb, if_pos hz]
      · obtain ⟨p1, p2, ⟨cc', e', p3⟩, t1, t2, t3, t4, t5, t6, t7⟩ := k2
        have ni := nm.1
        refine ⟨rq_same (qb_cp hcp) ni (by omega) (fun _ _ _ _ => aa_w_ne _ _ (by omega)) (fun q hq => aa_w_ne _ _ (by omega)) p1, fun k hk => ⟨?_, fun z => ?_⟩, ⟨cc', e', p3.1, ⟨(aa_w_ne _ _ (by omega)).trans p3.2.1.1, (aa_w_ne _ _ (by omega)).trans p3.2.1.2.1, (aa_w_ne _ _ (by omega)).trans p3.2.1.2.2⟩, fun j hj => rq_same (qb_cp hcp) ni (by have := p3.1.1; omega) (fun _ _ _ _ => aa_w_ne _ _ (by omega)) (fun q hq => aa_w_ne _ _ (by omega)) (p3.2.2 j hj)⟩, ?_, fun k hk => ?_, ?_, .inl ?_, ?_, ?_, fun j hj => ?_⟩
        · rw [aa_w_ne _ _ (by omega), aa_w_ne _ _ (by omega)]; exact (p2 k hk).1
        · rw [aa_w_ne _ _ (by omega)] at z
          exact rq_same (qb_cp hcp) ni (by omega) (fun _ _ _ _ => aa_w_ne _ _ (by omega)) (fun q hq => aa_w_ne _ _ (by omega)) ((p2 k hk).2 z)
        · rw [aa_w_ne _ _ (by omega), aa_w_ne _ _ (by omega)]; exact t1
        · rw [aa_w_ne _ _ (by omega), aa_w_ne _ _ (by omega)]; exact t2 k hk
        · rw [aa_w_ne _ _ (by omega), aa_w_ne _ _ (by omega)]; exact t3
        · rw [aa_w_at, aa_w_at]
        · rw [aa_w_ne _ _ (by omega)]; exact t5
        · rw [aa_w_ne _ _ (by omega), aa_w_ne _ _ (by omega)]; exact t6
        · rw [aa_w_ne _ _ (by omega)] at hj
          rw [aa_w_ne _ _ (by omega), aa_w_ne _ _ (by omega)]; exact t7 j hj
      · rw [aa_w_at, aa_w_at]
    · have s1 : lp_f d (ca_st (Int32.ofNat N)) (gc, Int32.ofNat i) = lp_f d (ca_st (Int32.ofNat N)) ((fn_57 gc (Int32.ofNat i)).2, Int32.ofNat (i + 1)) := lp_l (by rw [cb, if_pos (fun z => hz (k1.symm.trans z))])
      have s2 : fn_260_47 gm (Int32.ofNat i) = fn_260_47 (fn_263 gm (Int32.ofNat (5 * i))).2 (Int32.ofNat (i + 1)) := by
        unfold fn_260_47
        refine lp_l ?_
        show fn_260_47b gm (Int32.ofNat i) = _
        rw [mb, if_neg hz]
      rw [s1, s2]
      refine ih (i + 1) _ _ (by omega) nc nm k2 (n3.trans c0) fun j hj => ?_
      obtain ⟨a1, a2, a3⟩ := hal j hj
      refine ⟨?_, ?_, ?_⟩
      · rw [n1, n4]; exact a1
      · rw [n1]; exact a2
      · rw [n1]
        intro k hk
        rw [n2, n4]
        exact a3 k hk
theorem zz_id {g : aa_G} {k j : Nat} {v : Int32} (h : g k j = v) : zz_w g k j v = g := by
  funext a b
  by_cases e : a = k ∧ b = j
  · rw [e.1, e.2, aa_w_at, h]
  · rw [aa_w_ne _ _ e]
/-- the two tapes as one -/
theorem rt_tape {Q : rq_Q} {gc gm : aa_G} (h : rr_g Q gc gm) (hi : aa_inv gm) : ∃ n, n ≤ 500 ∧ gc 454 0 = Int32.ofNat n ∧ gm 540 4 = Int32.ofNat n ∧ tc_ok gc (gc 455) n ∧ tm_ok gm (gc 455) n := by
  obtain ⟨-, -, -, s1, s2, -⟩ := h
  have k := hi 540 4
  rw [show aa_iv (aa_gc 540) 4 = (0, 500) from by decide +kernel] at k
  have k : (0 : Int) ≤ (gm 540 4).toInt ∧ (gm 540 4).toInt ≤ 500 := k
  obtain ⟨n, n1, n2, n3⟩ := ti_nat k.1
  exact ⟨n, by omega, s1.trans n2, n2, ⟨s1.trans n2, by omega, fun _ _ => rfl⟩, ⟨n2, by omega, fun j hj => s2 j (by omega)⟩⟩
theorem rr_af {B : rq_Q} (hcp : rq_cp B) {gc gm gc' gm' : aa_G} (hi : aa_inv gm) (h : rr_g (qb_s B) gc gm) (fc : af_c gc gc') (fm : af_m gm gm') {x : Int32} (f1 : gc' 454 4 = x) (f2 : gm' 540 6 = x) : rr_g (qb_s B) (zz_w (zz_w gc' 1 13 (gc' 454 4)) 454 0 0) (zz_w gm' 540 4 0) := by
  have wc : ∀ k j, ¬ (k = 1 ∧ j = 13) → ¬ (k = 454 ∧ j ≤ 4) → ¬ (k = 456 ∧ j = 0) → k ≠ 457 → k ≠ 458 → zz_w (zz_w gc' 1 13 (gc' 454 4)) 454 0 0 k j = gc k j := fun k j z1 z2 z3 z4 z5 => (aa_w_ne _ _ (by omega)).trans ((aa_w_ne _ _ z1).trans (fc k j (by omega) z3 z4 z5))
  have wm : ∀ k j, ¬ (k = 540 ∧ (4 ≤ j ∧ j ≤ 7 ∨ j = 34)) → k ≠ 552 → zz_w gm' 540 4 0 k j = gm k j := fun k j z1 z2 => (aa_w_ne _ _ (by omega)).trans (fm k j (by omega) z2)
  obtain ⟨p1, p2, ⟨cc', e', p3⟩, t1, t2, t3, t4, t5, t6, t7⟩ := h
  refine ⟨rq_same (qb_cp hcp) hi (by omega) (fun k j _ _ => wc k j (by omega) (by omega) (by omega) (by omega) (by omega)) (fun q hq => wm _ _ (by omega) (by omega)) p1, fun k hk => ⟨?_, fun z => ?_⟩, ⟨cc', e', p3.1, ⟨(wc _ _ (by omega) (by omega) (by omega) (by omega) (by omega)).trans p3.2.1.1, (wm _ _ (by omega) (by omega)).trans p3.2.1.2.1, (wc _ _ (by omega) (by omega) (by omega) (by omega) (by omega)).trans p3.2.1.2.2⟩, fun i hi' => rq_same (qb_cp hcp) hi (by have := p3.1.1; omega) (fun k j _ _ => wc k j (by omega) (by omega) (by omega) (by omega) (by omega)) (fun q hq => wm _ _ (by omega) (by omega)) (p3.2.2 i hi')⟩, ?_, fun k hk => ?_, ?_, ?_, ?_, ?_, fun j hj => ?_⟩
  · rw [wc _ _ (by omega) (by omega) (by omega) (by omega) (by omega), wm _ _ (by omega) (by omega)]; exact (p2 k hk).1
  · rw [wm _ _ (by omega) (by omega)] at z
    exact rq_same (qb_cp hcp) hi (by omega) (fun k j _ _ => wc k j (by omega) (by omega) (by omega) (by omega) (by omega)) (fun q hq => wm _ _ (by omega) (by omega)) ((p2 k hk).2 z)
  · rw [aa_w_at, aa_w_at]
  · rw [wc _ _ (by omega) (by omega) (by omega) (by omega) (by omega), wm _ _ (by omega) (by omega)]; exact t2 k hk
  · rw [aa_w_ne _ _ (by omega), aa_w_at, aa_w_ne _ _ (by omega), f1, f2]
  · rw [wc _ _ (by omega) (by omega) (by omega) (by omega) (by omega), wm _ _ (by omega) (by omega)]; exact t4
  · rw [wm _ _ (by omega) (by omega)]; exact t5
  · rw [wc _ _ (by omega) (by omega) (by omega) (by omega) (by omega), wm _ _ (by omega) (by omega)]; exact t6
  · rw [wm _ _ (by omega) (by omega)] at hj
    rw [wc _ _ (by omega) (by omega) (by omega) (by omega) (by omega), wm _ _ (by omega) (by omega)]; exact t7 j hj
/-- what acts() stands on beside the relation: both heaps in order -/
theorem mu_acts {B : rq_Q} (hcp : rq_cp B) (hbf : rq_bf B) {gc gm : aa_G} (ic : aa_inv gc) (φc : aa_Phi gc) (hi : aa_inv gm) (hφ : aa_Phi gm) (h : rr_g (qb_s B) gc gm) (h14 : gc 1 14 = gm 540 35) : mu_ok B (fn_53 gc) (fn_260 gm) ∧ (fn_53 gc).2 1 14 = (fn_260 gm).2 540 35 := by
  obtain ⟨n, n5, c0, m0, tc, tm⟩ := rt_tape h hi
  have ec : fn_54 gc = fn_54_11 (tc_at (zz_w (zz_w gc 454 4 (-1)) 456 0 0) (gc 455) n 0) (Int32.ofNat 0) := by
    unfold fn_54 fn_54_4
    rw [ar_rew tc, tz_wc _ _ (by omega)]
    rfl
  have em : fn_260 gm = fn_260_11 (tm_at (zz_w (zz_w gm 540 6 (-1)) 540 34 0) 0 (gm 540 7)) 1 := by
    unfold fn_260 fn_260_4 fn_165 tm_at
    have e : zz_w (zz_w (zz_w gm 540 5 0) 540 6 (-1)) 540 34 0 = zz_w (zz_w (zz_w (zz_w gm 540 6 (-1)) 540 34 0) 540 5 (Int32.ofNat 0)) 540 7 (gm 540 7) := by
      rw [zz_id (g := zz_w (zz_w (zz_w gm 540 6 (-1)) 540 34 0) 540 5 (Int32.ofNat 0)) (by rw [aa_w_ne _ _ (by omega), aa_w_ne _ _ (by omega), aa_w_ne _ _ (by omega)]), zz_w_comm (zz_w gm 540 6 (-1)) (k := 540) (j := 34) (a := 540) (b := 5) _ _ (by omega), zz_w_comm gm (k := 540) (j := 6) (a := 540) (b := 5) _ _ (by omega)]
      rfl
    rw [e]
  have hl := aq_loop (g0 := gc) (m0 := gm) tc tm n 0 0 0 (zz_w (zz_w gc 454 4 (-1)) 456 0 0) (zz_w (zz_w gm 540 6 (-1)) 540 34 0) (gm 540 7) (by omega) (Nat.zero_le _) (Nat.le_refl 0) (by omega) (fun k j z1 z2 z3 z4 => (aa_w_ne _ _ (by omega)).trans (aa_w_ne _ _ (by omega))) (fun k j z1 z2 => (aa_w_ne _ _ (by omega)).trans (aa_w_ne _ _ (by omega))) (aa_w_at _ _ _ _) (aa_w_at _ _ _ _) (fun j hj => absurd hj (Nat.not_lt_zero j)) ((aa_w_ne _ _ (by omega)).trans (aa_w_at _ _ _ _)) ((aa_w_ne _ _ (by omega)).trans (aa_w_at _ _ _ _))
  rw [← ec, ← em] at hl
  have e38 : ∀ x : aa_G, fn_38 x = zz_w (zz_w x 1 13 (x 454 4)) 454 0 0 := fun x => rfl
  rcases hl with ⟨f, gc', gm', a1, a2, a3, a4, a5, a6⟩ | ⟨N, gc', gm', b0, b1, b2, b3, b4, b5, b6, b7, b8, b9, b10⟩
  · unfold fn_53
    rw [a1, a2, if_neg (fun z => z rfl)]
    dsimp only
    rw [e38]
    refine ⟨mu_mk rfl (rr_af hcp hi h a3 a4 a5 a6), ?_⟩
    show zz_w (zz_w gc' 1 13 (gc' 454 4)) 454 0 0 1 14 = zz_w gm' 540 4 0 540 35
    rw [aa_w_ne _ _ (by omega), aa_w_ne _ _ (by omega), aa_w_ne _ _ (by omega), a3 1 14 (by omega) (by omega) (by omega) (by omega), a4 540 35 (by omega) (by omega)]
    exact h14
  · unfold fn_53 ca_lp
    rw [b1, if_pos (c := (Int32.ofNat N, gc').1 ≠ -1) (show Int32.ofNat N ≠ -1 from ml_n1 (by omega))]
    dsimp only
    rw [e38]
    -- the class's heap as the ACTS begin
    have hrun : ca_ok (zz_w (zz_w (zz_w gc' 1 13 (gc' 454 4)) 454 0 0) 1 14 (-1)) := by
      obtain ⟨n1, v, hh, r, -⟩ := rn_of (ko_54 ic φc)
      obtain ⟨⟨i1, f1⟩, fl⟩ := ca_54 ic φc (dn_54 r) r
      rw [b1] at i1 f1 fl
      obtain ⟨n2, v2, hh2, r2, -⟩ := rn_of (ko_38 i1 f1)
      have k38 := ko_bv (ko_38 i1 f1) (dn_38 r2) r2
      rw [e38] at k38
      refine ⟨aa_inv_w k38.1 (by decide +kernel) (by decide +kernel), ko_Phi (by omega) k38.2.1, aa_w_at _ _ _ _, ?_, ?_⟩
      · rw [aa_w_ne _ _ (by omega), aa_w_at]
      · rw [aa_w_ne _ _ (by omega), aa_w_ne _ _ (by omega), aa_w_ne _ _ (by omega)]
        exact b8
    -- the model's
    have mrun : ma_ok (zz_w gm' 540 4 0) N := by
      have i1 : aa_inv gm' := b10 (aa_inv_w (aa_inv_w hi (by decide +kernel) (by decide +kernel)) (by decide +kernel) (by decide +kernel))
      refine ⟨aa_inv_w i1 (by decide +kernel) (by decide +kernel), ?_, aa_w_at _ _ _ _, ?_⟩
      · have w : ∀ k j, ¬ (k = 540 ∧ (4 ≤ j ∧ j ≤ 7 ∨ j = 34)) → k ≠ 552 → zz_w gm' 540 4 0 k j = gm k j := fun k j z1 z2 => (aa_w_ne _ _ (by omega)).trans (b4 k j (by omega) z2)
        exact aa_Phi_same ⟨fun i _ _ _ _ _ _ => w _ _ (by omega) (by omega), funext fun i => w _ _ (by omega) (by omega), w _ _ (by omega) (by omega), w _ _ (by omega) (by omega), w _ _ (by omega) (by omega), funext fun i => w _ _ (by omega) (by omega), funext fun i => w _ _ (by omega) (by omega)⟩ hφ
      · rw [aa_w_ne _ _ (by omega)]; exact b6
    have rr1 := rr_af hcp hi h b3 b4 b8 b9
    have rr2 : rr_g (qb_s B) (zz_w (zz_w (zz_w gc' 1 13 (gc' 454 4)) 454 0 0) 1 14 (-1)) (zz_w gm' 540 4 0) := by
      obtain ⟨p1, p2, ⟨cc', e', p3⟩, t1, t2, t3, t4, t5, t6, t7⟩ := rr1
      have ni := mrun.1
      refine ⟨rq_same (qb_cp hcp) ni (by omega) (fun _ _ _ _ => aa_w_ne _ _ (by omega)) (fun q hq => rfl) p1, fun k hk => ⟨(aa_w_ne _ _ (by omega)).trans (p2 k hk).1, fun z => rq_same (qb_cp hcp) ni (by omega) (fun _ _ _ _ => aa_w_ne _ _ (by omega)) (fun q hq => rfl) ((p2 k hk).2 z)⟩, ⟨cc', e', p3.1, ⟨(aa_w_ne _ _ (by omega)).trans p3.2.1.1, p3.2.1.2.1, (aa_w_ne _ _ (by omega)).trans p3.2.1.2.2⟩, fun j hj => rq_same (qb_cp hcp) ni (by have := p3.1.1; omega) (fun _ _ _ _ => aa_w_ne _ _ (by omega)) (fun q hq => rfl) (p3.2.2 j hj)⟩, (aa_w_ne _ _ (by omega)).trans t1, fun k hk => (t2 k hk).trans (aa_w_ne _ _ (by omega)).symm, (aa_w_ne _ _ (by omega)).trans t3, .inr (aa_w_at _ _ _ _), t5, (aa_w_ne _ _ (by omega)).trans t6, fun j hj => (aa_w_ne _ _ (by omega)).trans (t7 j hj)⟩
    obtain ⟨x, gx, gy, l1, l2, l3, l4⟩ := ad_loop hcp hbf b0 (d := (0, zz_w (zz_w (zz_w gc' 1 13 (gc' 454 4)) 454 0 0) 1 14 (-1))) N 0 _ _ (by omega) hrun mrun rr2 (by rw [aa_w_ne _ _ (by omega), aa_w_ne _ _ (by omega), aa_w_ne _ _ (by omega)]; exact b5) (fun j hj => by
      obtain ⟨d1, d2, d3⟩ := b7 j hj
      refine ⟨?_, ?_, ?_⟩
      · rw [aa_w_ne _ _ (by omega), aa_w_ne _ _ (by omega), aa_w_ne _ _ (by omega), aa_w_ne _ _ (by omega)]; exact d1
      · rw [aa_w_ne _ _ (by omega), aa_w_ne _ _ (by omega), aa_w_ne _ _ (by omega)]; exact d2
      · rw [aa_w_ne _ _ (by omega), aa_w_ne _ _ (by omega), aa_w_ne _ _ (by omega)]
        intro k hk
        rw [aa_w_ne _ _ (by omega), aa_w_ne _ _ (by omega), aa_w_ne _ _ (by omega), aa_w_ne _ _ (by omega)]
        exact d3 k hk)
    rw [show (Int32.ofNat 0 : Int32) = 0 from rfl] at l1 l2
    rw [l1, b2, l2]
    exact ⟨mu_mk rfl l3, l4⟩
