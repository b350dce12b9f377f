/-! ACTS: read whole, done one by one -/
section AQ
variable {b : Nat → Int32} {n : Nat} {g0 m0 : aa_G}
theorem ac_rng {c : Int32} (h : ac_n c ≠ 0) : (-99999 : Int32).toInt ≤ c.toInt ∧ c.toInt ≤ (99999 : Int32).toInt := by
  rw [show (-99999 : Int32).toInt = -99999 from rfl, show (99999 : Int32).toInt = 99999 from rfl]
  unfold ac_n at h
  by_cases h1 : c.toInt = 111
  · omega
  · by_cases h2 : c.toInt = 113
    · omega
    · by_cases h3 : c.toInt = 114
      · omega
      · by_cases h4 : c.toInt = 115
        · omega
        · rw [if_neg h1, if_neg h2, if_neg h3, if_neg h4] at h
          exact absurd rfl h
theorem ac_hb {p : Nat} (h : ac_n (sp_hb b n p) ≠ 0) : p < n := by
  apply Classical.byContradiction
  intro z
  rw [show sp_hb b n p = -1 from if_neg z] at h
  exact h (by decide)
/-- an ACT with its ; -/
def aq_res (b : Nat → Int32) (n : Nat) (g0 m0 : aa_G) (N p : Nat) (gc gm : aa_G) (rc : Int32 × aa_G) (rm : Int32 × aa_G) : Prop := ab_s g0 m0 rc rm ∨
    ∃ q gc' gm' x', p < q ∧ q ≤ n ∧ rc = (1, tc_at gc' b n q) ∧ rm = (1, tm_at gm' q x') ∧ af_c g0 gc' ∧ af_m m0 gm' ∧ gc' 456 0 = Int32.ofNat (N + 1) ∧ gm' 540 34 = Int32.ofNat (N + 1) ∧ N < 30 ∧ al_s gc' gm' (N + 1) ∧ gc' 454 4 = gc 454 4 ∧ gm' 540 6 = gm 540 6 ∧ (aa_inv gm → aa_inv gm')
/-- the class's two calls as one -/
noncomputable def aq_c (g : aa_G) : Int32 × aa_G := if (fn_55 g).1 = 0 then (0, (fn_55 g).2) else fn_33 (fn_55 g).2 59
theorem aq_one (hc : tc_ok g0 b n) (hm : tm_ok m0 b n) {N p : Nat} {gc gm : aa_G} {x : Int32} (hN : N ≤ 30) (hp : p ≤ n) (fc : af_c g0 gc) (fm : af_m m0 gm) (c0 : gc 456 0 = Int32.ofNat N) (m1 : gm 540 34 = Int32.ofNat N) (hal : al_s gc gm N) : aq_res b n g0 m0 N p gc gm (aq_c (tc_at gc b n p)) (fn_261 (tm_at gm p x)) := by
  have hcc := af_ok hc fc
  have hmm := am_ok hm fm
  have hn5 := hc.2.1
  have sgn : tc_at gc b n p 454 2 = sp_hb b n p := aa_w_at _ _ _ _
  have n454 : ∀ k j, ¬ (k = 454 ∧ (j = 1 ∨ j = 2)) → tc_at gc b n p k j = gc k j := fun k j z => tz_c _ _ z
  have atp : tm_at gm p x 540 5 = Int32.ofNat p := by
    unfold tm_at
    rw [aa_w_ne _ _ (by omega), aa_w_at]
  -- both fail here
  have bad : fn_55 (tc_at gc b n p) = fn_55_21 (tc_at gc b n p) → fn_261 (tm_at gm p x) = fn_261_21 (tm_at gm p x) → aq_res b n g0 m0 N p gc gm (aq_c (tc_at gc b n p)) (fn_261 (tm_at gm p x)) := by
    intro e1 e2
    obtain ⟨gx, x1, x2⟩ := ar_fail (g := gc) (b := b) (n := n) (p := p)
    have e55 : fn_55 (tc_at gc b n p) = (0, gx) := by
      rw [e1]
      unfold fn_55_21
      rw [x1]
    have e261 : fn_261 (tm_at gm p x) = (0, zz_w (tm_at gm p x) 540 6 (Int32.ofNat p)) := by
      rw [e2]
      unfold fn_261_21
      rw [am_fails, atp]
    left
    refine ⟨p, gx, _, ?_, e261, af_bad fc x2, fun a j z1 z2 => ?_, x2.2, aa_w_at _ _ _ _⟩
    · unfold aq_c
      rw [e55, if_pos rfl]
    · rw [aa_w_ne _ _ (by omega), tz_m _ _ _ (by omega)]
      exact fm a j z1 z2
  have v30 : (30 : Int32) ≤ Int32.ofNat N ↔ N = 30 := by
    rw [aa_le32, zz_ofN (by omega), show (30 : Int32).toInt = 30 from rfl]
    omega
  have v30' : Int32.ofNat N ≠ 30 ↔ N ≠ 30 := by
    rw [ti_ne, zz_ofN (by omega), show (30 : Int32).toInt = 30 from rfl]
    omega
  have z0 : ∀ c, Int32.ofNat (ac_n c) = 0 ↔ ac_n c = 0 := fun c => by
    have := ac_le c
    rw [ti_eq, zz_ofN (by omega), show (0 : Int32).toInt = 0 from rfl]
    omega
  by_cases h30 : N = 30
  · refine bad ?_ ?_
    · unfold fn_55
      rw [n454 456 0 (by omega), c0, if_pos (v30.mpr h30)]
    · unfold fn_261
      rw [am_here hmm (by omega), ac_262]
      by_cases hw : ac_n (sp_hb b n p) = 0
      · rw [if_pos ((z0 _).mpr hw)]
      · rw [if_neg (mt (z0 _).mp hw), tz_m _ _ _ (by omega), m1, if_neg (mt v30'.mp (fun z => z h30))]
  · by_cases hw : ac_n (sp_hb b n p) = 0
    · refine bad ?_ ?_
      · unfold fn_55
        rw [n454 456 0 (by omega), c0, if_neg (mt v30.mp h30), sgn, ac_56, if_neg (fun z => z ((z0 _).mpr hw))]
      · unfold fn_261
        rw [am_here hmm (by omega), ac_262, if_pos ((z0 _).mpr hw)]
    · have hpn := ac_hb hw
      have hw4 := ac_le (sp_hb b n p)
      have e55 : fn_55 (tc_at gc b n p) = fn_55_45 (tc_at (zz_w gc 457 N (sp_hb b n p)) b n (p + 1)) (Int32.ofNat (ac_n (sp_hb b n p))) (Int32.ofNat 0) := by
        unfold fn_55 fn_55_43
        rw [n454 456 0 (by omega), c0, if_neg (mt v30.mp h30), sgn, ac_56, if_pos (mt (z0 _).mp hw), zz_toN (by omega), tz_wc _ _ (by omega), ar_step (af_ok hc (af_w fc (by omega))) hpn]
        rfl
      have e261 : fn_261 (tm_at gm p x) = fn_261_59 (tm_at (zz_w gm 552 (5 * N) (sp_hb b n p)) (p + 1) x) (Int32.ofNat (ac_n (sp_hb b n p))) (Int32.ofNat (5 * N)) (Int32.ofNat (0 + 1)) := by
        unfold fn_261 fn_261_49
        rw [am_here hmm (by omega), ac_262, if_neg (mt (z0 _).mp hw), tz_m _ _ _ (by omega), m1, if_pos (v30'.mpr h30), show (5 : Int32) * Int32.ofNat N = Int32.ofNat (5 * N) from (Int32.ofNat_mul 5 N).symm, zz_toN (by omega), tz_w _ _ _ (by omega)]
        have e5 : tm_at (zz_w gm 552 (5 * N) (sp_hb b n p)) p x 540 5 = Int32.ofNat p := by
          unfold tm_at
          rw [aa_w_ne _ _ (by omega), aa_w_at]
        rw [e5, aa_succ, tm_over5]
        rfl
      have step := an_loop hc hm (N := N) (w := ac_n (sp_hb b n p)) (by omega) hw4 (ac_n (sp_hb b n p)) 0 (p + 1) (zz_w gc 457 N (sp_hb b n p)) (zz_w gm 552 (5 * N) (sp_hb b n p)) x (by omega) hpn (af_w fc (by omega)) (am_w fm (by omega)) (by rw [aa_w_ne _ _ (by omega)]; exact c0) (by rw [aa_w_ne _ _ (by omega)]; exact m1) (fun k hk => absurd hk (Nat.not_lt_zero k))
      rw [← e55, ← e261] at step
      rcases step with ⟨f, gx, gy, s1, s2, s3, s4, s5, s6⟩ | ⟨q, gx, gy, x', r1, r2, r3, r4, r5, r6, r7, r8, r9, r10, r11, r12, r13, r14, r15⟩
      · left
        refine ⟨f, gx, gy, ?_, s2, s3, s4, s5, s6⟩
        unfold aq_c
        rw [s1, if_pos rfl]
      · have hcx := af_ok hc r5
        have hmx := am_ok hm r6
        have ec : aq_c (tc_at gc b n p) = fn_33 (tc_at gx b n q) 59 := by
          unfold aq_c
          rw [r3, if_neg (fun z => absurd (show (1 : Int32) = 0 from z) (by decide))]
        rcases ar_pass (p := q) (c := 59) hcx (by decide) with ⟨p1, p2, p3⟩ | ⟨p1, gz, p2, p3⟩
        · rcases am_pass (z := x') (c := 59) hmx r2 (by decide) with ⟨k1, k2, k3⟩ | ⟨k1, -⟩
          · right
            refine ⟨q + 1, gx, gy, x', by omega, p2, ec.trans p3, r4.trans k3, r5, r6, r7, r8, by omega, fun j hj => ?_, ?_, ?_, fun z => r15 (aa_inv_w z (am_552 (ac_rng hw)).1 (am_552 (ac_rng hw)).2)⟩
            · by_cases hjN : j = N
              · subst hjN
                have L : gx 457 j = sp_hb b n p := by rw [r10, aa_w_at]
                rw [L]
                refine ⟨?_, hw, fun k hk => ?_⟩
                · rw [r12 _ (Nat.le_refl _), aa_w_at]
                · have := r9 k hk
                  exact this
              · obtain ⟨a1, a2, a3⟩ := hal j (by omega)
                have L : gx 457 j = gc 457 j := by rw [r10, aa_w_ne _ _ (by omega)]
                rw [L]
                have wl := ac_le (gc 457 j)
                refine ⟨?_, a2, fun k hk => ?_⟩
                · rw [r12 _ (by omega), aa_w_ne _ _ (by omega)]
                  exact a1
                · rw [r11 _ (by omega), r12 _ (by omega), aa_w_ne _ _ (by omega), aa_w_ne _ _ (by omega)]
                  exact a3 k hk
            · rw [r13, aa_w_ne _ _ (by omega)]
            · rw [r14, aa_w_ne _ _ (by omega)]
          · exact absurd p1 k1
        · rcases am_pass (z := x') (c := 59) hmx r2 (by decide) with ⟨k1, -⟩ | ⟨k1, gw, k2, k3⟩
          · exact absurd k1 p1
          · left
            exact ⟨q, gz, gw, ec.trans p2, r4.trans k2, af_bad r5 p3, am_bad r6 k3, p3.2, k3.2⟩
/-- all that is on the tape -/
theorem aq_loop (hc : tc_ok g0 b n) (hm : tm_ok m0 b n) : ∀ (m p i N : Nat) (gc gm : aa_G) (x : Int32), n ≤ p + m → p ≤ n → i ≤ p → N ≤ 30 → af_c g0 gc → af_m m0 gm → gc 456 0 = Int32.ofNat N → gm 540 34 = Int32.ofNat N → al_s gc gm N → gc 454 4 = -1 → gm 540 6 = -1 →
    (∃ f gc' gm', fn_54_11 (tc_at gc b n p) (Int32.ofNat i) = (-1, gc') ∧ fn_260_11 (tm_at gm p x) 1 = (-1, zz_w gm' 540 4 0) ∧ af_c g0 gc' ∧ af_m m0 gm' ∧ gc' 454 4 = Int32.ofNat f ∧ gm' 540 6 = Int32.ofNat f) ∨
    ∃ N' gc' gm', N' ≤ 30 ∧ fn_54_11 (tc_at gc b n p) (Int32.ofNat i) = (Int32.ofNat N', gc') ∧ fn_260_11 (tm_at gm p x) 1 = fn_260_47 (zz_w gm' 540 4 0) 0 ∧ af_c g0 gc' ∧ af_m m0 gm' ∧ gc' 456 0 = Int32.ofNat N' ∧ gm' 540 34 = Int32.ofNat N' ∧ al_s gc' gm' N' ∧ gc' 454 4 = -1 ∧ gm' 540 6 = -1 ∧ (aa_inv gm → aa_inv gm') := by
  intro m
  induction m with
  | zero =>
    intro p i N gc gm x hm0 hp hip hN fc fm c0 m1 hal f1 f2
    have hpn : p = n := by omega
    have hcc := af_ok hc fc
    have hmm := am_ok hm fm
    have hn5 := hc.2.1
    right
    refine ⟨N, tc_at gc b n p, tm_at gm p x, hN, ?_, ?_, fun k j z1 z2 z3 z4 => (tz_c _ _ (by omega)).trans (fc k j z1 z2 z3 z4), fun k j z1 z2 => (tz_m _ _ _ (by omega)).trans (fm k j z1 z2), (tz_c _ _ (by omega)).trans c0, (tz_m _ _ _ (by omega)).trans m1, fun j hj => ?_, (tz_c _ _ (by omega)).trans f1, (tz_m _ _ _ (by omega)).trans f2, fun z => am_tm z (by omega)⟩
    · unfold fn_54_11
      refine lp_r ?_
      show fn_54_11b (tc_at gc b n p) (Int32.ofNat i) = _
      unfold fn_54_11b
      rw [tz_c _ _ (by omega), c0, ar_more hcc (by omega), if_neg (show ¬ p < n by omega)]
      by_cases h5 : (500 : Int32) ≤ Int32.ofNat i
      · rw [if_pos h5]
      · rw [if_neg h5, if_pos rfl]
    · unfold fn_260_11
      refine lp_r ?_
      show fn_260_11b (tm_at gm p x) 1 = _
      have e5 : tm_at gm p x 540 5 = Int32.ofNat p := by
        unfold tm_at
        rw [aa_w_ne _ _ (by omega), aa_w_at]
      unfold fn_260_11b fn_260_34
      rw [if_neg (by decide), e5, tz_m gm p x (k := 540) (j := 4) (by omega), hmm.1, if_pos ((i_le (by omega) (by omega)).mpr (by omega)), if_pos (by decide)]
    · rw [tz_c _ _ (by omega), tz_m _ _ _ (by omega)]
      obtain ⟨a1, a2, a3⟩ := hal j hj
      exact ⟨a1, a2, fun k hk => by rw [tz_c _ _ (by omega), tz_m _ _ _ (by omega)]; exact a3 k hk⟩
  | succ m ih =>
    intro p i N gc gm x hm0 hp hip hN fc fm c0 m1 hal f1 f2
    have hcc := af_ok hc fc
    have hmm := am_ok hm fm
    have hn5 := hc.2.1
    by_cases hpn : p < n
    · have e5 : tm_at gm p x 540 5 = Int32.ofNat p := by
        unfold tm_at
        rw [aa_w_ne _ _ (by omega), aa_w_at]
      have cb : fn_54_11b (tc_at gc b n p) (Int32.ofNat i) = if (aq_c (tc_at gc b n p)).1 ≠ 0 then .inl ((aq_c (tc_at gc b n p)).2, Int32.ofNat (i + 1)) else .inr (-1, (aq_c (tc_at gc b n p)).2) := by
        unfold fn_54_11b
        rw [if_neg (fun z => by
          have := aa_le32.mp z
          rw [zz_ofN (by omega), show (500 : Int32).toInt = 500 from rfl] at this
          omega), ar_more hcc (by omega), if_pos hpn, if_neg (c := (1 : Int32) = 0) (by decide)]
        unfold fn_54_30 fn_54_39 aq_c
        by_cases hz : (fn_55 (tc_at gc b n p)).1 = 0
        · rw [if_pos hz, if_pos hz, if_neg (fun z => z rfl)]
        · rw [if_neg hz, if_neg hz, aa_succ]
      have mb : fn_260_11b (tm_at gm p x) 1 = .inl ((fn_261 (tm_at gm p x)).2, (fn_261 (tm_at gm p x)).1) := by
        unfold fn_260_11b fn_260_30
        rw [if_neg (by decide), e5, tz_m gm p x (k := 540) (j := 4) (by omega), hmm.1, if_neg (fun z => by
          have := (i_le (by omega) (by omega)).mp z
          omega)]
      have ms : fn_260_11 (tm_at gm p x) 1 = fn_260_11 (fn_261 (tm_at gm p x)).2 (fn_261 (tm_at gm p x)).1 := by
        unfold fn_260_11
        exact lp_l mb
      rcases aq_one hc hm (x := x) hN hp fc fm c0 m1 hal with ⟨f, gx, gy, s1, s2, s3, s4, s5, s6⟩ | ⟨q, gx, gy, x', r1, r2, r3, r4, r5, r6, r7, r8, r9, r10, r11, r12, r13⟩
      · left
        refine ⟨f, gx, gy, ?_, ?_, s3, s4, s5, s6⟩
        · unfold fn_54_11
          refine lp_r ?_
          show fn_54_11b (tc_at gc b n p) (Int32.ofNat i) = _
          rw [cb, s1, if_neg (fun z => z rfl)]
        · rw [ms, s2]
          unfold fn_260_11
          refine lp_r ?_
          show fn_260_11b gy 0 = _
          unfold fn_260_11b fn_260_34
          rw [if_pos rfl, if_neg (fun z => z rfl)]
      · have cs : fn_54_11 (tc_at gc b n p) (Int32.ofNat i) = fn_54_11 (tc_at gx b n q) (Int32.ofNat (i + 1)) := by
          unfold fn_54_11
          refine lp_l ?_
          show fn_54_11b (tc_at gc b n p) (Int32.ofNat i) = _
          rw [cb, r3, if_pos (fun z => absurd (show (1 : Int32) = 0 from z) (by decide))]
        rw [cs, ms, r4]
        rcases ih q (i + 1) (N + 1) gx gy x' (by omega) r2 (by omega) (by omega) r5 r6 r7 r8 r10 (r11.trans f1) (r12.trans f2) with w | ⟨N', gc', gm', w0, w1, w2, w3, w4, w5, w6, w7, w8, w9, w10⟩
        · exact .inl w
        · exact .inr ⟨N', gc', gm', w0, w1, w2, w3, w4, w5, w6, w7, w8, w9, fun z => w10 (r13 z)⟩
    · exact (by
        have hpn : p = n := by omega
        right
        refine ⟨N, tc_at gc b n p, tm_at gm p x, hN, ?_, ?_, fun k j z1 z2 z3 z4 => (tz_c _ _ (by omega)).trans (fc k j z1 z2 z3 z4), fun k j z1 z2 => (tz_m _ _ _ (by omega)).trans (fm k j z1 z2), (tz_c _ _ (by omega)).trans c0, (tz_m _ _ _ (by omega)).trans m1, fun j hj => ?_, (tz_c _ _ (by omega)).trans f1, (tz_m _ _ _ (by omega)).trans f2, fun z => am_tm z (by omega)⟩
        · unfold fn_54_11
          refine lp_r ?_
          show fn_54_11b (tc_at gc b n p) (Int32.ofNat i) = _
          unfold fn_54_11b
          rw [tz_c _ _ (by omega), c0, ar_more hcc (by omega), if_neg (show ¬ p < n by omega)]
          by_cases h5 : (500 : Int32) ≤ Int32.ofNat i
          · rw [if_pos h5]
          · rw [if_neg h5, if_pos rfl]
        · unfold fn_260_11
          refine lp_r ?_
          show fn_260_11b (tm_at gm p x) 1 = _
          have e5 : tm_at gm p x 540 5 = Int32.ofNat p := by
            unfold tm_at
            rw [aa_w_ne _ _ (by omega), aa_w_at]
          unfold fn_260_11b fn_260_34
          rw [if_neg (by decide), e5, tz_m gm p x (k := 540) (j := 4) (by omega), hmm.1, if_pos ((i_le (by omega) (by omega)).mpr (by omega)), if_pos (by decide)]
        · rw [tz_c _ _ (by omega), tz_m _ _ _ (by omega)]
          obtain ⟨a1, a2, a3⟩ := hal j hj
          exact ⟨a1, a2, fun k hk => by rw [tz_c _ _ (by omega), tz_m _ _ _ (by omega)]; exact a3 k hk⟩)
end AQ
