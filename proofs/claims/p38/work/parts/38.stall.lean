/-! AN ANALYSER OF METHODS: every instruction but calls and returns is well told -/
section AM
variable {Φ : aa_G → Prop} {ws fr : aa_W} {hk : aa_Hk} {s : aa_S} {ν : List Int} {g : aa_G} {lv : zz_V} {st : List Value} {pc : Nat}
theorem aa_kcp_ok (hG : aa_good Φ fr hk) (h : aa_ok s ν g lv st) (hi : aa_inv g) : aa_snd Φ ws (aa_kcp ws fr hk (pc + 3) s) ν g (zz_cpy pc lv st (aa_H g)) := fun l hl => by
  unfold aa_kcp at hl
  split at hl
  · rename_i n dp a sp b r hst
    have hm0 := h.2.2.2.2
    rw [hst] at hm0
    obtain ⟨wn, q1, rfl, h1, hm1⟩ := aa_ms_int hm0
    obtain ⟨wd, q2, rfl, h2, hm2⟩ := aa_ms_int hm1
    obtain ⟨ka, q3, rfl, h3, hm3⟩ := aa_ms_ref hm2
    obtain ⟨wsp, q4, rfl, h4, hm4⟩ := aa_ms_int hm3
    obtain ⟨kb, q, rfl, h5, hm⟩ := aa_ms_ref hm4
    dsimp only at hl
    split at hl
    · cases hl
    · rename_i hg
      have hga : aa_gp s.1.1 a ≠ 0 := fun z => hg (.inl (by rw [z]; rfl))
      have hgb : aa_gp s.1.1 b ≠ 0 := fun z => hg (.inr (by rw [z]; rfl))
      have hca := aa_gp_ok h.1 h3 hga
      have hcb := aa_gp_ok h.1 h5 hgb
      split at hl
      · rename_i ta na tsa tb nb tsb hgia hgib
        split at hl
        · rename_i hc
          obtain ⟨⟨t1, t2, f1, f2⟩, ⟨i1, i2⟩, ⟨p1, p2, p3⟩, ⟨p4, p5⟩, vd, p6, w1, w2⟩ := hc
          subst t1
          subst t2
          cases hl
          obtain ⟨-, -, hara, -⟩ := aa_arr g (k := ka) (by rw [hca]; exact hga) (by rw [hca]; exact hgia)
          obtain ⟨-, -, harb, -⟩ := aa_arr g (k := kb) (by rw [hcb]; exact hgb) (by rw [hcb]; exact hgib)
          have ka0 := (aa_fit_at (k := ka) (by rw [hca]; exact hga)).2.1
          have kb0 := (aa_fit_at (k := kb) (by rw [hcb]; exact hgb)).2.1
          obtain ⟨ka', rfl⟩ : ∃ k', ka = k' + 1 := ⟨ka - 1, by omega⟩
          obtain ⟨kb', rfl⟩ : ∃ k', kb = k' + 1 := ⟨kb - 1, by omega⟩
          have b1 := aa_lo_ok h.1 h.2.1 h1
          have b2 := aa_lo_ok h.1 h.2.1 h2
          have b3 := aa_lo_ok h.1 h.2.1 h4
          have b4 := aa_hi_ok h.1 h.2.1 (aa_add_ev (k := 1) h4 h1)
          have b5 := aa_hi_ok h.1 h.2.1 (aa_add_ev (k := 1) h2 h1)
          have e1 : wn.toNatClampNeg = wn.toInt.toNat := rfl
          have e2 : wd.toNatClampNeg = wd.toInt.toNat := rfl
          have e3 : wsp.toNatClampNeg = wsp.toInt.toNat := rfl
          have ng : ∀ w : Int32, 0 ≤ w.toInt → ¬ w < 0 := fun w hw z => by
            have := Int32.lt_iff_toInt_lt.mp z
            rw [show (0 : Int32).toInt = 0 from rfl] at this
            omega
          have hfr : ∀ w : aa_W, aa_inw (aa_gp s.1.1 a) 0 ((na : Int) - 1) w = true → aa_fr w g (zz_up g (ka' + 1) (va_cpy (g (kb' + 1)) (g (ka' + 1)) wsp.toNatClampNeg wd.toNatClampNeg wn.toNatClampNeg)) := fun w hw => ⟨fun k j => by
            by_cases hk : k = ka' + 1
            · subst hk
              rw [zz_up_self]
              by_cases hj : wd.toNatClampNeg ≤ j ∧ j < wd.toNatClampNeg + wn.toNatClampNeg
              · obtain ⟨z, hz, z1, z2, z3⟩ := aa_inw_ok hw
                exact .inr ⟨z, hz, by rw [z1, hca], by omega, by omega⟩
              · left
                unfold va_cpy
                rw [if_neg hj]
            · rw [zz_up_other _ _ hk]
              exact .inl rfl, .inl (by
            rw [← hca] at vd
            have vd := aa_vdep_no' vd (by rw [hca, hgia]; intro e; cases congrArg Prod.fst e)
            exact aa_dep_eq (by rw [zz_up_other _ _ (fun e => vd.1 e.symm)]) (by rw [zz_up_other _ _ (fun e => vd.1 e.symm)]) (by rw [zz_up_other _ _ (fun e => vd.2.1 e.symm)]) (by rw [zz_up_other _ _ (fun e => vd.2.2 e.symm)]))⟩
          have hf1 : aa_fr [(aa_gp s.1.1 a, 0, (na : Int) - 1)] g (zz_up g (ka' + 1) (va_cpy (g (kb' + 1)) (g (ka' + 1)) wsp.toNatClampNeg wd.toNatClampNeg wn.toNatClampNeg)) := hfr _ (by
            unfold aa_inw
            rw [Nat.beq_refl, decide_eq_true (Int.le_refl _), decide_eq_true (Int.le_refl _)]
            rfl)
          refine ⟨pc + 3, lv, q, _, ?_, aa_res0 ⟨h.1, h.2.1, aa_kl_ok h.1 h.2.1 h.2.2.1 hf1, h.2.2.2.1, hm⟩, ?_, hfr _ w1, fun hφ => hG.1 _ _ hφ (hfr _ w2)⟩
          · unfold zz_cpy
            dsimp only
            rw [hara, harb]
            dsimp only
            rw [if_pos ⟨ng _ (by omega), ng _ (by omega), ng _ (by omega), by omega, by omega, by rw [aa_cat_ok hm]; exact p6⟩]
            rfl
          · intro k j
            by_cases hk : k = ka' + 1
            · subst hk
              rw [zz_up_self]
              unfold va_cpy
              split
              · have := hi (kb' + 1) (wsp.toNatClampNeg + (j - wd.toNatClampNeg))
                rw [hca, aa_flat_ok f1 j 0]
                rw [hcb, aa_flat_ok f2 _ 0] at this
                omega
              · exact hi (ka' + 1) j
            · rw [zz_up_other _ _ hk]
              exact hi k j
        · cases hl
      · cases hl
  · cases hl
theorem aa_as_st {s s' : aa_S} {f : aa_F} (h : aa_as s f = some s') : s'.2 = s.2 := by
  unfold aa_as at h
  split at h
  · cases h
  · split at h
    · cases h
      rfl
    · split at h
      · cases h
      · cases h
        rfl
theorem aa_kmm_ok {up : Bool} {F : Int32 → Int32 → Int32} (hF : ∀ a d, (F a d).toInt = if up = true then max a.toInt d.toInt else min a.toInt d.toInt) (h : aa_ok s ν g lv st) (hi : aa_inv g) : aa_snd Φ ws (aa_kmm up (pc + 3) s) ν g (zz_mm F pc lv st (aa_H g)) := aa_snd.go hi fun l hl => by
  obtain ⟨a, b, r, x, y, q, rfl, h1, h2, h3, h4⟩ := aa_w2_ok h hl
  dsimp only at h1
  split at h1
  · rename_i hcat
    have hz : zz_mm F pc lv (.int y :: .int x :: q) (aa_H g) = zz_go (pc + 3) lv (.int (F x y) :: q) (aa_H g) := by
      unfold zz_mm
      dsimp only
      rw [if_pos (by rw [aa_cat_ok h4]; exact hcat)]
    refine ⟨pc + 3, lv, .int (F x y) :: q, hz, ?_⟩
    have b1 := aa_lo_ok h.1 h.2.1 h2
    have b2 := aa_hi_ok h.1 h.2.1 h2
    have b3 := aa_lo_ok h.1 h.2.1 h3
    have b4 := aa_hi_ok h.1 h.2.1 h3
    have e := hF x y
    have key : ∀ (lo hi k : Int) (p1 p2 : aa_S), lo ≤ (F x y).toInt → (F x y).toInt ≤ hi → 0 ≤ k * (x.toInt + -1 * (F x y).toInt) → 0 ≤ k * (y.toInt + -1 * (F x y).toInt) → aa_as (aa_pf s r lo hi) (aa_scale (aa_add a (aa_id s.1.1.length) (-1)) k) = some p1 → aa_as p1 (aa_scale (aa_add b (aa_id s.1.1.length) (-1)) k) = some p2 → aa_res [(pc + 3, p2)] ν g (pc + 3) lv (.int (F x y) :: q) := fun lo hi k p1 p2 c1 c2 c3 c4 c5 c6 => by
      have hn := aa_ok_new h c1 c2 (gr := 0) (fun q => absurd rfl q)
      have hn : aa_ok (aa_pf s r lo hi) (ν ++ [(F x y).toInt]) g lv (.int (F x y) :: q) := ⟨hn.1, hn.2.1, hn.2.2.1, hn.2.2.2.1, ⟨⟨Nat.one_ne_zero, _, rfl, aa_ev_new h.1⟩, aa_ms_app h4⟩⟩
      have v0 := aa_ev_new (v := (F x y).toInt) h.1
      obtain ⟨s1, e1, k1⟩ := aa_as_ok hn (aa_scale_ev (k := k) (aa_add_ev (k := -1) (aa_ev_app h2) v0)) c3
      rw [c5] at e1
      cases e1
      obtain ⟨s2, e2, k2⟩ := aa_as_ok k1 (aa_scale_ev (k := k) (aa_add_ev (k := -1) (aa_ev_app h3) v0)) c4
      rw [c6] at e2
      cases e2
      exact aa_res1 k2
    cases up with
    | true =>
      rw [if_pos rfl] at e
      rw [if_pos rfl, if_pos rfl] at h1
      split at h1
      · cases h1
      · rename_i p1 hp1
        split at h1
        · cases h1
        · rename_i p2 hp2
          cases h1
          exact key _ _ (-1) p1 _ (by unfold aa_lohi; dsimp only; omega) (by unfold aa_lohi; dsimp only; omega) (by omega) (by omega) hp1 hp2
    | false =>
      rw [if_neg (by decide)] at e
      rw [if_neg (by decide), if_neg (by decide)] at h1
      split at h1
      · cases h1
      · rename_i p1 hp1
        split at h1
        · cases h1
        · rename_i p2 hp2
          cases h1
          exact key _ _ 1 p1 _ (by unfold aa_lohi; dsimp only; omega) (by unfold aa_lohi; dsimp only; omega) (by omega) (by omega) hp1 hp2
  · cases h1
theorem aa_kab_ok (h : aa_ok s ν g lv st) (hi : aa_inv g) : aa_snd Φ ws (aa_kab (pc + 3) s) ν g (zz_ma pc lv st (aa_H g)) := aa_snd.go hi fun l hl => by
  obtain ⟨a, r, x, q, rfl, h1, h2, h3⟩ := aa_w1_ok h hl
  split at h1
  · rename_i hcat
    have hz : zz_ma pc lv (.int x :: q) (aa_H g) = zz_go (pc + 3) lv (.int (if 0 ≤ x then x else 0 - x) :: q) (aa_H g) := by
      unfold zz_ma
      dsimp only
      rw [if_pos (by rw [aa_cat_ok h3]; exact hcat)]
    refine ⟨pc + 3, lv, _, hz, ?_⟩
    have b1 := aa_lo_ok h.1 h.2.1 h2
    have b2 := aa_hi_ok h.1 h.2.1 h2
    have hx := x.toInt_lt
    have hp : 0 ≤ x ↔ 0 ≤ x.toInt := by rw [Int32.le_iff_toInt_le]; rfl
    split at h1
    · rename_i hc
      have hc : 0 ≤ aa_lo s.1.1 s.1.2 a := hc
      cases h1
      rw [if_pos (hp.mpr (by omega))]
      exact aa_res0 (aa_pi_ok h h3 h2)
    · split at h1
      · rename_i hc
        have hc : (-2147483648) < aa_lo s.1.1 s.1.2 a := hc
        cases h1
        have e : (if 0 ≤ x then x else 0 - x).toInt = if 0 ≤ x.toInt then x.toInt else - x.toInt := by
          by_cases z : 0 ≤ x
          · rw [if_pos z, if_pos (hp.mp z)]
          · rw [if_neg z, if_neg (fun w => z (hp.mpr w)), Int32.toInt_sub, show (0 : Int32).toInt = 0 from rfl, aa_bm (by omega) (by omega)]
            omega
        refine aa_pf_ok h h3 (by rw [e]; split <;> omega) ?_
        rw [e]
        unfold aa_lohi
        dsimp only
        split <;> omega
      · cases h1
        exact aa_pff_ok h h3
  · cases h1
theorem aa_one_ok {k : Nat} {f : aa_F} {v : Value} (h : aa_one k = true) (hm : aa_mv ν (k, f) (some v)) : k ≠ 0 ∧ v.category = 1 := by
  unfold aa_one at h
  simp only [Bool.or_eq_true] at h
  rcases h with h | h | h <;> have e := Nat.eq_of_beq_eq_true h <;> subst e
  · obtain ⟨w, e, -⟩ := hm
    cases e
    exact ⟨by decide, rfl⟩
  · obtain ⟨w, e, -⟩ := hm
    cases e
    exact ⟨by decide, rfl⟩
  · have hm : some v = some Value.null := hm
    cases hm
    exact ⟨by decide, rfl⟩
theorem aa_st_ok (hG : aa_good Φ fr hk) {rt : Nat} {e : zz_I} (h : aa_ok s ν g lv st) (hi : aa_inv g) : aa_snd Φ ws (aa_st ws fr hk e pc s) ν g (zz_step none zz_us rt e pc lv st (aa_H g)) := by
  obtain ⟨i, ⟨x, y, u, w⟩, v, sw⟩ := e
  have hn : aa_snd Φ ws none ν g (zz_step none zz_us rt (i, (x, y, u, w), v, sw) pc lv st (aa_H g)) := fun l hl => by cases hl
  have hst := h.2.2.2.2
  have hpush : ∀ (p : Nat) (a : Int32) (z : Option zz_O), z = zz_go p lv (.int a :: st) (aa_H g) → aa_snd Φ ws (some [(p, aa_pi s s.2.2.2 (aa_c a.toInt))]) ν g z := fun p a z hz => aa_snd.go hi fun l hl => by
    cases hl
    exact ⟨_, _, _, hz, aa_res0 (aa_pi_ok h hst aa_c_ev)⟩
  cases i with
  | iconst n => exact hpush _ _ _ rfl
  | bipush n => exact hpush _ _ _ rfl
  | sipush n => exact hpush _ _ _ rfl
  | lconst n =>
    refine aa_snd.go hi fun l hl => ?_
    cases hl
    exact ⟨_, _, _, rfl, aa_res0 (aa_wst_ok h ⟨⟨Nat.succ_ne_zero _, _, rfl, aa_c_ev⟩, hst⟩)⟩
  | aconst_null =>
    refine aa_snd.go hi fun l hl => ?_
    cases hl
    exact ⟨_, _, _, rfl, aa_res0 (aa_wst_ok h ⟨⟨Nat.succ_ne_zero _, rfl⟩, hst⟩)⟩
  | ldc n => exact aa_kv_ok h hi fun a e => by subst e; rfl
  | ldc_w n => exact aa_kv_ok h hi fun a e => by subst e; rfl
  | ldc2_w n => exact aa_kvl_ok h hi fun a e => by subst e; rfl
  | iload k => exact aa_kld1_ok h hi
  | iload_n k => exact aa_kld1_ok h hi
  | lload k => exact aa_kld2_ok h hi
  | lload_n k => exact aa_kld2_ok h hi
  | aload k => exact aa_kla_ok h hi
  | aload_n k => exact aa_kla_ok h hi
  | istore k => exact aa_kis_ok h hi
  | istore_n k => exact aa_kis_ok h hi
  | lstore k => exact aa_kls_ok h hi
  | lstore_n k => exact aa_kls_ok h hi
  | astore k => exact aa_kas_ok h hi
  | astore_n k => exact aa_kas_ok h hi
  | iinc k n => exact aa_kii_ok h hi
  | iadd =>
    refine aa_i2_ok h hi fun a b r l x y q h1 h2 h3 h4 => ?_
    cases h1
    have := aa_ar_ok (pc := pc + 1) (w := x + y) h h4 (aa_add_ev (k := 1) h2 h3) (by rw [Int32.toInt_add, Int.one_mul])
    exact this
  | isub =>
    refine aa_i2_ok h hi fun a b r l x y q h1 h2 h3 h4 => ?_
    cases h1
    exact aa_ar_ok (pc := pc + 1) (w := x - y) h h4 (aa_add_ev (k := -1) h2 h3) (by rw [Int32.toInt_sub]; congr 1; omega)
  | imul =>
    exact aa_i2_ok h hi fun a b r l x y q h1 h2 h3 h4 => aa_kmul_ok h h1 h2 h3 h4
  | iand =>
    exact aa_i2_ok h hi fun a b r l x y q h1 h2 h3 h4 => aa_kand_ok h h1 h3 h4
  | ior =>
    refine aa_i2_ok h hi fun a b r l x y q h1 h2 h3 h4 => ?_
    cases h1
    exact aa_pff_ok h h4
  | ixor =>
    refine aa_i2_ok h hi fun a b r l x y q h1 h2 h3 h4 => ?_
    cases h1
    exact aa_pff_ok h h4
  | ishr =>
    refine aa_i2_ok h hi fun a b r l x y q h1 h2 h3 h4 => ?_
    cases h1
    exact aa_pff_ok h h4
  | iushr =>
    refine aa_i2_ok h hi fun a b r l x y q h1 h2 h3 h4 => ?_
    cases h1
    exact aa_pff_ok h h4
  | idiv =>
    refine aa_snd.go hi fun l hl => ?_
    obtain ⟨a, b, r, x, y, q, rfl, h1, h2, h3, h4⟩ := aa_w2_ok h hl
    obtain ⟨k1, k2⟩ := aa_kdiv_ok h h1 h2 h3 h4
    refine ⟨_, _, _, ?_, k2⟩
    show (if y = 0 then none else _) = _
    rw [if_neg k1]
    rfl
  | irem =>
    refine aa_snd.go hi fun l hl => ?_
    obtain ⟨a, b, r, x, y, q, rfl, h1, h2, h3, h4⟩ := aa_w2_ok h hl
    obtain ⟨k1, k2⟩ := aa_krem_ok h h1 h2 h3 h4
    refine ⟨_, _, _, ?_, k2⟩
    show (if y = 0 then none else _) = _
    rw [if_neg k1]
    rfl
  | ineg =>
    refine aa_snd.go hi fun l hl => ?_
    obtain ⟨a, r, x, q, rfl, h1, h2, h3⟩ := aa_w1_ok h hl
    cases h1
    exact ⟨_, _, _, rfl, aa_ar_ok (w := -x) h h3 (aa_scale_ev (k := -1) h2) (by rw [Int32.toInt_neg]; congr 1; omega)⟩
  | ladd =>
    refine aa_l2_ok h hi fun a b r l x y q h1 h2 h3 h4 => ?_
    cases h1
    exact aa_arl_ok (pc := pc + 1) (w := x + y) h h4 (aa_add_ev (k := 1) h2 h3) (by rw [Int64.toInt_add, Int.one_mul])
  | lsub =>
    refine aa_l2_ok h hi fun a b r l x y q h1 h2 h3 h4 => ?_
    cases h1
    exact aa_arl_ok (pc := pc + 1) (w := x - y) h h4 (aa_add_ev (k := -1) h2 h3) (by rw [Int64.toInt_sub]; congr 1; omega)
  | lmul =>
    exact aa_l2_ok h hi fun a b r l x y q h1 h2 h3 h4 => aa_klmul_ok h h1 h2 h3 h4
  | ldiv =>
    refine aa_snd.go hi fun l hl => ?_
    obtain ⟨a, b, r, x, y, q, rfl, h1, h2, h3, h4⟩ := aa_wl2_ok h hl
    obtain ⟨k1, k2⟩ := aa_kldiv_ok h h1 h2 h3 h4
    refine ⟨_, _, _, ?_, k2⟩
    show (if y = 0 then none else _) = _
    rw [if_neg k1]
    rfl
  | lcmp =>
    refine aa_snd.go hi fun l hl => ?_
    obtain ⟨a, b, r, x, y, q, rfl, h1, h2, h3, h4⟩ := aa_wl2_ok h hl
    cases h1
    refine ⟨_, _, _, rfl, ?_⟩
    have e : (lg_cmp x y).toInt = 1 ∨ (lg_cmp x y).toInt = 0 ∨ (lg_cmp x y).toInt = -1 := by
      unfold lg_cmp
      split
      · exact .inl rfl
      · split
        · exact .inr (.inl rfl)
        · exact .inr (.inr rfl)
    exact aa_pf_ok h h4 (by omega) (by omega)
  | i2l =>
    refine aa_snd.go hi fun l hl => ?_
    obtain ⟨a, r, x, q, rfl, h1, h2, h3⟩ := aa_w1_ok h hl
    cases h1
    exact ⟨_, _, _, rfl, aa_res0 (aa_wst_ok h ⟨⟨Nat.succ_ne_zero _, _, rfl, by rw [Int32.toInt_toInt64]; exact h2⟩, h3⟩)⟩
  | l2i =>
    refine aa_snd.go hi fun l hl => ?_
    obtain ⟨a, r, x, q, rfl, h1, h2, h3⟩ := aa_wl1_ok h hl
    cases h1
    exact ⟨_, _, _, rfl, aa_ar_ok (w := x.toInt32) h h3 h2 (Int64.toInt_toInt32 x)⟩
  | i2b =>
    refine aa_snd.go hi fun l hl => ?_
    obtain ⟨a, r, x, q, rfl, h1, h2, h3⟩ := aa_w1_ok h hl
    cases h1
    have := aa_nar_y x
    rw [vp_nar_byte] at this
    exact ⟨_, _, _, rfl, aa_pf_ok h h3 this.1 this.2⟩
  | goto o =>
    refine aa_snd.go hi fun l hl => ?_
    cases hl
    exact ⟨_, _, _, rfl, aa_res0 h⟩
  | ifCond c o =>
    refine aa_snd.go hi fun l hl => ?_
    obtain ⟨a, r, x1, q, rfl, h1, h2, h3⟩ := aa_w1_ok h hl
    cases h1
    have k := aa_two_ok (t1 := x) (t2 := pc + 3) (c := c) (sp := true) (aa_wst_ok h h3) h2
    by_cases hc : zz_cond c x1 = true
    · refine ⟨x, lv, q, ?_, k.1 ((aa_cond c x1).mp hc)⟩
      show zz_if (zz_cond c) pc x lv (.int x1 :: q) (aa_H g) = _
      unfold zz_if
      dsimp only
      rw [if_pos hc]
      rfl
    · refine ⟨pc + 3, lv, q, ?_, k.2 (fun z => hc ((aa_cond c x1).mpr z))⟩
      show zz_if (zz_cond c) pc x lv (.int x1 :: q) (aa_H g) = _
      unfold zz_if
      dsimp only
      rw [if_neg hc]
      rfl
  | if_icmp c o =>
    refine aa_snd.go hi fun l hl => ?_
    obtain ⟨a, b, r, x1, y1, q, rfl, h1, h2, h3, h4⟩ := aa_w2_ok h hl
    cases h1
    have e := aa_add_ev (k := -1) h2 h3
    rw [show x1.toInt + -1 * y1.toInt = x1.toInt - y1.toInt by omega] at e
    have k := aa_two_ok (t1 := x) (t2 := pc + 3) (c := c) (sp := false) (aa_wst_ok h h4) e
    by_cases hc : zz_cmp c x1 y1 = true
    · refine ⟨x, lv, q, ?_, k.1 ((aa_cmp c x1 y1).mp hc)⟩
      show zz_ic (zz_cmp c) pc x lv (.int y1 :: .int x1 :: q) (aa_H g) = _
      unfold zz_ic
      dsimp only
      rw [if_pos hc]
      rfl
    · refine ⟨pc + 3, lv, q, ?_, k.2 (fun z => hc ((aa_cmp c x1 y1).mpr z))⟩
      show zz_ic (zz_cmp c) pc x lv (.int y1 :: .int x1 :: q) (aa_H g) = _
      unfold zz_ic
      dsimp only
      rw [if_neg hc]
      rfl
  | ifnull o =>
    refine aa_snd.go hi fun l hl => ?_
    have hl : (match s.2.2.2 with
      | (3, _) :: r => some [(pc + 3, aa_wst s r)]
      | (4, _) :: r => some [(x, aa_wst s r)]
      | _ => none) = some l := hl
    split at hl
    · rename_i f r he
      cases hl
      rw [he] at hst
      obtain ⟨k, q, rfl, h1, h2⟩ := aa_ms_ref hst
      exact ⟨_, _, _, rfl, aa_res0 (aa_wst_ok h h2)⟩
    · rename_i f r he
      cases hl
      rw [he] at hst
      obtain ⟨q, rfl, h2⟩ := aa_ms_null hst
      exact ⟨_, _, _, rfl, aa_res0 (aa_wst_ok h h2)⟩
    · cases hl
  | ifnonnull o =>
    refine aa_snd.go hi fun l hl => ?_
    have hl : (match s.2.2.2 with
      | (3, _) :: r => some [(x, aa_wst s r)]
      | (4, _) :: r => some [(pc + 3, aa_wst s r)]
      | _ => none) = some l := hl
    split at hl
    · rename_i f r he
      cases hl
      rw [he] at hst
      obtain ⟨k, q, rfl, h1, h2⟩ := aa_ms_ref hst
      exact ⟨_, _, _, rfl, aa_res0 (aa_wst_ok h h2)⟩
    · rename_i f r he
      cases hl
      rw [he] at hst
      obtain ⟨q, rfl, h2⟩ := aa_ms_null hst
      exact ⟨_, _, _, rfl, aa_res0 (aa_wst_ok h h2)⟩
    · cases hl
  | tableswitch a b c d => exact aa_ksw_ok h hi fun a r e => by subst e; rfl
  | lookupswitch a b => exact aa_ksw_ok h hi fun a r e => by subst e; rfl
  | dup =>
    refine aa_snd.go hi fun l hl => ?_
    have hl : (match s.2.2.2 with
      | a :: r => if aa_one a.1 = true then some [(pc + 1, aa_wst s (a :: a :: r))] else none
      | _ => none) = some l := hl
    split at hl
    · rename_i a r he
      split at hl
      · rename_i hc
        cases hl
        rw [he] at hst
        obtain ⟨v1, q, rfl, h0, h1, h2⟩ := aa_ms_cons hst
        obtain ⟨k0, k1⟩ := aa_one_ok hc h1
        refine ⟨pc + 1, lv, v1 :: v1 :: q, ?_, aa_res0 (aa_wst_ok h ⟨⟨h0, h1⟩, ⟨h0, h1⟩, h2⟩)⟩
        show (if v1.category = 1 then _ else none) = _
        rw [if_pos k1]
        rfl
      · cases hl
    · cases hl
  | dup2 =>
    refine aa_snd.go hi fun l hl => ?_
    have hl : (match s.2.2.2 with
      | a :: b :: r => if aa_one a.1 = true ∧ aa_one b.1 = true then some [(pc + 1, aa_wst s (a :: b :: a :: b :: r))] else none
      | _ => none) = some l := hl
    split at hl
    · rename_i a b r he
      split at hl
      · rename_i hc
        cases hl
        rw [he] at hst
        obtain ⟨v1, q1, rfl, h0, h1, h2⟩ := aa_ms_cons hst
        obtain ⟨v2, q, rfl, h3, h4, h5⟩ := aa_ms_cons h2
        obtain ⟨k0, k1⟩ := aa_one_ok hc.1 h1
        obtain ⟨k2, k3⟩ := aa_one_ok hc.2 h4
        refine ⟨pc + 1, lv, v1 :: v2 :: v1 :: v2 :: q, ?_, aa_res0 (aa_wst_ok h ⟨⟨h0, h1⟩, ⟨h3, h4⟩, ⟨h0, h1⟩, ⟨h3, h4⟩, h5⟩)⟩
        show (if v1.category = 1 ∧ v2.category = 1 then _ else none) = _
        rw [if_pos ⟨k1, k3⟩]
        rfl
      · cases hl
    · cases hl
  | pop =>
    refine aa_snd.go hi fun l hl => ?_
    have hl : (match s.2.2.2 with
      | a :: r => if aa_one a.1 = true then some [(pc + 1, aa_wst s r)] else none
      | _ => none) = some l := hl
    split at hl
    · rename_i a r he
      split at hl
      · rename_i hc
        cases hl
        rw [he] at hst
        obtain ⟨v1, q, rfl, h0, h1, h2⟩ := aa_ms_cons hst
        obtain ⟨k0, k1⟩ := aa_one_ok hc h1
        refine ⟨pc + 1, lv, q, ?_, aa_res0 (aa_wst_ok h h2)⟩
        show (if v1.category = 1 then _ else none) = _
        rw [if_pos k1]
        rfl
      · cases hl
    · cases hl
  | dup_x1 =>
    refine aa_snd.go hi fun l hl => ?_
    have hl : (match s.2.2.2 with
      | a :: b :: r => if aa_one a.1 = true ∧ aa_one b.1 = true then some [(pc + 1, aa_wst s (a :: b :: a :: r))] else none
      | _ => none) = some l := hl
    split at hl
    · rename_i a b r he
      split at hl
      · rename_i hc
        cases hl
        rw [he] at hst
        obtain ⟨v1, q1, rfl, h0, h1, h2⟩ := aa_ms_cons hst
        obtain ⟨v2, q, rfl, h3, h4, h5⟩ := aa_ms_cons h2
        obtain ⟨k0, k1⟩ := aa_one_ok hc.1 h1
        obtain ⟨k2, k3⟩ := aa_one_ok hc.2 h4
        refine ⟨pc + 1, lv, v1 :: v2 :: v1 :: q, ?_, aa_res0 (aa_wst_ok h ⟨⟨h0, h1⟩, ⟨h3, h4⟩, ⟨h0, h1⟩, h5⟩)⟩
        show (if v1.category = 1 ∧ v2.category = 1 then _ else none) = _
        rw [if_pos ⟨k1, k3⟩]
        rfl
      · cases hl
    · cases hl
  | getfield n => exact aa_kgf_ok h hi
  | putfield n => exact aa_kpf_ok hG h hi
  | iaload => exact aa_kil_ok (b := false) h hi
  | baload => exact aa_kil_ok (b := true) h hi
  | iastore => exact aa_kia_ok hG h hi
  | bastore => exact aa_kba_ok hG h hi
  | aaload => exact aa_kal_ok h hi
  | arraylength => exact aa_kle_ok h hi
  | invokestatic n =>
    show aa_snd Φ ws (if x < 100000 then none else if x = 100001 then aa_kcp ws fr hk (pc + 3) s else if x = 100002 then aa_kmm false (pc + 3) s else if x = 100003 then aa_kmm true (pc + 3) s else if x = 100004 then aa_kab (pc + 3) s else none) ν g (if x < 100000 then zz_cs x y st else if x = 100001 then zz_cpy pc lv st (aa_H g) else if x = 100002 then zz_mm (fun a d => if d < a then d else a) pc lv st (aa_H g) else if x = 100003 then zz_mm (fun a d => if a < d then d else a) pc lv st (aa_H g) else if x = 100004 then zz_ma pc lv st (aa_H g) else none)
    split
    · exact fun l hl => by cases hl
    · split
      · exact aa_kcp_ok hG h hi
      · split
        · refine aa_kmm_ok (fun a d => ?_) h hi
          rw [if_neg (show ¬ (false = true) by decide)]
          split
          · rename_i z
            have := Int32.lt_iff_toInt_lt.mp z
            omega
          · rename_i z
            have : ¬ d.toInt < a.toInt := fun q => z (Int32.lt_iff_toInt_lt.mpr q)
            omega
        · split
          · refine aa_kmm_ok (fun a d => ?_) h hi
            rw [if_pos rfl]
            split
            · rename_i z
              have := Int32.lt_iff_toInt_lt.mp z
              omega
            · rename_i z
              have : ¬ a.toInt < d.toInt := fun q => z (Int32.lt_iff_toInt_lt.mpr q)
              omega
          · split
            · exact aa_kab_ok h hi
            · exact fun l hl => by cases hl
  | invokespecial n =>
    refine aa_snd.go hi fun l hl => ?_
    have hl : (if x = 100000 then aa_wr s fun _ r => (if aa_cat r ≤ 8 then some [(pc + 3, aa_wst s r)] else none) else none) = some l := hl
    split at hl
    · rename_i hx
      obtain ⟨f, r, k, q, rfl, h1, h2, h3⟩ := aa_wr_ok h hl
      split at h1
      · rename_i hc
        cases h1
        refine ⟨pc + 3, lv, q, ?_, aa_res0 (aa_wst_ok h h3)⟩
        show (if x = 100000 then _ else _) = _
        rw [if_pos hx]
        show (if _ then _ else none) = _
        rw [if_pos (by rw [aa_cat_ok h3]; exact hc)]
        rfl
      · cases h1
    · cases hl
  | _ => exact hn
end AM
