/-! TABLE: both sides say the same -/
noncomputable def sp_11 (T : Nat → Int32) (a b c : Int32) : Int := if ¬ (0 ≤ a.toInt ∧ a.toInt < (T 0).toInt) ∨ ¬ (0 ≤ b.toInt ∧ b.toInt ≤ 35999) ∨ ¬ (0 ≤ c.toInt ∧ c.toInt ≤ 4) then -1 else
  if c.toInt = 4 then pv_t T a.toInt.toNat (b.toInt % 360) else
  match hv_t T a.toInt.toNat b.toInt (if c.toInt = 3 then 1 else 0) with
  | none => -2
  | some (u, l) => if c.toInt = 0 then u else if c.toInt = 1 then u + l else l
theorem ck_76 {g : aa_G} (W : wd_g g) (a b c : Int32) : (fn_76 g a b c).1.toInt = sp_11 (g 541) a b c := by
  unfold fn_76 sp_11
  rcases ct_at W a with ⟨t, ht, rfl, ht2, e1, -⟩ | ⟨n1, e1, -⟩
  · rw [e1]
    dsimp only
    by_cases zb : fn_77 b = 0
    · rw [if_pos zb, if_pos (.inr (.inl (ti_77z.mp zb)))]
      rfl
    · have hb := ti_77n.mp zb
      rw [if_neg zb]
      by_cases zc : fn_14 c 0 4 ≠ 0
      · have hc : 0 ≤ c.toInt ∧ c.toInt ≤ 4 := ti_14n.mp zc
        have hn : ¬ (¬ (0 ≤ (Int32.ofNat t).toInt ∧ (Int32.ofNat t).toInt < (g 541 0).toInt) ∨ ¬ (0 ≤ b.toInt ∧ b.toInt ≤ 35999) ∨ ¬ (0 ≤ c.toInt ∧ c.toInt ≤ 4)) := by
          rw [zz_ofN (by omega)]
          omega
        rw [if_pos zc, if_neg hn, zz_ofN (by omega), show ((t : Int).toNat) = t by omega]
        have key : ∀ (h : Int32), (h = 0 ∨ h = 1) → (h = 0 ∨ c.toInt = 3) → (h.toInt = if c.toInt = 3 then 1 else 0) → (fn_76_53 (fn_78 g 461 (some (5 * t + 14)) b h) c).1.toInt = if c.toInt = 4 then pv_t (g 541) t (b.toInt % 360) else match hv_t (g 541) t b.toInt (if c.toInt = 3 then 1 else 0) with
            | none => -2
            | some (u, l) => if c.toInt = 0 then u else if c.toInt = 1 then u + l else l := by
          intro h hh h3 hv
          obtain ⟨⟨-, -, -, k4⟩, k5⟩ := ck_look (g := g) (P := 461) (d := b) W ht2 (by omega) hh
          rw [hv] at k4
          generalize hG : fn_78 g 461 (some (5 * t + 14)) b h = G at k4 k5
          unfold fn_76_53
          by_cases c4 : c = 4
          · subst c4
            have h0 : h = 0 := h3.resolve_right (by decide)
            rw [if_neg (c := (4 : Int32) ≠ 4) (by decide), if_pos (c := (4 : Int32).toInt = 4) rfl]
            exact k5 hb.1 hb.2 h0
          · have c4' : ¬ c.toInt = 4 := fun e => c4 (ti_eq.mpr e)
            rw [if_pos (c := c ≠ 4) c4, if_neg c4']
            cases hq : hv_t (g 541) t b.toInt (if c.toInt = 3 then 1 else 0) with
            | none =>
              rw [hq] at k4
              rw [if_neg (c := G 461 0 ≠ 0) (fun z => z k4.1)]
              rfl
            | some r =>
              obtain ⟨u, l⟩ := r
              rw [hq] at k4
              obtain ⟨k41, k42, k43⟩ := k4
              obtain ⟨v1, v2, v3, v4, v5⟩ := hv_b W ht2 hq
              rw [if_pos (c := G 461 0 ≠ 0) (by rw [k41]; decide)]
              by_cases c0 : c = 0
              · subst c0
                rw [if_neg (c := (0 : Int32) ≠ 0) (by decide)]
                exact k42
              · have c0' : ¬ c.toInt = 0 := fun e => c0 (ti_eq.mpr e)
                rw [if_pos (c := c ≠ 0) c0]
                dsimp only
                rw [if_neg c0']
                by_cases c1 : c = 1
                · subst c1
                  have v4 := v4 (by decide)
                  rw [if_neg (c := (1 : Int32) ≠ 1) (by decide), if_pos (c := (1 : Int32).toInt = 1) rfl]
                  show (G 461 3 + G 461 4).toInt = u + l
                  rw [aa_add32 (by omega) (by omega), k42, k43]
                · have c1' : ¬ c.toInt = 1 := fun e => c1 (ti_eq.mpr e)
                  rw [if_pos (c := c ≠ 1) c1, if_neg c1']
                  exact k43
        by_cases c3 : c = 3
        · rw [if_neg (c := c ≠ 3) (fun z => z c3)]
          exact key 1 (.inr rfl) (.inr (by rw [c3]; rfl)) (by rw [c3]; rfl)
        · rw [if_pos (c := c ≠ 3) c3]
          have c3' : ¬ c.toInt = 3 := fun e => c3 (ti_eq.mpr e)
          exact key 0 (.inl rfl) (.inl rfl) (by rw [if_neg c3']; rfl)
      · rw [if_neg zc, if_pos (.inr (.inr (fun h => zc (ti_14n.mpr h))))]
        rfl
  · rw [e1, if_pos (.inl n1)]
    rfl
theorem mk_190 {g : aa_G} (W : wd_g g) (a b c : Int32) : (fn_190 g a b c).1.toInt = sp_11 (g 541) a b c := by
  unfold fn_190 sp_11
  rcases ct_at W a with ⟨t, ht, rfl, ht2, -, e1⟩ | ⟨n1, -, e1⟩
  · by_cases hb : 0 ≤ b.toInt ∧ b.toInt ≤ 35999
    · rw [if_neg (c := fn_191 g (Int32.ofNat t) b = 0) (fun z => (ti_191.mp z).elim (fun y => by rw [e1] at y; exact absurd y (by decide)) (fun y => y hb))]
      by_cases zc : fn_154 c 0 4 ≠ 0
      · have hc : 0 ≤ c.toInt ∧ c.toInt ≤ 4 := ti_154n.mp zc
        have hn : ¬ (¬ (0 ≤ (Int32.ofNat t).toInt ∧ (Int32.ofNat t).toInt < (g 541 0).toInt) ∨ ¬ (0 ≤ b.toInt ∧ b.toInt ≤ 35999) ∨ ¬ (0 ≤ c.toInt ∧ c.toInt ≤ 4)) := by
          rw [zz_ofN (by omega)]
          omega
        rw [if_pos zc, if_neg hn, zz_ofN (by omega), show ((t : Int).toNat) = t by omega]
        by_cases c3 : c = 3
        · subst c3
          rw [if_neg (c := (3 : Int32) ≠ 3) (by decide), if_neg (c := (3 : Int32).toInt = 4) (by decide), if_pos (c := (3 : Int32).toInt = 3) rfl]
          generalize hg : fn_194 g (Int32.ofNat t) b 1 = G
          obtain ⟨v, g'⟩ := G
          obtain ⟨-, k⟩ := mk_half W ht2 (.inr rfl) hg
          unfold fn_190_32
          rw [show (1 : Int32).toInt = 1 from rfl] at k
          cases hq : hv_t (g 541) t b.toInt 1 with
          | none =>
            rw [hq] at k
            dsimp only at k ⊢
            rw [k, if_pos rfl]
            rfl
          | some r =>
            obtain ⟨u, l⟩ := r
            rw [hq] at k
            dsimp only at k ⊢
            rw [k.1, if_neg (c := (1 : Int32) = 0) (by decide), if_neg (c := (3 : Int32).toInt = 0) (by decide), if_neg (c := (3 : Int32).toInt = 1) (by decide)]
            exact k.2.2
        · rw [if_pos (c := c ≠ 3) c3]
          have c3' : ¬ c.toInt = 3 := fun e => c3 (ti_eq.mpr e)
          rw [if_neg c3']
          generalize hg : fn_195 g (Int32.ofNat t) b = G
          obtain ⟨v, g'⟩ := G
          obtain ⟨-, kp, k⟩ := mk_lay W ht2 hb hg
          unfold fn_190_51
          dsimp only
          by_cases c4 : c = 4
          · subst c4
            rw [if_neg (c := (4 : Int32) ≠ 4) (by decide), if_pos (c := (4 : Int32).toInt = 4) rfl]
            cases hq : hv_t (g 541) t b.toInt 0 with
            | none =>
              rw [hq] at k
              dsimp only at k
              rw [k, if_pos rfl]
              exact kp
            | some r =>
              rw [hq] at k
              dsimp only at k
              rw [k.1, if_neg (c := (1 : Int32) = 0) (by decide), hv_pv hq]
              rfl
          · have c4' : ¬ c.toInt = 4 := fun e => c4 (ti_eq.mpr e)
            rw [if_pos (c := c ≠ 4) c4, if_neg c4']
            cases hq : hv_t (g 541) t b.toInt 0 with
            | none =>
              rw [hq] at k
              dsimp only at k ⊢
              rw [k, if_neg (c := (0 : Int32) ≠ 0) (by decide)]
              rfl
            | some r =>
              obtain ⟨u, l⟩ := r
              rw [hq] at k
              obtain ⟨v1, v2, v3, v4, v5⟩ := hv_b W ht2 hq
              have v4 := v4 (by decide)
              dsimp only at k ⊢
              obtain ⟨k1, k2, k3⟩ := k
              rw [k1, if_pos (c := (1 : Int32) ≠ 0) (by decide)]
              by_cases c0 : c = 0
              · subst c0
                rw [if_neg (c := (0 : Int32) ≠ 0) (by decide), if_pos (c := (0 : Int32).toInt = 0) rfl]
                exact k2
              · have c0' : ¬ c.toInt = 0 := fun e => c0 (ti_eq.mpr e)
                rw [if_pos (c := c ≠ 0) c0, if_neg c0']
                by_cases c1 : c = 1
                · subst c1
                  rw [if_neg (c := (1 : Int32) ≠ 1) (by decide), if_pos (c := (1 : Int32).toInt = 1) rfl]
                  exact k3
                · have c1' : ¬ c.toInt = 1 := fun e => c1 (ti_eq.mpr e)
                  rw [if_pos (c := c ≠ 1) c1, if_neg c1']
                  show (g' 540 15 - g' 540 14).toInt = l
                  rw [aa_sub32 (by omega) (by omega)]
                  omega
      · rw [if_neg zc, if_pos (.inr (.inr (fun h => zc (ti_154n.mpr h))))]
        rfl
    · rw [if_pos (c := fn_191 g (Int32.ofNat t) b = 0) (ti_191.mpr (.inr hb)), if_pos (.inr (.inl hb))]
      rfl
  · rw [if_pos (c := fn_191 g a b = 0) (ti_191.mpr (.inl e1)), if_pos (.inl n1)]
    rfl
theorem lq_76 {g : aa_G} {a0 a1 a2 : Int32} (hi : aa_inv g) (hφ : aa_Phi g) (hR : lr_R g) : lq_ok true 76 190 [.int a0, .int a1, .int a2] g :=
  lq_ask (y := fn_190 (fn_76 g a0 a1 a2).2 a0 a1 a2) hi hφ hR (ko_fw (ko_76 hi hφ) fun _ _ _ r => dn_76 r) (fun i1 p1 => ko_fw (ko_190 i1 p1) fun _ _ _ r => dn_190 r) (by decide +kernel) (by decide +kernel) (by decide +kernel) (by decide +kernel) (by decide +kernel) (by decide +kernel) fun W W2 e => ti_eq.mpr (by rw [ck_76 W, mk_190 W2, e])
