/-! (96, 230): both sides say the same -/
def sp_m (h k : Int32) : Option (Int × Int) → Int
  | none => -1000000
  | some (u, l) => if k = 0 then u + l / 2 else if h = 0 then u + l / 2 - 43200 else u + l / 2 - 86400
noncomputable def sp_25 (T : Nat → Int32) (a b h k : Int32) : Int := if ¬ (0 ≤ a.toInt ∧ a.toInt < (T 0).toInt) ∨ ¬ (0 ≤ b.toInt ∧ b.toInt ≤ 35999) ∨ ¬ (0 ≤ h.toInt ∧ h.toInt ≤ 1) ∨ ¬ (0 ≤ k.toInt ∧ k.toInt ≤ 1) then -1000000 else
  sp_m h k (hv_t T a.toInt.toNat b.toInt h.toInt)
theorem sm_two {x y : Int32} {u l : Int} (hx : x.toInt = u) (hy : y.toInt = l) (h0 : 0 ≤ u ∧ u ≤ 86399) (h1 : 1 ≤ l ∧ l ≤ 172798) : (x + y / 2).toInt = u + l / 2 ∧ (x + y / 2 - 43200).toInt = u + l / 2 - 43200 ∧ (x + y / 2 - 86400).toInt = u + l / 2 - 86400 := by
  have e1 : (y / 2).toInt = l / 2 := by rw [ti_div (by omega) (by decide), hy]; rfl
  have e2 : (x + y / 2).toInt = u + l / 2 := by rw [aa_add32 (by omega) (by omega), e1, hx]
  refine ⟨e2, ?_, ?_⟩
  · rw [aa_sub32 (by rw [e2, show (43200 : Int32).toInt = 43200 from rfl]; omega) (by rw [e2, show (43200 : Int32).toInt = 43200 from rfl]; omega), e2]; rfl
  · rw [aa_sub32 (by rw [e2, show (86400 : Int32).toInt = 86400 from rfl]; omega) (by rw [e2, show (86400 : Int32).toInt = 86400 from rfl]; omega), e2]; rfl
theorem hv_bb {g : aa_G} {t : Nat} (W : wd_g g) (ht : (t : Int) < (g 541 0).toInt) {d h u l : Int} (e : hv_t (g 541) t d h = some (u, l)) : (0 ≤ u ∧ u ≤ 86399) ∧ (1 ≤ l ∧ l ≤ 172798) := by
  obtain ⟨v1, v2, v3, v4, v5⟩ := hv_b W ht e
  by_cases z : h = 1
  · have := v5 z
    omega
  · have := v4 z
    omega
theorem ck_96 {g : aa_G} (W : wd_g g) (a b h k : Int32) : (fn_96 g a b h k).1.toInt = sp_25 (g 541) a b h k := by
  unfold fn_96 sp_25
  rcases ct_at W a with ⟨t, ht, rfl, ht2, e1, -⟩ | ⟨n1, e1, -⟩
  · rw [e1]
    dsimp only
    by_cases zb : fn_77 b = 0
    · rw [if_pos zb, if_pos (.inr (.inl (ti_77z.mp zb)))]
      rfl
    · have hb := ti_77n.mp zb
      rw [if_neg zb]
      by_cases zh : fn_14 h 0 1 = 0
      · have hh : ¬ (0 ≤ h.toInt ∧ h.toInt ≤ 1) := ti_14z.mp zh
        rw [if_pos zh, if_pos (.inr (.inr (.inl hh)))]
        rfl
      · have hh : 0 ≤ h.toInt ∧ h.toInt ≤ 1 := ti_14n.mp zh
        rw [if_neg zh]
        by_cases zk : fn_14 k 0 1 ≠ 0
        · have hk : 0 ≤ k.toInt ∧ k.toInt ≤ 1 := ti_14n.mp zk
          have hn : ¬ (¬ (0 ≤ (Int32.ofNat t).toInt ∧ (Int32.ofNat t).toInt < (g 541 0).toInt) ∨ ¬ (0 ≤ b.toInt ∧ b.toInt ≤ 35999) ∨ ¬ (0 ≤ h.toInt ∧ h.toInt ≤ 1) ∨ ¬ (0 ≤ k.toInt ∧ k.toInt ≤ 1)) := by
            rw [zz_ofN (by omega)]
            omega
          rw [if_pos zk, if_neg hn, zz_ofN (by omega), show ((t : Int).toNat) = t by omega]
          obtain ⟨-, -, -, m⟩ := (ck_look (g := g) (P := 461) (d := b) (h := h) W ht2 (by omega) (h01 hh)).1
          generalize fn_78 g 461 (some (5 * t + 14)) b h = G at m ⊢
          unfold fn_96_55
          cases hq : hv_t (g 541) t b.toInt h.toInt with
          | none =>
            rw [hq] at m
            rw [if_neg (c := G 461 0 ≠ 0) (fun z => z m.1)]
            rfl
          | some r =>
            obtain ⟨u, l⟩ := r
            rw [hq] at m
            obtain ⟨m1, m2, m3⟩ := m
            obtain ⟨w1, w2⟩ := hv_bb W ht2 hq
            obtain ⟨s1, s2, s3⟩ := sm_two m2 m3 w1 w2
            rw [if_pos (c := G 461 0 ≠ 0) (by rw [m1]; decide)]
            unfold sp_m
            dsimp only
            by_cases k0 : k = 0
            · rw [if_neg (c := k ≠ 0) (fun z => z k0), if_pos k0]
              exact s1
            · rw [if_pos (c := k ≠ 0) k0, if_neg k0]
              by_cases h0 : h = 0
              · rw [if_neg (c := h ≠ 0) (fun z => z h0), if_pos h0]
                exact s2
              · rw [if_pos (c := h ≠ 0) h0, if_neg h0]
                exact s3
        · rw [if_neg zk, if_pos (.inr (.inr (.inr (fun h => zk (ti_14n.mpr h)))))]
          rfl
  · have hz : ¬ (0 ≤ a.toInt ∧ a.toInt < (g 541 0).toInt) ∨ ¬ (0 ≤ b.toInt ∧ b.toInt ≤ 35999) ∨ ¬ (0 ≤ h.toInt ∧ h.toInt ≤ 1) ∨ ¬ (0 ≤ k.toInt ∧ k.toInt ≤ 1) := .inl n1
    rw [e1, if_pos hz]
    rfl
theorem mk_230 {g : aa_G} (W : wd_g g) (a b h k : Int32) : (fn_230 g a b h k).1.toInt = sp_25 (g 541) a b h k := by
  unfold fn_230 sp_25
  rcases ct_at W a with ⟨t, ht, rfl, ht2, -, e1⟩ | ⟨n1, -, e1⟩
  · by_cases hb : 0 ≤ b.toInt ∧ b.toInt ≤ 35999
    · rw [if_neg (c := fn_191 g (Int32.ofNat t) b = 0) (fun z => (ti_191.mp z).elim (fun y => by rw [e1] at y; exact absurd y (by decide)) (fun y => y hb))]
      by_cases zh : fn_154 h 0 1 = 0
      · have hh : ¬ (0 ≤ h.toInt ∧ h.toInt ≤ 1) := ti_154z.mp zh
        rw [if_pos zh, if_pos (.inr (.inr (.inl hh)))]
        rfl
      · have hh : 0 ≤ h.toInt ∧ h.toInt ≤ 1 := ti_154n.mp zh
        rw [if_neg zh]
        by_cases zk : fn_154 k 0 1 = 0
        · have hk : ¬ (0 ≤ k.toInt ∧ k.toInt ≤ 1) := ti_154z.mp zk
          rw [if_pos zk, if_pos (.inr (.inr (.inr hk)))]
          rfl
        · have hk : 0 ≤ k.toInt ∧ k.toInt ≤ 1 := ti_154n.mp zk
          have hn : ¬ (¬ (0 ≤ (Int32.ofNat t).toInt ∧ (Int32.ofNat t).toInt < (g 541 0).toInt) ∨ ¬ (0 ≤ b.toInt ∧ b.toInt ≤ 35999) ∨ ¬ (0 ≤ h.toInt ∧ h.toInt ≤ 1) ∨ ¬ (0 ≤ k.toInt ∧ k.toInt ≤ 1)) := by
            rw [zz_ofN (by omega)]
            omega
          rw [if_neg zk, if_neg hn, zz_ofN (by omega), show ((t : Int).toNat) = t by omega]
          generalize hg : fn_194 g (Int32.ofNat t) b h = G
          obtain ⟨v, G⟩ := G
          obtain ⟨-, m⟩ := mk_half W ht2 (h01 hh) hg
          unfold fn_230_35
          dsimp only
          cases hq : hv_t (g 541) t b.toInt h.toInt with
          | none =>
            rw [hq] at m
            have m : v = 0 := m
            rw [if_neg (c := v ≠ 0) (fun z => z m)]
            rfl
          | some r =>
            obtain ⟨u, l⟩ := r
            rw [hq] at m
            obtain ⟨m1, m2, m3⟩ := m
            obtain ⟨w1, w2⟩ := hv_bb W ht2 hq
            obtain ⟨s1, s2, s3⟩ := sm_two m2 m3 w1 w2
            rw [if_pos (c := v ≠ 0) (by rw [m1]; decide)]
            unfold sp_m
            dsimp only
            by_cases k0 : k = 0
            · rw [if_neg (c := k ≠ 0) (fun z => z k0), if_pos k0]
              exact s1
            · rw [if_pos (c := k ≠ 0) k0, if_neg k0]
              by_cases h0 : h = 0
              · rw [if_neg (c := h ≠ 0) (fun z => z h0), if_pos h0]
                exact s2
              · rw [if_pos (c := h ≠ 0) h0, if_neg h0]
                exact s3
    · rw [if_pos (c := fn_191 g (Int32.ofNat t) b = 0) (ti_191.mpr (.inr hb)), if_pos (.inr (.inl hb))]
      rfl
  · rw [if_pos (c := fn_191 g a b = 0) (ti_191.mpr (.inl e1)), if_pos (.inl n1)]
    rfl
theorem lq_96 {g : aa_G} {a0 a1 a2 a3 : Int32} (hi : aa_inv g) (hφ : aa_Phi g) (hR : lr_R g) : lq_ok true 96 230 [.int a0, .int a1, .int a2, .int a3] g :=
  lq_ask (y := fn_230 (fn_96 g a0 a1 a2 a3).2 a0 a1 a2 a3) hi hφ hR (ko_fw (ko_96 hi hφ) fun _ _ _ r => dn_96 r) (fun i1 p1 => ko_fw (ko_230 i1 p1) fun _ _ _ r => dn_230 r) (by decide +kernel) (by decide +kernel) (by decide +kernel) (by decide +kernel) (by decide +kernel) (by decide +kernel) fun W W2 e => ti_eq.mpr (by rw [ck_96 W, mk_230 W2, e])
