/-! both sides say the same (95, 210) -/
def sp_15 (b c k : Int32) : Option (Int × Int) → Int32
  | none => -2
  | some (u, l) => if k = 1 then (if c.toInt < u then b - 1 else b) else if c.toInt < u + l then b else b + 1
noncomputable def sp_95 (T : Nat → Int32) (a b c k : Int32) : Int32 := if ¬ (0 ≤ a.toInt ∧ a.toInt < (T 0).toInt) ∨ ¬ (0 ≤ b.toInt ∧ b.toInt ≤ 35999) ∨ ¬ (0 ≤ c.toInt ∧ c.toInt ≤ 86399) ∨ ¬ (0 ≤ k.toInt ∧ k.toInt ≤ 3) then -1 else
  if k = 0 then b else if k = 3 then (if c < 43200 then b - 1 else b) else sp_15 b c k (hv_t T a.toInt.toNat b.toInt 0)
theorem ck_95 {g : aa_G} (W : wd_g g) (a b c k : Int32) : (fn_95 g a b c k).1 = sp_95 (g 541) a b c k := by
  unfold fn_95 sp_95
  rcases ct_at W a with ⟨t, ht, rfl, ht2, e1, -⟩ | ⟨n1, e1, -⟩
  · rw [e1]
    dsimp only
    by_cases zb : fn_77 b = 0
    · rw [if_pos zb, if_pos (.inr (.inl (ti_77z.mp zb)))]
    · have hb := ti_77n.mp zb
      rw [if_neg zb]
      by_cases zc : fn_66 c = 0
      · have hc : ¬ (0 ≤ c.toInt ∧ c.toInt ≤ 86399) := ti_14z.mp zc
        rw [if_pos zc, if_pos (.inr (.inr (.inl hc)))]
      · have hc : 0 ≤ c.toInt ∧ c.toInt ≤ 86399 := ti_14n.mp zc
        rw [if_neg zc]
        by_cases zk : fn_14 k 0 3 ≠ 0
        · have hk : 0 ≤ k.toInt ∧ k.toInt ≤ 3 := ti_14n.mp zk
          have hn : ¬ (¬ (0 ≤ (Int32.ofNat t).toInt ∧ (Int32.ofNat t).toInt < (g 541 0).toInt) ∨ ¬ (0 ≤ b.toInt ∧ b.toInt ≤ 35999) ∨ ¬ (0 ≤ c.toInt ∧ c.toInt ≤ 86399) ∨ ¬ (0 ≤ k.toInt ∧ k.toInt ≤ 3)) := by
            rw [zz_ofN (by omega)]
            omega
          rw [if_pos zk, if_neg hn, zz_ofN (by omega), show ((t : Int).toNat) = t by omega]
          by_cases k0 : k = 0
          · rw [if_neg (c := k ≠ 0) (fun z => z k0), if_pos k0]
          · rw [if_pos (c := k ≠ 0) k0, if_neg k0]
            by_cases k3 : k = 3
            · rw [if_neg (c := k ≠ 3) (fun z => z k3), if_pos k3]
              split <;> rfl
            · rw [if_pos (c := k ≠ 3) k3, if_neg k3]
              have m := (ck_look (g := g) (P := 461) (d := b) (h := 0) W ht2 (by omega) (.inl rfl)).1
              rw [show (0 : Int32).toInt = 0 from rfl] at m
              obtain ⟨-, -, -, m⟩ := m
              generalize fn_78 g 461 (some (5 * t + 14)) b 0 = G at m ⊢
              unfold fn_95_79 sp_15
              cases hq : hv_t (g 541) t b.toInt 0 with
              | none =>
                rw [hq] at m
                rw [if_neg (c := G 461 0 ≠ 0) (fun z => z m.1)]
              | some r =>
                obtain ⟨u, l⟩ := r
                rw [hq] at m
                obtain ⟨m1, m2, m3⟩ := m
                obtain ⟨v1, v2, v3, v4, v5⟩ := hv_b W ht2 hq
                have v4 := v4 (by decide)
                have E1 : c < G 461 3 ↔ c.toInt < u := by rw [Int32.lt_iff_toInt_lt, m2]
                have E2 : c < G 461 3 + G 461 4 ↔ c.toInt < u + l := by rw [Int32.lt_iff_toInt_lt, aa_add32 (by omega) (by omega), m2, m3]
                rw [if_pos (c := G 461 0 ≠ 0) (by rw [m1]; decide)]
                dsimp only
                by_cases k1 : k = 1
                · rw [if_neg (c := k ≠ 1) (fun z => z k1), if_pos k1]
                  by_cases z : c.toInt < u
                  · rw [if_pos (E1.mpr z), if_pos z]
                  · rw [if_neg (mt E1.mp z), if_neg z]
                · rw [if_pos (c := k ≠ 1) k1, if_neg k1]
                  by_cases z : c.toInt < u + l
                  · rw [if_pos (E2.mpr z), if_pos z]
                  · rw [if_neg (mt E2.mp z), if_neg z]
        · rw [if_neg zk, if_pos (.inr (.inr (.inr (fun h => zk (ti_14n.mpr h)))))]
  · have hn : ¬ (0 ≤ a.toInt ∧ a.toInt < (g 541 0).toInt) ∨ ¬ (0 ≤ b.toInt ∧ b.toInt ≤ 35999) ∨ ¬ (0 ≤ c.toInt ∧ c.toInt ≤ 86399) ∨ ¬ (0 ≤ k.toInt ∧ k.toInt ≤ 3) := .inl n1
    rw [e1, if_pos hn]
theorem mk_210 {g : aa_G} (W : wd_g g) (a b c k : Int32) : (fn_210 g a b c k).1 = sp_95 (g 541) a b c k := by
  unfold fn_210 sp_95
  rcases ct_at W a with ⟨t, ht, rfl, ht2, -, e1⟩ | ⟨n1, -, e1⟩
  · by_cases hb : 0 ≤ b.toInt ∧ b.toInt ≤ 35999
    · rw [if_neg (c := fn_191 g (Int32.ofNat t) b = 0) (fun z => (ti_191.mp z).elim (fun y => by rw [e1] at y; exact absurd y (by decide)) (fun y => y hb))]
      by_cases zc : fn_199 c = 0
      · have hc : ¬ (0 ≤ c.toInt ∧ c.toInt ≤ 86399) := ti_154z.mp zc
        rw [if_pos zc, if_pos (.inr (.inr (.inl hc)))]
      · have hc : 0 ≤ c.toInt ∧ c.toInt ≤ 86399 := ti_154n.mp zc
        rw [if_neg zc]
        by_cases zk : fn_154 k 0 3 ≠ 0
        · have hk : 0 ≤ k.toInt ∧ k.toInt ≤ 3 := ti_154n.mp zk
          have hn : ¬ (¬ (0 ≤ (Int32.ofNat t).toInt ∧ (Int32.ofNat t).toInt < (g 541 0).toInt) ∨ ¬ (0 ≤ b.toInt ∧ b.toInt ≤ 35999) ∨ ¬ (0 ≤ c.toInt ∧ c.toInt ≤ 86399) ∨ ¬ (0 ≤ k.toInt ∧ k.toInt ≤ 3)) := by
            rw [zz_ofN (by omega)]
            omega
          rw [if_pos zk, if_neg hn, zz_ofN (by omega), show ((t : Int).toNat) = t by omega]
          by_cases k0 : k = 0
          · rw [if_neg (c := k ≠ 0) (fun z => z k0), if_pos k0]
          · rw [if_pos (c := k ≠ 0) k0, if_neg k0]
            by_cases k3 : k = 3
            · rw [if_neg (c := k ≠ 3) (fun z => z k3), if_pos k3]
              split <;> rfl
            · rw [if_pos (c := k ≠ 3) k3, if_neg k3]
              generalize hg : fn_195 g (Int32.ofNat t) b = G
              obtain ⟨v, G⟩ := G
              obtain ⟨-, -, m⟩ := mk_lay W ht2 hb hg
              unfold fn_210_61 sp_15
              cases hq : hv_t (g 541) t b.toInt 0 with
              | none =>
                rw [hq] at m
                have m : v = 0 := m
                dsimp only
                rw [if_neg (c := v ≠ 0) (fun z => z m)]
              | some r =>
                obtain ⟨u, l⟩ := r
                rw [hq] at m
                obtain ⟨m1, m2, m3⟩ := m
                have E1 : c < G 540 14 ↔ c.toInt < u := by rw [Int32.lt_iff_toInt_lt, m2]
                have E2 : c < G 540 15 ↔ c.toInt < u + l := by rw [Int32.lt_iff_toInt_lt, m3]
                dsimp only
                rw [if_pos (c := v ≠ 0) (by rw [m1]; decide)]
                by_cases k1 : k = 1
                · rw [if_neg (c := k ≠ 1) (fun z => z k1), if_pos k1]
                  by_cases z : c.toInt < u
                  · rw [if_pos (E1.mpr z), if_pos z]
                  · rw [if_neg (mt E1.mp z), if_neg z]
                · rw [if_pos (c := k ≠ 1) k1, if_neg k1]
                  by_cases z : c.toInt < u + l
                  · rw [if_pos (E2.mpr z), if_pos z]
                  · rw [if_neg (mt E2.mp z), if_neg z]
        · rw [if_neg zk, if_pos (.inr (.inr (.inr (fun h => zk (ti_154n.mpr h)))))]
    · rw [if_pos (c := fn_191 g (Int32.ofNat t) b = 0) (ti_191.mpr (.inr hb)), if_pos (.inr (.inl hb))]
  · rw [if_pos (c := fn_191 g a b = 0) (ti_191.mpr (.inl e1)), if_pos (.inl n1)]
theorem lq_95 {g : aa_G} {a0 a1 a2 a3 : Int32} (hi : aa_inv g) (hφ : aa_Phi g) (hR : lr_R g) : lq_ok true 95 210 [.int a0, .int a1, .int a2, .int a3] g :=
  lq_ask (y := fn_210 (fn_95 g a0 a1 a2 a3).2 a0 a1 a2 a3) hi hφ hR (ko_fw (ko_95 hi hφ) fun _ _ _ r => dn_95 r) (fun i1 p1 => ko_fw (ko_210 i1 p1) fun _ _ _ r => dn_210 r) (by decide +kernel) (by decide +kernel) (by decide +kernel) (by decide +kernel) (by decide +kernel) (by decide +kernel) fun W W2 e => by rw [ck_95 W, mk_210 W2, e]
