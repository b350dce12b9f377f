/-! TURN: both sides say the same -/
theorem of_ti {a : Int32} {n : Int} (h : a.toInt = n) : a = Int32.ofInt n := by rw [← h, Int32.ofInt_toInt]
def sp_x (q e l : Int32) : Int32 := (((e.toInt64 * 12) * q.toInt64) / l.toInt64).toInt32
def sp_k (q d h e l k : Int32) : Int32 := if k.toInt = 0 then d else if k.toInt = 1 then h else if k.toInt = 2 then sp_x q e l / q else if k.toInt = 3 then sp_x q e l - sp_x q e l / q * q else if k.toInt = 4 then sp_x q e l else e
def sp_w (q : Int32) (b c : Int) (k : Int32) : Option (Int × Int × Int × Int) → Int32
  | none => -2
  | some (d', h', u, l) => sp_k q (Int32.ofInt d') (Int32.ofInt h') (Int32.ofInt (c + 86400 * (b - d') - u)) (Int32.ofInt l) k
noncomputable def sp_12 (T : Nat → Int32) (a b c k : Int32) : Int32 := if ¬ (0 ≤ a.toInt ∧ a.toInt < (T 0).toInt) ∨ ¬ (0 ≤ b.toInt ∧ b.toInt ≤ 35999) ∨ ¬ (0 ≤ c.toInt ∧ c.toInt ≤ 86399) ∨ ¬ (0 ≤ k.toInt ∧ k.toInt ≤ 5) then -1 else
  sp_w (T 1) b.toInt c.toInt k (wt_T T a.toInt.toNat b.toInt c.toInt)
theorem ck_85 {g : aa_G} (W : wd_g g) (a b c k : Int32) : (fn_85 g a b c k).1 = sp_12 (g 541) a b c k := by
  unfold fn_85 sp_12
  rcases ct_at W a with ⟨t, ht, rfl, ht2, e1, -⟩ | ⟨n1, e1, -⟩
  · rw [e1]
    dsimp only
    by_cases zb : fn_77 b = 0
    · rw [if_pos zb, if_pos (.inr (.inl (ti_77z.mp zb)))]
    · have hb := ti_77n.mp zb
      rw [if_neg zb]
      by_cases zc : fn_66 c = 0
      · have hc : ¬ (0 ≤ c.toInt ∧ c.toInt ≤ 86399) := ti_14z.mp zc
        rw [if_pos zc, if_pos (.inr (.inr (.inl hc)))]
      · have hc : 0 ≤ c.toInt ∧ c.toInt ≤ 86399 := ti_14n.mp zc
        rw [if_neg zc]
        by_cases zk : fn_14 k 0 5 ≠ 0
        · have hk : 0 ≤ k.toInt ∧ k.toInt ≤ 5 := ti_14n.mp zk
          have hn : ¬ (¬ (0 ≤ (Int32.ofNat t).toInt ∧ (Int32.ofNat t).toInt < (g 541 0).toInt) ∨ ¬ (0 ≤ b.toInt ∧ b.toInt ≤ 35999) ∨ ¬ (0 ≤ c.toInt ∧ c.toInt ≤ 86399) ∨ ¬ (0 ≤ k.toInt ∧ k.toInt ≤ 5)) := by
            rw [zz_ofN (by omega)]
            omega
          rw [if_pos zk, if_neg hn, zz_ofN (by omega), show ((t : Int).toNat) = t by omega]
          obtain ⟨m, f⟩ := ck_86 (P := 461) (d := b) (s := c) W ht2 (by omega) (by omega) hb
          generalize fn_86 g 461 (5 * t + 14) b c = G at m f ⊢
          obtain ⟨v, G⟩ := G
          unfold fn_85_52
          dsimp only at m f ⊢
          cases hq : wt_T (g 541) t b.toInt c.toInt with
          | none =>
            rw [hq] at m
            have m : v = 0 := m.1
            rw [if_neg (c := v ≠ 0) (fun z => z m)]
            rfl
          | some r =>
            obtain ⟨d', h', u, l⟩ := r
            obtain ⟨w1, w2, w3, w4, w5, w6, w7, -⟩ := wt_b W ht2 hq
            rw [hq] at m
            obtain ⟨m1, -, m2, m3, m4, m5⟩ := m
            rw [if_pos (c := v ≠ 0) (by rw [m1]; decide)]
            have q21 : G 2 1 = g 541 1 := (f 2 1 (by omega)).trans W.2.2.2.1
            have hq1 := W.2.1
            have E1 : (b - G 461 1).toInt = b.toInt - d' := by rw [aa_sub32 (by omega) (by omega), m2]
            have E2 : ((b - G 461 1) * 86400).toInt = 86400 * (b.toInt - d') := by
              rw [ti_mul (by rw [E1, show (86400 : Int32).toInt = 86400 from rfl]; omega) (by rw [E1, show (86400 : Int32).toInt = 86400 from rfl]; omega), E1, show (86400 : Int32).toInt = 86400 from rfl]
              omega
            have E3 : (c + (b - G 461 1) * 86400).toInt = c.toInt + 86400 * (b.toInt - d') := by rw [aa_add32 (by omega) (by omega), E2]
            have E4 : fn_87 G 461 b c = Int32.ofInt (c.toInt + 86400 * (b.toInt - d') - u) := of_ti (by
              unfold fn_87
              rw [aa_sub32 (by omega) (by omega), E3, m4])
            have E5 : fn_88 G 461 (fn_87 G 461 b c) (G 2 1) = sp_x (g 541 1) (Int32.ofInt (c.toInt + 86400 * (b.toInt - d') - u)) (Int32.ofInt l) := by
              unfold fn_88 sp_x
              rw [if_neg (c := G 461 4 ≤ 0) (fun z => by have := aa_le32.mp z; rw [show (0 : Int32).toInt = 0 from rfl] at this; omega), E4, q21, of_ti m5]
            have E6 : ∀ x, fn_89 G x = x / g 541 1 := fun x => by
              unfold fn_89
              rw [q21, if_neg (c := g 541 1 ≤ 0) (fun z => by have := aa_le32.mp z; rw [show (0 : Int32).toInt = 0 from rfl] at this; omega)]
            rw [E5, E6, q21, E4, of_ti m2, of_ti m3]
            unfold sp_w sp_k
            dsimp only
            repeat' split
            all_goals rfl
        · rw [if_neg zk, if_pos (.inr (.inr (.inr (fun h => zk (ti_14n.mpr h)))))]
  · rw [e1, if_pos (.inl n1)]
theorem mk_198 {g : aa_G} (W : wd_g g) (a b c k : Int32) : (fn_198 g a b c k).1 = sp_12 (g 541) a b c k := by
  unfold fn_198 sp_12
  rcases ct_at W a with ⟨t, ht, rfl, ht2, -, e1⟩ | ⟨n1, -, e1⟩
  · by_cases hb : 0 ≤ b.toInt ∧ b.toInt ≤ 35999
    · rw [if_neg (c := fn_191 g (Int32.ofNat t) b = 0) (fun z => (ti_191.mp z).elim (fun y => by rw [e1] at y; exact absurd y (by decide)) (fun y => y hb))]
      by_cases zc : fn_199 c = 0
      · have hc : ¬ (0 ≤ c.toInt ∧ c.toInt ≤ 86399) := ti_154z.mp zc
        rw [if_pos zc, if_pos (.inr (.inr (.inl hc)))]
      · have hc : 0 ≤ c.toInt ∧ c.toInt ≤ 86399 := ti_154n.mp zc
        rw [if_neg zc]
        by_cases zk : fn_154 k 0 5 ≠ 0
        · have hk : 0 ≤ k.toInt ∧ k.toInt ≤ 5 := ti_154n.mp zk
          have hn : ¬ (¬ (0 ≤ (Int32.ofNat t).toInt ∧ (Int32.ofNat t).toInt < (g 541 0).toInt) ∨ ¬ (0 ≤ b.toInt ∧ b.toInt ≤ 35999) ∨ ¬ (0 ≤ c.toInt ∧ c.toInt ≤ 86399) ∨ ¬ (0 ≤ k.toInt ∧ k.toInt ≤ 5)) := by
            rw [zz_ofN (by omega)]
            omega
          rw [if_pos zk, if_neg hn, zz_ofN (by omega), show ((t : Int).toNat) = t by omega]
          obtain ⟨m, f⟩ := mk_200 (d := b) (s := c) W ht2 hb hc
          generalize fn_200 g (Int32.ofNat t) b c = G at m f ⊢
          obtain ⟨v, G⟩ := G
          unfold fn_198_35
          dsimp only at m f ⊢
          cases hq : wt_T (g 541) t b.toInt c.toInt with
          | none =>
            rw [hq] at m
            have m : v = 0 := m
            rw [if_pos m]
            rfl
          | some r =>
            obtain ⟨d', h', u, l⟩ := r
            rw [hq] at m
            obtain ⟨m1, m2, m3, m4, m5, m6⟩ := m
            rw [if_neg (c := v = 0) (by rw [m1]; decide)]
            have q : G 541 1 = g 541 1 := f 541 1 (by omega)
            unfold fn_201 fn_202
            rw [show (1 : Int32).toNatClampNeg = 1 from rfl, q, of_ti m6, of_ti m2, of_ti m3, of_ti m5]
            rfl
        · rw [if_neg zk, if_pos (.inr (.inr (.inr (fun h => zk (ti_154n.mpr h)))))]
    · rw [if_pos (c := fn_191 g (Int32.ofNat t) b = 0) (ti_191.mpr (.inr hb)), if_pos (.inr (.inl hb))]
  · rw [if_pos (c := fn_191 g a b = 0) (ti_191.mpr (.inl e1)), if_pos (.inl n1)]
theorem lq_85 {g : aa_G} {a0 a1 a2 a3 : Int32} (hi : aa_inv g) (hφ : aa_Phi g) (hR : lr_R g) : lq_ok true 85 198 [.int a0, .int a1, .int a2, .int a3] g :=
  lq_ask (y := fn_198 (fn_85 g a0 a1 a2 a3).2 a0 a1 a2 a3) hi hφ hR (ko_fw (ko_85 hi hφ) fun _ _ _ r => dn_85 r) (fun i1 p1 => ko_fw (ko_198 i1 p1) fun _ _ _ r => dn_198 r) (by decide +kernel) (by decide +kernel) (by decide +kernel) (by decide +kernel) (by decide +kernel) (by decide +kernel) fun W W2 e => by rw [ck_85 W, mk_198 W2, e]
