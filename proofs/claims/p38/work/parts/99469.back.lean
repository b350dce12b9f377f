/-! LONG NUMBERS -/
theorem l_of {a : Int32} : a.toInt64.toInt = a.toInt := Int32.toInt_toInt64 a
theorem l_bm {x : Int} (h1 : -9223372036854775808 ≤ x) (h2 : x ≤ 9223372036854775807) : x.bmod (2 ^ 64) = x := by
  rw [Int.bmod_eq_of_le (by omega) (by omega)]
theorem l_add {a b : Int64} (h1 : -9223372036854775808 ≤ a.toInt + b.toInt) (h2 : a.toInt + b.toInt ≤ 9223372036854775807) : (a + b).toInt = a.toInt + b.toInt := by
  rw [Int64.toInt_add, l_bm h1 h2]
theorem l_sub {a b : Int64} (h1 : -9223372036854775808 ≤ a.toInt - b.toInt) (h2 : a.toInt - b.toInt ≤ 9223372036854775807) : (a - b).toInt = a.toInt - b.toInt := by
  rw [Int64.toInt_sub, l_bm h1 h2]
theorem l_mul {a b : Int64} (h1 : -9223372036854775808 ≤ a.toInt * b.toInt) (h2 : a.toInt * b.toInt ≤ 9223372036854775807) : (a * b).toInt = a.toInt * b.toInt := by
  rw [Int64.toInt_mul, l_bm h1 h2]
theorem l_div {a b : Int64} (h1 : 0 ≤ a.toInt) (h2 : 0 < b.toInt) : (a / b).toInt = a.toInt / b.toInt := by
  have r := a.toInt_lt
  rw [Int64.toInt_div, Int.tdiv_eq_ediv_of_nonneg h1, l_bm]
  · have := Int.ediv_nonneg h1 (Int.le_of_lt h2)
    omega
  · have := Int.ediv_le_self b.toInt h1
    omega
theorem l_to {a : Int64} (h1 : -2147483648 ≤ a.toInt) (h2 : a.toInt ≤ 2147483647) : a.toInt32.toInt = a.toInt := by
  rw [Int64.toInt_toInt32, Int.bmod_eq_of_le (by omega) (by omega)]
theorem l_cmp {x y : Int64} : 0 ≤ lg_cmp x y ↔ y.toInt ≤ x.toInt := by
  unfold lg_cmp
  split
  · rename_i h
    have h := Int64.lt_iff_toInt_lt.mp h
    exact ⟨fun _ => by omega, fun _ => by decide⟩
  · rename_i h0
    split
    · rename_i h
      subst h
      exact ⟨fun _ => Int.le_refl _, fun _ => by decide⟩
    · rename_i h
      have h0 := mt Int64.lt_iff_toInt_lt.mpr h0
      have h2 : x.toInt ≠ y.toInt := fun e => h (Int64.toInt_inj.mp e)
      exact ⟨fun e => absurd e (by decide), fun e => by omega⟩
/-! BACK: both sides say the same -/
def sp_n (q l n : Int32) : Int64 := (((n.toInt64 * l.toInt64) + (12 * q.toInt64)) - 1) / (12 * q.toInt64)
theorem sp_nb {q l n : Int32} (hq : 1 ≤ q.toInt ∧ q.toInt ≤ 3600) (hl : 1 ≤ l.toInt ∧ l.toInt ≤ 172798) (hn : 0 ≤ n.toInt ∧ n.toInt ≤ 12 * q.toInt - 1) : (sp_n q l n).toInt32.toInt = (sp_n q l n).toInt ∧ 0 ≤ (sp_n q l n).toInt ∧ (sp_n q l n).toInt ≤ 172799 := by
  have m0 : 0 ≤ n.toInt * l.toInt := Int.mul_nonneg hn.1 (by omega)
  have m1 : n.toInt * l.toInt ≤ 43200 * 172798 := Int.mul_le_mul (by omega) hl.2 (by omega) (by omega)
  have e1 : (n.toInt64 * l.toInt64).toInt = n.toInt * l.toInt := by rw [l_mul (by rw [l_of, l_of]; omega) (by rw [l_of, l_of]; omega), l_of, l_of]
  have t12 : (12 : Int64).toInt = 12 := rfl
  have e2 : (12 * q.toInt64).toInt = 12 * q.toInt := by rw [l_mul (by rw [t12, l_of]; omega) (by rw [t12, l_of]; omega), t12, l_of]
  have e3 : (n.toInt64 * l.toInt64 + 12 * q.toInt64).toInt = n.toInt * l.toInt + 12 * q.toInt := by rw [l_add (by omega) (by omega), e1, e2]
  have t1 : (1 : Int64).toInt = 1 := rfl
  have e4 : (n.toInt64 * l.toInt64 + 12 * q.toInt64 - 1).toInt = n.toInt * l.toInt + 12 * q.toInt - 1 := by rw [l_sub (by omega) (by omega), e3, t1]
  have e5 : (sp_n q l n).toInt = (n.toInt * l.toInt + 12 * q.toInt - 1) / (12 * q.toInt) := by
    unfold sp_n
    rw [l_div (by omega) (by omega), e4, e2]
  have m2 : n.toInt * l.toInt ≤ (12 * q.toInt - 1) * l.toInt := Int.mul_le_mul_of_nonneg_right hn.2 (by omega)
  have b0 : 0 ≤ (sp_n q l n).toInt := by
    rw [e5]
    exact Int.ediv_nonneg (by omega) (by omega)
  have b1 : (sp_n q l n).toInt ≤ 172799 := by
    have k : (sp_n q l n).toInt < l.toInt + 1 := by
      rw [e5]
      refine Int.ediv_lt_of_lt_mul (by omega) ?_
      have x1 : (12 * q.toInt - 1) * l.toInt = 12 * q.toInt * l.toInt - l.toInt := by rw [Int.sub_mul, Int.one_mul]
      have x2 : (l.toInt + 1) * (12 * q.toInt) = 12 * q.toInt * l.toInt + 12 * q.toInt := by rw [Int.add_mul, Int.one_mul, Int.mul_comm l.toInt]
      omega
    omega
  exact ⟨l_to (by omega) (by omega), b0, b1⟩
def sp_b (q n : Int32) : Option (Int × Int) → Int32
  | none => -2
  | some (u, l) => if l ≤ (sp_n q (Int32.ofInt l) n).toInt then -2 else Int32.ofInt u + (sp_n q (Int32.ofInt l) n).toInt32
noncomputable def sp_90 (T : Nat → Int32) (a b h n : Int32) : Int32 := if ¬ (0 ≤ a.toInt ∧ a.toInt < (T 0).toInt) ∨ ¬ (0 ≤ b.toInt ∧ b.toInt ≤ 35999) ∨ ¬ (0 ≤ h.toInt ∧ h.toInt ≤ 1) ∨ ¬ (0 ≤ n.toInt ∧ n.toInt ≤ 12 * (T 1).toInt - 1) then -1 else
  sp_b (T 1) n (hv_t T a.toInt.toNat b.toInt h.toInt)
theorem h01 {h : Int32} (k : 0 ≤ h.toInt ∧ h.toInt ≤ 1) : h = 0 ∨ h = 1 := by
  have k : h.toInt = 0 ∨ h.toInt = 1 := by omega
  exact k.elim (fun e => .inl (ti_eq.mpr e)) (fun e => .inr (ti_eq.mpr e))
theorem q12 {q : Int32} (hq : 1 ≤ q.toInt ∧ q.toInt ≤ 3600) : (12 * q - 1 : Int32).toInt = 12 * q.toInt - 1 := by
  have e : (12 * q : Int32).toInt = 12 * q.toInt := by
    rw [ti_mul (by rw [show (12 : Int32).toInt = 12 from rfl]; omega) (by rw [show (12 : Int32).toInt = 12 from rfl]; omega)]
    rfl
  rw [aa_sub32 (by rw [e, show (1 : Int32).toInt = 1 from rfl]; omega) (by rw [e, show (1 : Int32).toInt = 1 from rfl]; omega), e]
  rfl
theorem ck_90 {g : aa_G} (W : wd_g g) (a b h n : Int32) : (fn_90 g a b h n).1 = sp_90 (g 541) a b h n := by
  have hq := W.2.1
  have e21 := W.2.2.2.1
  unfold fn_90 sp_90
  rcases ct_at W a with ⟨t, ht, rfl, ht2, e1, -⟩ | ⟨n1, e1, -⟩
  · rw [e1]
    dsimp only
    by_cases zb : fn_77 b = 0
    · rw [if_pos zb, if_pos (.inr (.inl (ti_77z.mp zb)))]
    · have hb := ti_77n.mp zb
      rw [if_neg zb]
      unfold fn_91
      rw [e21]
      by_cases zh : fn_14 h 0 1 = 0
      · have hh : ¬ (0 ≤ h.toInt ∧ h.toInt ≤ 1) := ti_14z.mp zh
        rw [if_pos zh, if_neg (c := (0 : Int32) ≠ 0) (by decide), if_pos (.inr (.inr (.inl hh)))]
      · have hh : 0 ≤ h.toInt ∧ h.toInt ≤ 1 := ti_14n.mp zh
        rw [if_neg zh]
        by_cases zn : fn_14 n 0 (12 * g 541 1 - 1) = 0
        · have hn : ¬ (0 ≤ n.toInt ∧ n.toInt ≤ 12 * (g 541 1).toInt - 1) := by
            have k := ti_14z.mp zn
            rw [q12 hq] at k
            exact k
          rw [if_pos zn, if_neg (c := (0 : Int32) ≠ 0) (by decide), if_pos (.inr (.inr (.inr hn)))]
        · have hn : 0 ≤ n.toInt ∧ n.toInt ≤ 12 * (g 541 1).toInt - 1 := by
            have k := ti_14n.mp zn
            rw [q12 hq] at k
            exact k
          have hz : ¬ (¬ (0 ≤ (Int32.ofNat t).toInt ∧ (Int32.ofNat t).toInt < (g 541 0).toInt) ∨ ¬ (0 ≤ b.toInt ∧ b.toInt ≤ 35999) ∨ ¬ (0 ≤ h.toInt ∧ h.toInt ≤ 1) ∨ ¬ (0 ≤ n.toInt ∧ n.toInt ≤ 12 * (g 541 1).toInt - 1)) := by
            rw [zz_ofN (by omega)]
            omega
          rw [if_neg zn, if_pos (c := (1 : Int32) ≠ 0) (by decide), if_neg hz, zz_ofN (by omega), show ((t : Int).toNat) = t by omega]
          obtain ⟨f, -, -, m⟩ := (ck_look (g := g) (P := 461) (d := b) (h := h) W ht2 (by omega) (h01 hh)).1
          generalize fn_78 g 461 (some (5 * t + 14)) b h = G at f m ⊢
          have q21 : G 2 1 = g 541 1 := (f 2 1 (by omega)).trans e21
          unfold fn_90_45 fn_92
          dsimp only
          cases hv : hv_t (g 541) t b.toInt h.toInt with
          | none =>
            rw [hv] at m
            rw [if_pos (c := G 461 0 = 0) m.1]
            rfl
          | some r =>
            obtain ⟨u, l⟩ := r
            rw [hv] at m
            obtain ⟨m1, m2, m3⟩ := m
            obtain ⟨v1, v2, v3, v4, v5⟩ := hv_b W ht2 hv
            have hl : 1 ≤ (Int32.ofInt l).toInt ∧ (Int32.ofInt l).toInt ≤ 172798 := by
              rw [← of_ti m3, m3]
              omega
            obtain ⟨s1, s2, s3⟩ := sp_nb hq hl hn
            rw [if_neg (c := G 461 0 = 0) (by rw [m1]; decide), q21, if_pos (c := (1 : Int32) ≤ g 541 1) (aa_le32.mpr hq.1), of_ti m2, of_ti m3]
            unfold sp_b
            show (if 0 ≤ lg_cmp (sp_n (g 541 1) (Int32.ofInt l) n) (Int32.ofInt l).toInt64 then (-2 : Int32) else Int32.ofInt u + (sp_n (g 541 1) (Int32.ofInt l) n).toInt32) = _
            have e : 0 ≤ lg_cmp (sp_n (g 541 1) (Int32.ofInt l) n) (Int32.ofInt l).toInt64 ↔ l ≤ (sp_n (g 541 1) (Int32.ofInt l) n).toInt := by
              rw [l_cmp, l_of, ← of_ti m3, m3]
            dsimp only
            by_cases z : l ≤ (sp_n (g 541 1) (Int32.ofInt l) n).toInt
            · rw [if_pos (e.mpr z), if_pos z]
            · rw [if_neg (mt e.mp z), if_neg z]
  · have hz : ¬ (0 ≤ a.toInt ∧ a.toInt < (g 541 0).toInt) ∨ ¬ (0 ≤ b.toInt ∧ b.toInt ≤ 35999) ∨ ¬ (0 ≤ h.toInt ∧ h.toInt ≤ 1) ∨ ¬ (0 ≤ n.toInt ∧ n.toInt ≤ 12 * (g 541 1).toInt - 1) := .inl n1
    rw [e1, if_pos hz]
theorem mk_203 {g : aa_G} (W : wd_g g) (a b h n : Int32) : (fn_203 g a b h n).1 = sp_90 (g 541) a b h n := by
  have hq := W.2.1
  unfold fn_203 sp_90
  rcases ct_at W a with ⟨t, ht, rfl, ht2, -, e1⟩ | ⟨n1, -, e1⟩
  · by_cases hb : 0 ≤ b.toInt ∧ b.toInt ≤ 35999
    · rw [if_neg (c := fn_191 g (Int32.ofNat t) b = 0) (fun z => (ti_191.mp z).elim (fun y => by rw [e1] at y; exact absurd y (by decide)) (fun y => y hb))]
      unfold fn_204
      rw [show (1 : Int32).toNatClampNeg = 1 from rfl]
      by_cases zh : fn_154 h 0 1 = 0
      · have hh : ¬ (0 ≤ h.toInt ∧ h.toInt ≤ 1) := ti_154z.mp zh
        rw [if_pos zh, if_pos (c := (0 : Int32) = 0) rfl, if_pos (.inr (.inr (.inl hh)))]
      · have hh : 0 ≤ h.toInt ∧ h.toInt ≤ 1 := ti_154n.mp zh
        rw [if_neg zh]
        by_cases zn : fn_154 n 0 (12 * g 541 1 - 1) = 0
        · have hn : ¬ (0 ≤ n.toInt ∧ n.toInt ≤ 12 * (g 541 1).toInt - 1) := by
            have k := ti_154z.mp zn
            rw [q12 hq] at k
            exact k
          rw [if_pos zn, if_pos (c := (0 : Int32) = 0) rfl, if_pos (.inr (.inr (.inr hn)))]
        · have hn : 0 ≤ n.toInt ∧ n.toInt ≤ 12 * (g 541 1).toInt - 1 := by
            have k := ti_154n.mp zn
            rw [q12 hq] at k
            exact k
          have hz : ¬ (¬ (0 ≤ (Int32.ofNat t).toInt ∧ (Int32.ofNat t).toInt < (g 541 0).toInt) ∨ ¬ (0 ≤ b.toInt ∧ b.toInt ≤ 35999) ∨ ¬ (0 ≤ h.toInt ∧ h.toInt ≤ 1) ∨ ¬ (0 ≤ n.toInt ∧ n.toInt ≤ 12 * (g 541 1).toInt - 1)) := by
            rw [zz_ofN (by omega)]
            omega
          rw [if_neg zn, if_neg (c := (1 : Int32) = 0) (by decide), if_neg hz, zz_ofN (by omega), show ((t : Int).toNat) = t by omega]
          unfold fn_205
          generalize hg : fn_194 g (Int32.ofNat t) b h = G
          obtain ⟨v, G⟩ := G
          obtain ⟨f, m⟩ := mk_half W ht2 (h01 hh) hg
          have q : G 541 1 = g 541 1 := f 541 1 (by omega)
          unfold fn_205_7
          dsimp only
          cases hv : hv_t (g 541) t b.toInt h.toInt with
          | none =>
            rw [hv] at m
            have m : v = 0 := m
            rw [if_neg (c := v ≠ 0) (fun z => z m)]
            rfl
          | some r =>
            obtain ⟨u, l⟩ := r
            rw [hv] at m
            obtain ⟨m1, m2, m3⟩ := m
            obtain ⟨v1, v2, v3, v4, v5⟩ := hv_b W ht2 hv
            have hl : 1 ≤ (Int32.ofInt l).toInt ∧ (Int32.ofInt l).toInt ≤ 172798 := by
              rw [← of_ti m3, m3]
              omega
            obtain ⟨s1, s2, s3⟩ := sp_nb hq hl hn
            have e6 : fn_206 G n = (sp_n (g 541 1) (Int32.ofInt l) n).toInt32 := by
              unfold fn_206 sp_n
              rw [show (1 : Int32).toNatClampNeg = 1 from rfl, q, of_ti m3]
            rw [if_pos (c := v ≠ 0) (by rw [m1]; decide), e6, of_ti m2]
            have e : G 540 18 ≤ (sp_n (g 541 1) (Int32.ofInt l) n).toInt32 ↔ l ≤ (sp_n (g 541 1) (Int32.ofInt l) n).toInt := by
              rw [aa_le32, s1, m3]
            unfold sp_b
            dsimp only
            by_cases z : l ≤ (sp_n (g 541 1) (Int32.ofInt l) n).toInt
            · rw [if_pos (e.mpr z), if_pos z]
            · rw [if_neg (mt e.mp z), if_neg z]
    · rw [if_pos (c := fn_191 g (Int32.ofNat t) b = 0) (ti_191.mpr (.inr hb)), if_pos (.inr (.inl hb))]
  · rw [if_pos (c := fn_191 g a b = 0) (ti_191.mpr (.inl e1)), if_pos (.inl n1)]
theorem lq_90 {g : aa_G} {a0 a1 a2 a3 : Int32} (hi : aa_inv g) (hφ : aa_Phi g) (hR : lr_R g) : lq_ok true 90 203 [.int a0, .int a1, .int a2, .int a3] g :=
  lq_ask (y := fn_203 (fn_90 g a0 a1 a2 a3).2 a0 a1 a2 a3) hi hφ hR (ko_fw (ko_90 hi hφ) fun _ _ _ r => dn_90 r) (fun i1 p1 => ko_fw (ko_203 i1 p1) fun _ _ _ r => dn_203 r) (by decide +kernel) (by decide +kernel) (by decide +kernel) (by decide +kernel) (by decide +kernel) (by decide +kernel) fun W W2 e => by rw [ck_90 W, mk_203 W2, e]
