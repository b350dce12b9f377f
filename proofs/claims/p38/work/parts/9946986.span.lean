/-! (97, 231): both sides say the same -/
theorem fr_90 {g : aa_G} (W : wd_g g) (a b h n : Int32) : ∀ k j, k ≠ 461 → (fn_90 g a b h n).2 k j = g k j := by
  intro k j z
  unfold fn_90
  rcases ct_at W a with ⟨t, ht, rfl, ht2, e1, -⟩ | ⟨n1, e1, -⟩
  · rw [e1]
    dsimp only
    by_cases zb : fn_77 b = 0
    · rw [if_pos zb]
    · rw [if_neg zb]
      by_cases z1 : fn_91 g h n ≠ 0
      · rw [if_pos z1]
        have hh : h = 0 ∨ h = 1 := by
          unfold fn_91 at z1
          by_cases zh : fn_14 h 0 1 = 0
          · rw [if_pos zh] at z1
            exact absurd rfl z1
          · exact h01 (ti_14n.mp zh)
        have f := (ck_look (g := g) (P := 461) (d := b) (h := h) W ht2 (by omega) hh).1.1
        unfold fn_90_45
        exact f k j (by omega)
      · rw [if_neg z1]
  · rw [e1]
theorem mk_205 {g : aa_G} {t : Nat} {b h n : Int32} (W : wd_g g) (ht : (t : Int) < (g 541 0).toInt) (hh : 0 ≤ h.toInt ∧ h.toInt ≤ 1) (hn : 0 ≤ n.toInt ∧ n.toInt ≤ 12 * (g 541 1).toInt - 1) : (fn_205 g (Int32.ofNat t) b h n).1 = sp_b (g 541 1) n (hv_t (g 541) t b.toInt h.toInt) ∧ ∀ k j, ¬ (k = 540 ∧ 13 ≤ j ∧ j ≤ 18 ∧ j ≠ 16) → (fn_205 g (Int32.ofNat t) b h n).2 k j = g k j := by
  have hq := W.2.1
  unfold fn_205
  generalize hg : fn_194 g (Int32.ofNat t) b h = G
  obtain ⟨v, G⟩ := G
  obtain ⟨f, m⟩ := mk_half W ht (h01 hh) hg
  have q : G 541 1 = g 541 1 := f 541 1 (by omega)
  unfold fn_205_7
  dsimp only
  cases hv : hv_t (g 541) t b.toInt h.toInt with
  | none =>
    rw [hv] at m
    have m : v = 0 := m
    rw [if_neg (c := v ≠ 0) (fun z => z m)]
    exact ⟨rfl, f⟩
  | some r =>
    obtain ⟨u, l⟩ := r
    rw [hv] at m
    obtain ⟨m1, m2, m3⟩ := m
    obtain ⟨w1, w2⟩ := hv_bb W ht hv
    have hl : 1 ≤ (Int32.ofInt l).toInt ∧ (Int32.ofInt l).toInt ≤ 172798 := by
      rw [← of_ti m3, m3]
      omega
    obtain ⟨s1, s2, s3⟩ := sp_nb hq hl hn
    have e6 : fn_206 G n = (sp_n (g 541 1) (Int32.ofInt l) n).toInt32 := by
      unfold fn_206 sp_n
      rw [show (1 : Int32).toNatClampNeg = 1 from rfl, q, of_ti m3]
    rw [if_pos (c := v ≠ 0) (by rw [m1]; decide), e6, of_ti m2]
    have e : G 540 18 ≤ (sp_n (g 541 1) (Int32.ofInt l) n).toInt32 ↔ l ≤ (sp_n (g 541 1) (Int32.ofInt l) n).toInt := by
      rw [aa_le32, s1, m3]
    unfold sp_b
    dsimp only
    by_cases z : l ≤ (sp_n (g 541 1) (Int32.ofInt l) n).toInt
    · rw [if_pos (e.mpr z), if_pos z]
      exact ⟨rfl, f⟩
    · rw [if_neg (mt e.mp z), if_neg z]
      exact ⟨rfl, f⟩
/-- a moment, or -2 -/
theorem sp_bb {g : aa_G} {t : Nat} {n : Int32} {b h : Int} (W : wd_g g) (ht : (t : Int) < (g 541 0).toInt) (hn : 0 ≤ n.toInt ∧ n.toInt ≤ 12 * (g 541 1).toInt - 1) : sp_b (g 541 1) n (hv_t (g 541) t b h) = -2 ∨ 0 ≤ (sp_b (g 541 1) n (hv_t (g 541) t b h)).toInt := by
  have hq := W.2.1
  cases hv : hv_t (g 541) t b h with
  | none => exact .inl rfl
  | some r =>
    obtain ⟨u, l⟩ := r
    obtain ⟨w1, w2⟩ := hv_bb W ht hv
    have el : (Int32.ofInt l).toInt = l := Int32.toInt_ofInt_of_le (by omega) (by omega)
    have eu : (Int32.ofInt u).toInt = u := Int32.toInt_ofInt_of_le (by omega) (by omega)
    obtain ⟨s1, s2, s3⟩ := sp_nb hq (l := Int32.ofInt l) (by rw [el]; exact w2) hn
    unfold sp_b
    dsimp only
    by_cases z : l ≤ (sp_n (g 541 1) (Int32.ofInt l) n).toInt
    · rw [if_pos z]
      exact .inl rfl
    · rw [if_neg z]
      refine .inr ?_
      rw [aa_add32 (by rw [s1, eu]; omega) (by rw [s1, eu]; omega), s1, eu]
      omega
def sp_d (p q : Int32) : Int32 := if p = -2 then -1000000 else if q ≠ -2 then q - p else -1000000
noncomputable def sp_26 (T : Nat → Int32) (a b h n m : Int32) : Int32 := if ¬ (0 ≤ a.toInt ∧ a.toInt < (T 0).toInt) ∨ ¬ (0 ≤ b.toInt ∧ b.toInt ≤ 35999) ∨ ¬ (0 ≤ h.toInt ∧ h.toInt ≤ 1) ∨ ¬ (0 ≤ n.toInt ∧ n.toInt ≤ 12 * (T 1).toInt - 1) ∨ ¬ (0 ≤ m.toInt ∧ m.toInt ≤ 12 * (T 1).toInt - 1) then -1000000 else
  sp_d (sp_b (T 1) n (hv_t T a.toInt.toNat b.toInt h.toInt)) (sp_b (T 1) m (hv_t T a.toInt.toNat b.toInt h.toInt))
theorem ck_97 {g : aa_G} (W : wd_g g) (a b h n m : Int32) : (fn_97 g a b h n m).1 = sp_26 (g 541) a b h n m := by
  have f1 := fr_90 W a b h n
  have W2 : wd_g (fn_90 g a b h n).2 := wd_of W (fun k j z => f1 k j (by omega))
  have e541 : (fn_90 g a b h n).2 541 = g 541 := funext fun j => f1 541 j (by omega)
  have v1 := ck_90 W a b h n
  have v2 := ck_90 W2 a b h m
  rw [e541] at v2
  unfold fn_97 fn_97_9 fn_97_20
  rw [v1, v2]
  unfold sp_26
  have neg : ∀ x : Int32, x = -1 ∨ x = -2 → x < 0 := fun x h => h.elim (fun e => by rw [e]; decide) (fun e => by rw [e]; decide)
  by_cases z : ¬ (0 ≤ a.toInt ∧ a.toInt < (g 541 0).toInt) ∨ ¬ (0 ≤ b.toInt ∧ b.toInt ≤ 35999) ∨ ¬ (0 ≤ h.toInt ∧ h.toInt ≤ 1) ∨ ¬ (0 ≤ n.toInt ∧ n.toInt ≤ 12 * (g 541 1).toInt - 1)
  · have e : sp_90 (g 541) a b h n = -1 := by unfold sp_90; rw [if_pos z]
    rw [e, if_pos (c := (-1 : Int32) < 0) (by decide), if_pos (by omega)]
  · have e : sp_90 (g 541) a b h n = sp_b (g 541 1) n (hv_t (g 541) a.toInt.toNat b.toInt h.toInt) := by unfold sp_90; rw [if_neg z]
    have ht : ((a.toInt.toNat : Nat) : Int) < (g 541 0).toInt := by omega
    rw [e]
    by_cases z2 : 0 ≤ m.toInt ∧ m.toInt ≤ 12 * (g 541 1).toInt - 1
    · have e2 : sp_90 (g 541) a b h m = sp_b (g 541 1) m (hv_t (g 541) a.toInt.toNat b.toInt h.toInt) := by unfold sp_90; rw [if_neg (by omega)]
      rw [e2, if_neg (c := ¬ (0 ≤ a.toInt ∧ a.toInt < (g 541 0).toInt) ∨ ¬ (0 ≤ b.toInt ∧ b.toInt ≤ 35999) ∨ ¬ (0 ≤ h.toInt ∧ h.toInt ≤ 1) ∨ ¬ (0 ≤ n.toInt ∧ n.toInt ≤ 12 * (g 541 1).toInt - 1) ∨ ¬ (0 ≤ m.toInt ∧ m.toInt ≤ 12 * (g 541 1).toInt - 1)) (by omega)]
      have b1 := sp_bb (b := b.toInt) (h := h.toInt) W ht (n := n) (by omega)
      have b2 := sp_bb (b := b.toInt) (h := h.toInt) W ht (n := m) z2
      generalize sp_b (g 541 1) n (hv_t (g 541) a.toInt.toNat b.toInt h.toInt) = p at b1 ⊢
      generalize sp_b (g 541 1) m (hv_t (g 541) a.toInt.toNat b.toInt h.toInt) = q at b2 ⊢
      unfold sp_d
      by_cases p2 : p = -2
      · rw [if_pos p2, if_pos (c := p < 0) (neg p (.inr p2))]
      · have b1 := b1.resolve_left p2
        rw [if_neg p2, if_neg (c := p < 0) (fun h => by have := ti_lt.mp h; rw [show (0 : Int32).toInt = 0 from rfl] at this; omega)]
        by_cases q2 : q = -2
        · rw [if_neg (c := q ≠ -2) (fun z => z q2), if_neg (c := (0 : Int32) ≤ q) (by rw [q2]; decide)]
        · have b2 := b2.resolve_left q2
          rw [if_pos (c := q ≠ -2) q2, if_pos (c := (0 : Int32) ≤ q) (aa_le32.mpr b2)]
    · have e2 : sp_90 (g 541) a b h m = -1 := by unfold sp_90; rw [if_pos (.inr (.inr (.inr z2)))]
      rw [e2, if_pos (c := ¬ (0 ≤ a.toInt ∧ a.toInt < (g 541 0).toInt) ∨ ¬ (0 ≤ b.toInt ∧ b.toInt ≤ 35999) ∨ ¬ (0 ≤ h.toInt ∧ h.toInt ≤ 1) ∨ ¬ (0 ≤ n.toInt ∧ n.toInt ≤ 12 * (g 541 1).toInt - 1) ∨ ¬ (0 ≤ m.toInt ∧ m.toInt ≤ 12 * (g 541 1).toInt - 1)) (.inr (.inr (.inr (.inr z2))))]
      split
      · rfl
      · rw [if_neg (c := (0 : Int32) ≤ -1) (by decide)]
theorem ti_204 {g : aa_G} {h n : Int32} (hq : 1 ≤ (g 541 1).toInt ∧ (g 541 1).toInt ≤ 3600) : fn_204 g h n = 0 ↔ ¬ ((0 ≤ h.toInt ∧ h.toInt ≤ 1) ∧ (0 ≤ n.toInt ∧ n.toInt ≤ 12 * (g 541 1).toInt - 1)) := by
  unfold fn_204
  rw [show (1 : Int32).toNatClampNeg = 1 from rfl]
  by_cases zh : fn_154 h 0 1 = 0
  · have hh : ¬ (0 ≤ h.toInt ∧ h.toInt ≤ 1) := ti_154z.mp zh
    rw [if_pos zh]
    exact ⟨fun _ k => hh k.1, fun _ => rfl⟩
  · have hh : 0 ≤ h.toInt ∧ h.toInt ≤ 1 := ti_154n.mp zh
    rw [if_neg zh]
    have E : fn_154 n 0 (12 * g 541 1 - 1) = 0 ↔ ¬ (0 ≤ n.toInt ∧ n.toInt ≤ 12 * (g 541 1).toInt - 1) := by rw [ti_154z, q12 hq, show (0 : Int32).toInt = 0 from rfl]
    by_cases zn : fn_154 n 0 (12 * g 541 1 - 1) = 0
    · rw [if_pos zn]
      exact ⟨fun _ k => E.mp zn k.2, fun _ => rfl⟩
    · rw [if_neg zn]
      exact ⟨fun h => absurd h (by decide), fun k => absurd ⟨hh, Decidable.not_not.mp (mt E.mpr zn)⟩ k⟩
theorem mk_231 {g : aa_G} (W : wd_g g) (a b h n m : Int32) : (fn_231 g a b h n m).1 = sp_26 (g 541) a b h n m := by
  have hq := W.2.1
  unfold fn_231 sp_26
  rcases ct_at W a with ⟨t, ht, rfl, ht2, -, e1⟩ | ⟨n1, -, e1⟩
  · by_cases hb : 0 ≤ b.toInt ∧ b.toInt ≤ 35999
    · rw [if_neg (c := fn_191 g (Int32.ofNat t) b = 0) (fun z => (ti_191.mp z).elim (fun y => by rw [e1] at y; exact absurd y (by decide)) (fun y => y hb))]
      by_cases z1 : fn_204 g h n = 0
      · have k := (ti_204 hq).mp z1
        rw [if_pos z1, if_pos (c := ¬ (0 ≤ (Int32.ofNat t).toInt ∧ (Int32.ofNat t).toInt < (g 541 0).toInt) ∨ ¬ (0 ≤ b.toInt ∧ b.toInt ≤ 35999) ∨ ¬ (0 ≤ h.toInt ∧ h.toInt ≤ 1) ∨ ¬ (0 ≤ n.toInt ∧ n.toInt ≤ 12 * (g 541 1).toInt - 1) ∨ ¬ (0 ≤ m.toInt ∧ m.toInt ≤ 12 * (g 541 1).toInt - 1)) (by omega)]
      · have k := Decidable.not_not.mp (mt (ti_204 hq).mpr z1)
        rw [if_neg z1]
        by_cases z2 : fn_204 g h m = 0
        · have k2 := (ti_204 hq).mp z2
          rw [if_neg (c := fn_204 g h m ≠ 0) (fun z => z z2), if_pos (c := ¬ (0 ≤ (Int32.ofNat t).toInt ∧ (Int32.ofNat t).toInt < (g 541 0).toInt) ∨ ¬ (0 ≤ b.toInt ∧ b.toInt ≤ 35999) ∨ ¬ (0 ≤ h.toInt ∧ h.toInt ≤ 1) ∨ ¬ (0 ≤ n.toInt ∧ n.toInt ≤ 12 * (g 541 1).toInt - 1) ∨ ¬ (0 ≤ m.toInt ∧ m.toInt ≤ 12 * (g 541 1).toInt - 1)) (by omega)]
        · have k2 := Decidable.not_not.mp (mt (ti_204 hq).mpr z2)
          rw [if_pos (c := fn_204 g h m ≠ 0) z2, if_neg (c := ¬ (0 ≤ (Int32.ofNat t).toInt ∧ (Int32.ofNat t).toInt < (g 541 0).toInt) ∨ ¬ (0 ≤ b.toInt ∧ b.toInt ≤ 35999) ∨ ¬ (0 ≤ h.toInt ∧ h.toInt ≤ 1) ∨ ¬ (0 ≤ n.toInt ∧ n.toInt ≤ 12 * (g 541 1).toInt - 1) ∨ ¬ (0 ≤ m.toInt ∧ m.toInt ≤ 12 * (g 541 1).toInt - 1)) (by rw [zz_ofN (by omega)]; omega), zz_ofN (by omega), show ((t : Int).toNat) = t by omega]
          obtain ⟨v1, f1⟩ := mk_205 (b := b) W ht2 k.1 k.2
          have W2 : wd_g (fn_205 g (Int32.ofNat t) b h n).2 := wd_of W (fun k j z => f1 k j (by omega))
          have e541 : (fn_205 g (Int32.ofNat t) b h n).2 541 = g 541 := funext fun j => f1 541 j (by omega)
          obtain ⟨v2, -⟩ := mk_205 (b := b) (n := m) W2 (by rw [e541]; exact ht2) k.1 (by rw [e541]; exact k2.2)
          rw [e541] at v2
          unfold fn_231_42 fn_231_53
          rw [v1, v2]
          unfold sp_d
          repeat' split
          all_goals rfl
    · rw [if_pos (c := fn_191 g (Int32.ofNat t) b = 0) (ti_191.mpr (.inr hb)), if_pos (.inr (.inl hb))]
  · rw [if_pos (c := fn_191 g a b = 0) (ti_191.mpr (.inl e1)), if_pos (.inl n1)]
theorem lq_97 {g : aa_G} {a0 a1 a2 a3 a4 : Int32} (hi : aa_inv g) (hφ : aa_Phi g) (hR : lr_R g) : lq_ok true 97 231 [.int a0, .int a1, .int a2, .int a3, .int a4] g :=
  lq_ask (y := fn_231 (fn_97 g a0 a1 a2 a3 a4).2 a0 a1 a2 a3 a4) hi hφ hR (ko_fw (ko_97 hi hφ) fun _ _ _ r => dn_97 r) (fun i1 p1 => ko_fw (ko_231 i1 p1) fun _ _ _ r => dn_231 r) (by decide +kernel) (by decide +kernel) (by decide +kernel) (by decide +kernel) (by decide +kernel) (by decide +kernel) fun W W2 e => by rw [ck_97 W, mk_231 W2, e]
