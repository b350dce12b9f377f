/-! (131, 245): both sides say the same -/
/-- which town, and how long its half is -/
def sd_ok (T : Nat → Int32) (d : Int) (c x : Int32) : Prop := ∃ k : Nat, k < 4 ∧ (k : Int) < (T 0).toInt ∧ c = Int32.ofNat k ∧ ∃ u l : Int, hv_t T k d 0 = some (u, l) ∧ x.toInt = l
theorem sd_len {g Y : aa_G} {d c x : Int32} (h : sd_ok (g 541) d.toInt c x) (W : wd_g Y) (e : Y 541 = g 541) : wd_g (fn_222 Y c d).2 ∧ (fn_222 Y c d).2 541 = g 541 ∧ (fn_222 Y c d).1 = x := by
  obtain ⟨k, k1, k2, rfl, u, l, k3, k4⟩ := h
  obtain ⟨z1, z2, -, z3⟩ := lv_len d W (t := k) (by rw [e]; exact k2)
  rw [e, k3] at z3
  have z3 : (fn_222 Y (Int32.ofNat k) d).1.toInt = l := z3
  exact ⟨z1, z2.trans e, ti_eq.mpr (z3.trans k4.symm)⟩
theorem sd_n2 {T : Nat → Int32} {d : Int} {c x : Int32} (h : sd_ok T d c x) : ¬ c = -2 := by
  obtain ⟨k, k1, -, rfl, -⟩ := h
  intro z
  have := ti_eq.mp z
  rw [zz_ofN (by omega), i_m2] at this
  omega
theorem ak_131 {g g2 : aa_G} (W : wd_g g) (W2 : wd_g g2) (e : g2 541 = g 541) (d w : Int32) : (fn_131 g d w).1 = (fn_245 g2 d w).1 := by
  have e0 : g2 541 0 = g 541 0 := by rw [e]
  unfold fn_131 fn_245
  by_cases hd : 0 ≤ d.toInt ∧ d.toInt ≤ 35999
  · rw [if_neg (c := fn_77 d = 0) (fun z => ti_77z.mp z hd), if_neg (c := fn_193 d = 0) (fun z => ti_193z.mp z hd)]
    by_cases hw : 0 ≤ w.toInt ∧ w.toInt ≤ 2
    · rw [if_pos (c := fn_14 w 0 2 ≠ 0) (ti_14n.mpr hw), if_pos (c := fn_154 w 0 2 ≠ 0) (ti_154n.mpr hw)]
      unfold fn_131_34 fn_245_28
      have n4 := W.1
      have z0 : (0 : Int32).toNatClampNeg = 0 := rfl
      refine lp_two1 (fun (n' : Nat) (s : aa_G × Int32 × Int32 × Int32 × Int32 × Int32) (t' : aa_G × Int32 × Int32 × Int32) => s.2.2.2.2.2.toInt + n' = (g 541 0).toInt ∧ 0 ≤ s.2.2.2.2.2.toInt ∧ (s.2.1 = t'.2.1 ∧ s.2.2.1 = t'.2.2.1 ∧ s.2.2.2.2.2 = t'.2.2.2) ∧ ((s.2.1 = -2 ∧ s.2.2.1 = -2) ∨ (sd_ok (g 541) d.toInt s.2.1 s.2.2.2.1 ∧ sd_ok (g 541) d.toInt s.2.2.1 s.2.2.2.2.1)) ∧ (wd_g s.1 ∧ s.1 541 = g 541) ∧ (wd_g t'.1 ∧ t'.1 541 = g 541)) ?_ ?_ (g 541 0).toInt.toNat _ _ ⟨by show (0 : Int) + _ = _; omega, by first | decide | (dsimp only; decide), ⟨rfl, rfl, rfl⟩, .inl ⟨rfl, rfl⟩, ⟨W, rfl⟩, ⟨W2, e⟩⟩
      · rintro n' ⟨X, p, q, x, y, i⟩ ⟨Y, p', q', j⟩ ⟨r1, r2, ⟨r3, r4, r5⟩, r6, ⟨w1, w2⟩, w3, w4⟩
        dsimp only at r1 r2 r3 r4 r5 r6 w1 w2 w3 w4 ⊢
        subst r3 r4 r5
        have es : (i + 1).toInt = i.toInt + 1 := i_suc (by omega) (by omega)
        obtain ⟨t, ht, hat, ht2, c1, -⟩ := gt_s w1 (a := i) (by rw [w2]; omega)
        have x20 : X 2 0 = g 541 0 := w1.2.2.1.trans (by rw [w2])
        have y20 : Y 541 (0 : Int32).toNatClampNeg = g 541 0 := by rw [w4, z0]
        have n1 : ¬ g 541 0 ≤ i := fun z => by have := aa_le32.mp z; omega
        unfold fn_131_34b fn_245_28b
        rw [x20, y20, if_neg n1, if_neg n1, c1]
        obtain ⟨x1, x2, -, v1, -⟩ := lv_look 461 d 0 w1 ht2 (by omega) (.inl rfl)
        obtain ⟨z1, z2, -, v3⟩ := lv_len d w3 (t := t) (by rw [w4, ← w2]; exact ht2)
        rw [w2, i_0] at v1
        rw [w4] at v3
        rw [w2] at ht2
        have sd : ∀ v : Int32, (∃ u l : Int, hv_t (g 541) t d.toInt 0 = some (u, l) ∧ v.toInt = l) → sd_ok (g 541) d.toInt i v := fun v h => ⟨t, ht, ht2, hat, h⟩
        rw [← hat] at z1 z2 v3
        generalize fn_78 X 461 (some (5 * t + 14)) d 0 = X' at x1 x2 v1 ⊢
        generalize fn_222 Y i d = Y' at z1 z2 v3 ⊢
        have x2 := x2.trans w2
        have z2 := z2.trans w4
        unfold fn_131_64 fn_245_46
        cases hr : hv_t (g 541) t d.toInt 0 with
        | none =>
          rw [hr] at v1 v3
          have v3 : Y'.1 = -1 := v3
          unfold fn_131_104 fn_131_146 fn_245_109
          rw [if_pos (lv_c0 v1), if_pos (lv_c0 v1), if_neg (c := Y'.1 ≠ -1) (fun z => z v3)]
          exact .inl ⟨_, _, rfl, rfl, by first | omega | (dsimp only; omega), by first | omega | (dsimp only; omega), ⟨rfl, rfl, rfl⟩, r6, ⟨x1, x2⟩, z1, z2⟩
        | some r =>
          obtain ⟨u', l'⟩ := r
          have hl := hv_bb W ht2 hr
          have sd1 : ∀ v : Int32, v.toInt = l' → sd_ok (g 541) d.toInt i v := fun v h => sd v ⟨u', l', hr, h⟩
          rw [hr] at v1 v3
          have v3 : Y'.1.toInt = l' := v3
          have e4 : X' 461 4 = Y'.1 := ti_eq.mpr (v1.2.2.trans v3.symm)
          have s0 := sd1 _ v3
          rw [if_neg (c := X' 461 0 = 0) (by rw [lv_c1 v1]; decide), if_pos (c := Y'.1 ≠ -1) (fun z => by rw [z, i_m1] at v3; omega), e4]
          have c0 : ¬ X' 461 0 = 0 := by rw [lv_c1 v1]; decide
          rcases r6 with ⟨rfl, rfl⟩ | ⟨s3, s4⟩
          · unfold fn_131_92 fn_131_104 fn_131_133 fn_131_146 fn_245_74 fn_245_80 fn_245_100 fn_245_107 fn_245_109
            rw [if_pos (c := (-2 : Int32) = -2) rfl, if_neg c0, if_pos (c := (-2 : Int32) = -2) rfl, if_pos (c := (-2 : Int32) = -2) rfl, e4]
            exact .inl ⟨_, _, rfl, rfl, by first | omega | (dsimp only; omega), by first | omega | (dsimp only; omega), ⟨rfl, rfl, rfl⟩, .inr ⟨s0, s0⟩, ⟨x1, x2⟩, z1, z2⟩
          · have m3 := sd_n2 s3
            have m4 := sd_n2 s4
            rw [if_neg m3, if_neg m3]
            unfold fn_245_71
            obtain ⟨a1, a2, a3⟩ := sd_len s3 z1 z2
            rw [a3]
            -- the second half: which town is the least one
            have low : ∀ (p2 x2' : Int32) (U : aa_G), sd_ok (g 541) d.toInt p2 x2' → wd_g U → U 541 = g 541 → (∃ s' t', fn_131_104 X' d w p2 q x2' y i = .inl s' ∧ fn_245_80 U d w q i Y'.1 p2 = .inl t' ∧ (s'.2.2.2.2.2.toInt + n' = (g 541 0).toInt ∧ 0 ≤ s'.2.2.2.2.2.toInt ∧ (s'.2.1 = t'.2.1 ∧ s'.2.2.1 = t'.2.2.1 ∧ s'.2.2.2.2.2 = t'.2.2.2) ∧ ((s'.2.1 = -2 ∧ s'.2.2.1 = -2) ∨ (sd_ok (g 541) d.toInt s'.2.1 s'.2.2.2.1 ∧ sd_ok (g 541) d.toInt s'.2.2.1 s'.2.2.2.2.1)) ∧ (wd_g s'.1 ∧ s'.1 541 = g 541) ∧ (wd_g t'.1 ∧ t'.1 541 = g 541))) := by
              intro p2 x2' U h1 h2 h3
              obtain ⟨b1, b2, b3⟩ := sd_len s4 h2 h3
              unfold fn_131_104 fn_131_133 fn_131_146 fn_245_80 fn_245_97 fn_245_100 fn_245_107 fn_245_109
              rw [if_neg c0, if_neg m4, if_neg m4, b3, e4]
              by_cases z : y ≤ Y'.1
              · rw [if_pos z, if_pos z]
                exact ⟨_, _, rfl, rfl, by first | omega | (dsimp only; omega), by first | omega | (dsimp only; omega), ⟨rfl, rfl, rfl⟩, .inr ⟨h1, s4⟩, ⟨x1, x2⟩, b1, b2⟩
              · rw [if_neg z, if_neg z]
                exact ⟨_, _, rfl, rfl, by first | omega | (dsimp only; omega), by first | omega | (dsimp only; omega), ⟨rfl, rfl, rfl⟩, .inr ⟨h1, s0⟩, ⟨x1, x2⟩, b1, b2⟩
            by_cases z : Y'.1 ≤ x
            · rw [if_pos z, if_pos z]
              exact .inl (low p x _ s3 a1 a2)
            · rw [if_neg z, if_neg z]
              unfold fn_131_92 fn_245_74
              rw [e4]
              exact .inl (low i Y'.1 _ s0 a1 a2)
      · rintro ⟨X, p, q, x, y, i⟩ ⟨Y, p', q', j⟩ ⟨r1, r2, ⟨r3, r4, r5⟩, r6, ⟨w1, w2⟩, w3, w4⟩
        dsimp only at r1 r2 r3 r4 r5 r6 w1 w2 w3 w4 ⊢
        subst r3 r4 r5
        have x20 : X 2 0 = g 541 0 := w1.2.2.1.trans (by rw [w2])
        have y20 : Y 541 (0 : Int32).toNatClampNeg = g 541 0 := by rw [w4, z0]
        have n1 : g 541 0 ≤ i := aa_le32.mpr (by omega)
        unfold fn_131_34b fn_245_28b
        rw [x20, y20, if_pos n1, if_pos n1]
        by_cases k0 : w = 0
        · rw [if_neg (c := w ≠ 0) (fun z => z k0), if_neg (c := w ≠ 0) (fun z => z k0)]
          exact ⟨_, _, rfl, rfl, rfl⟩
        · rw [if_pos (c := w ≠ 0) k0, if_pos (c := w ≠ 0) k0]
          by_cases k1 : w = 1
          · rw [if_neg (c := w ≠ 1) (fun z => z k1), if_neg (c := w ≠ 1) (fun z => z k1)]
            exact ⟨_, _, rfl, rfl, rfl⟩
          · rw [if_pos (c := w ≠ 1) k1, if_pos (c := w ≠ 1) k1]
            rcases r6 with ⟨rfl, rfl⟩ | ⟨s3, s4⟩
            · rw [if_neg (c := (-2 : Int32) ≠ -2) (fun z => z rfl), if_neg (c := (-2 : Int32) ≠ -2) (fun z => z rfl)]
              exact ⟨_, _, rfl, rfl, rfl⟩
            · have m3 := sd_n2 s3
              rw [if_pos (c := p ≠ -2) m3, if_pos (c := p ≠ -2) m3]
              obtain ⟨a1, a2, a3⟩ := sd_len s3 w3 w4
              obtain ⟨b1, b2, b3⟩ := sd_len s4 a1 a2
              unfold fn_245_150
              rw [a3, b3]
              exact ⟨_, _, rfl, rfl, rfl⟩
    · rw [if_neg (c := fn_14 w 0 2 ≠ 0) (mt ti_14n.mp hw), if_neg (c := fn_154 w 0 2 ≠ 0) (mt ti_154n.mp hw)]
  · rw [if_pos (c := fn_77 d = 0) (ti_77z.mpr hd), if_pos (c := fn_193 d = 0) (ti_193z.mpr hd)]
theorem lq_131 {g : aa_G} {a0 a1 : Int32} (hi : aa_inv g) (hφ : aa_Phi g) (hR : lr_R g) : lq_ok true 131 245 [.int a0, .int a1] g :=
  lq_ask (y := fn_245 (fn_131 g a0 a1).2 a0 a1) hi hφ hR (ko_fw (ko_131 hi hφ) fun _ _ _ r => dn_131 r) (fun i1 p1 => ko_fw (ko_245 i1 p1) fun _ _ _ r => dn_245 r) (by decide +kernel) (by decide +kernel) (by decide +kernel) (by decide +kernel) (by decide +kernel) (by decide +kernel) fun W W2 e => ak_131 W W2 e a0 a1
