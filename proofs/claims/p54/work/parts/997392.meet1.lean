/-! (132, 228): both sides say the same -/
theorem cm_f {g X : aa_G} {y b k p q i : Int32} {t1 t2 : Nat} (W0 : wd_g g) (W : wd_g X) (eX : X 541 = g 541) (h1 : (t1 : Int) < (g 541 0).toInt) (h2 : (t2 : Int) < (g 541 0).toInt) (hy : 0 ≤ y.toInt ∧ y.toInt ≤ 23) (hi : -3 ≤ i.toInt ∧ i.toInt ≤ 3) (n2 : X 461 0 = 1) : ∃ Y : aa_G, wd_g Y ∧ Y 541 = g 541 ∧ Y 461 = X 461 ∧
    ((hv_t (g 541) t2 (b + i).toInt (y / 12).toInt = none ∧ fn_132_115b X y b k (5 * t1 + 14) (5 * t2 + 14) p q i = .inl (Y, i + 1)) ∨
    (∃ (u l : Int) (A B : Int32), hv_t (g 541) t2 (b + i).toInt (y / 12).toInt = some (u, l) ∧ A.toInt = u + ((y - y / 12 * 12).toInt * l + 11) / 12 + i.toInt * 86400 - ((g 541 (50 * t2 + 3)).toInt - (g 541 (50 * t1 + 3)).toInt) ∧ B.toInt = u + (((y - y / 12 * 12).toInt + 1) * l + 11) / 12 + i.toInt * 86400 - ((g 541 (50 * t2 + 3)).toInt - (g 541 (50 * t1 + 3)).toInt) ∧ fn_132_115b X y b k (5 * t1 + 14) (5 * t2 + 14) p q i = if mn_2 B q ≤ mx_2 p A then .inl (Y, i + 1) else .inr (if k ≠ 0 then mn_2 B q - mx_2 p A else mx_2 p A, Y))) := by
  have o1 := (W0.2.2.2.2.2 t1 h1).2.2.1
  have o2 := (W0.2.2.2.2.2 t2 h2).2.2.1
  obtain ⟨hh, hy1, hy2⟩ := h_of hy
  obtain ⟨Y, a1, a2, a3, a4⟩ := cm_day (X := X) (y := y) (b := b) (k := k) (p := p) (q := q) (i := i) (t1 := t1) (t2 := t2) W (by rw [eX]; exact h1) (by rw [eX]; exact h2) hy (fun z => by have := ti_lt.mp z; rw [i_3] at this; omega) (by rw [n2]; decide)
  rw [eX] at a4
  refine ⟨Y, a1, a2.trans eX, a3, ?_⟩
  cases hr : hv_t (g 541) t2 (b + i).toInt (y / 12).toInt with
  | none =>
    rw [hr] at a4
    exact .inl ⟨rfl, a4⟩
  | some r =>
    obtain ⟨u, l⟩ := r
    rw [hr] at a4
    obtain ⟨P, Q, k2, k3, k4⟩ := a4
    obtain ⟨w1, w2⟩ := hv_bb W0 h2 hr
    obtain ⟨b1, b2, b3, b4, b5, b6⟩ := ho_b (y := (y - y / 12 * 12).toInt) ⟨hy1, hy2⟩ w2
    obtain ⟨P1, P2⟩ := ho_v (x := y - y / 12 * 12) rfl ⟨hy1, hy2⟩ k2 k3 w1 w2
    refine .inr ⟨u, l, _, _, rfl, mt_v P1 (by omega) (by omega) o2 o1, mt_v P2 (by omega) (by omega) o2 o1, k4⟩
theorem mm_f {g Y : aa_G} {a y b k p q c w j i : Int32} {t1 t2 : Nat} (W0 : wd_g g) (W : wd_g Y) (eY : Y 541 = g 541) (h1 : (t1 : Int) < (g 541 0).toInt) (h2 : (t2 : Int) < (g 541 0).toInt) (x1 : a / 4 = Int32.ofNat t1) (x2 : a - a / 4 * 4 = Int32.ofNat t2) (hy : 0 ≤ y.toInt ∧ y.toInt ≤ 23) (hb : 0 ≤ b.toInt ∧ b.toInt ≤ 35999) (hi : -4 ≤ i.toInt ∧ i.toInt ≤ 4) (hj : j.toInt = b.toInt + i.toInt) : ∃ Z : aa_G, wd_g Z ∧ Z 541 = g 541 ∧
    ((hv_t (g 541) t2 j.toInt (y / 12).toInt = none ∧ fn_228_115b Y a y b k p q c w j = .inl (Z, c, w, j + 1)) ∨
    (∃ (u l : Int) (A B : Int32), hv_t (g 541) t2 j.toInt (y / 12).toInt = some (u, l) ∧ A.toInt = u + ((y - y / 12 * 12).toInt * l + 11) / 12 + i.toInt * 86400 - ((g 541 (50 * t2 + 3)).toInt - (g 541 (50 * t1 + 3)).toInt) ∧ B.toInt = u + (((y - y / 12 * 12).toInt + 1) * l + 11) / 12 + i.toInt * 86400 - ((g 541 (50 * t2 + 3)).toInt - (g 541 (50 * t1 + 3)).toInt) ∧ fn_228_115b Y a y b k p q c w j = if mn_2 B q ≤ mx_2 p A then .inl (Z, c, w, j + 1) else if c = -1000000 ∨ mx_2 p A < c then .inl (Z, mx_2 p A, mn_2 B q - mx_2 p A, j + 1) else .inl (Z, c, w, j + 1))) := by
  have n4 := W0.1
  have o1 := (W0.2.2.2.2.2 t1 h1).2.2.1
  have o2 := (W0.2.2.2.2.2 t2 h2).2.2.1
  obtain ⟨hh, hy1, hy2⟩ := h_of hy
  have e4 : (b + 4).toInt = b.toInt + 4 := aa_add32 (by rw [show (4 : Int32).toInt = 4 from rfl]; omega) (by rw [show (4 : Int32).toInt = 4 from rfl]; omega)
  have ej : j - b = i := ti_eq.mpr (by rw [aa_sub32 (by omega) (by omega)]; omega)
  obtain ⟨Z, a1, a2, a4⟩ := mm_day (Y := Y) (a := a) (y := y) (b := b) (k := k) (p := p) (q := q) (c := c) (w := w) (j := j) (t1 := t1) (t2 := t2) W (by omega) (by omega) x1 x2 (by rw [eY]; exact h2) hy (fun z => by have := ti_lt.mp z; omega)
  rw [eY, ej] at a4
  refine ⟨Z, a1, a2.trans eY, ?_⟩
  cases hr : hv_t (g 541) t2 j.toInt (y / 12).toInt with
  | none =>
    rw [hr] at a4
    exact .inl ⟨rfl, a4⟩
  | some r =>
    obtain ⟨u, l⟩ := r
    rw [hr] at a4
    obtain ⟨P, Q, k2, k3, k4⟩ := a4
    obtain ⟨w1, w2⟩ := hv_bb W0 h2 hr
    obtain ⟨b1, b2, b3, b4, b5, b6⟩ := ho_b (y := (y - y / 12 * 12).toInt) ⟨hy1, hy2⟩ w2
    obtain ⟨P1, P2⟩ := ho_v (x := y - y / 12 * 12) rfl ⟨hy1, hy2⟩ k2 k3 w1 w2
    rw [mt_same, mt_same] at k4
    refine .inr ⟨u, l, _, _, rfl, mt_v P1 (by omega) (by omega) o2 o1, mt_v P2 (by omega) (by omega) o2 o1, k4⟩
/-- where both loops stand -/
def me_A (T : Nat → Int32) (b p : Int32) (s : aa_G × Int32) (t : aa_G × Int32 × Int32 × Int32) : Prop := t.2.1 = -1000000 ∧ s.1 461 0 = 1 ∧ ((-3 ≤ s.2.toInt ∧ s.2.toInt ≤ 3 ∧ t.2.2.2.toInt = b.toInt + s.2.toInt) ∨ (s.2.toInt = -3 ∧ t.2.2.2.toInt = b.toInt - 4) ∨ (s.2.toInt = 4 ∧ b.toInt + 4 ≤ t.2.2.2.toInt))
def me_B (T : Nat → Int32) (f : aa_G × Int32 → (aa_G × Int32) ⊕ (Int32 × aa_G)) (t2 : Nat) (b k : Int32) (h o : Int) (s : aa_G × Int32) (t : aa_G × Int32 × Int32 × Int32) : Prop := ∃ (F V : Int32) (U : aa_G), f s = .inr (if k ≠ 0 then V - F else F, U) ∧ t.2.1 = F ∧ t.2.2.1 = V - F ∧ ¬ F = -1000000 ∧ ∃ i u l : Int, hv_t T t2 (b.toInt + i) h = some (u, l) ∧ b.toInt + i < t.2.2.2.toInt ∧ F.toInt < u + l + 86400 * i - o
theorem ak_132 {g g2 : aa_G} (W : wd_g g) (W2 : wd_g g2) (e : g2 541 = g 541) (a x y b k : Int32) : (fn_132 g a x y b k).1 = (fn_228 g2 a x y b k).1 := by
  have e0 : g2 541 0 = g 541 0 := by rw [e]
  have e1 : g2 541 1 = g 541 1 := by rw [e]
  rcases gk_at W a with ⟨t1, t2, ⟨ht1, hat1, hu1⟩, ⟨ht2, hat2, hu2⟩, ⟨c1, c2⟩, ha1, ha2, ha3⟩ | ⟨c1, hk⟩
  · have k0 : ¬ fn_239 g2 a = 0 := fun z => (gd_239z W2).mp z (by rw [e0]; exact ⟨ha1, ha2, ha3⟩)
    by_cases hG : (0 ≤ x.toInt ∧ x.toInt ≤ 23) ∧ (0 ≤ y.toInt ∧ y.toInt ≤ 23) ∧ (0 ≤ b.toInt ∧ b.toInt ≤ 35999) ∧ (0 ≤ k.toInt ∧ k.toInt ≤ 1)
    · have hG0 := hG
      obtain ⟨hx, hy, hb, hk⟩ := hG0
      have E1 : fn_132 g a x y b k = fn_132_83 (fn_78 g 461 (some (5 * t1 + 14)) b (x / 12)) x y b k (5 * t1 + 14) (5 * t2 + 14) := by
        unfold fn_132
        rw [c1, c2]
        dsimp only
        simp only [gd_91z W, ne_eq, ti_77z, ti_193z, ti_14z, ti_154z, gd_66z, gd_199z, Decidable.not_not, i_0, i_1, i_2, i_3, i_11, i_12n, i_15, i_23, i_60, i_360, i_864, i_8640, i_35, eq_self, not_true_eq_false, not_false_eq_true, and_self, or_self, if_true, if_false, hx, hy, hb, hk]
      have E2 : fn_228 g2 a x y b k = fn_228_82 (fn_229 g2 (a / 4) b x).2 a y b k (fn_229 g2 (a / 4) b x).1 := by
        unfold fn_228
        simp only [gd_192z W2, k0, ti_204 W2.2.1, ne_eq, ti_77z, ti_193z, ti_14z, ti_154z, gd_66z, gd_199z, Decidable.not_not, i_0, i_1, i_2, i_3, i_11, i_12n, i_15, i_23, i_60, i_360, i_864, i_8640, i_35, eq_self, not_true_eq_false, not_false_eq_true, and_self, or_self, if_true, if_false, e0, e1, ha1, ha2, ha3, hx, hy, hb, hk]
      rw [E1, E2]
      have n4 := W.1
      have hat0 := hat1
      rw [hat1]
      obtain ⟨hx1, hx2, hx3⟩ := h_of hx
      obtain ⟨w1, w2, -, v1, -⟩ := lv_look 461 b (x / 12) W hu1 (by omega) hx1
      obtain ⟨y1, y2, v2⟩ := lv_hour b x W2 (t := t1) (by rw [e0]; exact hu1) hx1
      rw [e] at v2
      have y2 := y2.trans e
      generalize fn_78 g 461 (some (5 * t1 + 14)) b (x / 12) = X0 at w1 w2 v1 ⊢
      generalize fn_229 g2 (Int32.ofNat t1) b x = Y0 at y1 y2 v2 ⊢
      unfold fn_132_83 fn_132_115 fn_228_82
      cases hq : hv_t (g 541) t1 b.toInt (x / 12).toInt with
      | none =>
        rw [hq] at v1 v2
        have v2 : Y0.1 = 0 := v2
        rw [if_neg (c := Y0.1 ≠ 0) (fun z => z v2), lp_r (r := (-1000000, X0)) (by
          dsimp only
          unfold fn_132_115b
          rw [if_neg (c := (3 : Int32) < -3) (by decide), if_pos (lv_c0 v1)])]
      | some r =>
        obtain ⟨u, l⟩ := r
        rw [hq] at v1 v2
        obtain ⟨s1, s2⟩ := h_same v1 v2
        obtain ⟨hu, hl⟩ := hv_bb W hu1 hq
        obtain ⟨-, -, -, hub1, hub2⟩ := hv_b W hu1 hq
        have hub : u + l ≤ 172798 := by
          by_cases z : (x / 12).toInt = 1
          · have := hub2 z
            omega
          · have := hub1 z
            omega
        obtain ⟨k1, P, Q, k2, k3, k4, k5⟩ := v2
        obtain ⟨P1, P2⟩ := ho_v (x := x - x / 12 * 12) rfl ⟨hx2, hx3⟩ k2 k3 hu hl
        obtain ⟨b1, b2, b3, b4, b5, b6⟩ := ho_b (y := (x - x / 12 * 12).toInt) ⟨hx2, hx3⟩ hl
        rw [← k4] at P1
        rw [← k5] at P2
        have m1 : X0 461 0 = 1 := lv_c1 v1
        rw [if_pos (c := Y0.1 ≠ 0) (by rw [k1]; decide), s1, s2]
        unfold fn_228_115
        have bp : 0 ≤ (Y0.2 540 29).toInt := by omega
        have bq : (Y0.2 540 30).toInt ≤ 172798 := by omega
        clear k4 k5 P1 P2 s1 s2 b1 b2 b3 b4 b5 b6
        generalize Y0.2 540 29 = p at bp ⊢
        generalize Y0.2 540 30 = q at bq ⊢
        have o1 := (W.2.2.2.2.2 t1 hu1).2.2.1
        have o2 := (W.2.2.2.2.2 t2 hu2).2.2.1
        obtain ⟨hh, hy1, hy2⟩ := h_of hy
        have e4 : (b + 4).toInt = b.toInt + 4 := aa_add32 (by rw [show (4 : Int32).toInt = 4 from rfl]; omega) (by rw [show (4 : Int32).toInt = 4 from rfl]; omega)
        have em4 : (b - 4).toInt = b.toInt - 4 := aa_sub32 (by rw [show (4 : Int32).toInt = 4 from rfl]; omega) (by rw [show (4 : Int32).toInt = 4 from rfl]; omega)
        have bw : ∀ {d u' l' : Int}, hv_t (g 541) t2 d (y / 12).toInt = some (u', l') → (0 ≤ u' ∧ u' ≤ 86399) ∧ u' + l' ≤ 172798 ∧ 0 ≤ ((y - y / 12 * 12).toInt * l' + 11) / 12 ∧ (((y - y / 12 * 12).toInt + 1) * l' + 11) / 12 ≤ l' := by
          intro d u' l' h
          obtain ⟨r1, r2⟩ := hv_bb W hu2 h
          obtain ⟨-, -, -, r3, r4⟩ := hv_b W hu2 h
          obtain ⟨-, -, -, r5, -, r6⟩ := ho_b (y := (y - y / 12 * 12).toInt) ⟨hy1, hy2⟩ r2
          refine ⟨r1, ?_, r5, r6⟩
          by_cases z : (y / 12).toInt = 1
          · have := r4 z
            omega
          · have := r3 z
            omega
        have hh1 : (y / 12).toInt = 0 ∨ (y / 12).toInt = 1 := hh.elim (fun z => .inl (by rw [z]; rfl)) (fun z => .inr (by rw [z]; rfl))
        refine lp_two1 (fun (n' : Nat) (s : aa_G × Int32) (t' : aa_G × Int32 × Int32 × Int32) => t'.2.2.2.toInt + n' = b.toInt + 5 ∧ b.toInt - 4 ≤ t'.2.2.2.toInt ∧ (wd_g s.1 ∧ s.1 541 = g 541) ∧ (wd_g t'.1 ∧ t'.1 541 = g 541) ∧ (me_A (g 541) b p s t' ∨ me_B (g 541) (fun z => fn_132_115b z.1 y b k (5 * t1 + 14) (5 * t2 + 14) p q z.2) t2 b k (y / 12).toInt ((g 541 (50 * t2 + 3)).toInt - (g 541 (50 * t1 + 3)).toInt) s t')) ?_ ?_ 9 _ _ ⟨by show (b - 4).toInt + _ = _; omega, by show _ ≤ (b - 4).toInt; omega, ⟨w1, w2⟩, ⟨y1, y2⟩, .inl ⟨rfl, m1, .inr (.inl ⟨rfl, em4⟩)⟩⟩
        · rintro n' ⟨X, i⟩ ⟨Y, c, w, j⟩ ⟨r1, r2, ⟨w1, w2⟩, ⟨w3, w4⟩, r3⟩
          dsimp only at r1 r2 w1 w2 w3 w4 r3 ⊢
          have es : (j + 1).toInt = j.toInt + 1 := i_suc (by omega) (by omega)
          have ejb : (j - b).toInt = j.toInt - b.toInt := aa_sub32 (by omega) (by omega)
          obtain ⟨Z, z1, z2, zm⟩ := mm_f (a := a) (k := k) (p := p) (q := q) (c := c) (w := w) (j := j) (i := j - b) W w3 w4 hu1 hu2 hat0 hat2 hy hb (by omega) (by omega)
          rcases r3 with ⟨a1, a2, a3⟩ | ⟨F, V, U, f1, f2, f3, f4, i0, u0, l0, f5, f6, f7⟩
          · dsimp only at a1 a2 a3
            subst a1
            rcases a3 with ⟨a3, a4, a5⟩ | a3
            · have ei : (b + i).toInt = j.toInt := by rw [aa_add32 (by omega) (by omega)]; omega
              have ej : j - b = i := ti_eq.mpr (by omega)
              rw [ej] at zm
              have esi : (i + 1).toInt = i.toInt + 1 := i_suc (by omega) (by omega)
              obtain ⟨Y', x1, x2, x3, xm⟩ := cm_f (b := b) (k := k) (p := p) (q := q) (i := i) W w1 w2 hu1 hu2 hy ⟨a3, a4⟩ a2
              rw [ei] at xm
              have nx : me_A (g 541) b p (Y', i + 1) (Z, -1000000, w, j + 1) := ⟨rfl, by dsimp only; rw [x3]; exact a2, by first | omega | (dsimp only; omega)⟩
              rcases zm with ⟨h0, zf⟩ | ⟨u', l', A, B, h0, hA, hB, zf⟩
              · rcases xm with ⟨-, xf⟩ | ⟨u2, l2, A2, B2, h2, -⟩
                · exact .inl ⟨_, _, xf, zf, by first | omega | (dsimp only; omega), by first | omega | (dsimp only; omega), ⟨x1, x2⟩, ⟨z1, z2⟩, .inl nx⟩
                · rw [h0] at h2
                  cases h2
              · rcases xm with ⟨h2, -⟩ | ⟨u2, l2, A2, B2, h2, hA2, hB2, xf⟩
                · rw [h0] at h2
                  cases h2
                · have e5 : (u', l') = (u2, l2) := Option.some.inj (h0.symm.trans h2)
                  obtain ⟨rfl, rfl⟩ := Prod.mk.inj e5
                  have eA : A2 = A := ti_eq.mpr (hA2.trans hA.symm)
                  have eB : B2 = B := ti_eq.mpr (hB2.trans hB.symm)
                  subst eA eB
                  by_cases z : mn_2 B2 q ≤ mx_2 p A2
                  · rw [if_pos z] at xf zf
                    exact .inl ⟨_, _, xf, zf, by first | omega | (dsimp only; omega), by first | omega | (dsimp only; omega), ⟨x1, x2⟩, ⟨z1, z2⟩, .inl nx⟩
                  · rw [if_neg z] at xf zf
                    rw [if_pos (.inl rfl)] at zf
                    obtain ⟨q1, q2, q3, q4⟩ := bw h0
                    have mF := mx_v (p := p) (x := A2)
                    have mT := mn_v (p := q) (x := B2)
                    have z' := mt aa_le32.mpr z
                    have hF : mx_2 p A2 ≠ -1000000 := fun h => by rw [h, i_m6] at mF; split at mF <;> omega
                    refine .inr (.inl ⟨_, zf, by first | omega | (dsimp only; omega), by first | omega | (dsimp only; omega), ⟨w1, w2⟩, ⟨z1, z2⟩, .inr ⟨mx_2 p A2, mn_2 B2 q, Y', xf, rfl, rfl, hF, i.toInt, u', l', by rw [← a5]; exact h0, by first | omega | (dsimp only; omega), ?_⟩⟩)
                    have : (mn_2 B2 q).toInt ≤ B2.toInt := by rw [mT]; split <;> omega
                    omega
            · -- the class waits
              have wait : me_A (g 541) b p (X, i) (Z, -1000000, w, j + 1) := ⟨rfl, a2, by first | omega | (dsimp only; omega)⟩
              rcases zm with ⟨h0, zf⟩ | ⟨u', l', A, B, h0, hA, hB, zf⟩
              · exact .inr (.inl ⟨_, zf, by first | omega | (dsimp only; omega), by first | omega | (dsimp only; omega), ⟨w1, w2⟩, ⟨z1, z2⟩, .inl wait⟩)
              · obtain ⟨q1, q2, q3, q4⟩ := bw h0
                have mF := mx_v (p := p) (x := A)
                have mT := mn_v (p := q) (x := B)
                have g1 : A.toInt ≤ (mx_2 p A).toInt ∧ p.toInt ≤ (mx_2 p A).toInt := by rw [mF]; split <;> omega
                have g3 : (mn_2 B q).toInt ≤ B.toInt ∧ (mn_2 B q).toInt ≤ q.toInt := by rw [mT]; split <;> omega
                have z : mn_2 B q ≤ mx_2 p A := aa_le32.mpr (by omega)
                rw [if_pos z] at zf
                exact .inr (.inl ⟨_, zf, by first | omega | (dsimp only; omega), by first | omega | (dsimp only; omega), ⟨w1, w2⟩, ⟨z1, z2⟩, .inl wait⟩)
          · dsimp only at f2 f3 f6
            subst f2 f3
            have stay : me_B (g 541) (fun z => fn_132_115b z.1 y b k (5 * t1 + 14) (5 * t2 + 14) p q z.2) t2 b k (y / 12).toInt ((g 541 (50 * t2 + 3)).toInt - (g 541 (50 * t1 + 3)).toInt) (X, i) (Z, c, V - c, j + 1) := ⟨c, V, U, f1, rfl, rfl, f4, i0, u0, l0, f5, by first | omega | (dsimp only; omega), f7⟩
            rcases zm with ⟨h0, zf⟩ | ⟨u', l', A, B, h0, hA, hB, zf⟩
            · exact .inr (.inl ⟨_, zf, by first | omega | (dsimp only; omega), by first | omega | (dsimp only; omega), ⟨w1, w2⟩, ⟨z1, z2⟩, .inr stay⟩)
            · obtain ⟨q1, q2, q3, q4⟩ := bw h0
              have ord := hv_ord W hu2 hh1 f5 h0 (by omega)
              have mF := mx_v (p := p) (x := A)
              have g1 : A.toInt ≤ (mx_2 p A).toInt := by rw [mF]; split <;> omega
              have z : ¬ (c = -1000000 ∨ mx_2 p A < c) := fun h => h.elim f4 fun h => by have := ti_lt.mp h; omega
              rw [if_neg z] at zf
              have zf : fn_228_115b Y a y b k p q c (V - c) j = .inl (Z, c, V - c, j + 1) := by
                rw [zf]
                split <;> rfl
              exact .inr (.inl ⟨_, zf, by first | omega | (dsimp only; omega), by first | omega | (dsimp only; omega), ⟨w1, w2⟩, ⟨z1, z2⟩, .inr stay⟩)
        · rintro ⟨X, i⟩ ⟨Y, c, w, j⟩ ⟨r1, r2, -, -, r3⟩
          dsimp only at r1 r2 r3 ⊢
          have n1 : b + 4 < j := ti_lt.mpr (by omega)
          unfold fn_228_115b
          rw [if_pos n1]
          rcases r3 with ⟨a1, a2, a3⟩ | ⟨F, V, U, f1, f2, f3, f4, -⟩
          · dsimp only at a1 a3
            subst a1
            unfold fn_132_115b
            rw [if_pos (c := (3 : Int32) < i) (ti_lt.mpr (by rw [i_3]; omega)), if_neg (c := (-1000000 : Int32) ≠ -1000000) (fun z => z rfl)]
            refine ⟨_, (-1000000, Y), rfl, ?_, rfl⟩
            split <;> rfl
          · dsimp only at f1 f2 f3
            subst f2 f3
            rw [f1]
            by_cases k0 : k = 0
            · rw [if_pos k0, if_neg (fun z => z k0)]
              exact ⟨_, _, rfl, rfl, rfl⟩
            · rw [if_neg k0, if_pos f4, if_pos k0]
              exact ⟨_, _, rfl, rfl, rfl⟩
    · have E1 : (fn_132 g a x y b k).1 = -1000000 := by
        unfold fn_132
        rw [c1, c2]
        dsimp only
        simp only [gd_91z W, ne_eq, ti_77z, ti_193z, ti_14z, ti_154z, gd_66z, gd_199z, Decidable.not_not, i_0, i_1, i_2, i_3, i_11, i_12n, i_15, i_23, i_60, i_360, i_864, i_8640, i_35, eq_self, not_true_eq_false, not_false_eq_true, and_self, or_self, if_true, if_false]
        repeat' split
        all_goals first | (exfalso; omega) | rfl
      have E2 : (fn_228 g2 a x y b k).1 = -1000000 := by
        unfold fn_228
        simp only [gd_192z W2, k0, ti_204 W2.2.1, ne_eq, ti_77z, ti_193z, ti_14z, ti_154z, gd_66z, gd_199z, Decidable.not_not, i_0, i_1, i_2, i_3, i_11, i_12n, i_15, i_23, i_60, i_360, i_864, i_8640, i_35, eq_self, not_true_eq_false, not_false_eq_true, and_self, or_self, if_true, if_false, e0, e1, ha1, ha2, ha3]
        repeat' split
        all_goals first | (exfalso; omega) | rfl
      rw [E1, E2]
  · have E1 : (fn_132 g a x y b k).1 = -1000000 := by
      unfold fn_132
      rcases c1 with c1 | c1
      · rw [c1]
        cases fn_134 g a <;> rfl
      · rw [c1]
        cases fn_133 g a <;> rfl
    have k0 : fn_239 g2 a = 0 := (gd_239z W2).mpr (by rw [e0]; exact hk)
    have E2 : (fn_228 g2 a x y b k).1 = -1000000 := by
      unfold fn_228
      simp only [gd_192z W2, k0, ne_eq, ti_77z, ti_193z, ti_14z, ti_154z, gd_66z, gd_199z, Decidable.not_not, i_0, i_1, i_2, i_3, i_11, i_12n, i_15, i_23, i_60, i_360, i_864, i_8640, i_35, eq_self, not_true_eq_false, not_false_eq_true, and_self, or_self, if_true, if_false, e0, e1]
      repeat' split
      all_goals first | (exfalso; omega) | rfl
    rw [E1, E2]
theorem lq_132 {g : aa_G} {a0 a1 a2 a3 a4 : Int32} (hi : aa_inv g) (hφ : aa_Phi g) (hR : lr_R g) : lq_ok true 132 228 [.int a0, .int a1, .int a2, .int a3, .int a4] g :=
  lq_ask (y := fn_228 (fn_132 g a0 a1 a2 a3 a4).2 a0 a1 a2 a3 a4) hi hφ hR (ko_fw (ko_132 hi hφ) fun _ _ _ r => dn_132 r) (fun i1 p1 => ko_fw (ko_228 i1 p1) fun _ _ _ r => dn_228 r) (by decide +kernel) (by decide +kernel) (by decide +kernel) (by decide +kernel) (by decide +kernel) (by decide +kernel) fun W W2 e => ak_132 W W2 e a0 a1 a2 a3 a4
