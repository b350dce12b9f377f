/-! BY HAND: a point between two points, its contract -/
theorem aa_six {l : List Int} (h : l.length = 6) : ∃ a b c d e f, l = [a, b, c, d, e, f] := by
  match l, h with
  | [a, b, c, d, e, f], _ => exact ⟨a, b, c, d, e, f, rfl⟩
theorem lay_vb {t x y p q c u v : Int} (h1 : aa_vb [(0, 3, 0), (0, 11, 0), (0, 11, 0), (0, 359, 0), (0, 359, 0), (0, 12, 0)] [t, x, y, p, q, c]) (u0 : 0 ≤ u) (u1 : u ≤ 86398) (v0 : 1 ≤ v) (v1 : v ≤ 86399) : aa_vb [(0, 3, 0), (0, 11, 0), (0, 11, 0), (0, 359, 0), (0, 359, 0), (0, 12, 0), (0, 86398, 0), (1, 86399, 0)] [t, x, y, p, q, c, u, v] := by
  refine ⟨rfl, fun i r w hr hw => ?_⟩
  match i, hr, hw with
  | 0, hr, hw => exact h1.2 0 r w hr hw
  | 1, hr, hw => exact h1.2 1 r w hr hw
  | 2, hr, hw => exact h1.2 2 r w hr hw
  | 3, hr, hw => exact h1.2 3 r w hr hw
  | 4, hr, hw => exact h1.2 4 r w hr hw
  | 5, hr, hw => exact h1.2 5 r w hr hw
  | 6, hr, hw =>
    have hr : (0, 86398, 0) = r := Option.some.inj hr
    have hw : u = w := Option.some.inj hw
    subst hr
    subst hw
    exact ⟨u0, u1, fun z => absurd rfl z⟩
  | 7, hr, hw =>
    have hr : (1, 86399, 0) = r := Option.some.inj hr
    have hw : v = w := Option.some.inj hw
    subst hr
    subst hw
    exact ⟨v0, v1, fun z => absurd rfl z⟩
  | n + 8, hr, hw => exact absurd hr (fun z => by cases z)
theorem lay_end {t x y p q c : Int} {g : aa_G} (h1 : aa_vb aa_m9.2.1.1.1.1 [t, x, y, p, q, c]) : ∀ v h, aa_lpost g v h → aa_post aa_Phi aa_m9 [t, x, y, p, q, c] g v h := by
  rintro v h ⟨g', rfl, r1, r2, r3, ⟨rfl, r4, r5⟩ | ⟨rfl, r4, r5, r6, r7⟩⟩
  · have vb := aa_vb_new h1 (lo := 0) (hi := 1) (gr := 0) (v := (g' 540 13).toInt) r4 r5 (fun z => absurd rfl z)
    refine ⟨g', rfl, r1, r2, r3, _, List.mem_cons_self, [(g' 540 13).toInt], vb, fun f hf => (by cases hf), ?_, Nat.one_ne_zero, _, rfl, rfl⟩
    intro f hf
    rcases List.mem_cons.mp hf with rfl | hf
    · refine ⟨540, 13, _, rfl, rfl, rfl, ?_⟩
      show (g' 540 13).toInt = (0 : Int) + (1 * (g' 540 13).toInt + 0)
      omega
    · cases hf
  · have vb : aa_vb [(0, 3, 0), (0, 11, 0), (0, 11, 0), (0, 359, 0), (0, 359, 0), (0, 12, 0), (0, 86398, 0), (1, 86399, 0)] [t, x, y, p, q, c, (g' 540 14).toInt, (g' 540 15).toInt] := lay_vb h1 r5 (by omega) (by omega) r7
    refine ⟨g', rfl, r1, r2, r3, _, List.mem_cons_of_mem _ List.mem_cons_self, [(g' 540 14).toInt, (g' 540 15).toInt], vb, ?_, ?_, Nat.one_ne_zero, _, rfl, rfl⟩
    · intro f hf
      rcases List.mem_cons.mp hf with rfl | hf
      · exact ⟨_, rfl, by show 0 ≤ (-1 : Int) + (-1 * (g' 540 14).toInt + (1 * (g' 540 15).toInt + 0)); omega⟩
      · cases hf
    · intro f hf
      rcases List.mem_cons.mp hf with rfl | hf
      · exact ⟨540, 13, _, rfl, rfl, rfl, by show (g' 540 13).toInt = (-1 : Int) + 0; omega⟩
      · rcases List.mem_cons.mp hf with rfl | hf
        · exact ⟨540, 14, _, rfl, rfl, rfl, by show (g' 540 14).toInt = (0 : Int) + (1 * (g' 540 14).toInt + 0); omega⟩
        · rcases List.mem_cons.mp hf with rfl | hf
          · exact ⟨540, 15, _, rfl, rfl, rfl, by show (g' 540 15).toInt = (0 : Int) + (1 * (g' 540 15).toInt + 0); omega⟩
          · cases hf
theorem aa_h9 : aa_met aa_Phi aa_m9 := by
  intro ν0 g as h1 h2 h3 h4 h5 h6
  obtain ⟨as, rfl, h7⟩ := aa_this h4
  clear h4
  obtain ⟨w1, as, rfl, e1, h8⟩ := aa_ms_int h7
  clear h7
  obtain ⟨w2, as, rfl, e2, h7⟩ := aa_ms_int h8
  clear h8
  obtain ⟨w3, as, rfl, e3, h8⟩ := aa_ms_int h7
  clear h7
  obtain ⟨w4, as, rfl, e4, h7⟩ := aa_ms_int h8
  clear h8
  have hlen : ν0.length = 6 := h1.1
  obtain ⟨t, x, y, p, q, c, rfl⟩ := aa_six hlen
  cases as with
  | cons _ _ => exact h7.elim
  | nil =>
    have e1 : (5 : Int) + (50 * t + (4 * x + 0)) = w1.toInt := Option.some.inj e1
    have e2 : (5 : Int) + (50 * t + (4 * y + 0)) = w2.toInt := Option.some.inj e2
    have e3 : (0 : Int) + (1 * p + 0) = w3.toInt := Option.some.inj e3
    have e4 : (0 : Int) + (1 * q + 0) = w4.toInt := Option.some.inj e4
    have bt : (0 : Int) ≤ t ∧ t ≤ 3 := ⟨(h1.2 0 _ t rfl rfl).1, (h1.2 0 _ t rfl rfl).2.1⟩
    have bx : (0 : Int) ≤ x ∧ x ≤ 11 := ⟨(h1.2 1 _ x rfl rfl).1, (h1.2 1 _ x rfl rfl).2.1⟩
    have bz : (0 : Int) ≤ y ∧ y ≤ 11 := ⟨(h1.2 2 _ y rfl rfl).1, (h1.2 2 _ y rfl rfl).2.1⟩
    have bp : (0 : Int) ≤ p ∧ p ≤ 359 := ⟨(h1.2 3 _ p rfl rfl).1, (h1.2 3 _ p rfl rfl).2.1⟩
    have bq : (0 : Int) ≤ q ∧ q ≤ 359 := ⟨(h1.2 4 _ q rfl rfl).1, (h1.2 4 _ q rfl rfl).2.1⟩
    obtain ⟨z1, hz1, hz2⟩ := h2 _ List.mem_cons_self
    have hz1 : (-1 : Int) + (-1 * x + (1 * c + 0)) = z1 := Option.some.inj hz1
    obtain ⟨z3, hz3, hz4⟩ := h2 _ (List.mem_cons_of_mem _ List.mem_cons_self)
    have hz3 : (-1 : Int) + (-1 * y + (1 * c + 0)) = z3 := Option.some.inj hz3
    obtain ⟨tn, rfl⟩ : ∃ b : Nat, t = (b : Int) := ⟨t.toNat, by omega⟩
    obtain ⟨xn, rfl⟩ : ∃ b : Nat, x = (b : Int) := ⟨x.toNat, by omega⟩
    obtain ⟨yn, rfl⟩ : ∃ b : Nat, y = (b : Int) := ⟨y.toNat, by omega⟩
    have es : aa_ev [(tn : Int), (xn : Int), (yn : Int), p, q, c] (4, [(0, 50)]) = some ((50 * tn + 4 : Nat) : Int) := congrArg some (show (4 : Int) + (50 * (tn : Int) + 0) = ((50 * tn + 4 : Nat) : Int) by omega)
    have rc := aa_vh_at h3 (k := 541) (j := 50 * tn + 4) (r := (541, [])) (sl := (4, [(0, 50)])) (f := (0, [(5, 1)])) List.mem_cons_self rfl es
    rw [aa_rd_of (k := 541) (by decide)] at rc
    have rc : (0 : Int) + (1 * c + 0) = (g 541 (50 * tn + 4)).toInt := Option.some.inj rc
    have ew1 : w1 = Int32.ofNat (5 + 50 * tn + 4 * xn) := aa_eqN (by omega) (by omega)
    have ew2 : w2 = Int32.ofNat (5 + 50 * tn + 4 * yn) := aa_eqN (by omega) (by omega)
    subst ew1
    subst ew2
    obtain ⟨gp, p2, p3⟩ := aa_pick h5 h6 (t := tn) (x := xn) (by omega) (by omega) (by omega)
    obtain ⟨gq, q2, q3⟩ := aa_pick h5 h6 (t := tn) (x := yn) (by omega) (by omega) (by omega)
    refine (lay_all h5 h6 (P := 5 + 50 * tn + 4 * xn) (Q := 5 + 50 * tn + 4 * yn) (by omega) (by omega) (by omega) (by omega) (by omega) (by omega) gp gq p2 q2 p3 q3).mono (lay_end h1)
