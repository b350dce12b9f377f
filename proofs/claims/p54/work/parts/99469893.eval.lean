/-! BELLS: the class's row and the model's codes, evaluated on the heap -/
theorem fz_52 {c : Int32} : fn_52 c = 0 ↔ pd_o1 c = false := by
  unfold fn_52 pd_o1
  by_cases h1 : c = 42
  · subst h1
    decide
  · rw [if_neg h1, show decide (c = 42) = false from decide_eq_false h1, Bool.false_or]
    by_cases h2 : c = 47
    · rw [if_neg (c := c ≠ 47) (fun z => z h2), show decide (c = 47) = true from decide_eq_true h2]
      exact ⟨fun h => absurd h (by decide), fun h => by cases h⟩
    · rw [if_pos (c := c ≠ 47) h2, show decide (c = 47) = false from decide_eq_false h2]
      exact ⟨fun _ => rfl, fun _ => rfl⟩
theorem fz_51 {c : Int32} : fn_51 c = 0 ↔ fl_h c = false := by
  unfold fn_51 fl_h pd_o2
  by_cases h1 : c = 43
  · subst h1
    decide
  · rw [if_neg h1, show decide (c = 43) = false from decide_eq_false h1, Bool.false_or]
    by_cases h2 : c = 45
    · subst h2
      decide
    · rw [if_neg h2, show decide (c = 45) = false from decide_eq_false h2, Bool.or_false]
      by_cases h3 : fn_52 c = 0
      · rw [if_pos h3]
        exact ⟨fun _ => fz_52.mp h3, fun _ => rfl⟩
      · rw [if_neg h3]
        exact ⟨fun h => absurd h (by decide), fun h => absurd (fz_52.mpr h) h3⟩
theorem fz_50 {c : Int32} : fn_50 c = 0 ↔ fl_j c = false := by
  unfold fn_50 fl_j pd_o3 pd_o4
  by_cases h1 : c = 38
  · subst h1
    decide
  · rw [if_neg h1, show decide (c = 38) = false from decide_eq_false h1, Bool.false_or]
    by_cases h2 : c = 124
    · rw [if_neg (c := c ≠ 124) (fun z => z h2), show decide (c = 124) = true from decide_eq_true h2]
      exact ⟨fun h => absurd h (by decide), fun h => by cases h⟩
    · rw [if_pos (c := c ≠ 124) h2, show decide (c = 124) = false from decide_eq_false h2]
      exact ⟨fun _ => rfl, fun _ => rfl⟩
theorem fz_49 {c : Int32} : fn_49 c = 0 ↔ pd_ot c = false := by
  unfold fn_49 pd_ot
  by_cases h1 : c = 60
  · subst h1
    decide
  · rw [if_neg h1, show decide (c = 60) = false from decide_eq_false h1, Bool.false_or]
    by_cases h2 : c = 62
    · subst h2
      decide
    · rw [if_neg h2, show decide (c = 62) = false from decide_eq_false h2, Bool.false_or]
      by_cases h3 : c = 61
      · rw [if_neg (c := c ≠ 61) (fun z => z h3), show decide (c = 61) = true from decide_eq_true h3]
        exact ⟨fun h => absurd h (by decide), fun h => by cases h⟩
      · rw [if_pos (c := c ≠ 61) h3, show decide (c = 61) = false from decide_eq_false h3]
        exact ⟨fun _ => rfl, fun _ => rfl⟩
theorem fz_109 {c x y : Int32} (hc : pd_ot c = true) : fn_109 x c y = b_i (ev_cmp x c y) := by
  unfold fn_109 ev_cmp b_i
  rcases pd_ot_c hc with rfl | rfl | rfl
  · rw [if_neg (c := (60 : Int32) ≠ 60) (fun z => z rfl), if_pos (c := (60 : Int32) = 60) rfl]
    by_cases z : y ≤ x
    · rw [if_pos z, if_neg (c := decide (x < y) = true) (fun h => Int32.not_le.mpr (of_decide_eq_true h) z)]
    · rw [if_neg z, if_pos (c := decide (x < y) = true) (decide_eq_true (Int32.not_le.mp z))]
  · rw [if_pos (c := (62 : Int32) ≠ 60) (by decide), if_neg (c := (62 : Int32) ≠ 62) (fun z => z rfl), if_neg (c := (62 : Int32) = 60) (by decide), if_pos (c := (62 : Int32) = 62) rfl]
    by_cases z : x ≤ y
    · rw [if_pos z, if_neg (c := decide (y < x) = true) (fun h => Int32.not_le.mpr (of_decide_eq_true h) z)]
    · rw [if_neg z, if_pos (c := decide (y < x) = true) (decide_eq_true (Int32.not_le.mp z))]
  · rw [if_pos (c := (61 : Int32) ≠ 60) (by decide), if_pos (c := (61 : Int32) ≠ 62) (by decide), if_neg (c := (61 : Int32) = 60) (by decide), if_neg (c := (61 : Int32) = 62) (by decide)]
    by_cases z : x = y
    · rw [if_neg (c := x ≠ y) (fun h => h z), if_pos (c := decide (x = y) = true) (decide_eq_true z)]
    · rw [if_pos (c := x ≠ y) z, if_neg (c := decide (x = y) = true) (fun h => z (of_decide_eq_true h))]
/-- what a half says of itself -/
def ev_g (g : aa_G) (P : Nat) (town : Int32) : ev_E := (g P 1 - g P 1 / 7 * 7, (g P 1 - g P 1 / 360 * 360, (g P 4, (town, g P 1))))
theorem ti_eqN {a b : Int32} {n : Int} (hb : b.toInt = n) : a.toInt = n ↔ a = b := by
  rw [← hb]
  exact Int32.toInt_inj
theorem fz_108 {g : aa_G} {i : Nat} {town : Int32} {P : Nat} (hi : i < 100) : fn_108 g (Int32.ofNat i) town P = ev_t (ev_g g P town) (g 12 i, g 13 i) := by
  unfold fn_108 ev_t ev_g
  rw [zz_toN (by omega)]
  generalize g 12 i = k
  generalize g 13 i = v
  dsimp only
  by_cases h1 : k = 119
  · subst h1
    rfl
  · by_cases h2 : k = 121
    · subst h2
      rfl
    · by_cases h3 : k = 108
      · subst h3
        rfl
      · by_cases h4 : k = 116
        · subst h4
          rfl
        · by_cases h5 : k = 122
          · subst h5
            rfl
          · rw [if_neg h1, if_neg h2, if_neg h3, if_neg h4, if_neg h5]
            have n1 : ¬ k.toInt = 119 := fun z => h1 ((ti_eqN (n := 119) rfl).mp z)
            have n2 : ¬ k.toInt = 121 := fun z => h2 ((ti_eqN (n := 121) rfl).mp z)
            have n3 : ¬ k.toInt = 108 := fun z => h3 ((ti_eqN (n := 108) rfl).mp z)
            have n4 : ¬ k.toInt = 116 := fun z => h4 ((ti_eqN (n := 116) rfl).mp z)
            have n5 : ¬ k.toInt = 122 := fun z => h5 ((ti_eqN (n := 122) rfl).mp z)
            repeat' split
            all_goals first | rfl | contradiction
/-- a COND's row, from a place of it on -/
def rw_ok (g : aa_G) (T0 : Nat) (ts : List fl_T) : Prop := T0 + ts.length ≤ 40 ∧ ∀ i t, ts[i]? = some t → g 11 (T0 + i) = t.1 ∧ g 12 (T0 + i) = t.2.1 ∧ g 13 (T0 + i) = t.2.2
theorem dr_c {ts : List fl_T} {i : Nat} (h : i < ts.length) : ts.drop i = ts[i] :: ts.drop (i + 1) := List.drop_eq_getElem_cons h
theorem fz_107 {g : aa_G} {T0 : Nat} {ts : List fl_T} {town : Int32} {P : Nat} (h : rw_ok g T0 ts) : ∀ (m i : Nat) (v : Int32), i + m = ts.length → fn_107_15 g (Int32.ofNat (T0 + ts.length)) town P v (Int32.ofNat (T0 + i)) = ev_P (ev_g g P town) v (ts.drop i) := by
  obtain ⟨hl, hc⟩ := h
  intro m
  induction m with
  | zero =>
    intro i v e
    obtain rfl : i = ts.length := by omega
    rw [List.drop_length]
    unfold fn_107_15
    refine lp_r ?_
    dsimp only
    unfold fn_107_15b
    rw [if_pos (aa_le32.mpr (Int.le_refl _))]
    rfl
  | succ m ih =>
    intro i v e
    have hi : i < ts.length := by omega
    obtain ⟨c1, c2, c3⟩ := hc i ts[i] (List.getElem?_eq_getElem hi)
    have w := fz_108 (g := g) (i := T0 + i) (town := town) (P := P) (by omega)
    rw [c2, c3] at w
    have k1 : ¬ Int32.ofNat (T0 + ts.length) ≤ Int32.ofNat (T0 + i) := fun h => by have := aa_le32.mp h; rw [zz_ofN (by omega), zz_ofN (by omega)] at this; omega
    rw [dr_c hi, ev_P]
    by_cases z : pd_o1 ts[i].1 = true
    · rw [if_pos z, ← ih (i + 1) _ (by omega)]
      unfold fn_107_15
      refine lp_l ?_
      dsimp only
      unfold fn_107_15b
      rw [if_neg k1, zz_toN (by omega), c1, if_neg (c := fn_52 ts[i].1 = 0) (fun h => by rw [fz_52.mp h] at z; cases z), w]
      unfold fn_107_81 fn_107_83
      rw [aa_succ]
      by_cases z2 : ts[i].1 = 42
      · rw [if_neg (c := ts[i].1 ≠ 42) (fun h => h z2), if_pos z2]
        rfl
      · rw [if_pos (c := ts[i].1 ≠ 42) z2, if_neg z2]
        by_cases z3 : ev_t (ev_g g P town) ts[i].2 = 0
        · rw [if_neg (c := ev_t (ev_g g P town) (ts[i].2.1, ts[i].2.2) ≠ 0) (fun h => h z3), if_pos z3]
          rfl
        · rw [if_pos (c := ev_t (ev_g g P town) (ts[i].2.1, ts[i].2.2) ≠ 0) z3, if_neg z3]
          rfl
    · rw [if_neg z]
      unfold fn_107_15
      refine lp_r ?_
      dsimp only
      unfold fn_107_15b
      rw [if_neg k1, zz_toN (by omega), c1, if_pos (c := fn_52 ts[i].1 = 0) (fz_52.mpr ((Bool.not_eq_true _).mp z))]
theorem fz_107b {g : aa_G} {T0 i : Nat} {ts : List fl_T} {town : Int32} {P : Nat} (h : rw_ok g T0 ts) (hi : i < ts.length) : fn_107 g (Int32.ofNat (T0 + i)) (Int32.ofNat (T0 + ts.length)) town P = ev_P (ev_g g P town) (ev_t (ev_g g P town) ts[i].2) (ts.drop (i + 1)) := by
  have hl := h.1
  obtain ⟨c1, c2, c3⟩ := h.2 i ts[i] (List.getElem?_eq_getElem hi)
  have w := fz_108 (g := g) (i := T0 + i) (town := town) (P := P) (by omega)
  rw [c2, c3] at w
  unfold fn_107
  rw [aa_succ, w]
  exact fz_107 h (ts.length - (i + 1)) (i + 1) _ (by omega)
theorem fz_106s {g : aa_G} {T0 j : Nat} {ts : List fl_T} {town : Int32} {P : Nat} (h : rw_ok g T0 ts) : ∀ (m i : Nat) (a : Int32), i + m = ts.length → j < i → fn_106_6 g (Int32.ofNat (T0 + j)) (Int32.ofNat (T0 + ts.length)) town P a (Int32.ofNat (T0 + i)) = ev_S (ev_g g P town) a (ts.drop i) := by
  have hl := h.1
  intro m
  induction m with
  | zero =>
    intro i a e hj
    obtain rfl : i = ts.length := by omega
    rw [List.drop_length]
    unfold fn_106_6
    refine lp_r ?_
    dsimp only
    unfold fn_106_6b
    rw [if_pos (aa_le32.mpr (Int.le_refl _))]
    rfl
  | succ m ih =>
    intro i a e hj
    have hi : i < ts.length := by omega
    obtain ⟨c1, c2, c3⟩ := h.2 i ts[i] (List.getElem?_eq_getElem hi)
    have k1 : ¬ Int32.ofNat (T0 + ts.length) ≤ Int32.ofNat (T0 + i) := fun h => by have := aa_le32.mp h; rw [zz_ofN (by omega), zz_ofN (by omega)] at this; omega
    have k2 : ¬ Int32.ofNat (T0 + i) = Int32.ofNat (T0 + j) := fun h => by have := congrArg Int32.toInt h; rw [zz_ofN (by omega), zz_ofN (by omega)] at this; omega
    have pr := fz_107b (town := town) (P := P) h hi
    rw [dr_c hi, ev_S]
    by_cases z : pd_o1 ts[i].1 = true
    · rw [if_pos z, ← ih (i + 1) _ (by omega) (by omega)]
      unfold fn_106_6
      refine lp_l ?_
      dsimp only
      unfold fn_106_6b fn_106_31 fn_106_83
      rw [if_neg k1, if_neg k2, zz_toN (by omega), c1, if_neg (c := fn_51 ts[i].1 = 0) (fun h => by have := fz_51.mp h; rw [nh_1 z] at this; cases this), if_pos (c := fn_52 ts[i].1 ≠ 0) (fun h => by rw [fz_52.mp h] at z; cases z), aa_succ]
      rfl
    · have z1 := (Bool.not_eq_true _).mp z
      rw [if_neg z]
      by_cases z2 : pd_o2 ts[i].1 = true
      · rw [if_pos z2, ← ih (i + 1) _ (by omega) (by omega)]
        unfold fn_106_6
        refine lp_l ?_
        dsimp only
        unfold fn_106_6b fn_106_31 fn_106_81 fn_106_83
        rw [if_neg k1, if_neg k2, zz_toN (by omega), c1, if_neg (c := fn_51 ts[i].1 = 0) (fun h => by have := (nh_o (fz_51.mp h)).2; rw [z2] at this; cases this), if_neg (c := fn_52 ts[i].1 ≠ 0) (fun h => h (fz_52.mpr z1)), pr, aa_succ]
        by_cases z3 : ts[i].1 = 45
        · rw [if_neg (c := ts[i].1 ≠ 45) (fun h => h z3), if_pos z3]
          rfl
        · rw [if_pos (c := ts[i].1 ≠ 45) z3, if_neg z3]
          rfl
      · rw [if_neg z2]
        have z3 := (Bool.not_eq_true _).mp z2
        unfold fn_106_6
        refine lp_r ?_
        dsimp only
        unfold fn_106_6b
        rw [if_neg k1, if_neg k2, zz_toN (by omega), c1, if_pos (c := fn_51 ts[i].1 = 0) (fz_51.mpr (by unfold fl_h; rw [z1, z3]; rfl))]
theorem fz_106 {g : aa_G} {T0 i : Nat} {ts : List fl_T} {town : Int32} {P : Nat} (h : rw_ok g T0 ts) (hi : i < ts.length) (hs : fl_h ts[i].1 = false) : fn_106 g (Int32.ofNat (T0 + i)) (Int32.ofNat (T0 + ts.length)) town P = ev_sum (ev_g g P town) (ts.drop i) := by
  have hl := h.1
  obtain ⟨c1, c2, c3⟩ := h.2 i ts[i] (List.getElem?_eq_getElem hi)
  have k1 : ¬ Int32.ofNat (T0 + ts.length) ≤ Int32.ofNat (T0 + i) := fun h => by have := aa_le32.mp h; rw [zz_ofN (by omega), zz_ofN (by omega)] at this; omega
  have pr := fz_107b (town := town) (P := P) h hi
  obtain ⟨n1, n2⟩ := nh_o hs
  rw [dr_c hi]
  unfold ev_sum
  dsimp only
  rw [← fz_106s (j := i) (town := town) (P := P) h (ts.length - (i + 1)) (i + 1) _ (by omega) (by omega)]
  unfold fn_106 fn_106_6
  refine lp_l ?_
  dsimp only
  unfold fn_106_6b fn_106_31 fn_106_81 fn_106_83
  rw [if_neg k1, if_pos rfl, zz_toN (by omega), c1, if_neg (c := fn_52 ts[i].1 ≠ 0) (fun h => h (fz_52.mpr n1)), if_pos (c := ts[i].1 ≠ 45) (fun z => by rw [z] at n2; exact absurd n2 (by decide)), pr, aa_succ, Int32.zero_add]
  rfl
theorem fz_105 {g : aa_G} {T0 : Nat} {ts : List fl_T} {town : Int32} {P : Nat} (h : rw_ok g T0 ts) : ∀ (m i j : Nat) (a : Bool), i + m = ts.length → (i < ts.length → j ≤ i ∧ fl_h (ts[j]?.getD (0, 0, 0)).1 = false) → fn_105_55 g town P (b_i a) (Int32.ofNat (T0 + j)) (Int32.ofNat (T0 + ts.length)) (Int32.ofNat (T0 + i)) = b_i (ev_H (ev_g g P town) a (ts.drop j) (ts.drop i)) := by
  have hl := h.1
  intro m
  induction m with
  | zero =>
    intro i j a e hj
    obtain rfl : i = ts.length := by omega
    rw [List.drop_length]
    unfold fn_105_55
    refine lp_r ?_
    dsimp only
    unfold fn_105_55b
    rw [if_pos (aa_le32.mpr (Int.le_refl _))]
    rfl
  | succ m ih =>
    intro i j a e hj
    have hi : i < ts.length := by omega
    obtain ⟨hj1, hj2⟩ := hj hi
    have hjl : j < ts.length := by omega
    rw [List.getElem?_eq_getElem hjl] at hj2
    have hj2 : fl_h ts[j].1 = false := hj2
    obtain ⟨c1, c2, c3⟩ := h.2 i ts[i] (List.getElem?_eq_getElem hi)
    have k1 : ¬ Int32.ofNat (T0 + ts.length) ≤ Int32.ofNat (T0 + i) := fun h => by have := aa_le32.mp h; rw [zz_ofN (by omega), zz_ofN (by omega)] at this; omega
    have bi1 : ∀ x : Bool, b_i x = 0 ↔ x = false := fun x => by cases x <;> decide
    -- which THING is the left one now
    have key : ∀ (j2 : Nat) (a2 : Bool), j2 ≤ i → fl_h (ts[j2]?.getD (0, 0, 0)).1 = false → fn_105_100 g town P (b_i a2) (Int32.ofNat (T0 + j2)) (Int32.ofNat (T0 + ts.length)) (Int32.ofNat (T0 + i)) ts[i].1 = .inl (b_i (if pd_ot ts[i].1 = true then a2 && ev_cmp (ev_sum (ev_g g P town) (ts.drop j2)) ts[i].1 (ev_sum (ev_g g P town) (ts.drop i)) else a2), Int32.ofNat (T0 + j2), Int32.ofNat (T0 + (i + 1))) := by
      intro j2 a2 q1 q2
      have q3 : j2 < ts.length := by omega
      rw [List.getElem?_eq_getElem q3] at q2
      have q2 : fl_h ts[j2].1 = false := q2
      unfold fn_105_100 fn_105_145 fn_105_146 fn_105_148
      rw [aa_succ]
      by_cases z : pd_ot ts[i].1 = true
      · rw [if_neg (c := fn_49 ts[i].1 = 0) (fun h => by rw [fz_49.mp h] at z; cases z), if_pos z, fz_106 h q3 q2, fz_106 h hi (nh_t z).1, fz_109 z]
        generalize ev_cmp (ev_sum (ev_g g P town) (ts.drop j2)) ts[i].1 (ev_sum (ev_g g P town) (ts.drop i)) = x
        cases a2 with
        | false =>
          rw [if_pos (c := b_i false = 0) rfl]
          rfl
        | true =>
          rw [if_neg (c := b_i true = 0) (by decide)]
          cases x with
          | false =>
            rw [if_pos (c := b_i false = 0) rfl]
            rfl
          | true =>
            rw [if_neg (c := b_i true = 0) (by decide)]
            rfl
      · rw [if_pos (c := fn_49 ts[i].1 = 0) (fz_49.mpr ((Bool.not_eq_true _).mp z)), if_neg z]
        rfl
    have step : ∀ (a2 : Bool), fn_105_88 g town P (b_i a2) (Int32.ofNat (T0 + j)) (Int32.ofNat (T0 + ts.length)) (Int32.ofNat (T0 + i)) ts[i].1 = .inl (b_i (if pd_ot ts[i].1 = true then a2 && ev_cmp (ev_sum (ev_g g P town) (if fl_j ts[i].1 = true then ts.drop i else ts.drop j)) ts[i].1 (ev_sum (ev_g g P town) (ts.drop i)) else a2), Int32.ofNat (T0 + if fl_j ts[i].1 = true then i else j), Int32.ofNat (T0 + (i + 1))) := by
      intro a2
      unfold fn_105_88
      by_cases z : fl_j ts[i].1 = true
      · rw [if_neg (c := fn_50 ts[i].1 = 0) (fun h => by rw [fz_50.mp h] at z; cases z), if_pos z, if_pos z]
        exact key i a2 (Nat.le_refl _) (by rw [List.getElem?_eq_getElem hi]; exact nh_j z)
      · rw [if_pos (c := fn_50 ts[i].1 = 0) (fz_50.mpr ((Bool.not_eq_true _).mp z)), if_neg z, if_neg z]
        exact key j a2 hj1 (by rw [List.getElem?_eq_getElem hjl]; exact hj2)
    have nxt : ∀ a2 : Bool, fn_105_55 g town P (b_i (if pd_ot ts[i].1 = true then a2 && ev_cmp (ev_sum (ev_g g P town) (if fl_j ts[i].1 = true then ts.drop i else ts.drop j)) ts[i].1 (ev_sum (ev_g g P town) (ts.drop i)) else a2)) (Int32.ofNat (T0 + if fl_j ts[i].1 = true then i else j)) (Int32.ofNat (T0 + ts.length)) (Int32.ofNat (T0 + (i + 1))) = b_i (ev_H (ev_g g P town) (if pd_ot ts[i].1 = true then a2 && ev_cmp (ev_sum (ev_g g P town) (if fl_j ts[i].1 = true then ts.drop i else ts.drop j)) ts[i].1 (ev_sum (ev_g g P town) (ts.drop i)) else a2) (if fl_j ts[i].1 = true then ts.drop i else ts.drop j) (ts.drop (i + 1))) := by
      intro a2
      by_cases z : fl_j ts[i].1 = true
      · simp only [if_pos z]
        exact ih (i + 1) i _ (by omega) (fun _ => ⟨by omega, by rw [List.getElem?_eq_getElem hi]; exact nh_j z⟩)
      · simp only [if_neg z]
        exact ih (i + 1) j _ (by omega) (fun _ => ⟨by omega, by rw [List.getElem?_eq_getElem hjl]; exact hj2⟩)
    rw [dr_c hi, ev_H, ← dr_c hi]
    by_cases z : ts[i].1 = 124
    · cases a with
      | true =>
        rw [if_pos ⟨z, rfl⟩]
        unfold fn_105_55
        refine lp_r ?_
        dsimp only
        unfold fn_105_55b
        rw [if_neg k1, zz_toN (by omega), c1, if_neg (c := ts[i].1 ≠ 124) (fun h => h z), if_neg (c := b_i true = 0) (by decide)]
        rfl
      | false =>
        rw [if_neg (fun h => by cases h.2), show decide (ts[i].1 = 124) = true from decide_eq_true z, Bool.or_true, ← nxt true]
        unfold fn_105_55
        refine lp_l ?_
        dsimp only
        unfold fn_105_55b
        rw [if_neg k1, zz_toN (by omega), c1, if_neg (c := ts[i].1 ≠ 124) (fun h => h z), if_pos (c := b_i false = 0) rfl]
        exact step true
    · rw [if_neg (fun h => z h.1), show decide (ts[i].1 = 124) = false from decide_eq_false z, Bool.or_false, ← nxt a]
      unfold fn_105_55
      refine lp_l ?_
      dsimp only
      unfold fn_105_55b
      rw [if_neg k1, zz_toN (by omega), c1, if_pos (c := ts[i].1 ≠ 124) z]
      exact step a
/-- whether a BELL's COND holds, on the class's side -/
theorem ck_105 {g : aa_G} {N k T0 : Nat} {F : pb_F} {ts : List fl_T} {town : Int32} {P : Nat} (h0 : g 4 0 = Int32.ofNat N) (hN : N ≤ 8) (hk : k < N) (h : brk_c g 2 k F T0 ts) (hs : ∀ t r, ts = t :: r → fl_h t.1 = false) : fn_105 g (Int32.ofNat k) town P = b_i (ev_H (ev_g g P town) true ts ts) := by
  obtain ⟨⟨-, -, -, -, a5, a6⟩, a7, a8⟩ := h
  have a5 : g 9 k = Int32.ofNat T0 := a5
  have a6 : g 10 k = Int32.ofNat ts.length := a6
  have r : rw_ok g T0 ts := ⟨a7, a8⟩
  unfold fn_105 fn_105_47
  rw [h0, cb_pred (by omega) (by omega), if_pos (c := fn_14 (Int32.ofNat k) 0 (Int32.ofNat (N - 1)) ≠ 0) (ti_14n.mpr (by rw [zz_ofN (by omega), zz_ofN (by omega), i_0]; omega)), zz_toN (by omega), a5, a6, mb_add T0 ts.length rfl, if_neg (c := (40 : Int32) < Int32.ofNat (T0 + ts.length)) (fun z => by have := ti_lt.mp z; rw [zz_ofN (by omega), show (40 : Int32).toInt = 40 from rfl] at this; omega)]
  have k := fz_105 (town := town) (P := P) r ts.length 0 0 true (by omega) (fun hi => ⟨Nat.le_refl 0, by
    cases ts with
    | nil => exact absurd hi (Nat.lt_irrefl 0)
    | cons t l => exact hs t l rfl⟩)
  rw [Nat.add_zero, List.drop_zero] at k
  exact k
/-! the model's codes -/
/-- the pile on the heap; what the half says -/
def pi_ok (X : aa_G) (st : List Int32) : Prop := ∀ i v, st[i]? = some v → X 549 (st.length - 1 - i) = v
def pe_ok (X : aa_G) (E : ev_E) : Prop := X 548 0 = E.1 ∧ X 548 1 = E.2.1 ∧ X 548 2 = E.2.2.1 ∧ X 548 3 = E.2.2.2.1 ∧ X 548 4 = E.2.2.2.2
theorem ev_v5 {E : ev_E} {i v : Int32} (h : ev_v E i = some v) {X : aa_G} (hX : pe_ok X E) : X 548 i.toNatClampNeg = v := by
  obtain ⟨x0, x1, x2, x3, x4⟩ := hX
  unfold ev_v at h
  by_cases h0 : i = 0
  · rw [if_pos h0] at h
    cases h
    subst h0
    exact x0
  · rw [if_neg h0] at h
    by_cases h1 : i = 1
    · rw [if_pos h1] at h
      cases h
      subst h1
      exact x1
    · rw [if_neg h1] at h
      by_cases h2 : i = 2
      · rw [if_pos h2] at h
        cases h
        subst h2
        exact x2
      · rw [if_neg h2] at h
        by_cases h3 : i = 3
        · rw [if_pos h3] at h
          cases h
          subst h3
          exact x3
        · rw [if_neg h3] at h
          by_cases h4 : i = 4
          · rw [if_pos h4] at h
            cases h
            subst h4
            exact x4
          · rw [if_neg h4] at h
            cases h
theorem mk_214s {E : ev_E} {a1 : Int32} {c0 : Nat} {cs : List Int32} {cod : Nat → Int32} (hcs : c0 + cs.length ≤ 80) (hc : ∀ i v, cs[i]? = some v → cod (c0 + i) = v) : ∀ (m j : Nat) (X : aa_G) (st st' : List Int32), j + m = cs.length → st.length + m ≤ 1000 → (∀ q, q < 140 → X 541 (259 + q) = cod q) → X 541 (a1 + 6).toNatClampNeg = Int32.ofNat (c0 + cs.length) → pe_ok X E → pi_ok X st → cd_run E (cs.drop j) st = some st' → ∃ Y, fn_214_11 X a1 (Int32.ofNat st.length) (Int32.ofNat (c0 + j)) = fn_214_11 Y a1 (Int32.ofNat st'.length) (Int32.ofNat (c0 + cs.length)) ∧ pi_ok Y st' ∧ (∀ k j, k ≠ 549 → Y k j = X k j) := by
  intro m
  induction m with
  | zero =>
    intro j X st st' e _ h1 h2 h3 h4 h5
    obtain rfl : j = cs.length := by omega
    rw [List.drop_length] at h5
    cases h5
    exact ⟨X, rfl, h4, fun _ _ _ => rfl⟩
  | succ m ih =>
    intro j X st st' e hm h1 h2 h3 h4 h5
    have hj : j < cs.length := by omega
    have cj := hc j cs[j] (List.getElem?_eq_getElem hj)
    rw [List.drop_eq_getElem_cons hj, cd_run] at h5
    cases hs : cd_step E cs[j] st with
    | none =>
      rw [hs] at h5
      cases h5
    | some s1 =>
      rw [hs] at h5
      have h5 : cd_run E (cs.drop (j + 1)) s1 = some st' := h5
      have k1 : ¬ Int32.ofNat (c0 + cs.length) ≤ Int32.ofNat (c0 + j) := fun h => by have := aa_le32.mp h; rw [zz_ofN (by omega), zz_ofN (by omega)] at this; omega
      have ec : X 541 (259 + Int32.ofNat (c0 + j)).toNatClampNeg = cs[j] := by
        rw [show (259 : Int32) + Int32.ofNat (c0 + j) = Int32.ofNat (259 + (c0 + j)) from i_add 259 (c0 + j), zz_toN (by omega), h1 _ (by omega), cj]
      have one : ∀ (Z : aa_G) (q : Nat) (v : Int32), Z = zz_w X 549 q v → (∀ i w, s1[i]? = some w → Z 549 (s1.length - 1 - i) = w) → s1.length ≤ st.length + 1 → fn_214_11b X a1 (Int32.ofNat st.length) (Int32.ofNat (c0 + j)) = .inl (Z, Int32.ofNat s1.length, Int32.ofNat (c0 + (j + 1))) → ∃ Y, fn_214_11 X a1 (Int32.ofNat st.length) (Int32.ofNat (c0 + j)) = fn_214_11 Y a1 (Int32.ofNat st'.length) (Int32.ofNat (c0 + cs.length)) ∧ pi_ok Y st' ∧ (∀ k j, k ≠ 549 → Y k j = X k j) := by
        intro Z q v eZ hp hl hb
        have fZ : ∀ k j, k ≠ 549 → Z k j = X k j := fun k j z => by rw [eZ, aa_w_ne _ _ (by omega)]
        obtain ⟨Y, y1, y2, y3⟩ := ih (j + 1) Z s1 st' (by omega) (by omega) (fun q hq => (fZ 541 _ (by omega)).trans (h1 q hq)) ((fZ 541 _ (by omega)).trans h2) ⟨(fZ 548 _ (by omega)).trans h3.1, (fZ 548 _ (by omega)).trans h3.2.1, (fZ 548 _ (by omega)).trans h3.2.2.1, (fZ 548 _ (by omega)).trans h3.2.2.2.1, (fZ 548 _ (by omega)).trans h3.2.2.2.2⟩ hp h5
        refine ⟨Y, ?_, y2, fun k j z => (y3 k j z).trans (fZ k j z)⟩
        rw [← y1]
        unfold fn_214_11
        exact lp_l hb
      have push : ∀ v : Int32, s1 = v :: st → (∀ Z, Z = zz_w X 549 st.length v → fn_214_11b X a1 (Int32.ofNat st.length) (Int32.ofNat (c0 + j)) = .inl (Z, Int32.ofNat (st.length + 1), Int32.ofNat (c0 + (j + 1)))) → ∃ Y, fn_214_11 X a1 (Int32.ofNat st.length) (Int32.ofNat (c0 + j)) = fn_214_11 Y a1 (Int32.ofNat st'.length) (Int32.ofNat (c0 + cs.length)) ∧ pi_ok Y st' ∧ (∀ k j, k ≠ 549 → Y k j = X k j) := by
        intro v e1 hb
        subst e1
        refine one _ st.length v rfl (fun i w hw => ?_) (Nat.le_refl _) (hb _ rfl)
        cases i with
        | zero =>
          cases hw
          show zz_w X 549 st.length v 549 (st.length + 1 - 1 - 0) = v
          rw [show st.length + 1 - 1 - 0 = st.length by omega, aa_w_at]
        | succ i =>
          have hi := br_get hw
          have hi : i + 1 < st.length + 1 := hi
          have hw : st[i]? = some w := hw
          show zz_w X 549 st.length v 549 (st.length + 1 - 1 - (i + 1)) = w
          rw [aa_w_ne _ _ (by omega), show st.length + 1 - 1 - (i + 1) = st.length - 1 - i by omega]
          exact h4 i w hw
      unfold cd_step at hs
      by_cases z2 : (200000 : Int32) ≤ cs[j]
      · rw [if_pos z2] at hs
        match st, hs, h4, hm, one with
        | [], hs, _, _, _ => cases hs
        | [_], hs, _, _, _ => cases hs
        | y :: x :: r, hs, h4, hm, one =>
          cases hs
          have hx : X 549 r.length = x := by
            have k := h4 1 x rfl
            rwa [show (y :: x :: r).length - 1 - 1 = r.length by show r.length + 1 + 1 - 1 - 1 = r.length; omega] at k
          have hy : X 549 (r.length + 1) = y := by
            have k := h4 0 y rfl
            rwa [show (y :: x :: r).length - 1 - 0 = r.length + 1 by show r.length + 1 + 1 - 1 - 0 = r.length + 1; omega] at k
          have hm : r.length + 1 + 1 + (m + 1) ≤ 1000 := hm
          have e1 : Int32.ofNat (y :: x :: r).length + (-1) = Int32.ofNat (r.length + 1) := by
            show Int32.ofNat (r.length + 1 + 1) + (-1) = _
            refine aa_eqN ?_ (by omega)
            rw [aa_add32 (by rw [zz_ofN (by omega), i_m1]; omega) (by rw [zz_ofN (by omega), i_m1]; omega), zz_ofN (by omega), i_m1]
            omega
          have e2 : Int32.ofNat (r.length + 1) - 1 = Int32.ofNat r.length := by rw [cb_pred (by omega) (by omega), Nat.add_sub_cancel]
          refine one (zz_w X 549 r.length (fn_215 (cs[j] - 200000) x y)) r.length _ rfl (fun i w hw => ?_) (by show r.length + 1 ≤ r.length + 1 + 1 + 1; omega) ?_
          · cases i with
            | zero =>
              cases hw
              show zz_w X 549 r.length _ 549 (r.length + 1 - 1 - 0) = _
              rw [show r.length + 1 - 1 - 0 = r.length by omega, aa_w_at]
            | succ i =>
              have hi := br_get hw
              have hi : i + 1 < r.length + 1 := hi
              have hw : r[i]? = some w := hw
              show zz_w X 549 r.length _ 549 (r.length + 1 - 1 - (i + 1)) = w
              rw [aa_w_ne _ _ (by omega)]
              have k := h4 (i + 2) w hw
              rwa [show (y :: x :: r).length - 1 - (i + 2) = r.length + 1 - 1 - (i + 1) by show r.length + 1 + 1 - 1 - (i + 2) = _; omega] at k
          · unfold fn_214_11b fn_214_110
            rw [h2, if_neg k1, ec, if_pos z2, e1, e2, zz_toN (by omega), zz_toN (by omega), hx, hy, aa_succ]
            rfl
      · rw [if_neg z2] at hs
        by_cases z1 : (100000 : Int32) ≤ cs[j]
        · rw [if_pos z1] at hs
          cases hv : ev_v E (cs[j] - 100000) with
          | none =>
            rw [hv] at hs
            cases hs
          | some v =>
            rw [hv] at hs
            cases hs
            refine push v rfl fun Z eZ => ?_
            unfold fn_214_11b fn_214_70 fn_214_110
            rw [h2, if_neg k1, ec, if_neg z2, if_pos z1, ev_v5 hv h3, zz_toN (by omega), aa_succ, aa_succ, eZ]
            rfl
        · rw [if_neg z1] at hs
          cases hs
          refine push cs[j] rfl fun Z eZ => ?_
          unfold fn_214_11b fn_214_70 fn_214_110
          rw [h2, if_neg k1, ec, if_neg z2, if_neg z1, zz_toN (by omega), aa_succ, aa_succ, eZ]
          rfl
/-- whether a BELL's COND holds, on the model's side -/
theorem mk_214 {E : ev_E} {X : aa_G} {k c0 th : Nat} {F : pb_F} {ts : List fl_T} {cs : List Int32} (hk : k < 8) (h : br_m (fun q => X 541 (203 + q)) (fun q => X 541 (259 + q)) k F th c0 cs) (hr : cd_rel ts cs) (hE : pe_ok X E) : (fn_214 X (Int32.ofNat (203 + 7 * k))).1 = b_i (ev_H E true ts ts) ∧ ∀ k' j, k' ≠ 549 → (fn_214 X (Int32.ofNat (203 + 7 * k))).2 k' j = X k' j := by
  obtain ⟨⟨-, -, -, -, -, a6, a7⟩, a8, a9⟩ := h
  have a6 : X 541 (203 + (7 * k + 5)) = Int32.ofNat c0 := a6
  have a7 : X 541 (203 + (7 * k + 6)) = Int32.ofNat (c0 + cs.length) := a7
  have e6 : X 541 (Int32.ofNat (203 + 7 * k) + 6).toNatClampNeg = Int32.ofNat (c0 + cs.length) := by
    rw [mb_add _ 6 (v := 6) rfl, zz_toN (by omega), show 203 + 7 * k + 6 = 203 + (7 * k + 6) by omega]
    exact a7
  have e5 : X 541 (Int32.ofNat (203 + 7 * k) + 5).toNatClampNeg = Int32.ofNat c0 := by
    rw [mb_add _ 5 (v := 5) rfl, zz_toN (by omega), show 203 + 7 * k + 5 = 203 + (7 * k + 5) by omega]
    exact a6
  have run : ∀ st', cd_run E (cs.drop 0) [] = some st' → ∃ Y, fn_214_11 X (Int32.ofNat (203 + 7 * k)) 0 (Int32.ofNat c0) = fn_214_11 Y (Int32.ofNat (203 + 7 * k)) (Int32.ofNat st'.length) (Int32.ofNat (c0 + cs.length)) ∧ pi_ok Y st' ∧ (∀ k j, k ≠ 549 → Y k j = X k j) := fun st' h => by
    have k := mk_214s (E := E) (a1 := Int32.ofNat (203 + 7 * k)) (c0 := c0) (cs := cs) (cod := fun q => X 541 (259 + q)) a8 a9 cs.length 0 X [] st' (by omega) (by show 0 + cs.length ≤ 1000; omega) (fun q _ => rfl) e6 hE (fun i v hv => by cases hv) h
    exact k
  unfold fn_214
  rw [e5]
  rcases hr with ⟨rfl, rfl⟩ | ⟨-, hr⟩
  · have k1 : fn_214_11 X (Int32.ofNat (203 + 7 * k)) 0 (Int32.ofNat c0) = (1, X) := by
      unfold fn_214_11
      refine lp_r ?_
      dsimp only
      unfold fn_214_11b
      rw [e6, if_pos (aa_le32.mpr (by show (Int32.ofNat (c0 + 0)).toInt ≤ _; rw [Nat.add_zero]; exact Int.le_refl _)), if_pos rfl]
    rw [k1]
    exact ⟨rfl, fun _ _ _ => rfl⟩
  · obtain ⟨A, r1, r2⟩ := hr E
    obtain ⟨Y, y1, y2, y3⟩ := run [b_i A] (r2 [])
    have y0 : Y 549 0 = b_i A := y2 0 (b_i A) rfl
    have y6 : Y 541 (Int32.ofNat (203 + 7 * k) + 6).toNatClampNeg = Int32.ofNat (c0 + cs.length) := (y3 541 _ (by omega)).trans e6
    have k1 : fn_214_11 Y (Int32.ofNat (203 + 7 * k)) (Int32.ofNat [b_i A].length) (Int32.ofNat (c0 + cs.length)) = (b_i A, Y) := by
      unfold fn_214_11
      refine lp_r ?_
      dsimp only
      unfold fn_214_11b
      rw [y6, if_pos (aa_le32.mpr (Int.le_refl _)), if_neg (c := Int32.ofNat [b_i A].length = 0) (by show ¬ Int32.ofNat 1 = 0; decide), show (0 : Int32).toNatClampNeg = 0 from rfl, y0]
      cases A with
      | true => rw [if_neg (c := b_i true ≠ 1) (fun z => z rfl)]; rfl
      | false => rw [if_pos (c := b_i false ≠ 1) (by decide)]; rfl
    rw [y1, k1, r1]
    exact ⟨rfl, y3⟩
