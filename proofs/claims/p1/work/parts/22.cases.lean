/-! THE LAW, CASE BY CASE, at a script of six ints -/
abbrev law_lv : zz_V := [some (.ref 0), some (.ref 1), some (.ref 540), some (.int 0)]
abbrev law_phi : Option Value → zz_H → Prop := (fun v h => v = some (.int 1) ∧ h.1.1 ≤ 600000 ∧ h.1.2 ≤ 7302250)
theorem law_end (xs : Nat → Int32) {h : zz_H} (hn : h.1 = zz_hs.1) : zz_fin (some (6, xs)) 0 (2335, law_lv, [], h) law_phi := by
  refine zz_fin.steps (n := 9) (s' := (2342, [some (.ref 0), some (.ref 1), some (.ref 540), some (.int 6)], [.int 1], h)) rfl ?_
  exact zz_fin.at (n := 1) rfl ⟨rfl, by rw [hn]; decide, by rw [hn]; decide⟩
theorem law_c5 (xs : Nat → Int32) : zz_fin (some (6, xs)) 0 (377, law_lv, [], zz_hs) law_phi := by
  refine zz_fin.steps (n := 1) (s' := (378, [some (.ref 0), some (.ref 1), some (.ref 540), some (.int 0)], [.ref 1], zz_hs)) rfl ?_
  refine zz_fin.call (ψ := fun v h => v = some (.int (-1)) ∧ h = zz_hs) rfl rfl (Nat.le_of_ble_eq_true rfl) (zz_finX (xx_fault )) ?_
  rintro v h ⟨rfl, rfl⟩
  refine zz_fin.steps (n := 1) (s' := (382, [some (.ref 0), some (.ref 1), some (.ref 540), some (.int 0)], [.ref 540, .int (-1)], zz_hs)) rfl ?_
  refine zz_fin.call (ψ := fun v h => v = some (.int (-1)) ∧ h = zz_hs) rfl rfl (Nat.le_of_ble_eq_true rfl) (zz_finX (mm_fault )) ?_
  rintro v h ⟨rfl, rfl⟩
  refine zz_fin.steps (n := 1) (s' := (2335, [some (.ref 0), some (.ref 1), some (.ref 540), some (.int 0)], [], zz_hs)) rfl ?_
  exact law_end xs rfl
theorem law_c6 (xs : Nat → Int32) : zz_fin (some (6, xs)) 0 (390, law_lv, [], zz_hs) law_phi := by
  refine zz_fin.steps (n := 1) (s' := (391, [some (.ref 0), some (.ref 1), some (.ref 540), some (.int 0)], [.ref 1], zz_hs)) rfl ?_
  refine zz_fin.call (ψ := fun v h => v = some (.int (-1)) ∧ h = zz_hs) rfl rfl (Nat.le_of_ble_eq_true rfl) (zz_finX (xx_ended )) ?_
  rintro v h ⟨rfl, rfl⟩
  refine zz_fin.steps (n := 1) (s' := (395, [some (.ref 0), some (.ref 1), some (.ref 540), some (.int 0)], [.ref 540, .int (-1)], zz_hs)) rfl ?_
  refine zz_fin.call (ψ := fun v h => v = some (.int (-1)) ∧ h = zz_hs) rfl rfl (Nat.le_of_ble_eq_true rfl) (zz_finX (mm_ended )) ?_
  rintro v h ⟨rfl, rfl⟩
  refine zz_fin.steps (n := 1) (s' := (2335, [some (.ref 0), some (.ref 1), some (.ref 540), some (.int 0)], [], zz_hs)) rfl ?_
  exact law_end xs rfl
theorem law_c7 (xs : Nat → Int32) : zz_fin (some (6, xs)) 0 (403, law_lv, [], zz_hs) law_phi := by
  refine zz_fin.steps (n := 6) (s' := (409, [some (.ref 0), some (.ref 1), some (.ref 540), some (.int 0)], [.int (xs 1), .ref 1], zz_hs)) rfl ?_
  refine zz_fin.call (ψ := fun v h => v = some (.int (rr_is (xs 1))) ∧ h = zz_hs) rfl rfl (Nat.le_of_ble_eq_true rfl) (zz_finX (xx_is (xs 1))) ?_
  rintro v h ⟨rfl, rfl⟩
  refine zz_fin.steps (n := 6) (s' := (418, [some (.ref 0), some (.ref 1), some (.ref 540), some (.int 0)], [.int (xs 1), .ref 540, .int (rr_is (xs 1))], zz_hs)) rfl ?_
  refine zz_fin.call (ψ := fun v h => v = some (.int (rr_is (xs 1))) ∧ h = zz_hs) rfl rfl (Nat.le_of_ble_eq_true rfl) (zz_finX (mm_is (xs 1))) ?_
  rintro v h ⟨rfl, rfl⟩
  refine zz_fin.ic rfl (fun _ => ?_) (fun q => absurd (decide_eq_true rfl) q)
  exact law_end xs rfl
theorem law_c8 (xs : Nat → Int32) : zz_fin (some (6, xs)) 0 (426, law_lv, [], zz_hs) law_phi := by
  refine zz_fin.steps (n := 11) (s' := (437, [some (.ref 0), some (.ref 1), some (.ref 540), some (.int 0)], [.int (xs 2), .int (xs 1), .ref 1], zz_hs)) rfl ?_
  refine zz_fin.call (ψ := fun v h => v = some (.int (-1000000)) ∧ h = zz_hs) rfl rfl (Nat.le_of_ble_eq_true rfl) (zz_finX (xx_town (xs 1) (xs 2))) ?_
  rintro v h ⟨rfl, rfl⟩
  refine zz_fin.steps (n := 11) (s' := (451, [some (.ref 0), some (.ref 1), some (.ref 540), some (.int 0)], [.int (xs 2), .int (xs 1), .ref 540, .int (-1000000)], zz_hs)) rfl ?_
  refine zz_fin.call (ψ := fun v h => v = some (.int (-1000000)) ∧ h = zz_hs) rfl rfl (Nat.le_of_ble_eq_true rfl) (zz_finX (mm_town (xs 1) (xs 2))) ?_
  rintro v h ⟨rfl, rfl⟩
  refine zz_fin.steps (n := 1) (s' := (2335, [some (.ref 0), some (.ref 1), some (.ref 540), some (.int 0)], [], zz_hs)) rfl ?_
  exact law_end xs rfl
theorem law_c9 (xs : Nat → Int32) : zz_fin (some (6, xs)) 0 (459, law_lv, [], zz_hs) law_phi := by
  refine zz_fin.steps (n := 16) (s' := (475, [some (.ref 0), some (.ref 1), some (.ref 540), some (.int 0)], [.int (xs 3), .int (xs 2), .int (xs 1), .ref 1], zz_hs)) rfl ?_
  refine zz_fin.call (ψ := fun v h => v = some (.int (-1)) ∧ h = zz_hs) rfl rfl (Nat.le_of_ble_eq_true rfl) (zz_finX (xx_table (xs 1) (xs 2) (xs 3))) ?_
  rintro v h ⟨rfl, rfl⟩
  refine zz_fin.steps (n := 16) (s' := (494, [some (.ref 0), some (.ref 1), some (.ref 540), some (.int 0)], [.int (xs 3), .int (xs 2), .int (xs 1), .ref 540, .int (-1)], zz_hs)) rfl ?_
  refine zz_fin.call (ψ := fun v h => v = some (.int (-1)) ∧ h = zz_hs) rfl rfl (Nat.le_of_ble_eq_true rfl) (zz_finX (mm_table (xs 1) (xs 2) (xs 3))) ?_
  rintro v h ⟨rfl, rfl⟩
  refine zz_fin.steps (n := 1) (s' := (2335, [some (.ref 0), some (.ref 1), some (.ref 540), some (.int 0)], [], zz_hs)) rfl ?_
  exact law_end xs rfl
theorem law_c10 (xs : Nat → Int32) : zz_fin (some (6, xs)) 0 (502, law_lv, [], zz_hs) law_phi := by
  refine zz_fin.steps (n := 21) (s' := (523, [some (.ref 0), some (.ref 1), some (.ref 540), some (.int 0)], [.int (xs 4), .int (xs 3), .int (xs 2), .int (xs 1), .ref 1], zz_hs)) rfl ?_
  refine zz_fin.call (ψ := fun v h => v = some (.int (-1)) ∧ h = zz_hs) rfl rfl (Nat.le_of_ble_eq_true rfl) (zz_finX (xx_turn (xs 1) (xs 2) (xs 3) (xs 4))) ?_
  rintro v h ⟨rfl, rfl⟩
  refine zz_fin.steps (n := 21) (s' := (547, [some (.ref 0), some (.ref 1), some (.ref 540), some (.int 0)], [.int (xs 4), .int (xs 3), .int (xs 2), .int (xs 1), .ref 540, .int (-1)], zz_hs)) rfl ?_
  refine zz_fin.call (ψ := fun v h => v = some (.int (-1)) ∧ h = zz_hs) rfl rfl (Nat.le_of_ble_eq_true rfl) (zz_finX (mm_turn (xs 1) (xs 2) (xs 3) (xs 4))) ?_
  rintro v h ⟨rfl, rfl⟩
  refine zz_fin.steps (n := 1) (s' := (2335, [some (.ref 0), some (.ref 1), some (.ref 540), some (.int 0)], [], zz_hs)) rfl ?_
  exact law_end xs rfl
theorem law_c11 (xs : Nat → Int32) : zz_fin (some (6, xs)) 0 (555, law_lv, [], zz_hs) law_phi := by
  refine zz_fin.steps (n := 21) (s' := (576, [some (.ref 0), some (.ref 1), some (.ref 540), some (.int 0)], [.int (xs 4), .int (xs 3), .int (xs 2), .int (xs 1), .ref 1], zz_hs)) rfl ?_
  refine zz_fin.call (ψ := fun v h => v = some (.int (-1)) ∧ h = zz_hs) rfl rfl (Nat.le_of_ble_eq_true rfl) (zz_finX (xx_back (xs 1) (xs 2) (xs 3) (xs 4))) ?_
  rintro v h ⟨rfl, rfl⟩
  refine zz_fin.steps (n := 21) (s' := (600, [some (.ref 0), some (.ref 1), some (.ref 540), some (.int 0)], [.int (xs 4), .int (xs 3), .int (xs 2), .int (xs 1), .ref 540, .int (-1)], zz_hs)) rfl ?_
  refine zz_fin.call (ψ := fun v h => v = some (.int (-1)) ∧ h = zz_hs) rfl rfl (Nat.le_of_ble_eq_true rfl) (zz_finX (mm_back (xs 1) (xs 2) (xs 3) (xs 4))) ?_
  rintro v h ⟨rfl, rfl⟩
  refine zz_fin.steps (n := 1) (s' := (2335, [some (.ref 0), some (.ref 1), some (.ref 540), some (.int 0)], [], zz_hs)) rfl ?_
  exact law_end xs rfl
theorem law_c12 (xs : Nat → Int32) : zz_fin (some (6, xs)) 0 (608, law_lv, [], zz_hs) law_phi := by
  refine zz_fin.steps (n := 26) (s' := (634, [some (.ref 0), some (.ref 1), some (.ref 540), some (.int 0)], [.int (xs 5), .int (xs 4), .int (xs 3), .int (xs 2), .int (xs 1), .ref 1], zz_hs)) rfl ?_
  refine zz_fin.call (ψ := fun v h => v = some (.int (-1000000)) ∧ h = zz_hs) rfl rfl (Nat.le_of_ble_eq_true rfl) (zz_finX (xx_over (xs 1) (xs 2) (xs 3) (xs 4) (xs 5))) ?_
  rintro v h ⟨rfl, rfl⟩
  refine zz_fin.steps (n := 26) (s' := (663, [some (.ref 0), some (.ref 1), some (.ref 540), some (.int 0)], [.int (xs 5), .int (xs 4), .int (xs 3), .int (xs 2), .int (xs 1), .ref 540, .int (-1000000)], zz_hs)) rfl ?_
  refine zz_fin.call (ψ := fun v h => v = some (.int (-1000000)) ∧ h = zz_hs) rfl rfl (Nat.le_of_ble_eq_true rfl) (zz_finX (mm_over (xs 1) (xs 2) (xs 3) (xs 4) (xs 5))) ?_
  rintro v h ⟨rfl, rfl⟩
  refine zz_fin.steps (n := 1) (s' := (2335, [some (.ref 0), some (.ref 1), some (.ref 540), some (.int 0)], [], zz_hs)) rfl ?_
  exact law_end xs rfl
theorem law_c13 (xs : Nat → Int32) : zz_fin (some (6, xs)) 0 (671, law_lv, [], zz_hs) law_phi := by
  refine zz_fin.steps (n := 21) (s' := (692, [some (.ref 0), some (.ref 1), some (.ref 540), some (.int 0)], [.int (xs 4), .int (xs 3), .int (xs 2), .int (xs 1), .ref 1], zz_hs)) rfl ?_
  refine zz_fin.call (ψ := fun v h => v = some (.int (-1)) ∧ h = zz_hs) rfl rfl (Nat.le_of_ble_eq_true rfl) (zz_finX (xx_date (xs 1) (xs 2) (xs 3) (xs 4))) ?_
  rintro v h ⟨rfl, rfl⟩
  refine zz_fin.steps (n := 21) (s' := (716, [some (.ref 0), some (.ref 1), some (.ref 540), some (.int 0)], [.int (xs 4), .int (xs 3), .int (xs 2), .int (xs 1), .ref 540, .int (-1)], zz_hs)) rfl ?_
  refine zz_fin.call (ψ := fun v h => v = some (.int (-1)) ∧ h = zz_hs) rfl rfl (Nat.le_of_ble_eq_true rfl) (zz_finX (mm_date (xs 1) (xs 2) (xs 3) (xs 4))) ?_
  rintro v h ⟨rfl, rfl⟩
  refine zz_fin.steps (n := 1) (s' := (2335, [some (.ref 0), some (.ref 1), some (.ref 540), some (.int 0)], [], zz_hs)) rfl ?_
  exact law_end xs rfl
theorem law_c14 (xs : Nat → Int32) : zz_fin (some (6, xs)) 0 (724, law_lv, [], zz_hs) law_phi := by
  refine zz_fin.steps (n := 21) (s' := (745, [some (.ref 0), some (.ref 1), some (.ref 540), some (.int 0)], [.int (xs 4), .int (xs 3), .int (xs 2), .int (xs 1), .ref 1], zz_hs)) rfl ?_
  refine zz_fin.call (ψ := fun v h => v = some (.int (-1)) ∧ h = zz_hs) rfl rfl (Nat.le_of_ble_eq_true rfl) (zz_finX (xx_ring (xs 1) (xs 2) (xs 3) (xs 4))) ?_
  rintro v h ⟨rfl, rfl⟩
  refine zz_fin.steps (n := 21) (s' := (769, [some (.ref 0), some (.ref 1), some (.ref 540), some (.int 0)], [.int (xs 4), .int (xs 3), .int (xs 2), .int (xs 1), .ref 540, .int (-1)], zz_hs)) rfl ?_
  refine zz_fin.call (ψ := fun v h => v = some (.int (-1)) ∧ h = zz_hs) rfl rfl (Nat.le_of_ble_eq_true rfl) (zz_finX (mm_ring (xs 1) (xs 2) (xs 3) (xs 4))) ?_
  rintro v h ⟨rfl, rfl⟩
  refine zz_fin.steps (n := 1) (s' := (2335, [some (.ref 0), some (.ref 1), some (.ref 540), some (.int 0)], [], zz_hs)) rfl ?_
  exact law_end xs rfl
theorem law_c15 (xs : Nat → Int32) : zz_fin (some (6, xs)) 0 (777, law_lv, [], zz_hs) law_phi := by
  refine zz_fin.steps (n := 11) (s' := (788, [some (.ref 0), some (.ref 1), some (.ref 540), some (.int 0)], [.int (xs 2), .int (xs 1), .ref 1], zz_hs)) rfl ?_
  refine zz_fin.call (ψ := fun v h => v = some (.int (-1)) ∧ h = zz_hs) rfl rfl (Nat.le_of_ble_eq_true rfl) (zz_finX (xx_strokes (xs 1) (xs 2))) ?_
  rintro v h ⟨rfl, rfl⟩
  refine zz_fin.steps (n := 11) (s' := (802, [some (.ref 0), some (.ref 1), some (.ref 540), some (.int 0)], [.int (xs 2), .int (xs 1), .ref 540, .int (-1)], zz_hs)) rfl ?_
  refine zz_fin.call (ψ := fun v h => v = some (.int (-1)) ∧ h = zz_hs) rfl rfl (Nat.le_of_ble_eq_true rfl) (zz_finX (mm_strokes (xs 1) (xs 2))) ?_
  rintro v h ⟨rfl, rfl⟩
  refine zz_fin.steps (n := 1) (s' := (2335, [some (.ref 0), some (.ref 1), some (.ref 540), some (.int 0)], [], zz_hs)) rfl ?_
  exact law_end xs rfl
theorem law_c16 (xs : Nat → Int32) : zz_fin (some (6, xs)) 0 (810, law_lv, [], zz_hs) law_phi := by
  refine zz_fin.steps (n := 16) (s' := (826, [some (.ref 0), some (.ref 1), some (.ref 540), some (.int 0)], [.int (xs 3), .int (xs 2), .int (xs 1), .ref 1], zz_hs)) rfl ?_
  refine zz_fin.call (ψ := fun v h => v = some (.int (-1)) ∧ h = zz_hs) rfl rfl (Nat.le_of_ble_eq_true rfl) (zz_finX (xx_soonest (xs 1) (xs 2) (xs 3))) ?_
  rintro v h ⟨rfl, rfl⟩
  refine zz_fin.steps (n := 16) (s' := (845, [some (.ref 0), some (.ref 1), some (.ref 540), some (.int 0)], [.int (xs 3), .int (xs 2), .int (xs 1), .ref 540, .int (-1)], zz_hs)) rfl ?_
  refine zz_fin.call (ψ := fun v h => v = some (.int (-1)) ∧ h = zz_hs) rfl rfl (Nat.le_of_ble_eq_true rfl) (zz_finX (mm_soonest (xs 1) (xs 2) (xs 3))) ?_
  rintro v h ⟨rfl, rfl⟩
  refine zz_fin.steps (n := 1) (s' := (2335, [some (.ref 0), some (.ref 1), some (.ref 540), some (.int 0)], [], zz_hs)) rfl ?_
  exact law_end xs rfl
theorem law_c17 (xs : Nat → Int32) : zz_fin (some (6, xs)) 0 (853, law_lv, [], zz_hs) law_phi := by
  refine zz_fin.steps (n := 16) (s' := (869, [some (.ref 0), some (.ref 1), some (.ref 540), some (.int 0)], [.int (xs 3), .int (xs 2), .int (xs 1), .ref 1], zz_hs)) rfl ?_
  refine zz_fin.call (ψ := fun v h => v = some (.int (-1)) ∧ h = zz_hs) rfl rfl (Nat.le_of_ble_eq_true rfl) (zz_finX (xx_clash (xs 1) (xs 2) (xs 3))) ?_
  rintro v h ⟨rfl, rfl⟩
  refine zz_fin.steps (n := 16) (s' := (888, [some (.ref 0), some (.ref 1), some (.ref 540), some (.int 0)], [.int (xs 3), .int (xs 2), .int (xs 1), .ref 540, .int (-1)], zz_hs)) rfl ?_
  refine zz_fin.call (ψ := fun v h => v = some (.int (-1)) ∧ h = zz_hs) rfl rfl (Nat.le_of_ble_eq_true rfl) (zz_finX (mm_clash (xs 1) (xs 2) (xs 3))) ?_
  rintro v h ⟨rfl, rfl⟩
  refine zz_fin.steps (n := 1) (s' := (2335, [some (.ref 0), some (.ref 1), some (.ref 540), some (.int 0)], [], zz_hs)) rfl ?_
  exact law_end xs rfl
theorem law_c18 (xs : Nat → Int32) : zz_fin (some (6, xs)) 0 (896, law_lv, [], zz_hs) law_phi := by
  refine zz_fin.steps (n := 11) (s' := (907, [some (.ref 0), some (.ref 1), some (.ref 540), some (.int 0)], [.int (xs 2), .int (xs 1), .ref 1], zz_hs)) rfl ?_
  refine zz_fin.call (ψ := fun v h => v = some (.int (-1)) ∧ h = zz_hs) rfl rfl (Nat.le_of_ble_eq_true rfl) (zz_finX (xx_bell (xs 1) (xs 2))) ?_
  rintro v h ⟨rfl, rfl⟩
  refine zz_fin.steps (n := 11) (s' := (921, [some (.ref 0), some (.ref 1), some (.ref 540), some (.int 0)], [.int (xs 2), .int (xs 1), .ref 540, .int (-1)], zz_hs)) rfl ?_
  refine zz_fin.call (ψ := fun v h => v = some (.int (-1)) ∧ h = zz_hs) rfl rfl (Nat.le_of_ble_eq_true rfl) (zz_finX (mm_bell (xs 1) (xs 2))) ?_
  rintro v h ⟨rfl, rfl⟩
  refine zz_fin.steps (n := 1) (s' := (2335, [some (.ref 0), some (.ref 1), some (.ref 540), some (.int 0)], [], zz_hs)) rfl ?_
  exact law_end xs rfl
theorem law_c19 (xs : Nat → Int32) : zz_fin (some (6, xs)) 0 (929, law_lv, [], zz_hs) law_phi := by
  refine zz_fin.steps (n := 26) (s' := (955, [some (.ref 0), some (.ref 1), some (.ref 540), some (.int 0)], [.int (xs 5), .int (xs 4), .int (xs 3), .int (xs 2), .int (xs 1), .ref 1], zz_hs)) rfl ?_
  refine zz_fin.call (ψ := fun v h => v = some (.int (-1000)) ∧ h = zz_hs) rfl rfl (Nat.le_of_ble_eq_true rfl) (zz_finX (xx_jar (xs 1) (xs 2) (xs 3) (xs 4) (xs 5))) ?_
  rintro v h ⟨rfl, rfl⟩
  refine zz_fin.steps (n := 26) (s' := (984, [some (.ref 0), some (.ref 1), some (.ref 540), some (.int 0)], [.int (xs 5), .int (xs 4), .int (xs 3), .int (xs 2), .int (xs 1), .ref 540, .int (-1000)], zz_hs)) rfl ?_
  refine zz_fin.call (ψ := fun v h => v = some (.int (-1000)) ∧ h = zz_hs) rfl rfl (Nat.le_of_ble_eq_true rfl) (zz_finX (mm_jar (xs 1) (xs 2) (xs 3) (xs 4) (xs 5))) ?_
  rintro v h ⟨rfl, rfl⟩
  refine zz_fin.steps (n := 1) (s' := (2335, [some (.ref 0), some (.ref 1), some (.ref 540), some (.int 0)], [], zz_hs)) rfl ?_
  exact law_end xs rfl
theorem law_c20 (xs : Nat → Int32) : zz_fin (some (6, xs)) 0 (992, law_lv, [], zz_hs) law_phi := by
  refine zz_fin.steps (n := 26) (s' := (1018, [some (.ref 0), some (.ref 1), some (.ref 540), some (.int 0)], [.int (xs 5), .int (xs 4), .int (xs 3), .int (xs 2), .int (xs 1), .ref 1], zz_hs)) rfl ?_
  refine zz_fin.call (ψ := fun v h => v = some (.int (-1)) ∧ h = zz_hs) rfl rfl (Nat.le_of_ble_eq_true rfl) (zz_finX (xx_work (xs 1) (xs 2) (xs 3) (xs 4) (xs 5))) ?_
  rintro v h ⟨rfl, rfl⟩
  refine zz_fin.steps (n := 26) (s' := (1047, [some (.ref 0), some (.ref 1), some (.ref 540), some (.int 0)], [.int (xs 5), .int (xs 4), .int (xs 3), .int (xs 2), .int (xs 1), .ref 540, .int (-1)], zz_hs)) rfl ?_
  refine zz_fin.call (ψ := fun v h => v = some (.int (-1)) ∧ h = zz_hs) rfl rfl (Nat.le_of_ble_eq_true rfl) (zz_finX (mm_work (xs 1) (xs 2) (xs 3) (xs 4) (xs 5))) ?_
  rintro v h ⟨rfl, rfl⟩
  refine zz_fin.steps (n := 1) (s' := (2335, [some (.ref 0), some (.ref 1), some (.ref 540), some (.int 0)], [], zz_hs)) rfl ?_
  exact law_end xs rfl
theorem law_c21 (xs : Nat → Int32) : zz_fin (some (6, xs)) 0 (1055, law_lv, [], zz_hs) law_phi := by
  refine zz_fin.steps (n := 11) (s' := (1066, [some (.ref 0), some (.ref 1), some (.ref 540), some (.int 0)], [.int (xs 2), .int (xs 1), .ref 1], zz_hs)) rfl ?_
  refine zz_fin.call (ψ := fun v h => v = some (.int (-1)) ∧ h = zz_hs) rfl rfl (Nat.le_of_ble_eq_true rfl) (zz_finX (xx_season (xs 1) (xs 2))) ?_
  rintro v h ⟨rfl, rfl⟩
  refine zz_fin.steps (n := 11) (s' := (1080, [some (.ref 0), some (.ref 1), some (.ref 540), some (.int 0)], [.int (xs 2), .int (xs 1), .ref 540, .int (-1)], zz_hs)) rfl ?_
  refine zz_fin.call (ψ := fun v h => v = some (.int (-1)) ∧ h = zz_hs) rfl rfl (Nat.le_of_ble_eq_true rfl) (zz_finX (mm_season (xs 1) (xs 2))) ?_
  rintro v h ⟨rfl, rfl⟩
  refine zz_fin.steps (n := 1) (s' := (2335, [some (.ref 0), some (.ref 1), some (.ref 540), some (.int 0)], [], zz_hs)) rfl ?_
  exact law_end xs rfl
theorem law_c22 (xs : Nat → Int32) : zz_fin (some (6, xs)) 0 (1088, law_lv, [], zz_hs) law_phi := by
  refine zz_fin.steps (n := 26) (s' := (1114, [some (.ref 0), some (.ref 1), some (.ref 540), some (.int 0)], [.int (xs 5), .int (xs 4), .int (xs 3), .int (xs 2), .int (xs 1), .ref 1], zz_hs)) rfl ?_
  refine zz_fin.call (ψ := fun v h => v = some (.int (-1000000)) ∧ h = zz_hs) rfl rfl (Nat.le_of_ble_eq_true rfl) (zz_finX (xx_meet (xs 1) (xs 2) (xs 3) (xs 4) (xs 5))) ?_
  rintro v h ⟨rfl, rfl⟩
  refine zz_fin.steps (n := 26) (s' := (1143, [some (.ref 0), some (.ref 1), some (.ref 540), some (.int 0)], [.int (xs 5), .int (xs 4), .int (xs 3), .int (xs 2), .int (xs 1), .ref 540, .int (-1000000)], zz_hs)) rfl ?_
  refine zz_fin.call (ψ := fun v h => v = some (.int (-1000000)) ∧ h = zz_hs) rfl rfl (Nat.le_of_ble_eq_true rfl) (zz_finX (mm_meet (xs 1) (xs 2) (xs 3) (xs 4) (xs 5))) ?_
  rintro v h ⟨rfl, rfl⟩
  refine zz_fin.steps (n := 1) (s' := (2335, [some (.ref 0), some (.ref 1), some (.ref 540), some (.int 0)], [], zz_hs)) rfl ?_
  exact law_end xs rfl
theorem law_c23 (xs : Nat → Int32) : zz_fin (some (6, xs)) 0 (1151, law_lv, [], zz_hs) law_phi := by
  refine zz_fin.steps (n := 21) (s' := (1172, [some (.ref 0), some (.ref 1), some (.ref 540), some (.int 0)], [.int (xs 4), .int (xs 3), .int (xs 2), .int (xs 1), .ref 1], zz_hs)) rfl ?_
  refine zz_fin.call (ψ := fun v h => v = some (.int (-1000000)) ∧ h = zz_hs) rfl rfl (Nat.le_of_ble_eq_true rfl) (zz_finX (xx_middle (xs 1) (xs 2) (xs 3) (xs 4))) ?_
  rintro v h ⟨rfl, rfl⟩
  refine zz_fin.steps (n := 21) (s' := (1196, [some (.ref 0), some (.ref 1), some (.ref 540), some (.int 0)], [.int (xs 4), .int (xs 3), .int (xs 2), .int (xs 1), .ref 540, .int (-1000000)], zz_hs)) rfl ?_
  refine zz_fin.call (ψ := fun v h => v = some (.int (-1000000)) ∧ h = zz_hs) rfl rfl (Nat.le_of_ble_eq_true rfl) (zz_finX (mm_middle (xs 1) (xs 2) (xs 3) (xs 4))) ?_
  rintro v h ⟨rfl, rfl⟩
  refine zz_fin.steps (n := 1) (s' := (2335, [some (.ref 0), some (.ref 1), some (.ref 540), some (.int 0)], [], zz_hs)) rfl ?_
  exact law_end xs rfl
theorem law_c24 (xs : Nat → Int32) : zz_fin (some (6, xs)) 0 (1204, law_lv, [], zz_hs) law_phi := by
  refine zz_fin.steps (n := 26) (s' := (1230, [some (.ref 0), some (.ref 1), some (.ref 540), some (.int 0)], [.int (xs 5), .int (xs 4), .int (xs 3), .int (xs 2), .int (xs 1), .ref 1], zz_hs)) rfl ?_
  refine zz_fin.call (ψ := fun v h => v = some (.int (-1000000)) ∧ h = zz_hs) rfl rfl (Nat.le_of_ble_eq_true rfl) (zz_finX (xx_apart (xs 1) (xs 2) (xs 3) (xs 4) (xs 5))) ?_
  rintro v h ⟨rfl, rfl⟩
  refine zz_fin.steps (n := 26) (s' := (1259, [some (.ref 0), some (.ref 1), some (.ref 540), some (.int 0)], [.int (xs 5), .int (xs 4), .int (xs 3), .int (xs 2), .int (xs 1), .ref 540, .int (-1000000)], zz_hs)) rfl ?_
  refine zz_fin.call (ψ := fun v h => v = some (.int (-1000000)) ∧ h = zz_hs) rfl rfl (Nat.le_of_ble_eq_true rfl) (zz_finX (mm_apart (xs 1) (xs 2) (xs 3) (xs 4) (xs 5))) ?_
  rintro v h ⟨rfl, rfl⟩
  refine zz_fin.steps (n := 1) (s' := (2335, [some (.ref 0), some (.ref 1), some (.ref 540), some (.int 0)], [], zz_hs)) rfl ?_
  exact law_end xs rfl
theorem law_c25 (xs : Nat → Int32) : zz_fin (some (6, xs)) 0 (1267, law_lv, [], zz_hs) law_phi := by
  refine zz_fin.steps (n := 26) (s' := (1293, [some (.ref 0), some (.ref 1), some (.ref 540), some (.int 0)], [.int (xs 5), .int (xs 4), .int (xs 3), .int (xs 2), .int (xs 1), .ref 1], zz_hs)) rfl ?_
  refine zz_fin.call (ψ := fun v h => v = some (.int (-1)) ∧ h = zz_hs) rfl rfl (Nat.le_of_ble_eq_true rfl) (zz_finX (xx_best (xs 1) (xs 2) (xs 3) (xs 4) (xs 5))) ?_
  rintro v h ⟨rfl, rfl⟩
  refine zz_fin.steps (n := 26) (s' := (1322, [some (.ref 0), some (.ref 1), some (.ref 540), some (.int 0)], [.int (xs 5), .int (xs 4), .int (xs 3), .int (xs 2), .int (xs 1), .ref 540, .int (-1)], zz_hs)) rfl ?_
  refine zz_fin.call (ψ := fun v h => v = some (.int (-1)) ∧ h = zz_hs) rfl rfl (Nat.le_of_ble_eq_true rfl) (zz_finX (mm_best (xs 1) (xs 2) (xs 3) (xs 4) (xs 5))) ?_
  rintro v h ⟨rfl, rfl⟩
  refine zz_fin.steps (n := 1) (s' := (2335, [some (.ref 0), some (.ref 1), some (.ref 540), some (.int 0)], [], zz_hs)) rfl ?_
  exact law_end xs rfl
theorem law_c26 (xs : Nat → Int32) : zz_fin (some (6, xs)) 0 (1330, law_lv, [], zz_hs) law_phi := by
  refine zz_fin.steps (n := 16) (s' := (1346, [some (.ref 0), some (.ref 1), some (.ref 540), some (.int 0)], [.int (xs 3), .int (xs 2), .int (xs 1), .ref 1], zz_hs)) rfl ?_
  refine zz_fin.call (ψ := fun v h => v = some (.int (-1)) ∧ h = zz_hs) rfl rfl (Nat.le_of_ble_eq_true rfl) (zz_finX (xx_candle (xs 1) (xs 2) (xs 3))) ?_
  rintro v h ⟨rfl, rfl⟩
  refine zz_fin.steps (n := 16) (s' := (1365, [some (.ref 0), some (.ref 1), some (.ref 540), some (.int 0)], [.int (xs 3), .int (xs 2), .int (xs 1), .ref 540, .int (-1)], zz_hs)) rfl ?_
  refine zz_fin.call (ψ := fun v h => v = some (.int (-1)) ∧ h = zz_hs) rfl rfl (Nat.le_of_ble_eq_true rfl) (zz_finX (mm_candle (xs 1) (xs 2) (xs 3))) ?_
  rintro v h ⟨rfl, rfl⟩
  refine zz_fin.steps (n := 1) (s' := (2335, [some (.ref 0), some (.ref 1), some (.ref 540), some (.int 0)], [], zz_hs)) rfl ?_
  exact law_end xs rfl
theorem law_c27 (xs : Nat → Int32) : zz_fin (some (6, xs)) 0 (1373, law_lv, [], zz_hs) law_phi := by
  refine zz_fin.steps (n := 16) (s' := (1389, [some (.ref 0), some (.ref 1), some (.ref 540), some (.int 0)], [.int (xs 3), .int (xs 2), .int (xs 1), .ref 1], zz_hs)) rfl ?_
  refine zz_fin.call (ψ := fun v h => v = some (.int (-1)) ∧ h = zz_hs) rfl rfl (Nat.le_of_ble_eq_true rfl) (zz_finX (xx_shared (xs 1) (xs 2) (xs 3))) ?_
  rintro v h ⟨rfl, rfl⟩
  refine zz_fin.steps (n := 16) (s' := (1408, [some (.ref 0), some (.ref 1), some (.ref 540), some (.int 0)], [.int (xs 3), .int (xs 2), .int (xs 1), .ref 540, .int (-1)], zz_hs)) rfl ?_
  refine zz_fin.call (ψ := fun v h => v = some (.int (-1)) ∧ h = zz_hs) rfl rfl (Nat.le_of_ble_eq_true rfl) (zz_finX (mm_shared (xs 1) (xs 2) (xs 3))) ?_
  rintro v h ⟨rfl, rfl⟩
  refine zz_fin.steps (n := 1) (s' := (2335, [some (.ref 0), some (.ref 1), some (.ref 540), some (.int 0)], [], zz_hs)) rfl ?_
  exact law_end xs rfl
theorem law_c28 (xs : Nat → Int32) : zz_fin (some (6, xs)) 0 (1416, law_lv, [], zz_hs) law_phi := by
  refine zz_fin.steps (n := 21) (s' := (1437, [some (.ref 0), some (.ref 1), some (.ref 540), some (.int 0)], [.int (xs 4), .int (xs 3), .int (xs 2), .int (xs 1), .ref 1], zz_hs)) rfl ?_
  refine zz_fin.call (ψ := fun v h => v = some (.int (-1)) ∧ h = zz_hs) rfl rfl (Nat.le_of_ble_eq_true rfl) (zz_finX (xx_busiest (xs 1) (xs 2) (xs 3) (xs 4))) ?_
  rintro v h ⟨rfl, rfl⟩
  refine zz_fin.steps (n := 21) (s' := (1461, [some (.ref 0), some (.ref 1), some (.ref 540), some (.int 0)], [.int (xs 4), .int (xs 3), .int (xs 2), .int (xs 1), .ref 540, .int (-1)], zz_hs)) rfl ?_
  refine zz_fin.call (ψ := fun v h => v = some (.int (-1)) ∧ h = zz_hs) rfl rfl (Nat.le_of_ble_eq_true rfl) (zz_finX (mm_busiest (xs 1) (xs 2) (xs 3) (xs 4))) ?_
  rintro v h ⟨rfl, rfl⟩
  refine zz_fin.steps (n := 1) (s' := (2335, [some (.ref 0), some (.ref 1), some (.ref 540), some (.int 0)], [], zz_hs)) rfl ?_
  exact law_end xs rfl
theorem law_c29 (xs : Nat → Int32) : zz_fin (some (6, xs)) 0 (1469, law_lv, [], zz_hs) law_phi := by
  refine zz_fin.steps (n := 6) (s' := (1475, [some (.ref 0), some (.ref 1), some (.ref 540), some (.int 0)], [.int (xs 1), .ref 1], zz_hs)) rfl ?_
  refine zz_fin.call (ψ := fun v h => v = some (.int (-1)) ∧ h = zz_hs) rfl rfl (Nat.le_of_ble_eq_true rfl) (zz_finX (xx_spare (xs 1))) ?_
  rintro v h ⟨rfl, rfl⟩
  refine zz_fin.steps (n := 6) (s' := (1484, [some (.ref 0), some (.ref 1), some (.ref 540), some (.int 0)], [.int (xs 1), .ref 540, .int (-1)], zz_hs)) rfl ?_
  refine zz_fin.call (ψ := fun v h => v = some (.int (-1)) ∧ h = zz_hs) rfl rfl (Nat.le_of_ble_eq_true rfl) (zz_finX (mm_spare (xs 1))) ?_
  rintro v h ⟨rfl, rfl⟩
  refine zz_fin.steps (n := 1) (s' := (2335, [some (.ref 0), some (.ref 1), some (.ref 540), some (.int 0)], [], zz_hs)) rfl ?_
  exact law_end xs rfl
theorem law_c30 (xs : Nat → Int32) : zz_fin (some (6, xs)) 0 (1492, law_lv, [], zz_hs) law_phi := by
  refine zz_fin.steps (n := 26) (s' := (1518, [some (.ref 0), some (.ref 1), some (.ref 540), some (.int 0)], [.int (xs 5), .int (xs 4), .int (xs 3), .int (xs 2), .int (xs 1), .ref 1], zz_hs)) rfl ?_
  refine zz_fin.call (ψ := fun v h => v = some (.int (-1)) ∧ h = zz_hs) rfl rfl (Nat.le_of_ble_eq_true rfl) (zz_finX (xx_arrive (xs 1) (xs 2) (xs 3) (xs 4) (xs 5))) ?_
  rintro v h ⟨rfl, rfl⟩
  refine zz_fin.steps (n := 26) (s' := (1547, [some (.ref 0), some (.ref 1), some (.ref 540), some (.int 0)], [.int (xs 5), .int (xs 4), .int (xs 3), .int (xs 2), .int (xs 1), .ref 540, .int (-1)], zz_hs)) rfl ?_
  refine zz_fin.call (ψ := fun v h => v = some (.int (-1)) ∧ h = zz_hs) rfl rfl (Nat.le_of_ble_eq_true rfl) (zz_finX (mm_arrive (xs 1) (xs 2) (xs 3) (xs 4) (xs 5))) ?_
  rintro v h ⟨rfl, rfl⟩
  refine zz_fin.steps (n := 1) (s' := (2335, [some (.ref 0), some (.ref 1), some (.ref 540), some (.int 0)], [], zz_hs)) rfl ?_
  exact law_end xs rfl
theorem law_c31 (xs : Nat → Int32) : zz_fin (some (6, xs)) 0 (1555, law_lv, [], zz_hs) law_phi := by
  refine zz_fin.steps (n := 21) (s' := (1576, [some (.ref 0), some (.ref 1), some (.ref 540), some (.int 0)], [.int (xs 4), .int (xs 3), .int (xs 2), .int (xs 1), .ref 1], zz_hs)) rfl ?_
  refine zz_fin.call (ψ := fun v h => v = some (.int (-1)) ∧ h = zz_hs) rfl rfl (Nat.le_of_ble_eq_true rfl) (zz_finX (xx_exact (xs 1) (xs 2) (xs 3) (xs 4))) ?_
  rintro v h ⟨rfl, rfl⟩
  refine zz_fin.steps (n := 21) (s' := (1600, [some (.ref 0), some (.ref 1), some (.ref 540), some (.int 0)], [.int (xs 4), .int (xs 3), .int (xs 2), .int (xs 1), .ref 540, .int (-1)], zz_hs)) rfl ?_
  refine zz_fin.call (ψ := fun v h => v = some (.int (-1)) ∧ h = zz_hs) rfl rfl (Nat.le_of_ble_eq_true rfl) (zz_finX (mm_exact (xs 1) (xs 2) (xs 3) (xs 4))) ?_
  rintro v h ⟨rfl, rfl⟩
  refine zz_fin.steps (n := 1) (s' := (2335, [some (.ref 0), some (.ref 1), some (.ref 540), some (.int 0)], [], zz_hs)) rfl ?_
  exact law_end xs rfl
theorem law_c32 (xs : Nat → Int32) : zz_fin (some (6, xs)) 0 (1608, law_lv, [], zz_hs) law_phi := by
  refine zz_fin.steps (n := 16) (s' := (1624, [some (.ref 0), some (.ref 1), some (.ref 540), some (.int 0)], [.int (xs 3), .int (xs 2), .int (xs 1), .ref 1], zz_hs)) rfl ?_
  refine zz_fin.call (ψ := fun v h => v = some (.int (-1)) ∧ h = zz_hs) rfl rfl (Nat.le_of_ble_eq_true rfl) (zz_finX (xx_alike (xs 1) (xs 2) (xs 3))) ?_
  rintro v h ⟨rfl, rfl⟩
  refine zz_fin.steps (n := 16) (s' := (1643, [some (.ref 0), some (.ref 1), some (.ref 540), some (.int 0)], [.int (xs 3), .int (xs 2), .int (xs 1), .ref 540, .int (-1)], zz_hs)) rfl ?_
  refine zz_fin.call (ψ := fun v h => v = some (.int (-1)) ∧ h = zz_hs) rfl rfl (Nat.le_of_ble_eq_true rfl) (zz_finX (mm_alike (xs 1) (xs 2) (xs 3))) ?_
  rintro v h ⟨rfl, rfl⟩
  refine zz_fin.steps (n := 1) (s' := (2335, [some (.ref 0), some (.ref 1), some (.ref 540), some (.int 0)], [], zz_hs)) rfl ?_
  exact law_end xs rfl
theorem law_c33 (xs : Nat → Int32) : zz_fin (some (6, xs)) 0 (1651, law_lv, [], zz_hs) law_phi := by
  refine zz_fin.steps (n := 21) (s' := (1672, [some (.ref 0), some (.ref 1), some (.ref 540), some (.int 0)], [.int (xs 4), .int (xs 3), .int (xs 2), .int (xs 1), .ref 1], zz_hs)) rfl ?_
  refine zz_fin.call (ψ := fun v h => v = some (.int (-1000000)) ∧ h = zz_hs) rfl rfl (Nat.le_of_ble_eq_true rfl) (zz_finX (xx_growth (xs 1) (xs 2) (xs 3) (xs 4))) ?_
  rintro v h ⟨rfl, rfl⟩
  refine zz_fin.steps (n := 21) (s' := (1696, [some (.ref 0), some (.ref 1), some (.ref 540), some (.int 0)], [.int (xs 4), .int (xs 3), .int (xs 2), .int (xs 1), .ref 540, .int (-1000000)], zz_hs)) rfl ?_
  refine zz_fin.call (ψ := fun v h => v = some (.int (-1000000)) ∧ h = zz_hs) rfl rfl (Nat.le_of_ble_eq_true rfl) (zz_finX (mm_growth (xs 1) (xs 2) (xs 3) (xs 4))) ?_
  rintro v h ⟨rfl, rfl⟩
  refine zz_fin.steps (n := 1) (s' := (2335, [some (.ref 0), some (.ref 1), some (.ref 540), some (.int 0)], [], zz_hs)) rfl ?_
  exact law_end xs rfl
theorem law_c34 (xs : Nat → Int32) : zz_fin (some (6, xs)) 0 (1704, law_lv, [], zz_hs) law_phi := by
  refine zz_fin.steps (n := 21) (s' := (1725, [some (.ref 0), some (.ref 1), some (.ref 540), some (.int 0)], [.int (xs 4), .int (xs 3), .int (xs 2), .int (xs 1), .ref 1], zz_hs)) rfl ?_
  refine zz_fin.call (ψ := fun v h => v = some (.int (-1)) ∧ h = zz_hs) rfl rfl (Nat.le_of_ble_eq_true rfl) (zz_finX (xx_watch (xs 1) (xs 2) (xs 3) (xs 4))) ?_
  rintro v h ⟨rfl, rfl⟩
  refine zz_fin.steps (n := 21) (s' := (1749, [some (.ref 0), some (.ref 1), some (.ref 540), some (.int 0)], [.int (xs 4), .int (xs 3), .int (xs 2), .int (xs 1), .ref 540, .int (-1)], zz_hs)) rfl ?_
  refine zz_fin.call (ψ := fun v h => v = some (.int (-1)) ∧ h = zz_hs) rfl rfl (Nat.le_of_ble_eq_true rfl) (zz_finX (mm_watch (xs 1) (xs 2) (xs 3) (xs 4))) ?_
  rintro v h ⟨rfl, rfl⟩
  refine zz_fin.steps (n := 1) (s' := (2335, [some (.ref 0), some (.ref 1), some (.ref 540), some (.int 0)], [], zz_hs)) rfl ?_
  exact law_end xs rfl
theorem law_c35 (xs : Nat → Int32) : zz_fin (some (6, xs)) 0 (1757, law_lv, [], zz_hs) law_phi := by
  refine zz_fin.steps (n := 26) (s' := (1783, [some (.ref 0), some (.ref 1), some (.ref 540), some (.int 0)], [.int (xs 5), .int (xs 4), .int (xs 3), .int (xs 2), .int (xs 1), .ref 1], zz_hs)) rfl ?_
  refine zz_fin.call (ψ := fun v h => v = some (.int (-1)) ∧ h = zz_hs) rfl rfl (Nat.le_of_ble_eq_true rfl) (zz_finX (xx_shows (xs 1) (xs 2) (xs 3) (xs 4) (xs 5))) ?_
  rintro v h ⟨rfl, rfl⟩
  refine zz_fin.steps (n := 26) (s' := (1812, [some (.ref 0), some (.ref 1), some (.ref 540), some (.int 0)], [.int (xs 5), .int (xs 4), .int (xs 3), .int (xs 2), .int (xs 1), .ref 540, .int (-1)], zz_hs)) rfl ?_
  refine zz_fin.call (ψ := fun v h => v = some (.int (-1)) ∧ h = zz_hs) rfl rfl (Nat.le_of_ble_eq_true rfl) (zz_finX (mm_shows (xs 1) (xs 2) (xs 3) (xs 4) (xs 5))) ?_
  rintro v h ⟨rfl, rfl⟩
  refine zz_fin.steps (n := 1) (s' := (2335, [some (.ref 0), some (.ref 1), some (.ref 540), some (.int 0)], [], zz_hs)) rfl ?_
  exact law_end xs rfl
theorem law_c36 (xs : Nat → Int32) : zz_fin (some (6, xs)) 0 (1820, law_lv, [], zz_hs) law_phi := by
  refine zz_fin.steps (n := 11) (s' := (1831, [some (.ref 0), some (.ref 1), some (.ref 540), some (.int 0)], [.int (xs 2), .int (xs 1), .ref 1], zz_hs)) rfl ?_
  refine zz_fin.call (ψ := fun v h => v = some (.int (rr_spread (xs 1) (xs 2))) ∧ h = zz_hs) rfl rfl (Nat.le_of_ble_eq_true rfl) (zz_finX (xx_spread (xs 1) (xs 2))) ?_
  rintro v h ⟨rfl, rfl⟩
  refine zz_fin.steps (n := 11) (s' := (1845, [some (.ref 0), some (.ref 1), some (.ref 540), some (.int 0)], [.int (xs 2), .int (xs 1), .ref 540, .int (rr_spread (xs 1) (xs 2))], zz_hs)) rfl ?_
  refine zz_fin.call (ψ := fun v h => v = some (.int (rr_spread (xs 1) (xs 2))) ∧ h = zz_hs) rfl rfl (Nat.le_of_ble_eq_true rfl) (zz_finX (mm_spread (xs 1) (xs 2))) ?_
  rintro v h ⟨rfl, rfl⟩
  refine zz_fin.ic rfl (fun _ => ?_) (fun q => absurd (decide_eq_true rfl) q)
  exact law_end xs rfl
theorem law_c37 (xs : Nat → Int32) : zz_fin (some (6, xs)) 0 (1853, law_lv, [], zz_hs) law_phi := by
  refine zz_fin.steps (n := 16) (s' := (1869, [some (.ref 0), some (.ref 1), some (.ref 540), some (.int 0)], [.int (xs 3), .int (xs 2), .int (xs 1), .ref 1], zz_hs)) rfl ?_
  refine zz_fin.call (ψ := fun v h => v = some (.int (-1)) ∧ h = zz_hs) rfl rfl (Nat.le_of_ble_eq_true rfl) (zz_finX (xx_total (xs 1) (xs 2) (xs 3))) ?_
  rintro v h ⟨rfl, rfl⟩
  refine zz_fin.steps (n := 16) (s' := (1888, [some (.ref 0), some (.ref 1), some (.ref 540), some (.int 0)], [.int (xs 3), .int (xs 2), .int (xs 1), .ref 540, .int (-1)], zz_hs)) rfl ?_
  refine zz_fin.call (ψ := fun v h => v = some (.int (-1)) ∧ h = zz_hs) rfl rfl (Nat.le_of_ble_eq_true rfl) (zz_finX (mm_total (xs 1) (xs 2) (xs 3))) ?_
  rintro v h ⟨rfl, rfl⟩
  refine zz_fin.steps (n := 1) (s' := (2335, [some (.ref 0), some (.ref 1), some (.ref 540), some (.int 0)], [], zz_hs)) rfl ?_
  exact law_end xs rfl
theorem law_c38 (xs : Nat → Int32) : zz_fin (some (6, xs)) 0 (1896, law_lv, [], zz_hs) law_phi := by
  refine zz_fin.steps (n := 16) (s' := (1912, [some (.ref 0), some (.ref 1), some (.ref 540), some (.int 0)], [.int (xs 3), .int (xs 2), .int (xs 1), .ref 1], zz_hs)) rfl ?_
  refine zz_fin.call (ψ := fun v h => v = some (.int (-1)) ∧ h = zz_hs) rfl rfl (Nat.le_of_ble_eq_true rfl) (zz_finX (xx_quiet (xs 1) (xs 2) (xs 3))) ?_
  rintro v h ⟨rfl, rfl⟩
  refine zz_fin.steps (n := 16) (s' := (1931, [some (.ref 0), some (.ref 1), some (.ref 540), some (.int 0)], [.int (xs 3), .int (xs 2), .int (xs 1), .ref 540, .int (-1)], zz_hs)) rfl ?_
  refine zz_fin.call (ψ := fun v h => v = some (.int (-1)) ∧ h = zz_hs) rfl rfl (Nat.le_of_ble_eq_true rfl) (zz_finX (mm_quiet (xs 1) (xs 2) (xs 3))) ?_
  rintro v h ⟨rfl, rfl⟩
  refine zz_fin.steps (n := 1) (s' := (2335, [some (.ref 0), some (.ref 1), some (.ref 540), some (.int 0)], [], zz_hs)) rfl ?_
  exact law_end xs rfl
theorem law_c39 (xs : Nat → Int32) : zz_fin (some (6, xs)) 0 (1939, law_lv, [], zz_hs) law_phi := by
  refine zz_fin.steps (n := 11) (s' := (1950, [some (.ref 0), some (.ref 1), some (.ref 540), some (.int 0)], [.int (xs 2), .int (xs 1), .ref 1], zz_hs)) rfl ?_
  refine zz_fin.call (ψ := fun v h => v = some (.int (-1)) ∧ h = zz_hs) rfl rfl (Nat.le_of_ble_eq_true rfl) (zz_finX (xx_same (xs 1) (xs 2))) ?_
  rintro v h ⟨rfl, rfl⟩
  refine zz_fin.steps (n := 11) (s' := (1964, [some (.ref 0), some (.ref 1), some (.ref 540), some (.int 0)], [.int (xs 2), .int (xs 1), .ref 540, .int (-1)], zz_hs)) rfl ?_
  refine zz_fin.call (ψ := fun v h => v = some (.int (-1)) ∧ h = zz_hs) rfl rfl (Nat.le_of_ble_eq_true rfl) (zz_finX (mm_same (xs 1) (xs 2))) ?_
  rintro v h ⟨rfl, rfl⟩
  refine zz_fin.steps (n := 1) (s' := (2335, [some (.ref 0), some (.ref 1), some (.ref 540), some (.int 0)], [], zz_hs)) rfl ?_
  exact law_end xs rfl
theorem law_c40 (xs : Nat → Int32) : zz_fin (some (6, xs)) 0 (1972, law_lv, [], zz_hs) law_phi := by
  refine zz_fin.steps (n := 26) (s' := (1998, [some (.ref 0), some (.ref 1), some (.ref 540), some (.int 0)], [.int (xs 5), .int (xs 4), .int (xs 3), .int (xs 2), .int (xs 1), .ref 1], zz_hs)) rfl ?_
  refine zz_fin.call (ψ := fun v h => v = some (.int (-1)) ∧ h = zz_hs) rfl rfl (Nat.le_of_ble_eq_true rfl) (zz_finX (xx_until (xs 1) (xs 2) (xs 3) (xs 4) (xs 5))) ?_
  rintro v h ⟨rfl, rfl⟩
  refine zz_fin.steps (n := 26) (s' := (2027, [some (.ref 0), some (.ref 1), some (.ref 540), some (.int 0)], [.int (xs 5), .int (xs 4), .int (xs 3), .int (xs 2), .int (xs 1), .ref 540, .int (-1)], zz_hs)) rfl ?_
  refine zz_fin.call (ψ := fun v h => v = some (.int (-1)) ∧ h = zz_hs) rfl rfl (Nat.le_of_ble_eq_true rfl) (zz_finX (mm_until (xs 1) (xs 2) (xs 3) (xs 4) (xs 5))) ?_
  rintro v h ⟨rfl, rfl⟩
  refine zz_fin.steps (n := 1) (s' := (2335, [some (.ref 0), some (.ref 1), some (.ref 540), some (.int 0)], [], zz_hs)) rfl ?_
  exact law_end xs rfl
theorem law_c41 (xs : Nat → Int32) : zz_fin (some (6, xs)) 0 (2035, law_lv, [], zz_hs) law_phi := by
  refine zz_fin.steps (n := 21) (s' := (2056, [some (.ref 0), some (.ref 1), some (.ref 540), some (.int 0)], [.int (xs 4), .int (xs 3), .int (xs 2), .int (xs 1), .ref 1], zz_hs)) rfl ?_
  refine zz_fin.call (ψ := fun v h => v = some (.int (-1000000)) ∧ h = zz_hs) rfl rfl (Nat.le_of_ble_eq_true rfl) (zz_finX (xx_lag (xs 1) (xs 2) (xs 3) (xs 4))) ?_
  rintro v h ⟨rfl, rfl⟩
  refine zz_fin.steps (n := 21) (s' := (2080, [some (.ref 0), some (.ref 1), some (.ref 540), some (.int 0)], [.int (xs 4), .int (xs 3), .int (xs 2), .int (xs 1), .ref 540, .int (-1000000)], zz_hs)) rfl ?_
  refine zz_fin.call (ψ := fun v h => v = some (.int (-1000000)) ∧ h = zz_hs) rfl rfl (Nat.le_of_ble_eq_true rfl) (zz_finX (mm_lag (xs 1) (xs 2) (xs 3) (xs 4))) ?_
  rintro v h ⟨rfl, rfl⟩
  refine zz_fin.steps (n := 1) (s' := (2335, [some (.ref 0), some (.ref 1), some (.ref 540), some (.int 0)], [], zz_hs)) rfl ?_
  exact law_end xs rfl
theorem law_c42 (xs : Nat → Int32) : zz_fin (some (6, xs)) 0 (2088, law_lv, [], zz_hs) law_phi := by
  refine zz_fin.steps (n := 11) (s' := (2099, [some (.ref 0), some (.ref 1), some (.ref 540), some (.int 0)], [.int (xs 2), .int (xs 1), .ref 1], zz_hs)) rfl ?_
  refine zz_fin.call (ψ := fun v h => v = some (.int (-1000000)) ∧ h = zz_hs) rfl rfl (Nat.le_of_ble_eq_true rfl) (zz_finX (xx_offset (xs 1) (xs 2))) ?_
  rintro v h ⟨rfl, rfl⟩
  refine zz_fin.steps (n := 11) (s' := (2113, [some (.ref 0), some (.ref 1), some (.ref 540), some (.int 0)], [.int (xs 2), .int (xs 1), .ref 540, .int (-1000000)], zz_hs)) rfl ?_
  refine zz_fin.call (ψ := fun v h => v = some (.int (-1000000)) ∧ h = zz_hs) rfl rfl (Nat.le_of_ble_eq_true rfl) (zz_finX (mm_offset (xs 1) (xs 2))) ?_
  rintro v h ⟨rfl, rfl⟩
  refine zz_fin.steps (n := 1) (s' := (2335, [some (.ref 0), some (.ref 1), some (.ref 540), some (.int 0)], [], zz_hs)) rfl ?_
  exact law_end xs rfl
theorem law_c44 (xs : Nat → Int32) : zz_fin (some (6, xs)) 0 (2144, law_lv, [], zz_hs) law_phi := by
  refine zz_fin.steps (n := 21) (s' := (2165, [some (.ref 0), some (.ref 1), some (.ref 540), some (.int 0)], [.int (xs 4), .int (xs 3), .int (xs 2), .int (xs 1), .ref 1], zz_hs)) rfl ?_
  refine zz_fin.call (ψ := fun v h => v = some (.int (-1)) ∧ h = zz_hs) rfl rfl (Nat.le_of_ble_eq_true rfl) (zz_finX (xx_set (xs 1) (xs 2) (xs 3) (xs 4))) ?_
  rintro v h ⟨rfl, rfl⟩
  refine zz_fin.steps (n := 21) (s' := (2189, [some (.ref 0), some (.ref 1), some (.ref 540), some (.int 0)], [.int (xs 4), .int (xs 3), .int (xs 2), .int (xs 1), .ref 540, .int (-1)], zz_hs)) rfl ?_
  refine zz_fin.call (ψ := fun v h => v = some (.int (-1)) ∧ h = zz_hs) rfl rfl (Nat.le_of_ble_eq_true rfl) (zz_finX (mm_set (xs 1) (xs 2) (xs 3) (xs 4))) ?_
  rintro v h ⟨rfl, rfl⟩
  refine zz_fin.steps (n := 1) (s' := (2335, [some (.ref 0), some (.ref 1), some (.ref 540), some (.int 0)], [], zz_hs)) rfl ?_
  exact law_end xs rfl
theorem law_c45 (xs : Nat → Int32) : zz_fin (some (6, xs)) 0 (2197, law_lv, [], zz_hs) law_phi := by
  refine zz_fin.steps (n := 11) (s' := (2208, [some (.ref 0), some (.ref 1), some (.ref 540), some (.int 0)], [.int (xs 2), .int (xs 1), .ref 1], zz_hs)) rfl ?_
  refine zz_fin.call (ψ := fun v h => v = some (.int (-1)) ∧ h = zz_hs) rfl rfl (Nat.le_of_ble_eq_true rfl) (zz_finX (xx_remove (xs 1) (xs 2))) ?_
  rintro v h ⟨rfl, rfl⟩
  refine zz_fin.steps (n := 11) (s' := (2222, [some (.ref 0), some (.ref 1), some (.ref 540), some (.int 0)], [.int (xs 2), .int (xs 1), .ref 540, .int (-1)], zz_hs)) rfl ?_
  refine zz_fin.call (ψ := fun v h => v = some (.int (-1)) ∧ h = zz_hs) rfl rfl (Nat.le_of_ble_eq_true rfl) (zz_finX (mm_remove (xs 1) (xs 2))) ?_
  rintro v h ⟨rfl, rfl⟩
  refine zz_fin.steps (n := 1) (s' := (2335, [some (.ref 0), some (.ref 1), some (.ref 540), some (.int 0)], [], zz_hs)) rfl ?_
  exact law_end xs rfl
theorem law_c46 (xs : Nat → Int32) : zz_fin (some (6, xs)) 0 (2230, law_lv, [], zz_hs) law_phi := by
  refine zz_fin.steps (n := 1) (s' := (2231, [some (.ref 0), some (.ref 1), some (.ref 540), some (.int 0)], [.ref 1], zz_hs)) rfl ?_
  refine zz_fin.call (ψ := fun v h => v = some (.int (-1)) ∧ h = zz_hs) rfl rfl (Nat.le_of_ble_eq_true rfl) (zz_finX (xx_undo )) ?_
  rintro v h ⟨rfl, rfl⟩
  refine zz_fin.steps (n := 1) (s' := (2235, [some (.ref 0), some (.ref 1), some (.ref 540), some (.int 0)], [.ref 540, .int (-1)], zz_hs)) rfl ?_
  refine zz_fin.call (ψ := fun v h => v = some (.int (-1)) ∧ h = zz_hs) rfl rfl (Nat.le_of_ble_eq_true rfl) (zz_finX (mm_undo )) ?_
  rintro v h ⟨rfl, rfl⟩
  refine zz_fin.steps (n := 1) (s' := (2335, [some (.ref 0), some (.ref 1), some (.ref 540), some (.int 0)], [], zz_hs)) rfl ?_
  exact law_end xs rfl
theorem law_c49 (xs : Nat → Int32) : zz_fin (some (6, xs)) 0 (2289, law_lv, [], zz_hs) law_phi := by
  refine zz_fin.steps (n := 6) (s' := (2295, [some (.ref 0), some (.ref 1), some (.ref 540), some (.int 0)], [.int (xs 1), .ref 1], zz_hs)) rfl ?_
  refine zz_fin.call (ψ := fun v h => v = some (.int (-1)) ∧ h = zz_hs) rfl rfl (Nat.le_of_ble_eq_true rfl) (zz_finX (xx_write (xs 1))) ?_
  rintro v h ⟨rfl, rfl⟩
  refine zz_fin.steps (n := 6) (s' := (2304, [some (.ref 0), some (.ref 1), some (.ref 540), some (.int 0)], [.int (xs 1), .ref 540, .int (-1)], zz_hs)) rfl ?_
  refine zz_fin.call (ψ := fun v h => v = some (.int (-1)) ∧ h = zz_hs) rfl rfl (Nat.le_of_ble_eq_true rfl) (zz_finX (mm_write (xs 1))) ?_
  rintro v h ⟨rfl, rfl⟩
  refine zz_fin.steps (n := 1) (s' := (2335, [some (.ref 0), some (.ref 1), some (.ref 540), some (.int 0)], [], zz_hs)) rfl ?_
  exact law_end xs rfl
theorem law_c50 (xs : Nat → Int32) : zz_fin (some (6, xs)) 0 (2312, law_lv, [], zz_hs) law_phi := by
  refine zz_fin.steps (n := 6) (s' := (2318, [some (.ref 0), some (.ref 1), some (.ref 540), some (.int 0)], [.int (xs 1), .ref 1], zz_hs)) rfl ?_
  refine zz_fin.call (ψ := fun v h => v = some (.int (-1)) ∧ h = zz_hs) rfl rfl (Nat.le_of_ble_eq_true rfl) (zz_finX (xx_octet (xs 1))) ?_
  rintro v h ⟨rfl, rfl⟩
  refine zz_fin.steps (n := 6) (s' := (2327, [some (.ref 0), some (.ref 1), some (.ref 540), some (.int 0)], [.int (xs 1), .ref 540, .int (-1)], zz_hs)) rfl ?_
  refine zz_fin.call (ψ := fun v h => v = some (.int (-1)) ∧ h = zz_hs) rfl rfl (Nat.le_of_ble_eq_true rfl) (zz_finX (mm_octet (xs 1))) ?_
  rintro v h ⟨rfl, rfl⟩
  refine zz_fin.steps (n := 1) (s' := (2335, [some (.ref 0), some (.ref 1), some (.ref 540), some (.int 0)], [], zz_hs)) rfl ?_
  exact law_end xs rfl
