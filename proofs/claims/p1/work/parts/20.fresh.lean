/-! THE FRESH OBJECTS: what each call answers -/
theorem tw_townAt (a : Int32) : zz_fin none 31 (0, zz_in [.ref 2, .int a] (zz_nl 31), [], zz_hs) (fun v h => v = some (.null) ∧ h = zz_hs) := by
  refine zz_fin.steps (n := 6) (s' := (8, [some (.ref 2), some (.int a)], [.int (-1), .int 0, .int a], zz_hs)) rfl ?_
  refine zz_fin.call (ψ := fun v h => v = some (.int 0) ∧ h = zz_hs) rfl rfl (Nat.le_of_ble_eq_true rfl) (zz_within0 (Or.inl rfl) zz_no) ?_
  rintro v h ⟨rfl, rfl⟩
  refine zz_fin.steps (n := 2) (s' := (24, [some (.ref 2), some (.int a)], [.null], zz_hs)) rfl ?_
  exact zz_fin.at (n := 1) rfl ⟨rfl, rfl⟩
theorem tw_isDay (a : Int32) : zz_fin none 77 (0, zz_in [.int a] (zz_nl 77), [], zz_hs) (fun v h => v = some (.int (zz_wi a 0 35999)) ∧ h = zz_hs) := by
  refine zz_fin.steps (n := 3) (s' := (5, [some (.int a)], [.int 35999, .int 0, .int a], zz_hs)) rfl ?_
  refine zz_fin.call (ψ := fun v h => v = some (.int (zz_wi a 0 35999)) ∧ h = zz_hs) rfl rfl (Nat.le_of_ble_eq_true rfl) (zz_within _ (Or.inl rfl) a 0 35999 zz_hs) ?_
  rintro v h ⟨rfl, rfl⟩
  exact zz_fin.retz rfl rfl (zz_wi01 _ _ _) ⟨rfl, rfl⟩
theorem tw_isSecond (a : Int32) : zz_fin none 66 (0, zz_in [.int a] (zz_nl 66), [], zz_hs) (fun v h => v = some (.int (zz_wi a 0 86399)) ∧ h = zz_hs) := by
  refine zz_fin.steps (n := 3) (s' := (5, [some (.int a)], [.int 86399, .int 0, .int a], zz_hs)) rfl ?_
  refine zz_fin.call (ψ := fun v h => v = some (.int (zz_wi a 0 86399)) ∧ h = zz_hs) rfl rfl (Nat.le_of_ble_eq_true rfl) (zz_within _ (Or.inl rfl) a 0 86399 zz_hs) ?_
  rintro v h ⟨rfl, rfl⟩
  exact zz_fin.retz rfl rfl (zz_wi01 _ _ _) ⟨rfl, rfl⟩
theorem tw_firstOf (a : Int32) : zz_fin none 133 (0, zz_in [.ref 1, .int a] (zz_nl 133), [], zz_hs) (fun v h => v = some (.null) ∧ h = zz_hs) := by
  refine zz_fin.steps (n := 3) (s' := (4, [some (.ref 1), some (.int a)], [.int 15, .int 0, .int a], zz_hs)) rfl ?_
  refine zz_fin.call (ψ := fun v h => v = some (.int (zz_wi a 0 15)) ∧ h = zz_hs) rfl rfl (Nat.le_of_ble_eq_true rfl) (zz_within _ (Or.inl rfl) a 0 15 zz_hs) ?_
  rintro v h ⟨rfl, rfl⟩
  refine zz_fin.if rfl (fun c_2 => ?_) (fun c_2 => ?_)
  · refine zz_fin.steps (n := 1) (s' := (24, [some (.ref 1), some (.int a)], [.null], zz_hs)) rfl ?_
    exact zz_fin.at (n := 1) rfl ⟨rfl, rfl⟩
  · refine zz_fin.steps (n := 5) (s' := (17, [some (.ref 1), some (.int a)], [.int (a / 4), .ref 2], zz_hs)) rfl ?_
    refine zz_fin.call (ψ := fun v h => v = some (.null) ∧ h = zz_hs) rfl rfl (Nat.le_of_ble_eq_true rfl) (tw_townAt (a / 4)) ?_
    rintro v h ⟨rfl, rfl⟩
    refine zz_fin.steps (n := 1) (s' := (24, [some (.ref 1), some (.int a)], [.null], zz_hs)) rfl ?_
    exact zz_fin.at (n := 1) rfl ⟨rfl, rfl⟩
theorem tw_secondOf (a : Int32) : zz_fin none 134 (0, zz_in [.ref 1, .int a] (zz_nl 134), [], zz_hs) (fun v h => v = some (.null) ∧ h = zz_hs) := by
  refine zz_fin.steps (n := 3) (s' := (4, [some (.ref 1), some (.int a)], [.int 15, .int 0, .int a], zz_hs)) rfl ?_
  refine zz_fin.call (ψ := fun v h => v = some (.int (zz_wi a 0 15)) ∧ h = zz_hs) rfl rfl (Nat.le_of_ble_eq_true rfl) (zz_within _ (Or.inl rfl) a 0 15 zz_hs) ?_
  rintro v h ⟨rfl, rfl⟩
  refine zz_fin.if rfl (fun c_2 => ?_) (fun c_2 => ?_)
  · refine zz_fin.steps (n := 1) (s' := (24, [some (.ref 1), some (.int a)], [.null], zz_hs)) rfl ?_
    exact zz_fin.at (n := 1) rfl ⟨rfl, rfl⟩
  · refine zz_fin.steps (n := 5) (s' := (17, [some (.ref 1), some (.int a)], [.int (a - a / 4 * 4), .ref 2], zz_hs)) rfl ?_
    refine zz_fin.call (ψ := fun v h => v = some (.null) ∧ h = zz_hs) rfl rfl (Nat.le_of_ble_eq_true rfl) (tw_townAt (a - a / 4 * 4)) ?_
    rintro v h ⟨rfl, rfl⟩
    refine zz_fin.steps (n := 1) (s' := (24, [some (.ref 1), some (.int a)], [.null], zz_hs)) rfl ?_
    exact zz_fin.at (n := 1) rfl ⟨rfl, rfl⟩
theorem tw_bells_told (a b : Int32) : zz_fin none 84 (0, zz_in [.ref 4, .int a, .int b] (zz_nl 84), [], zz_hs) (fun v h => v = some (.int (-1)) ∧ h = zz_hs) := by
  refine zz_fin.steps (n := 6) (s' := (8, [some (.ref 4), some (.int a), some (.int b)], [.int (-1), .int 0, .int a], zz_hs)) rfl ?_
  refine zz_fin.call (ψ := fun v h => v = some (.int 0) ∧ h = zz_hs) rfl rfl (Nat.le_of_ble_eq_true rfl) (zz_within0 (Or.inl rfl) zz_no) ?_
  rintro v h ⟨rfl, rfl⟩
  refine zz_fin.steps (n := 2) (s' := (15, [some (.ref 4), some (.int a), some (.int b)], [.int (-1)], zz_hs)) rfl ?_
  exact zz_fin.at (n := 1) rfl ⟨rfl, rfl⟩
theorem tw_takeBack : zz_fin none 142 (0, zz_in [.ref 66, .ref 2] (zz_nl 142), [], zz_hs) (fun v h => v = some (.int 0) ∧ h = zz_hs) := by
  refine zz_fin.steps (n := 4) (s' := (8, [some (.ref 66), some (.ref 2)], [.int 0], zz_hs)) rfl ?_
  exact zz_fin.at (n := 1) rfl ⟨rfl, rfl⟩
theorem xx_back (a b c d : Int32) : zz_fin none 90 (0, zz_in [.ref 1, .int a, .int b, .int c, .int d] (zz_nl 90), [], zz_hs) (fun v h => v = some (.int (-1)) ∧ h = zz_hs) := by
  refine zz_fin.steps (n := 3) (s' := (5, [some (.ref 1), some (.int a), some (.int b), some (.int c), some (.int d), none], [.int a, .ref 2], zz_hs)) rfl ?_
  refine zz_fin.call (ψ := fun v h => v = some (.null) ∧ h = zz_hs) rfl rfl (Nat.le_of_ble_eq_true rfl) (tw_townAt a) ?_
  rintro v h ⟨rfl, rfl⟩
  refine zz_fin.steps (n := 4) (s' := (33, [some (.ref 1), some (.int a), some (.int b), some (.int c), some (.int d), some (.null)], [.int (-1)], zz_hs)) rfl ?_
  exact zz_fin.at (n := 1) rfl ⟨rfl, rfl⟩
theorem xx_town (a b : Int32) : zz_fin none 74 (0, zz_in [.ref 1, .int a, .int b] (zz_nl 74), [], zz_hs) (fun v h => v = some (.int (-1000000)) ∧ h = zz_hs) := by
  refine zz_fin.steps (n := 3) (s' := (5, [some (.ref 1), some (.int a), some (.int b), none], [.int a, .ref 2], zz_hs)) rfl ?_
  refine zz_fin.call (ψ := fun v h => v = some (.null) ∧ h = zz_hs) rfl rfl (Nat.le_of_ble_eq_true rfl) (tw_townAt a) ?_
  rintro v h ⟨rfl, rfl⟩
  refine zz_fin.steps (n := 4) (s' := (15, [some (.ref 1), some (.int a), some (.int b), some (.null)], [.int (-1000000)], zz_hs)) rfl ?_
  exact zz_fin.at (n := 1) rfl ⟨rfl, rfl⟩
theorem xx_table (a b c : Int32) : zz_fin none 76 (0, zz_in [.ref 1, .int a, .int b, .int c] (zz_nl 76), [], zz_hs) (fun v h => v = some (.int (-1)) ∧ h = zz_hs) := by
  refine zz_fin.steps (n := 3) (s' := (5, [some (.ref 1), some (.int a), some (.int b), some (.int c), none], [.int a, .ref 2], zz_hs)) rfl ?_
  refine zz_fin.call (ψ := fun v h => v = some (.null) ∧ h = zz_hs) rfl rfl (Nat.le_of_ble_eq_true rfl) (tw_townAt a) ?_
  rintro v h ⟨rfl, rfl⟩
  refine zz_fin.steps (n := 4) (s' := (32, [some (.ref 1), some (.int a), some (.int b), some (.int c), some (.null)], [.int (-1)], zz_hs)) rfl ?_
  exact zz_fin.at (n := 1) rfl ⟨rfl, rfl⟩
theorem xx_turn (a b c d : Int32) : zz_fin none 85 (0, zz_in [.ref 1, .int a, .int b, .int c, .int d] (zz_nl 85), [], zz_hs) (fun v h => v = some (.int (-1)) ∧ h = zz_hs) := by
  refine zz_fin.steps (n := 3) (s' := (5, [some (.ref 1), some (.int a), some (.int b), some (.int c), some (.int d), none, none, none], [.int a, .ref 2], zz_hs)) rfl ?_
  refine zz_fin.call (ψ := fun v h => v = some (.null) ∧ h = zz_hs) rfl rfl (Nat.le_of_ble_eq_true rfl) (tw_townAt a) ?_
  rintro v h ⟨rfl, rfl⟩
  refine zz_fin.steps (n := 4) (s' := (40, [some (.ref 1), some (.int a), some (.int b), some (.int c), some (.int d), some (.null), none, none], [.int (-1)], zz_hs)) rfl ?_
  exact zz_fin.at (n := 1) rfl ⟨rfl, rfl⟩
theorem xx_over (a b c d e : Int32) : zz_fin none 93 (0, zz_in [.ref 1, .int a, .int b, .int c, .int d, .int e] (zz_nl 93), [], zz_hs) (fun v h => v = some (.int (-1000000)) ∧ h = zz_hs) := by
  refine zz_fin.steps (n := 3) (s' := (5, [some (.ref 1), some (.int a), some (.int b), some (.int c), some (.int d), some (.int e), none, none, none], [.int a, .ref 2], zz_hs)) rfl ?_
  refine zz_fin.call (ψ := fun v h => v = some (.null) ∧ h = zz_hs) rfl rfl (Nat.le_of_ble_eq_true rfl) (tw_townAt a) ?_
  rintro v h ⟨rfl, rfl⟩
  refine zz_fin.steps (n := 4) (s' := (16, [some (.ref 1), some (.int a), some (.int b), some (.int c), some (.int d), some (.int e), some (.null), none, none], [.int d, .ref 2], zz_hs)) rfl ?_
  refine zz_fin.call (ψ := fun v h => v = some (.null) ∧ h = zz_hs) rfl rfl (Nat.le_of_ble_eq_true rfl) (tw_townAt d) ?_
  rintro v h ⟨rfl, rfl⟩
  refine zz_fin.steps (n := 4) (s' := (57, [some (.ref 1), some (.int a), some (.int b), some (.int c), some (.int d), some (.int e), some (.null), some (.null), none], [.int (-1000000)], zz_hs)) rfl ?_
  exact zz_fin.at (n := 1) rfl ⟨rfl, rfl⟩
theorem xx_date (a b c d : Int32) : zz_fin none 95 (0, zz_in [.ref 1, .int a, .int b, .int c, .int d] (zz_nl 95), [], zz_hs) (fun v h => v = some (.int (-1)) ∧ h = zz_hs) := by
  refine zz_fin.steps (n := 3) (s' := (5, [some (.ref 1), some (.int a), some (.int b), some (.int c), some (.int d), none], [.int a, .ref 2], zz_hs)) rfl ?_
  refine zz_fin.call (ψ := fun v h => v = some (.null) ∧ h = zz_hs) rfl rfl (Nat.le_of_ble_eq_true rfl) (tw_townAt a) ?_
  rintro v h ⟨rfl, rfl⟩
  refine zz_fin.steps (n := 4) (s' := (40, [some (.ref 1), some (.int a), some (.int b), some (.int c), some (.int d), some (.null)], [.int (-1)], zz_hs)) rfl ?_
  exact zz_fin.at (n := 1) rfl ⟨rfl, rfl⟩
theorem xx_ring (a b c d : Int32) : zz_fin none 102 (0, zz_in [.ref 1, .int a, .int b, .int c, .int d] (zz_nl 102), [], zz_hs) (fun v h => v = some (.int (-1)) ∧ h = zz_hs) := by
  refine zz_fin.steps (n := 3) (s' := (5, [some (.ref 1), some (.int a), some (.int b), some (.int c), some (.int d), none], [.int a, .ref 2], zz_hs)) rfl ?_
  refine zz_fin.call (ψ := fun v h => v = some (.null) ∧ h = zz_hs) rfl rfl (Nat.le_of_ble_eq_true rfl) (tw_townAt a) ?_
  rintro v h ⟨rfl, rfl⟩
  refine zz_fin.steps (n := 4) (s' := (23, [some (.ref 1), some (.int a), some (.int b), some (.int c), some (.int d), some (.null)], [.int (-1)], zz_hs)) rfl ?_
  exact zz_fin.at (n := 1) rfl ⟨rfl, rfl⟩
theorem xx_strokes (a b : Int32) : zz_fin none 112 (0, zz_in [.ref 1, .int a, .int b] (zz_nl 112), [], zz_hs) (fun v h => v = some (.int (-1)) ∧ h = zz_hs) := by
  refine zz_fin.steps (n := 3) (s' := (5, [some (.ref 1), some (.int a), some (.int b)], [.int a, .ref 2], zz_hs)) rfl ?_
  refine zz_fin.call (ψ := fun v h => v = some (.null) ∧ h = zz_hs) rfl rfl (Nat.le_of_ble_eq_true rfl) (tw_townAt a) ?_
  rintro v h ⟨rfl, rfl⟩
  refine zz_fin.steps (n := 2) (s' := (19, [some (.ref 1), some (.int a), some (.int b)], [.int (-1)], zz_hs)) rfl ?_
  exact zz_fin.at (n := 1) rfl ⟨rfl, rfl⟩
theorem xx_soonest (a b c : Int32) : zz_fin none 115 (0, zz_in [.ref 1, .int a, .int b, .int c] (zz_nl 115), [], zz_hs) (fun v h => v = some (.int (-1)) ∧ h = zz_hs) := by
  refine zz_fin.steps (n := 3) (s' := (5, [some (.ref 1), some (.int a), some (.int b), some (.int c), none], [.int a, .ref 2], zz_hs)) rfl ?_
  refine zz_fin.call (ψ := fun v h => v = some (.null) ∧ h = zz_hs) rfl rfl (Nat.le_of_ble_eq_true rfl) (tw_townAt a) ?_
  rintro v h ⟨rfl, rfl⟩
  refine zz_fin.steps (n := 2) (s' := (26, [some (.ref 1), some (.int a), some (.int b), some (.int c), none], [.int (-1)], zz_hs)) rfl ?_
  exact zz_fin.at (n := 1) rfl ⟨rfl, rfl⟩
theorem xx_clash (a b c : Int32) : zz_fin none 116 (0, zz_in [.ref 1, .int a, .int b, .int c] (zz_nl 116), [], zz_hs) (fun v h => v = some (.int (-1)) ∧ h = zz_hs) := by
  refine zz_fin.steps (n := 3) (s' := (5, [some (.ref 1), some (.int a), some (.int b), some (.int c), none, none], [.int a, .ref 2], zz_hs)) rfl ?_
  refine zz_fin.call (ψ := fun v h => v = some (.null) ∧ h = zz_hs) rfl rfl (Nat.le_of_ble_eq_true rfl) (tw_townAt a) ?_
  rintro v h ⟨rfl, rfl⟩
  refine zz_fin.steps (n := 2) (s' := (29, [some (.ref 1), some (.int a), some (.int b), some (.int c), none, none], [.int (-1)], zz_hs)) rfl ?_
  exact zz_fin.at (n := 1) rfl ⟨rfl, rfl⟩
theorem xx_bell (a b : Int32) : zz_fin none 83 (0, zz_in [.ref 1, .int a, .int b] (zz_nl 83), [], zz_hs) (fun v h => v = some (.int (-1)) ∧ h = zz_hs) := by
  refine zz_fin.steps (n := 5) (s' := (9, [some (.ref 1), some (.int a), some (.int b)], [.int b, .int a, .ref 4], zz_hs)) rfl ?_
  refine zz_fin.call (ψ := fun v h => v = some (.int (-1)) ∧ h = zz_hs) rfl rfl (Nat.le_of_ble_eq_true rfl) (tw_bells_told a b) ?_
  rintro v h ⟨rfl, rfl⟩
  exact zz_fin.at (n := 1) rfl ⟨rfl, rfl⟩
theorem xx_jar (a b c d e : Int32) : zz_fin none 120 (0, zz_in [.ref 1, .int a, .int b, .int c, .int d, .int e] (zz_nl 120), [], zz_hs) (fun v h => v = some (.int (-1000)) ∧ h = zz_hs) := by
  refine zz_fin.steps (n := 3) (s' := (5, [some (.ref 1), some (.int a), some (.int b), some (.int c), some (.int d), some (.int e), none, none, none], [.int a, .ref 2], zz_hs)) rfl ?_
  refine zz_fin.call (ψ := fun v h => v = some (.null) ∧ h = zz_hs) rfl rfl (Nat.le_of_ble_eq_true rfl) (tw_townAt a) ?_
  rintro v h ⟨rfl, rfl⟩
  refine zz_fin.steps (n := 4) (s' := (50, [some (.ref 1), some (.int a), some (.int b), some (.int c), some (.int d), some (.int e), some (.null), none, none], [.int (-1000)], zz_hs)) rfl ?_
  exact zz_fin.at (n := 1) rfl ⟨rfl, rfl⟩
theorem xx_work (a b c d e : Int32) : zz_fin none 121 (0, zz_in [.ref 1, .int a, .int b, .int c, .int d, .int e] (zz_nl 121), [], zz_hs) (fun v h => v = some (.int (-1)) ∧ h = zz_hs) := by
  refine zz_fin.steps (n := 3) (s' := (5, [some (.ref 1), some (.int a), some (.int b), some (.int c), some (.int d), some (.int e), none, none, none], [.int a, .ref 2], zz_hs)) rfl ?_
  refine zz_fin.call (ψ := fun v h => v = some (.null) ∧ h = zz_hs) rfl rfl (Nat.le_of_ble_eq_true rfl) (tw_townAt a) ?_
  rintro v h ⟨rfl, rfl⟩
  refine zz_fin.steps (n := 4) (s' := (43, [some (.ref 1), some (.int a), some (.int b), some (.int c), some (.int d), some (.int e), some (.null), none, none], [.int (-1)], zz_hs)) rfl ?_
  exact zz_fin.at (n := 1) rfl ⟨rfl, rfl⟩
theorem xx_season (a b : Int32) : zz_fin none 122 (0, zz_in [.ref 1, .int a, .int b] (zz_nl 122), [], zz_hs) (fun v h => v = some (.int (-1)) ∧ h = zz_hs) := by
  refine zz_fin.steps (n := 3) (s' := (5, [some (.ref 1), some (.int a), some (.int b), none, none, none, none, none, none], [.int a, .ref 2], zz_hs)) rfl ?_
  refine zz_fin.call (ψ := fun v h => v = some (.null) ∧ h = zz_hs) rfl rfl (Nat.le_of_ble_eq_true rfl) (tw_townAt a) ?_
  rintro v h ⟨rfl, rfl⟩
  refine zz_fin.steps (n := 4) (s' := (23, [some (.ref 1), some (.int a), some (.int b), some (.null), none, none, none, none, none], [.int (-1)], zz_hs)) rfl ?_
  exact zz_fin.at (n := 1) rfl ⟨rfl, rfl⟩
theorem xx_meet (a b c d e : Int32) : zz_fin none 132 (0, zz_in [.ref 1, .int a, .int b, .int c, .int d, .int e] (zz_nl 132), [], zz_hs) (fun v h => v = some (.int (-1000000)) ∧ h = zz_hs) := by
  refine zz_fin.steps (n := 2) (s' := (2, [some (.ref 1), some (.int a), some (.int b), some (.int c), some (.int d), some (.int e), none, none, none, none, none, none, none, none], [.int a, .ref 1], zz_hs)) rfl ?_
  refine zz_fin.call (ψ := fun v h => v = some (.null) ∧ h = zz_hs) rfl rfl (Nat.le_of_ble_eq_true rfl) (tw_firstOf a) ?_
  rintro v h ⟨rfl, rfl⟩
  refine zz_fin.steps (n := 3) (s' := (9, [some (.ref 1), some (.int a), some (.int b), some (.int c), some (.int d), some (.int e), some (.null), none, none, none, none, none, none, none], [.int a, .ref 1], zz_hs)) rfl ?_
  refine zz_fin.call (ψ := fun v h => v = some (.null) ∧ h = zz_hs) rfl rfl (Nat.le_of_ble_eq_true rfl) (tw_secondOf a) ?_
  rintro v h ⟨rfl, rfl⟩
  refine zz_fin.steps (n := 4) (s' := (44, [some (.ref 1), some (.int a), some (.int b), some (.int c), some (.int d), some (.int e), some (.null), some (.null), none, none, none, none, none, none], [.int (-1000000)], zz_hs)) rfl ?_
  exact zz_fin.at (n := 1) rfl ⟨rfl, rfl⟩
theorem xx_middle (a b c d : Int32) : zz_fin none 96 (0, zz_in [.ref 1, .int a, .int b, .int c, .int d] (zz_nl 96), [], zz_hs) (fun v h => v = some (.int (-1000000)) ∧ h = zz_hs) := by
  refine zz_fin.steps (n := 3) (s' := (5, [some (.ref 1), some (.int a), some (.int b), some (.int c), some (.int d), none, none], [.int a, .ref 2], zz_hs)) rfl ?_
  refine zz_fin.call (ψ := fun v h => v = some (.null) ∧ h = zz_hs) rfl rfl (Nat.le_of_ble_eq_true rfl) (tw_townAt a) ?_
  rintro v h ⟨rfl, rfl⟩
  refine zz_fin.steps (n := 4) (s' := (43, [some (.ref 1), some (.int a), some (.int b), some (.int c), some (.int d), some (.null), none], [.int (-1000000)], zz_hs)) rfl ?_
  exact zz_fin.at (n := 1) rfl ⟨rfl, rfl⟩
theorem xx_apart (a b c d e : Int32) : zz_fin none 97 (0, zz_in [.ref 1, .int a, .int b, .int c, .int d, .int e] (zz_nl 97), [], zz_hs) (fun v h => v = some (.int (-1000000)) ∧ h = zz_hs) := by
  refine zz_fin.steps (n := 5) (s' := (6, [some (.ref 1), some (.int a), some (.int b), some (.int c), some (.int d), some (.int e), none, none], [.int d, .int c, .int b, .int a, .ref 1], zz_hs)) rfl ?_
  refine zz_fin.call (ψ := fun v h => v = some (.int (-1)) ∧ h = zz_hs) rfl rfl (Nat.le_of_ble_eq_true rfl) (xx_back a b c d) ?_
  rintro v h ⟨rfl, rfl⟩
  refine zz_fin.steps (n := 6) (s' := (17, [some (.ref 1), some (.int a), some (.int b), some (.int c), some (.int d), some (.int e), some (.int (-1)), none], [.int e, .int c, .int b, .int a, .ref 1], zz_hs)) rfl ?_
  refine zz_fin.call (ψ := fun v h => v = some (.int (-1)) ∧ h = zz_hs) rfl rfl (Nat.le_of_ble_eq_true rfl) (xx_back a b c e) ?_
  rintro v h ⟨rfl, rfl⟩
  refine zz_fin.steps (n := 5) (s' := (42, [some (.ref 1), some (.int a), some (.int b), some (.int c), some (.int d), some (.int e), some (.int (-1)), some (.int (-1))], [.int (-1000000)], zz_hs)) rfl ?_
  exact zz_fin.at (n := 1) rfl ⟨rfl, rfl⟩
theorem xx_best (a b c d e : Int32) : zz_fin none 124 (0, zz_in [.ref 1, .int a, .int b, .int c, .int d, .int e] (zz_nl 124), [], zz_hs) (fun v h => v = some (.int (-1)) ∧ h = zz_hs) := by
  refine zz_fin.steps (n := 3) (s' := (5, [some (.ref 1), some (.int a), some (.int b), some (.int c), some (.int d), some (.int e), none, none, none, none, none], [.int a, .ref 2], zz_hs)) rfl ?_
  refine zz_fin.call (ψ := fun v h => v = some (.null) ∧ h = zz_hs) rfl rfl (Nat.le_of_ble_eq_true rfl) (tw_townAt a) ?_
  rintro v h ⟨rfl, rfl⟩
  refine zz_fin.steps (n := 4) (s' := (34, [some (.ref 1), some (.int a), some (.int b), some (.int c), some (.int d), some (.int e), some (.null), none, none, none, none], [.int (-1)], zz_hs)) rfl ?_
  exact zz_fin.at (n := 1) rfl ⟨rfl, rfl⟩
theorem xx_candle (a b c : Int32) : zz_fin none 126 (0, zz_in [.ref 1, .int a, .int b, .int c] (zz_nl 126), [], zz_hs) (fun v h => v = some (.int (-1)) ∧ h = zz_hs) := by
  refine zz_fin.steps (n := 3) (s' := (5, [some (.ref 1), some (.int a), some (.int b), some (.int c), none, none, none], [.int a, .ref 2], zz_hs)) rfl ?_
  refine zz_fin.call (ψ := fun v h => v = some (.null) ∧ h = zz_hs) rfl rfl (Nat.le_of_ble_eq_true rfl) (tw_townAt a) ?_
  rintro v h ⟨rfl, rfl⟩
  refine zz_fin.steps (n := 4) (s' := (30, [some (.ref 1), some (.int a), some (.int b), some (.int c), some (.null), none, none], [.int (-1)], zz_hs)) rfl ?_
  exact zz_fin.at (n := 1) rfl ⟨rfl, rfl⟩
theorem xx_shared (a b c : Int32) : zz_fin none 135 (0, zz_in [.ref 1, .int a, .int b, .int c] (zz_nl 135), [], zz_hs) (fun v h => v = some (.int (-1)) ∧ h = zz_hs) := by
  refine zz_fin.steps (n := 2) (s' := (2, [some (.ref 1), some (.int a), some (.int b), some (.int c), none, none, none, none, none, none, none, none], [.int a, .ref 1], zz_hs)) rfl ?_
  refine zz_fin.call (ψ := fun v h => v = some (.null) ∧ h = zz_hs) rfl rfl (Nat.le_of_ble_eq_true rfl) (tw_firstOf a) ?_
  rintro v h ⟨rfl, rfl⟩
  refine zz_fin.steps (n := 3) (s' := (9, [some (.ref 1), some (.int a), some (.int b), some (.int c), some (.null), none, none, none, none, none, none, none], [.int a, .ref 1], zz_hs)) rfl ?_
  refine zz_fin.call (ψ := fun v h => v = some (.null) ∧ h = zz_hs) rfl rfl (Nat.le_of_ble_eq_true rfl) (tw_secondOf a) ?_
  rintro v h ⟨rfl, rfl⟩
  refine zz_fin.steps (n := 4) (s' := (41, [some (.ref 1), some (.int a), some (.int b), some (.int c), some (.null), some (.null), none, none, none, none, none, none], [.int (-1)], zz_hs)) rfl ?_
  exact zz_fin.at (n := 1) rfl ⟨rfl, rfl⟩
theorem xx_busiest (a b c d : Int32) : zz_fin none 117 (0, zz_in [.ref 1, .int a, .int b, .int c, .int d] (zz_nl 117), [], zz_hs) (fun v h => v = some (.int (-1)) ∧ h = zz_hs) := by
  refine zz_fin.steps (n := 3) (s' := (5, [some (.ref 1), some (.int a), some (.int b), some (.int c), some (.int d), none, none, none], [.int a, .ref 2], zz_hs)) rfl ?_
  refine zz_fin.call (ψ := fun v h => v = some (.null) ∧ h = zz_hs) rfl rfl (Nat.le_of_ble_eq_true rfl) (tw_townAt a) ?_
  rintro v h ⟨rfl, rfl⟩
  refine zz_fin.steps (n := 2) (s' := (39, [some (.ref 1), some (.int a), some (.int b), some (.int c), some (.int d), none, none, none], [.int (-1)], zz_hs)) rfl ?_
  exact zz_fin.at (n := 1) rfl ⟨rfl, rfl⟩
theorem xx_spare (a : Int32) : zz_fin none 129 (0, zz_in [.ref 1, .int a] (zz_nl 129), [], zz_hs) (fun v h => v = some (.int (-1)) ∧ h = zz_hs) := by
  refine zz_fin.steps (n := 3) (s' := (5, [some (.ref 1), some (.int a), none, none, none], [.int a, .ref 2], zz_hs)) rfl ?_
  refine zz_fin.call (ψ := fun v h => v = some (.null) ∧ h = zz_hs) rfl rfl (Nat.le_of_ble_eq_true rfl) (tw_townAt a) ?_
  rintro v h ⟨rfl, rfl⟩
  refine zz_fin.steps (n := 4) (s' := (14, [some (.ref 1), some (.int a), some (.null), none, none], [.int (-1)], zz_hs)) rfl ?_
  exact zz_fin.at (n := 1) rfl ⟨rfl, rfl⟩
theorem xx_arrive (a b c d e : Int32) : zz_fin none 136 (0, zz_in [.ref 1, .int a, .int b, .int c, .int d, .int e] (zz_nl 136), [], zz_hs) (fun v h => v = some (.int (-1)) ∧ h = zz_hs) := by
  refine zz_fin.steps (n := 2) (s' := (2, [some (.ref 1), some (.int a), some (.int b), some (.int c), some (.int d), some (.int e), none, none, none, none, none], [.int a, .ref 1], zz_hs)) rfl ?_
  refine zz_fin.call (ψ := fun v h => v = some (.null) ∧ h = zz_hs) rfl rfl (Nat.le_of_ble_eq_true rfl) (tw_firstOf a) ?_
  rintro v h ⟨rfl, rfl⟩
  refine zz_fin.steps (n := 3) (s' := (9, [some (.ref 1), some (.int a), some (.int b), some (.int c), some (.int d), some (.int e), some (.null), none, none, none, none], [.int a, .ref 1], zz_hs)) rfl ?_
  refine zz_fin.call (ψ := fun v h => v = some (.null) ∧ h = zz_hs) rfl rfl (Nat.le_of_ble_eq_true rfl) (tw_secondOf a) ?_
  rintro v h ⟨rfl, rfl⟩
  refine zz_fin.steps (n := 4) (s' := (39, [some (.ref 1), some (.int a), some (.int b), some (.int c), some (.int d), some (.int e), some (.null), some (.null), none, none, none], [.int (-1)], zz_hs)) rfl ?_
  exact zz_fin.at (n := 1) rfl ⟨rfl, rfl⟩
theorem xx_exact (a b c d : Int32) : zz_fin none 98 (0, zz_in [.ref 1, .int a, .int b, .int c, .int d] (zz_nl 98), [], zz_hs) (fun v h => v = some (.int (-1)) ∧ h = zz_hs) := by
  refine zz_fin.steps (n := 3) (s' := (5, [some (.ref 1), some (.int a), some (.int b), some (.int c), some (.int d), none, none, none], [.int a, .ref 2], zz_hs)) rfl ?_
  refine zz_fin.call (ψ := fun v h => v = some (.null) ∧ h = zz_hs) rfl rfl (Nat.le_of_ble_eq_true rfl) (tw_townAt a) ?_
  rintro v h ⟨rfl, rfl⟩
  refine zz_fin.steps (n := 4) (s' := (42, [some (.ref 1), some (.int a), some (.int b), some (.int c), some (.int d), some (.null), none, none], [.int (-1)], zz_hs)) rfl ?_
  exact zz_fin.at (n := 1) rfl ⟨rfl, rfl⟩
theorem xx_alike (a b c : Int32) : zz_fin none 127 (0, zz_in [.ref 1, .int a, .int b, .int c] (zz_nl 127), [], zz_hs) (fun v h => v = some (.int (-1)) ∧ h = zz_hs) := by
  refine zz_fin.steps (n := 3) (s' := (5, [some (.ref 1), some (.int a), some (.int b), some (.int c), none, none], [.int a, .ref 2], zz_hs)) rfl ?_
  refine zz_fin.call (ψ := fun v h => v = some (.null) ∧ h = zz_hs) rfl rfl (Nat.le_of_ble_eq_true rfl) (tw_townAt a) ?_
  rintro v h ⟨rfl, rfl⟩
  refine zz_fin.steps (n := 4) (s' := (30, [some (.ref 1), some (.int a), some (.int b), some (.int c), some (.null), none], [.int (-1)], zz_hs)) rfl ?_
  exact zz_fin.at (n := 1) rfl ⟨rfl, rfl⟩
theorem xx_growth (a b c d : Int32) : zz_fin none 128 (0, zz_in [.ref 1, .int a, .int b, .int c, .int d] (zz_nl 128), [], zz_hs) (fun v h => v = some (.int (-1000000)) ∧ h = zz_hs) := by
  refine zz_fin.steps (n := 3) (s' := (5, [some (.ref 1), some (.int a), some (.int b), some (.int c), some (.int d), none, none, none, none, none, none], [.int a, .ref 2], zz_hs)) rfl ?_
  refine zz_fin.call (ψ := fun v h => v = some (.null) ∧ h = zz_hs) rfl rfl (Nat.le_of_ble_eq_true rfl) (tw_townAt a) ?_
  rintro v h ⟨rfl, rfl⟩
  refine zz_fin.steps (n := 4) (s' := (45, [some (.ref 1), some (.int a), some (.int b), some (.int c), some (.int d), some (.null), none, none, none, none, none], [.int (-1000000)], zz_hs)) rfl ?_
  exact zz_fin.at (n := 1) rfl ⟨rfl, rfl⟩
theorem xx_watch (a b c d : Int32) : zz_fin none 99 (0, zz_in [.ref 1, .int a, .int b, .int c, .int d] (zz_nl 99), [], zz_hs) (fun v h => v = some (.int (-1)) ∧ h = zz_hs) := by
  refine zz_fin.steps (n := 3) (s' := (5, [some (.ref 1), some (.int a), some (.int b), some (.int c), some (.int d), none, none], [.int a, .ref 2], zz_hs)) rfl ?_
  refine zz_fin.call (ψ := fun v h => v = some (.null) ∧ h = zz_hs) rfl rfl (Nat.le_of_ble_eq_true rfl) (tw_townAt a) ?_
  rintro v h ⟨rfl, rfl⟩
  refine zz_fin.steps (n := 4) (s' := (42, [some (.ref 1), some (.int a), some (.int b), some (.int c), some (.int d), some (.null), none], [.int (-1)], zz_hs)) rfl ?_
  exact zz_fin.at (n := 1) rfl ⟨rfl, rfl⟩
theorem xx_shows (a b c d e : Int32) : zz_fin none 137 (0, zz_in [.ref 1, .int a, .int b, .int c, .int d, .int e] (zz_nl 137), [], zz_hs) (fun v h => v = some (.int (-1)) ∧ h = zz_hs) := by
  refine zz_fin.steps (n := 2) (s' := (2, [some (.ref 1), some (.int a), some (.int b), some (.int c), some (.int d), some (.int e), none, none, none, none, none], [.int a, .ref 1], zz_hs)) rfl ?_
  refine zz_fin.call (ψ := fun v h => v = some (.null) ∧ h = zz_hs) rfl rfl (Nat.le_of_ble_eq_true rfl) (tw_firstOf a) ?_
  rintro v h ⟨rfl, rfl⟩
  refine zz_fin.steps (n := 3) (s' := (9, [some (.ref 1), some (.int a), some (.int b), some (.int c), some (.int d), some (.int e), some (.null), none, none, none, none], [.int a, .ref 1], zz_hs)) rfl ?_
  refine zz_fin.call (ψ := fun v h => v = some (.null) ∧ h = zz_hs) rfl rfl (Nat.le_of_ble_eq_true rfl) (tw_secondOf a) ?_
  rintro v h ⟨rfl, rfl⟩
  refine zz_fin.steps (n := 4) (s' := (35, [some (.ref 1), some (.int a), some (.int b), some (.int c), some (.int d), some (.int e), some (.null), some (.null), none, none, none], [.int (-1)], zz_hs)) rfl ?_
  exact zz_fin.at (n := 1) rfl ⟨rfl, rfl⟩
theorem xx_total (a b c : Int32) : zz_fin none 114 (0, zz_in [.ref 1, .int a, .int b, .int c] (zz_nl 114), [], zz_hs) (fun v h => v = some (.int (-1)) ∧ h = zz_hs) := by
  refine zz_fin.steps (n := 3) (s' := (5, [some (.ref 1), some (.int a), some (.int b), some (.int c), none, none], [.int a, .ref 2], zz_hs)) rfl ?_
  refine zz_fin.call (ψ := fun v h => v = some (.null) ∧ h = zz_hs) rfl rfl (Nat.le_of_ble_eq_true rfl) (tw_townAt a) ?_
  rintro v h ⟨rfl, rfl⟩
  refine zz_fin.steps (n := 2) (s' := (29, [some (.ref 1), some (.int a), some (.int b), some (.int c), none, none], [.int (-1)], zz_hs)) rfl ?_
  exact zz_fin.at (n := 1) rfl ⟨rfl, rfl⟩
theorem xx_quiet (a b c : Int32) : zz_fin none 119 (0, zz_in [.ref 1, .int a, .int b, .int c] (zz_nl 119), [], zz_hs) (fun v h => v = some (.int (-1)) ∧ h = zz_hs) := by
  refine zz_fin.steps (n := 3) (s' := (5, [some (.ref 1), some (.int a), some (.int b), some (.int c), none, none, none, none, none], [.int a, .ref 2], zz_hs)) rfl ?_
  refine zz_fin.call (ψ := fun v h => v = some (.null) ∧ h = zz_hs) rfl rfl (Nat.le_of_ble_eq_true rfl) (tw_townAt a) ?_
  rintro v h ⟨rfl, rfl⟩
  refine zz_fin.steps (n := 2) (s' := (28, [some (.ref 1), some (.int a), some (.int b), some (.int c), none, none, none, none, none], [.int (-1)], zz_hs)) rfl ?_
  exact zz_fin.at (n := 1) rfl ⟨rfl, rfl⟩
theorem xx_same (a b : Int32) : zz_fin none 138 (0, zz_in [.ref 1, .int a, .int b] (zz_nl 138), [], zz_hs) (fun v h => v = some (.int (-1)) ∧ h = zz_hs) := by
  refine zz_fin.steps (n := 2) (s' := (2, [some (.ref 1), some (.int a), some (.int b), none, none, none, none, none], [.int a, .ref 1], zz_hs)) rfl ?_
  refine zz_fin.call (ψ := fun v h => v = some (.null) ∧ h = zz_hs) rfl rfl (Nat.le_of_ble_eq_true rfl) (tw_firstOf a) ?_
  rintro v h ⟨rfl, rfl⟩
  refine zz_fin.steps (n := 3) (s' := (8, [some (.ref 1), some (.int a), some (.int b), some (.null), none, none, none, none], [.int a, .ref 1], zz_hs)) rfl ?_
  refine zz_fin.call (ψ := fun v h => v = some (.null) ∧ h = zz_hs) rfl rfl (Nat.le_of_ble_eq_true rfl) (tw_secondOf a) ?_
  rintro v h ⟨rfl, rfl⟩
  refine zz_fin.steps (n := 4) (s' := (30, [some (.ref 1), some (.int a), some (.int b), some (.null), some (.null), none, none, none], [.int (-1)], zz_hs)) rfl ?_
  exact zz_fin.at (n := 1) rfl ⟨rfl, rfl⟩
theorem xx_until (a b c d e : Int32) : zz_fin none 101 (0, zz_in [.ref 1, .int a, .int b, .int c, .int d, .int e] (zz_nl 101), [], zz_hs) (fun v h => v = some (.int (-1)) ∧ h = zz_hs) := by
  refine zz_fin.steps (n := 3) (s' := (5, [some (.ref 1), some (.int a), some (.int b), some (.int c), some (.int d), some (.int e), none, none, none], [.int a, .ref 2], zz_hs)) rfl ?_
  refine zz_fin.call (ψ := fun v h => v = some (.null) ∧ h = zz_hs) rfl rfl (Nat.le_of_ble_eq_true rfl) (tw_townAt a) ?_
  rintro v h ⟨rfl, rfl⟩
  refine zz_fin.steps (n := 4) (s' := (41, [some (.ref 1), some (.int a), some (.int b), some (.int c), some (.int d), some (.int e), some (.null), none, none], [.int (-1)], zz_hs)) rfl ?_
  exact zz_fin.at (n := 1) rfl ⟨rfl, rfl⟩
theorem xx_lag (a b c d : Int32) : zz_fin none 140 (0, zz_in [.ref 1, .int a, .int b, .int c, .int d] (zz_nl 140), [], zz_hs) (fun v h => v = some (.int (-1000000)) ∧ h = zz_hs) := by
  refine zz_fin.steps (n := 2) (s' := (2, [some (.ref 1), some (.int a), some (.int b), some (.int c), some (.int d), none, none, none, none], [.int a, .ref 1], zz_hs)) rfl ?_
  refine zz_fin.call (ψ := fun v h => v = some (.null) ∧ h = zz_hs) rfl rfl (Nat.le_of_ble_eq_true rfl) (tw_firstOf a) ?_
  rintro v h ⟨rfl, rfl⟩
  refine zz_fin.steps (n := 3) (s' := (9, [some (.ref 1), some (.int a), some (.int b), some (.int c), some (.int d), some (.null), none, none, none], [.int a, .ref 1], zz_hs)) rfl ?_
  refine zz_fin.call (ψ := fun v h => v = some (.null) ∧ h = zz_hs) rfl rfl (Nat.le_of_ble_eq_true rfl) (tw_secondOf a) ?_
  rintro v h ⟨rfl, rfl⟩
  refine zz_fin.steps (n := 4) (s' := (26, [some (.ref 1), some (.int a), some (.int b), some (.int c), some (.int d), some (.null), some (.null), none, none], [.int (-1000000)], zz_hs)) rfl ?_
  exact zz_fin.at (n := 1) rfl ⟨rfl, rfl⟩
theorem xx_offset (a b : Int32) : zz_fin none 60 (0, zz_in [.ref 1, .int a, .int b] (zz_nl 60), [], zz_hs) (fun v h => v = some (.int (-1000000)) ∧ h = zz_hs) := by
  refine zz_fin.steps (n := 3) (s' := (5, [some (.ref 1), some (.int a), some (.int b), none, none], [.int a, .ref 2], zz_hs)) rfl ?_
  refine zz_fin.call (ψ := fun v h => v = some (.null) ∧ h = zz_hs) rfl rfl (Nat.le_of_ble_eq_true rfl) (tw_townAt a) ?_
  rintro v h ⟨rfl, rfl⟩
  refine zz_fin.steps (n := 4) (s' := (27, [some (.ref 1), some (.int a), some (.int b), some (.null), none], [.int (-1000000)], zz_hs)) rfl ?_
  exact zz_fin.at (n := 1) rfl ⟨rfl, rfl⟩
theorem xx_set (a b c d : Int32) : zz_fin none 65 (0, zz_in [.ref 1, .int a, .int b, .int c, .int d] (zz_nl 65), [], zz_hs) (fun v h => v = some (.int (-1)) ∧ h = zz_hs) := by
  refine zz_fin.steps (n := 3) (s' := (5, [some (.ref 1), some (.int a), some (.int b), some (.int c), some (.int d), none], [.int a, .ref 2], zz_hs)) rfl ?_
  refine zz_fin.call (ψ := fun v h => v = some (.null) ∧ h = zz_hs) rfl rfl (Nat.le_of_ble_eq_true rfl) (tw_townAt a) ?_
  rintro v h ⟨rfl, rfl⟩
  refine zz_fin.steps (n := 4) (s' := (27, [some (.ref 1), some (.int a), some (.int b), some (.int c), some (.int d), some (.null)], [.int (-1)], zz_hs)) rfl ?_
  exact zz_fin.at (n := 1) rfl ⟨rfl, rfl⟩
theorem xx_remove (a b : Int32) : zz_fin none 62 (0, zz_in [.ref 1, .int a, .int b] (zz_nl 62), [], zz_hs) (fun v h => v = some (.int (-1)) ∧ h = zz_hs) := by
  refine zz_fin.steps (n := 3) (s' := (5, [some (.ref 1), some (.int a), some (.int b), none], [.int a, .ref 2], zz_hs)) rfl ?_
  refine zz_fin.call (ψ := fun v h => v = some (.null) ∧ h = zz_hs) rfl rfl (Nat.le_of_ble_eq_true rfl) (tw_townAt a) ?_
  rintro v h ⟨rfl, rfl⟩
  refine zz_fin.steps (n := 4) (s' := (23, [some (.ref 1), some (.int a), some (.int b), some (.null)], [.int (-1)], zz_hs)) rfl ?_
  exact zz_fin.at (n := 1) rfl ⟨rfl, rfl⟩
theorem xx_undo : zz_fin none 141 (0, zz_in [.ref 1] (zz_nl 141), [], zz_hs) (fun v h => v = some (.int (-1)) ∧ h = zz_hs) := by
  refine zz_fin.steps (n := 4) (s' := (8, [some (.ref 1)], [.ref 2, .ref 66], zz_hs)) rfl ?_
  refine zz_fin.call (ψ := fun v h => v = some (.int 0) ∧ h = zz_hs) rfl rfl (Nat.le_of_ble_eq_true rfl) (tw_takeBack) ?_
  rintro v h ⟨rfl, rfl⟩
  refine zz_fin.steps (n := 2) (s' := (25, [some (.ref 1)], [.int (-1)], zz_hs)) rfl ?_
  exact zz_fin.at (n := 1) rfl ⟨rfl, rfl⟩
theorem xx_write (a : Int32) : zz_fin none 145 (0, zz_in [.ref 1, .int a] (zz_nl 145), [], zz_hs) (fun v h => v = some (.int (-1)) ∧ h = zz_hs) := by
  refine zz_fin.steps (n := 3) (s' := (5, [some (.ref 1), some (.int a), none], [.int a, .ref 2], zz_hs)) rfl ?_
  refine zz_fin.call (ψ := fun v h => v = some (.null) ∧ h = zz_hs) rfl rfl (Nat.le_of_ble_eq_true rfl) (tw_townAt a) ?_
  rintro v h ⟨rfl, rfl⟩
  refine zz_fin.steps (n := 4) (s' := (14, [some (.ref 1), some (.int a), some (.null)], [.int (-1)], zz_hs)) rfl ?_
  exact zz_fin.at (n := 1) rfl ⟨rfl, rfl⟩
theorem xx_octet (a : Int32) : zz_fin none 149 (0, zz_in [.ref 1, .int a] (zz_nl 149), [], zz_hs) (fun v h => v = some (.int (-1)) ∧ h = zz_hs) := by
  refine zz_fin.steps (n := 7) (s' := (11, [some (.ref 1), some (.int a)], [.int (-1), .int 0, .int a], zz_hs)) rfl ?_
  refine zz_fin.call (ψ := fun v h => v = some (.int 0) ∧ h = zz_hs) rfl rfl (Nat.le_of_ble_eq_true rfl) (zz_within0 (Or.inl rfl) zz_no) ?_
  rintro v h ⟨rfl, rfl⟩
  refine zz_fin.steps (n := 2) (s' := (30, [some (.ref 1), some (.int a)], [.int (-1)], zz_hs)) rfl ?_
  exact zz_fin.at (n := 1) rfl ⟨rfl, rfl⟩
theorem xx_fault : zz_fin none 69 (0, zz_in [.ref 1] (zz_nl 69), [], zz_hs) (fun v h => v = some (.int (-1)) ∧ h = zz_hs) := by
  refine zz_fin.steps (n := 2) (s' := (4, [some (.ref 1)], [.int (-1)], zz_hs)) rfl ?_
  exact zz_fin.at (n := 1) rfl ⟨rfl, rfl⟩
theorem xx_ended : zz_fin none 70 (0, zz_in [.ref 1] (zz_nl 70), [], zz_hs) (fun v h => v = some (.int (-1)) ∧ h = zz_hs) := by
  refine zz_fin.steps (n := 2) (s' := (4, [some (.ref 1)], [.int (-1)], zz_hs)) rfl ?_
  exact zz_fin.at (n := 1) rfl ⟨rfl, rfl⟩
theorem mw_isTown (a : Int32) : zz_fin none 192 (0, zz_in [.ref 540, .int a] (zz_nl 192), [], zz_hs) (fun v h => v = some (.int 0) ∧ h = zz_hs) := by
  refine zz_fin.steps (n := 8) (s' := (10, [some (.ref 540), some (.int a)], [.int (-1), .int 0, .int a], zz_hs)) rfl ?_
  refine zz_fin.call (ψ := fun v h => v = some (.int 0) ∧ h = zz_hs) rfl rfl (Nat.le_of_ble_eq_true rfl) (zz_within0 (Or.inr rfl) zz_no) ?_
  rintro v h ⟨rfl, rfl⟩
  exact zz_fin.at (n := 1) rfl ⟨rfl, rfl⟩
theorem mw_isDay (a : Int32) : zz_fin none 193 (0, zz_in [.int a] (zz_nl 193), [], zz_hs) (fun v h => v = some (.int (zz_wi a 0 35999)) ∧ h = zz_hs) := by
  refine zz_fin.steps (n := 3) (s' := (4, [some (.int a)], [.int 35999, .int 0, .int a], zz_hs)) rfl ?_
  refine zz_fin.call (ψ := fun v h => v = some (.int (zz_wi a 0 35999)) ∧ h = zz_hs) rfl rfl (Nat.le_of_ble_eq_true rfl) (zz_within _ (Or.inr rfl) a 0 35999 zz_hs) ?_
  rintro v h ⟨rfl, rfl⟩
  exact zz_fin.retz rfl rfl (zz_wi01 _ _ _) ⟨rfl, rfl⟩
theorem mw_isSecond (a : Int32) : zz_fin none 199 (0, zz_in [.int a] (zz_nl 199), [], zz_hs) (fun v h => v = some (.int (zz_wi a 0 86399)) ∧ h = zz_hs) := by
  refine zz_fin.steps (n := 3) (s' := (4, [some (.int a)], [.int 86399, .int 0, .int a], zz_hs)) rfl ?_
  refine zz_fin.call (ψ := fun v h => v = some (.int (zz_wi a 0 86399)) ∧ h = zz_hs) rfl rfl (Nat.le_of_ble_eq_true rfl) (zz_within _ (Or.inr rfl) a 0 86399 zz_hs) ?_
  rintro v h ⟨rfl, rfl⟩
  exact zz_fin.retz rfl rfl (zz_wi01 _ _ _) ⟨rfl, rfl⟩
theorem mw_canAsk (a b : Int32) : zz_fin none 191 (0, zz_in [.ref 540, .int a, .int b] (zz_nl 191), [], zz_hs) (fun v h => v = some (.int 0) ∧ h = zz_hs) := by
  refine zz_fin.steps (n := 2) (s' := (2, [some (.ref 540), some (.int a), some (.int b)], [.int a, .ref 540], zz_hs)) rfl ?_
  refine zz_fin.call (ψ := fun v h => v = some (.int 0) ∧ h = zz_hs) rfl rfl (Nat.le_of_ble_eq_true rfl) (mw_isTown a) ?_
  rintro v h ⟨rfl, rfl⟩
  refine zz_fin.steps (n := 2) (s' := (20, [some (.ref 540), some (.int a), some (.int b)], [.int 0], zz_hs)) rfl ?_
  exact zz_fin.at (n := 1) rfl ⟨rfl, rfl⟩
theorem mw_isKey (a : Int32) : zz_fin none 239 (0, zz_in [.ref 540, .int a] (zz_nl 239), [], zz_hs) (fun v h => v = some (.int 0) ∧ h = zz_hs) := by
  refine zz_fin.steps (n := 3) (s' := (4, [some (.ref 540), some (.int a)], [.int 15, .int 0, .int a], zz_hs)) rfl ?_
  refine zz_fin.call (ψ := fun v h => v = some (.int (zz_wi a 0 15)) ∧ h = zz_hs) rfl rfl (Nat.le_of_ble_eq_true rfl) (zz_within _ (Or.inr rfl) a 0 15 zz_hs) ?_
  rintro v h ⟨rfl, rfl⟩
  refine zz_fin.if rfl (fun c_2 => ?_) (fun c_2 => ?_)
  · refine zz_fin.steps (n := 1) (s' := (35, [some (.ref 540), some (.int a)], [.int 0], zz_hs)) rfl ?_
    exact zz_fin.at (n := 1) rfl ⟨rfl, rfl⟩
  · refine zz_fin.steps (n := 4) (s' := (14, [some (.ref 540), some (.int a)], [.int (a / 4), .ref 540], zz_hs)) rfl ?_
    refine zz_fin.call (ψ := fun v h => v = some (.int 0) ∧ h = zz_hs) rfl rfl (Nat.le_of_ble_eq_true rfl) (mw_isTown (a / 4)) ?_
    rintro v h ⟨rfl, rfl⟩
    refine zz_fin.steps (n := 2) (s' := (35, [some (.ref 540), some (.int a)], [.int 0], zz_hs)) rfl ?_
    exact zz_fin.at (n := 1) rfl ⟨rfl, rfl⟩
theorem mm_town (a b : Int32) : zz_fin none 253 (0, zz_in [.ref 540, .int a, .int b] (zz_nl 253), [], zz_hs) (fun v h => v = some (.int (-1000000)) ∧ h = zz_hs) := by
  refine zz_fin.steps (n := 2) (s' := (2, [some (.ref 540), some (.int a), some (.int b), none], [.int a, .ref 540], zz_hs)) rfl ?_
  refine zz_fin.call (ψ := fun v h => v = some (.int 0) ∧ h = zz_hs) rfl rfl (Nat.le_of_ble_eq_true rfl) (mw_isTown a) ?_
  rintro v h ⟨rfl, rfl⟩
  refine zz_fin.steps (n := 2) (s' := (11, [some (.ref 540), some (.int a), some (.int b), none], [.int (-1000000)], zz_hs)) rfl ?_
  exact zz_fin.at (n := 1) rfl ⟨rfl, rfl⟩
theorem mm_table (a b c : Int32) : zz_fin none 190 (0, zz_in [.ref 540, .int a, .int b, .int c] (zz_nl 190), [], zz_hs) (fun v h => v = some (.int (-1)) ∧ h = zz_hs) := by
  refine zz_fin.steps (n := 3) (s' := (3, [some (.ref 540), some (.int a), some (.int b), some (.int c), none], [.int b, .int a, .ref 540], zz_hs)) rfl ?_
  refine zz_fin.call (ψ := fun v h => v = some (.int 0) ∧ h = zz_hs) rfl rfl (Nat.le_of_ble_eq_true rfl) (mw_canAsk a b) ?_
  rintro v h ⟨rfl, rfl⟩
  refine zz_fin.steps (n := 2) (s' := (19, [some (.ref 540), some (.int a), some (.int b), some (.int c), none], [.int (-1)], zz_hs)) rfl ?_
  exact zz_fin.at (n := 1) rfl ⟨rfl, rfl⟩
theorem mm_turn (a b c d : Int32) : zz_fin none 198 (0, zz_in [.ref 540, .int a, .int b, .int c, .int d] (zz_nl 198), [], zz_hs) (fun v h => v = some (.int (-1)) ∧ h = zz_hs) := by
  refine zz_fin.steps (n := 3) (s' := (3, [some (.ref 540), some (.int a), some (.int b), some (.int c), some (.int d)], [.int b, .int a, .ref 540], zz_hs)) rfl ?_
  refine zz_fin.call (ψ := fun v h => v = some (.int 0) ∧ h = zz_hs) rfl rfl (Nat.le_of_ble_eq_true rfl) (mw_canAsk a b) ?_
  rintro v h ⟨rfl, rfl⟩
  refine zz_fin.steps (n := 2) (s' := (27, [some (.ref 540), some (.int a), some (.int b), some (.int c), some (.int d)], [.int (-1)], zz_hs)) rfl ?_
  exact zz_fin.at (n := 1) rfl ⟨rfl, rfl⟩
theorem mm_back (a b c d : Int32) : zz_fin none 203 (0, zz_in [.ref 540, .int a, .int b, .int c, .int d] (zz_nl 203), [], zz_hs) (fun v h => v = some (.int (-1)) ∧ h = zz_hs) := by
  refine zz_fin.steps (n := 3) (s' := (3, [some (.ref 540), some (.int a), some (.int b), some (.int c), some (.int d)], [.int b, .int a, .ref 540], zz_hs)) rfl ?_
  refine zz_fin.call (ψ := fun v h => v = some (.int 0) ∧ h = zz_hs) rfl rfl (Nat.le_of_ble_eq_true rfl) (mw_canAsk a b) ?_
  rintro v h ⟨rfl, rfl⟩
  refine zz_fin.steps (n := 2) (s' := (32, [some (.ref 540), some (.int a), some (.int b), some (.int c), some (.int d)], [.int (-1)], zz_hs)) rfl ?_
  exact zz_fin.at (n := 1) rfl ⟨rfl, rfl⟩
theorem mm_over (a b c d e : Int32) : zz_fin none 207 (0, zz_in [.ref 540, .int a, .int b, .int c, .int d, .int e] (zz_nl 207), [], zz_hs) (fun v h => v = some (.int (-1000000)) ∧ h = zz_hs) := by
  refine zz_fin.steps (n := 3) (s' := (3, [some (.ref 540), some (.int a), some (.int b), some (.int c), some (.int d), some (.int e)], [.int b, .int a, .ref 540], zz_hs)) rfl ?_
  refine zz_fin.call (ψ := fun v h => v = some (.int 0) ∧ h = zz_hs) rfl rfl (Nat.le_of_ble_eq_true rfl) (mw_canAsk a b) ?_
  rintro v h ⟨rfl, rfl⟩
  refine zz_fin.steps (n := 2) (s' := (38, [some (.ref 540), some (.int a), some (.int b), some (.int c), some (.int d), some (.int e)], [.int (-1000000)], zz_hs)) rfl ?_
  exact zz_fin.at (n := 1) rfl ⟨rfl, rfl⟩
theorem mm_date (a b c d : Int32) : zz_fin none 210 (0, zz_in [.ref 540, .int a, .int b, .int c, .int d] (zz_nl 210), [], zz_hs) (fun v h => v = some (.int (-1)) ∧ h = zz_hs) := by
  refine zz_fin.steps (n := 3) (s' := (3, [some (.ref 540), some (.int a), some (.int b), some (.int c), some (.int d)], [.int b, .int a, .ref 540], zz_hs)) rfl ?_
  refine zz_fin.call (ψ := fun v h => v = some (.int 0) ∧ h = zz_hs) rfl rfl (Nat.le_of_ble_eq_true rfl) (mw_canAsk a b) ?_
  rintro v h ⟨rfl, rfl⟩
  refine zz_fin.steps (n := 2) (s' := (27, [some (.ref 540), some (.int a), some (.int b), some (.int c), some (.int d)], [.int (-1)], zz_hs)) rfl ?_
  exact zz_fin.at (n := 1) rfl ⟨rfl, rfl⟩
theorem mm_ring (a b c d : Int32) : zz_fin none 211 (0, zz_in [.ref 540, .int a, .int b, .int c, .int d] (zz_nl 211), [], zz_hs) (fun v h => v = some (.int (-1)) ∧ h = zz_hs) := by
  refine zz_fin.steps (n := 3) (s' := (3, [some (.ref 540), some (.int a), some (.int b), some (.int c), some (.int d)], [.int b, .int a, .ref 540], zz_hs)) rfl ?_
  refine zz_fin.call (ψ := fun v h => v = some (.int 0) ∧ h = zz_hs) rfl rfl (Nat.le_of_ble_eq_true rfl) (mw_canAsk a b) ?_
  rintro v h ⟨rfl, rfl⟩
  refine zz_fin.steps (n := 2) (s' := (20, [some (.ref 540), some (.int a), some (.int b), some (.int c), some (.int d)], [.int (-1)], zz_hs)) rfl ?_
  exact zz_fin.at (n := 1) rfl ⟨rfl, rfl⟩
theorem mm_strokes (a b : Int32) : zz_fin none 218 (0, zz_in [.ref 540, .int a, .int b] (zz_nl 218), [], zz_hs) (fun v h => v = some (.int (-1)) ∧ h = zz_hs) := by
  refine zz_fin.steps (n := 3) (s' := (3, [some (.ref 540), some (.int a), some (.int b), none, none], [.int b, .int a, .ref 540], zz_hs)) rfl ?_
  refine zz_fin.call (ψ := fun v h => v = some (.int 0) ∧ h = zz_hs) rfl rfl (Nat.le_of_ble_eq_true rfl) (mw_canAsk a b) ?_
  rintro v h ⟨rfl, rfl⟩
  refine zz_fin.steps (n := 2) (s' := (10, [some (.ref 540), some (.int a), some (.int b), none, none], [.int (-1)], zz_hs)) rfl ?_
  exact zz_fin.at (n := 1) rfl ⟨rfl, rfl⟩
theorem mm_soonest (a b c : Int32) : zz_fin none 219 (0, zz_in [.ref 540, .int a, .int b, .int c] (zz_nl 219), [], zz_hs) (fun v h => v = some (.int (-1)) ∧ h = zz_hs) := by
  refine zz_fin.steps (n := 3) (s' := (3, [some (.ref 540), some (.int a), some (.int b), some (.int c), none], [.int b, .int a, .ref 540], zz_hs)) rfl ?_
  refine zz_fin.call (ψ := fun v h => v = some (.int 0) ∧ h = zz_hs) rfl rfl (Nat.le_of_ble_eq_true rfl) (mw_canAsk a b) ?_
  rintro v h ⟨rfl, rfl⟩
  refine zz_fin.steps (n := 2) (s' := (17, [some (.ref 540), some (.int a), some (.int b), some (.int c), none], [.int (-1)], zz_hs)) rfl ?_
  exact zz_fin.at (n := 1) rfl ⟨rfl, rfl⟩
theorem mm_clash (a b c : Int32) : zz_fin none 220 (0, zz_in [.ref 540, .int a, .int b, .int c] (zz_nl 220), [], zz_hs) (fun v h => v = some (.int (-1)) ∧ h = zz_hs) := by
  refine zz_fin.steps (n := 3) (s' := (3, [some (.ref 540), some (.int a), some (.int b), some (.int c), none, none], [.int b, .int a, .ref 540], zz_hs)) rfl ?_
  refine zz_fin.call (ψ := fun v h => v = some (.int 0) ∧ h = zz_hs) rfl rfl (Nat.le_of_ble_eq_true rfl) (mw_canAsk a b) ?_
  rintro v h ⟨rfl, rfl⟩
  refine zz_fin.steps (n := 2) (s' := (20, [some (.ref 540), some (.int a), some (.int b), some (.int c), none, none], [.int (-1)], zz_hs)) rfl ?_
  exact zz_fin.at (n := 1) rfl ⟨rfl, rfl⟩
theorem mm_bell (a b : Int32) : zz_fin none 189 (0, zz_in [.ref 540, .int a, .int b] (zz_nl 189), [], zz_hs) (fun v h => v = some (.int (-1)) ∧ h = zz_hs) := by
  refine zz_fin.steps (n := 8) (s' := (10, [some (.ref 540), some (.int a), some (.int b)], [.int (-1), .int 0, .int a], zz_hs)) rfl ?_
  refine zz_fin.call (ψ := fun v h => v = some (.int 0) ∧ h = zz_hs) rfl rfl (Nat.le_of_ble_eq_true rfl) (zz_within0 (Or.inr rfl) zz_no) ?_
  rintro v h ⟨rfl, rfl⟩
  refine zz_fin.steps (n := 2) (s' := (44, [some (.ref 540), some (.int a), some (.int b)], [.int (-1)], zz_hs)) rfl ?_
  exact zz_fin.at (n := 1) rfl ⟨rfl, rfl⟩
theorem mm_jar (a b c d e : Int32) : zz_fin none 221 (0, zz_in [.ref 540, .int a, .int b, .int c, .int d, .int e] (zz_nl 221), [], zz_hs) (fun v h => v = some (.int (-1000)) ∧ h = zz_hs) := by
  refine zz_fin.steps (n := 3) (s' := (3, [some (.ref 540), some (.int a), some (.int b), some (.int c), some (.int d), some (.int e), none, none], [.int b, .int a, .ref 540], zz_hs)) rfl ?_
  refine zz_fin.call (ψ := fun v h => v = some (.int 0) ∧ h = zz_hs) rfl rfl (Nat.le_of_ble_eq_true rfl) (mw_canAsk a b) ?_
  rintro v h ⟨rfl, rfl⟩
  refine zz_fin.steps (n := 2) (s' := (37, [some (.ref 540), some (.int a), some (.int b), some (.int c), some (.int d), some (.int e), none, none], [.int (-1000)], zz_hs)) rfl ?_
  exact zz_fin.at (n := 1) rfl ⟨rfl, rfl⟩
theorem mm_work (a b c d e : Int32) : zz_fin none 223 (0, zz_in [.ref 540, .int a, .int b, .int c, .int d, .int e] (zz_nl 223), [], zz_hs) (fun v h => v = some (.int (-1)) ∧ h = zz_hs) := by
  refine zz_fin.steps (n := 2) (s' := (2, [some (.ref 540), some (.int a), some (.int b), some (.int c), some (.int d), some (.int e), none, none], [.int a, .ref 540], zz_hs)) rfl ?_
  refine zz_fin.call (ψ := fun v h => v = some (.int 0) ∧ h = zz_hs) rfl rfl (Nat.le_of_ble_eq_true rfl) (mw_isTown a) ?_
  rintro v h ⟨rfl, rfl⟩
  refine zz_fin.steps (n := 2) (s' := (45, [some (.ref 540), some (.int a), some (.int b), some (.int c), some (.int d), some (.int e), none, none], [.int (-1)], zz_hs)) rfl ?_
  exact zz_fin.at (n := 1) rfl ⟨rfl, rfl⟩
theorem mm_season (a b : Int32) : zz_fin none 226 (0, zz_in [.ref 540, .int a, .int b] (zz_nl 226), [], zz_hs) (fun v h => v = some (.int (-1)) ∧ h = zz_hs) := by
  refine zz_fin.steps (n := 2) (s' := (2, [some (.ref 540), some (.int a), some (.int b), none, none, none, none, none, none], [.int a, .ref 540], zz_hs)) rfl ?_
  refine zz_fin.call (ψ := fun v h => v = some (.int 0) ∧ h = zz_hs) rfl rfl (Nat.le_of_ble_eq_true rfl) (mw_isTown a) ?_
  rintro v h ⟨rfl, rfl⟩
  refine zz_fin.steps (n := 2) (s' := (18, [some (.ref 540), some (.int a), some (.int b), none, none, none, none, none, none], [.int (-1)], zz_hs)) rfl ?_
  exact zz_fin.at (n := 1) rfl ⟨rfl, rfl⟩
theorem mm_meet (a b c d e : Int32) : zz_fin none 228 (0, zz_in [.ref 540, .int a, .int b, .int c, .int d, .int e] (zz_nl 228), [], zz_hs) (fun v h => v = some (.int (-1000000)) ∧ h = zz_hs) := by
  refine zz_fin.steps (n := 3) (s' := (4, [some (.ref 540), some (.int a), some (.int b), some (.int c), some (.int d), some (.int e), none, none, none, none, none, none, none, none], [.int 15, .int 0, .int a], zz_hs)) rfl ?_
  refine zz_fin.call (ψ := fun v h => v = some (.int (zz_wi a 0 15)) ∧ h = zz_hs) rfl rfl (Nat.le_of_ble_eq_true rfl) (zz_within _ (Or.inr rfl) a 0 15 zz_hs) ?_
  rintro v h ⟨rfl, rfl⟩
  refine zz_fin.if rfl (fun c_2 => ?_) (fun c_2 => ?_)
  · refine zz_fin.steps (n := 1) (s' := (71, [some (.ref 540), some (.int a), some (.int b), some (.int c), some (.int d), some (.int e), none, none, none, none, none, none, none, none], [.int (-1000000)], zz_hs)) rfl ?_
    exact zz_fin.at (n := 1) rfl ⟨rfl, rfl⟩
  · refine zz_fin.steps (n := 4) (s' := (14, [some (.ref 540), some (.int a), some (.int b), some (.int c), some (.int d), some (.int e), none, none, none, none, none, none, none, none], [.int (a / 4), .ref 540], zz_hs)) rfl ?_
    refine zz_fin.call (ψ := fun v h => v = some (.int 0) ∧ h = zz_hs) rfl rfl (Nat.le_of_ble_eq_true rfl) (mw_isTown (a / 4)) ?_
    rintro v h ⟨rfl, rfl⟩
    refine zz_fin.steps (n := 2) (s' := (71, [some (.ref 540), some (.int a), some (.int b), some (.int c), some (.int d), some (.int e), none, none, none, none, none, none, none, none], [.int (-1000000)], zz_hs)) rfl ?_
    exact zz_fin.at (n := 1) rfl ⟨rfl, rfl⟩
theorem mm_middle (a b c d : Int32) : zz_fin none 230 (0, zz_in [.ref 540, .int a, .int b, .int c, .int d] (zz_nl 230), [], zz_hs) (fun v h => v = some (.int (-1000000)) ∧ h = zz_hs) := by
  refine zz_fin.steps (n := 3) (s' := (3, [some (.ref 540), some (.int a), some (.int b), some (.int c), some (.int d), none], [.int b, .int a, .ref 540], zz_hs)) rfl ?_
  refine zz_fin.call (ψ := fun v h => v = some (.int 0) ∧ h = zz_hs) rfl rfl (Nat.le_of_ble_eq_true rfl) (mw_canAsk a b) ?_
  rintro v h ⟨rfl, rfl⟩
  refine zz_fin.steps (n := 2) (s' := (41, [some (.ref 540), some (.int a), some (.int b), some (.int c), some (.int d), none], [.int (-1000000)], zz_hs)) rfl ?_
  exact zz_fin.at (n := 1) rfl ⟨rfl, rfl⟩
theorem mm_apart (a b c d e : Int32) : zz_fin none 231 (0, zz_in [.ref 540, .int a, .int b, .int c, .int d, .int e] (zz_nl 231), [], zz_hs) (fun v h => v = some (.int (-1000000)) ∧ h = zz_hs) := by
  refine zz_fin.steps (n := 3) (s' := (3, [some (.ref 540), some (.int a), some (.int b), some (.int c), some (.int d), some (.int e), none, none], [.int b, .int a, .ref 540], zz_hs)) rfl ?_
  refine zz_fin.call (ψ := fun v h => v = some (.int 0) ∧ h = zz_hs) rfl rfl (Nat.le_of_ble_eq_true rfl) (mw_canAsk a b) ?_
  rintro v h ⟨rfl, rfl⟩
  refine zz_fin.steps (n := 2) (s' := (32, [some (.ref 540), some (.int a), some (.int b), some (.int c), some (.int d), some (.int e), none, none], [.int (-1000000)], zz_hs)) rfl ?_
  exact zz_fin.at (n := 1) rfl ⟨rfl, rfl⟩
theorem mm_best (a b c d e : Int32) : zz_fin none 232 (0, zz_in [.ref 540, .int a, .int b, .int c, .int d, .int e] (zz_nl 232), [], zz_hs) (fun v h => v = some (.int (-1)) ∧ h = zz_hs) := by
  refine zz_fin.steps (n := 2) (s' := (2, [some (.ref 540), some (.int a), some (.int b), some (.int c), some (.int d), some (.int e), none, none, none, none], [.int a, .ref 540], zz_hs)) rfl ?_
  refine zz_fin.call (ψ := fun v h => v = some (.int 0) ∧ h = zz_hs) rfl rfl (Nat.le_of_ble_eq_true rfl) (mw_isTown a) ?_
  rintro v h ⟨rfl, rfl⟩
  refine zz_fin.steps (n := 2) (s' := (48, [some (.ref 540), some (.int a), some (.int b), some (.int c), some (.int d), some (.int e), none, none, none, none], [.int (-1)], zz_hs)) rfl ?_
  exact zz_fin.at (n := 1) rfl ⟨rfl, rfl⟩
theorem mm_candle (a b c : Int32) : zz_fin none 233 (0, zz_in [.ref 540, .int a, .int b, .int c] (zz_nl 233), [], zz_hs) (fun v h => v = some (.int (-1)) ∧ h = zz_hs) := by
  refine zz_fin.steps (n := 3) (s' := (3, [some (.ref 540), some (.int a), some (.int b), some (.int c), none, none, none], [.int b, .int a, .ref 540], zz_hs)) rfl ?_
  refine zz_fin.call (ψ := fun v h => v = some (.int 0) ∧ h = zz_hs) rfl rfl (Nat.le_of_ble_eq_true rfl) (mw_canAsk a b) ?_
  rintro v h ⟨rfl, rfl⟩
  refine zz_fin.steps (n := 2) (s' := (17, [some (.ref 540), some (.int a), some (.int b), some (.int c), none, none, none], [.int (-1)], zz_hs)) rfl ?_
  exact zz_fin.at (n := 1) rfl ⟨rfl, rfl⟩
theorem mm_shared (a b c : Int32) : zz_fin none 235 (0, zz_in [.ref 540, .int a, .int b, .int c] (zz_nl 235), [], zz_hs) (fun v h => v = some (.int (-1)) ∧ h = zz_hs) := by
  refine zz_fin.steps (n := 3) (s' := (4, [some (.ref 540), some (.int a), some (.int b), some (.int c), none, none, none, none, none, none, none], [.int 15, .int 0, .int a], zz_hs)) rfl ?_
  refine zz_fin.call (ψ := fun v h => v = some (.int (zz_wi a 0 15)) ∧ h = zz_hs) rfl rfl (Nat.le_of_ble_eq_true rfl) (zz_within _ (Or.inr rfl) a 0 15 zz_hs) ?_
  rintro v h ⟨rfl, rfl⟩
  refine zz_fin.if rfl (fun c_2 => ?_) (fun c_2 => ?_)
  · refine zz_fin.steps (n := 1) (s' := (47, [some (.ref 540), some (.int a), some (.int b), some (.int c), none, none, none, none, none, none, none], [.int (-1)], zz_hs)) rfl ?_
    exact zz_fin.at (n := 1) rfl ⟨rfl, rfl⟩
  · refine zz_fin.steps (n := 4) (s' := (14, [some (.ref 540), some (.int a), some (.int b), some (.int c), none, none, none, none, none, none, none], [.int (a / 4), .ref 540], zz_hs)) rfl ?_
    refine zz_fin.call (ψ := fun v h => v = some (.int 0) ∧ h = zz_hs) rfl rfl (Nat.le_of_ble_eq_true rfl) (mw_isTown (a / 4)) ?_
    rintro v h ⟨rfl, rfl⟩
    refine zz_fin.steps (n := 2) (s' := (47, [some (.ref 540), some (.int a), some (.int b), some (.int c), none, none, none, none, none, none, none], [.int (-1)], zz_hs)) rfl ?_
    exact zz_fin.at (n := 1) rfl ⟨rfl, rfl⟩
theorem mm_busiest (a b c d : Int32) : zz_fin none 236 (0, zz_in [.ref 540, .int a, .int b, .int c, .int d] (zz_nl 236), [], zz_hs) (fun v h => v = some (.int (-1)) ∧ h = zz_hs) := by
  refine zz_fin.steps (n := 2) (s' := (2, [some (.ref 540), some (.int a), some (.int b), some (.int c), some (.int d), none, none], [.int a, .ref 540], zz_hs)) rfl ?_
  refine zz_fin.call (ψ := fun v h => v = some (.int 0) ∧ h = zz_hs) rfl rfl (Nat.le_of_ble_eq_true rfl) (mw_isTown a) ?_
  rintro v h ⟨rfl, rfl⟩
  refine zz_fin.steps (n := 2) (s' := (36, [some (.ref 540), some (.int a), some (.int b), some (.int c), some (.int d), none, none], [.int (-1)], zz_hs)) rfl ?_
  exact zz_fin.at (n := 1) rfl ⟨rfl, rfl⟩
theorem mm_spare (a : Int32) : zz_fin none 237 (0, zz_in [.ref 540, .int a] (zz_nl 237), [], zz_hs) (fun v h => v = some (.int (-1)) ∧ h = zz_hs) := by
  refine zz_fin.steps (n := 2) (s' := (2, [some (.ref 540), some (.int a), none, none, none, none], [.int a, .ref 540], zz_hs)) rfl ?_
  refine zz_fin.call (ψ := fun v h => v = some (.int 0) ∧ h = zz_hs) rfl rfl (Nat.le_of_ble_eq_true rfl) (mw_isTown a) ?_
  rintro v h ⟨rfl, rfl⟩
  refine zz_fin.steps (n := 2) (s' := (9, [some (.ref 540), some (.int a), none, none, none, none], [.int (-1)], zz_hs)) rfl ?_
  exact zz_fin.at (n := 1) rfl ⟨rfl, rfl⟩
theorem mm_arrive (a b c d e : Int32) : zz_fin none 238 (0, zz_in [.ref 540, .int a, .int b, .int c, .int d, .int e] (zz_nl 238), [], zz_hs) (fun v h => v = some (.int (-1)) ∧ h = zz_hs) := by
  refine zz_fin.steps (n := 2) (s' := (2, [some (.ref 540), some (.int a), some (.int b), some (.int c), some (.int d), some (.int e)], [.int a, .ref 540], zz_hs)) rfl ?_
  refine zz_fin.call (ψ := fun v h => v = some (.int 0) ∧ h = zz_hs) rfl rfl (Nat.le_of_ble_eq_true rfl) (mw_isKey a) ?_
  rintro v h ⟨rfl, rfl⟩
  refine zz_fin.steps (n := 2) (s' := (45, [some (.ref 540), some (.int a), some (.int b), some (.int c), some (.int d), some (.int e)], [.int (-1)], zz_hs)) rfl ?_
  exact zz_fin.at (n := 1) rfl ⟨rfl, rfl⟩
theorem mm_exact (a b c d : Int32) : zz_fin none 241 (0, zz_in [.ref 540, .int a, .int b, .int c, .int d] (zz_nl 241), [], zz_hs) (fun v h => v = some (.int (-1)) ∧ h = zz_hs) := by
  refine zz_fin.steps (n := 3) (s' := (3, [some (.ref 540), some (.int a), some (.int b), some (.int c), some (.int d), none, none, none], [.int b, .int a, .ref 540], zz_hs)) rfl ?_
  refine zz_fin.call (ψ := fun v h => v = some (.int 0) ∧ h = zz_hs) rfl rfl (Nat.le_of_ble_eq_true rfl) (mw_canAsk a b) ?_
  rintro v h ⟨rfl, rfl⟩
  refine zz_fin.steps (n := 2) (s' := (29, [some (.ref 540), some (.int a), some (.int b), some (.int c), some (.int d), none, none, none], [.int (-1)], zz_hs)) rfl ?_
  exact zz_fin.at (n := 1) rfl ⟨rfl, rfl⟩
theorem mm_alike (a b c : Int32) : zz_fin none 242 (0, zz_in [.ref 540, .int a, .int b, .int c] (zz_nl 242), [], zz_hs) (fun v h => v = some (.int (-1)) ∧ h = zz_hs) := by
  refine zz_fin.steps (n := 3) (s' := (3, [some (.ref 540), some (.int a), some (.int b), some (.int c), none, none], [.int b, .int a, .ref 540], zz_hs)) rfl ?_
  refine zz_fin.call (ψ := fun v h => v = some (.int 0) ∧ h = zz_hs) rfl rfl (Nat.le_of_ble_eq_true rfl) (mw_canAsk a b) ?_
  rintro v h ⟨rfl, rfl⟩
  refine zz_fin.steps (n := 2) (s' := (17, [some (.ref 540), some (.int a), some (.int b), some (.int c), none, none], [.int (-1)], zz_hs)) rfl ?_
  exact zz_fin.at (n := 1) rfl ⟨rfl, rfl⟩
theorem mm_growth (a b c d : Int32) : zz_fin none 243 (0, zz_in [.ref 540, .int a, .int b, .int c, .int d] (zz_nl 243), [], zz_hs) (fun v h => v = some (.int (-1000000)) ∧ h = zz_hs) := by
  refine zz_fin.steps (n := 2) (s' := (2, [some (.ref 540), some (.int a), some (.int b), some (.int c), some (.int d), none, none, none, none, none, none], [.int a, .ref 540], zz_hs)) rfl ?_
  refine zz_fin.call (ψ := fun v h => v = some (.int 0) ∧ h = zz_hs) rfl rfl (Nat.le_of_ble_eq_true rfl) (mw_isTown a) ?_
  rintro v h ⟨rfl, rfl⟩
  refine zz_fin.steps (n := 2) (s' := (39, [some (.ref 540), some (.int a), some (.int b), some (.int c), some (.int d), none, none, none, none, none, none], [.int (-1000000)], zz_hs)) rfl ?_
  exact zz_fin.at (n := 1) rfl ⟨rfl, rfl⟩
theorem mm_watch (a b c d : Int32) : zz_fin none 244 (0, zz_in [.ref 540, .int a, .int b, .int c, .int d] (zz_nl 244), [], zz_hs) (fun v h => v = some (.int (-1)) ∧ h = zz_hs) := by
  refine zz_fin.steps (n := 3) (s' := (3, [some (.ref 540), some (.int a), some (.int b), some (.int c), some (.int d)], [.int b, .int a, .ref 540], zz_hs)) rfl ?_
  refine zz_fin.call (ψ := fun v h => v = some (.int 0) ∧ h = zz_hs) rfl rfl (Nat.le_of_ble_eq_true rfl) (mw_canAsk a b) ?_
  rintro v h ⟨rfl, rfl⟩
  refine zz_fin.steps (n := 2) (s' := (29, [some (.ref 540), some (.int a), some (.int b), some (.int c), some (.int d)], [.int (-1)], zz_hs)) rfl ?_
  exact zz_fin.at (n := 1) rfl ⟨rfl, rfl⟩
theorem mm_shows (a b c d e : Int32) : zz_fin none 240 (0, zz_in [.ref 540, .int a, .int b, .int c, .int d, .int e] (zz_nl 240), [], zz_hs) (fun v h => v = some (.int (-1)) ∧ h = zz_hs) := by
  refine zz_fin.steps (n := 2) (s' := (2, [some (.ref 540), some (.int a), some (.int b), some (.int c), some (.int d), some (.int e), none], [.int a, .ref 540], zz_hs)) rfl ?_
  refine zz_fin.call (ψ := fun v h => v = some (.int 0) ∧ h = zz_hs) rfl rfl (Nat.le_of_ble_eq_true rfl) (mw_isKey a) ?_
  rintro v h ⟨rfl, rfl⟩
  refine zz_fin.steps (n := 2) (s' := (36, [some (.ref 540), some (.int a), some (.int b), some (.int c), some (.int d), some (.int e), none], [.int (-1)], zz_hs)) rfl ?_
  exact zz_fin.at (n := 1) rfl ⟨rfl, rfl⟩
theorem mm_total (a b c : Int32) : zz_fin none 246 (0, zz_in [.ref 540, .int a, .int b, .int c] (zz_nl 246), [], zz_hs) (fun v h => v = some (.int (-1)) ∧ h = zz_hs) := by
  refine zz_fin.steps (n := 2) (s' := (2, [some (.ref 540), some (.int a), some (.int b), some (.int c), none, none, none], [.int a, .ref 540], zz_hs)) rfl ?_
  refine zz_fin.call (ψ := fun v h => v = some (.int 0) ∧ h = zz_hs) rfl rfl (Nat.le_of_ble_eq_true rfl) (mw_isTown a) ?_
  rintro v h ⟨rfl, rfl⟩
  refine zz_fin.steps (n := 2) (s' := (26, [some (.ref 540), some (.int a), some (.int b), some (.int c), none, none, none], [.int (-1)], zz_hs)) rfl ?_
  exact zz_fin.at (n := 1) rfl ⟨rfl, rfl⟩
theorem mm_quiet (a b c : Int32) : zz_fin none 247 (0, zz_in [.ref 540, .int a, .int b, .int c] (zz_nl 247), [], zz_hs) (fun v h => v = some (.int (-1)) ∧ h = zz_hs) := by
  refine zz_fin.steps (n := 3) (s' := (3, [some (.ref 540), some (.int a), some (.int b), some (.int c), none, none, none, none, none], [.int b, .int a, .ref 540], zz_hs)) rfl ?_
  refine zz_fin.call (ψ := fun v h => v = some (.int 0) ∧ h = zz_hs) rfl rfl (Nat.le_of_ble_eq_true rfl) (mw_canAsk a b) ?_
  rintro v h ⟨rfl, rfl⟩
  refine zz_fin.steps (n := 2) (s' := (19, [some (.ref 540), some (.int a), some (.int b), some (.int c), none, none, none, none, none], [.int (-1)], zz_hs)) rfl ?_
  exact zz_fin.at (n := 1) rfl ⟨rfl, rfl⟩
theorem mm_same (a b : Int32) : zz_fin none 248 (0, zz_in [.ref 540, .int a, .int b] (zz_nl 248), [], zz_hs) (fun v h => v = some (.int (-1)) ∧ h = zz_hs) := by
  refine zz_fin.steps (n := 2) (s' := (2, [some (.ref 540), some (.int a), some (.int b), none, none, none], [.int a, .ref 540], zz_hs)) rfl ?_
  refine zz_fin.call (ψ := fun v h => v = some (.int 0) ∧ h = zz_hs) rfl rfl (Nat.le_of_ble_eq_true rfl) (mw_isKey a) ?_
  rintro v h ⟨rfl, rfl⟩
  refine zz_fin.steps (n := 2) (s' := (16, [some (.ref 540), some (.int a), some (.int b), none, none, none], [.int (-1)], zz_hs)) rfl ?_
  exact zz_fin.at (n := 1) rfl ⟨rfl, rfl⟩
theorem mm_until (a b c d e : Int32) : zz_fin none 250 (0, zz_in [.ref 540, .int a, .int b, .int c, .int d, .int e] (zz_nl 250), [], zz_hs) (fun v h => v = some (.int (-1)) ∧ h = zz_hs) := by
  refine zz_fin.steps (n := 3) (s' := (3, [some (.ref 540), some (.int a), some (.int b), some (.int c), some (.int d), some (.int e), none, none, none], [.int b, .int a, .ref 540], zz_hs)) rfl ?_
  refine zz_fin.call (ψ := fun v h => v = some (.int 0) ∧ h = zz_hs) rfl rfl (Nat.le_of_ble_eq_true rfl) (mw_canAsk a b) ?_
  rintro v h ⟨rfl, rfl⟩
  refine zz_fin.steps (n := 2) (s' := (28, [some (.ref 540), some (.int a), some (.int b), some (.int c), some (.int d), some (.int e), none, none, none], [.int (-1)], zz_hs)) rfl ?_
  exact zz_fin.at (n := 1) rfl ⟨rfl, rfl⟩
theorem mm_lag (a b c d : Int32) : zz_fin none 251 (0, zz_in [.ref 540, .int a, .int b, .int c, .int d] (zz_nl 251), [], zz_hs) (fun v h => v = some (.int (-1000000)) ∧ h = zz_hs) := by
  refine zz_fin.steps (n := 2) (s' := (2, [some (.ref 540), some (.int a), some (.int b), some (.int c), some (.int d), none, none], [.int a, .ref 540], zz_hs)) rfl ?_
  refine zz_fin.call (ψ := fun v h => v = some (.int 0) ∧ h = zz_hs) rfl rfl (Nat.le_of_ble_eq_true rfl) (mw_isKey a) ?_
  rintro v h ⟨rfl, rfl⟩
  refine zz_fin.steps (n := 2) (s' := (28, [some (.ref 540), some (.int a), some (.int b), some (.int c), some (.int d), none, none], [.int (-1000000)], zz_hs)) rfl ?_
  exact zz_fin.at (n := 1) rfl ⟨rfl, rfl⟩
theorem mm_offset (a b : Int32) : zz_fin none 254 (0, zz_in [.ref 540, .int a, .int b] (zz_nl 254), [], zz_hs) (fun v h => v = some (.int (-1000000)) ∧ h = zz_hs) := by
  refine zz_fin.steps (n := 2) (s' := (2, [some (.ref 540), some (.int a), some (.int b)], [.int a, .ref 540], zz_hs)) rfl ?_
  refine zz_fin.call (ψ := fun v h => v = some (.int 0) ∧ h = zz_hs) rfl rfl (Nat.le_of_ble_eq_true rfl) (mw_isTown a) ?_
  rintro v h ⟨rfl, rfl⟩
  refine zz_fin.steps (n := 2) (s' := (34, [some (.ref 540), some (.int a), some (.int b)], [.int (-1000000)], zz_hs)) rfl ?_
  exact zz_fin.at (n := 1) rfl ⟨rfl, rfl⟩
theorem mm_set (a b c d : Int32) : zz_fin none 257 (0, zz_in [.ref 540, .int a, .int b, .int c, .int d] (zz_nl 257), [], zz_hs) (fun v h => v = some (.int (-1)) ∧ h = zz_hs) := by
  refine zz_fin.steps (n := 2) (s' := (2, [some (.ref 540), some (.int a), some (.int b), some (.int c), some (.int d), none, none, none, none], [.int a, .ref 540], zz_hs)) rfl ?_
  refine zz_fin.call (ψ := fun v h => v = some (.int 0) ∧ h = zz_hs) rfl rfl (Nat.le_of_ble_eq_true rfl) (mw_isTown a) ?_
  rintro v h ⟨rfl, rfl⟩
  refine zz_fin.steps (n := 2) (s' := (41, [some (.ref 540), some (.int a), some (.int b), some (.int c), some (.int d), none, none, none, none], [.int (-1)], zz_hs)) rfl ?_
  exact zz_fin.at (n := 1) rfl ⟨rfl, rfl⟩
theorem mm_remove (a b : Int32) : zz_fin none 259 (0, zz_in [.ref 540, .int a, .int b] (zz_nl 259), [], zz_hs) (fun v h => v = some (.int (-1)) ∧ h = zz_hs) := by
  refine zz_fin.steps (n := 2) (s' := (2, [some (.ref 540), some (.int a), some (.int b), none, none, none], [.int a, .ref 540], zz_hs)) rfl ?_
  refine zz_fin.call (ψ := fun v h => v = some (.int 0) ∧ h = zz_hs) rfl rfl (Nat.le_of_ble_eq_true rfl) (mw_isTown a) ?_
  rintro v h ⟨rfl, rfl⟩
  refine zz_fin.steps (n := 2) (s' := (9, [some (.ref 540), some (.int a), some (.int b), none, none, none], [.int (-1)], zz_hs)) rfl ?_
  exact zz_fin.at (n := 1) rfl ⟨rfl, rfl⟩
theorem mm_undo : zz_fin none 151 (0, zz_in [.ref 540] (zz_nl 151), [], zz_hs) (fun v h => v = some (.int (-1)) ∧ h = zz_hs) := by
  refine zz_fin.steps (n := 4) (s' := (8, [some (.ref 540)], [.int (-1)], zz_hs)) rfl ?_
  exact zz_fin.at (n := 1) rfl ⟨rfl, rfl⟩
theorem mm_write (a : Int32) : zz_fin none 265 (0, zz_in [.ref 540, .int a] (zz_nl 265), [], zz_hs) (fun v h => v = some (.int (-1)) ∧ h = zz_hs) := by
  refine zz_fin.steps (n := 2) (s' := (2, [some (.ref 540), some (.int a), none], [.int a, .ref 540], zz_hs)) rfl ?_
  refine zz_fin.call (ψ := fun v h => v = some (.int 0) ∧ h = zz_hs) rfl rfl (Nat.le_of_ble_eq_true rfl) (mw_isTown a) ?_
  rintro v h ⟨rfl, rfl⟩
  refine zz_fin.steps (n := 2) (s' := (9, [some (.ref 540), some (.int a), none], [.int (-1)], zz_hs)) rfl ?_
  exact zz_fin.at (n := 1) rfl ⟨rfl, rfl⟩
theorem mm_octet (a : Int32) : zz_fin none 269 (0, zz_in [.ref 540, .int a] (zz_nl 269), [], zz_hs) (fun v h => v = some (.int (-1)) ∧ h = zz_hs) := by
  refine zz_fin.steps (n := 6) (s' := (8, [some (.ref 540), some (.int a)], [.int (-1), .int 0, .int a], zz_hs)) rfl ?_
  refine zz_fin.call (ψ := fun v h => v = some (.int 0) ∧ h = zz_hs) rfl rfl (Nat.le_of_ble_eq_true rfl) (zz_within0 (Or.inr rfl) zz_no) ?_
  rintro v h ⟨rfl, rfl⟩
  refine zz_fin.steps (n := 2) (s' := (24, [some (.ref 540), some (.int a)], [.int (-1)], zz_hs)) rfl ?_
  exact zz_fin.at (n := 1) rfl ⟨rfl, rfl⟩
theorem mm_fault : zz_fin none 161 (0, zz_in [.ref 540] (zz_nl 161), [], zz_hs) (fun v h => v = some (.int (-1)) ∧ h = zz_hs) := by
  refine zz_fin.steps (n := 2) (s' := (4, [some (.ref 540)], [.int (-1)], zz_hs)) rfl ?_
  exact zz_fin.at (n := 1) rfl ⟨rfl, rfl⟩
theorem mm_ended : zz_fin none 264 (0, zz_in [.ref 540] (zz_nl 264), [], zz_hs) (fun v h => v = some (.int (-1)) ∧ h = zz_hs) := by
  refine zz_fin.steps (n := 2) (s' := (4, [some (.ref 540)], [.int (-1)], zz_hs)) rfl ?_
  exact zz_fin.at (n := 1) rfl ⟨rfl, rfl⟩
