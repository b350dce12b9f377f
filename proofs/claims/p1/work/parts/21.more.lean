/-! FRESH OBJECTS: the answers that hang on the arguments -/
def rr_spread (a b : Int32) : Int32 := if zz_wi a 0 35999 = 0 then -1 else if zz_wi b 0 2 = 0 then -1 else -2
theorem xx_spread (a b : Int32) : zz_fin none 131 (0, zz_in [.ref 1, .int a, .int b] (zz_nl 131), [], zz_hs) (fun v h => v = some (.int (rr_spread a b)) ∧ h = zz_hs) := by
  refine zz_fin.steps (n := 1) (s' := (1, [some (.ref 1), some (.int a), some (.int b), none, none, none, none, none], [.int a], zz_hs)) rfl ?_
  refine zz_fin.call (ψ := fun v h => v = some (.int (zz_wi a 0 35999)) ∧ h = zz_hs) rfl rfl (Nat.le_of_ble_eq_true rfl) (tw_isDay a) ?_
  rintro v h ⟨rfl, rfl⟩
  refine zz_fin.if rfl (fun c_2 => ?_) (fun c_2 => ?_)
  · refine zz_fin.steps (n := 1) (s' := (17, [some (.ref 1), some (.int a), some (.int b), none, none, none, none, none], [.int (-1)], zz_hs)) rfl ?_
    exact zz_fin.at (n := 1) rfl ⟨by simp_all [rr_spread, zz_cond], rfl⟩
  · refine zz_fin.steps (n := 3) (s' := (10, [some (.ref 1), some (.int a), some (.int b), none, none, none, none, none], [.int 2, .int 0, .int b], zz_hs)) rfl ?_
    refine zz_fin.call (ψ := fun v h => v = some (.int (zz_wi b 0 2)) ∧ h = zz_hs) rfl rfl (Nat.le_of_ble_eq_true rfl) (zz_within _ (Or.inl rfl) b 0 2 zz_hs) ?_
    rintro v h ⟨rfl, rfl⟩
    refine zz_fin.if rfl (fun c_4 => ?_) (fun c_4 => ?_)
    · refine zz_fin.steps (n := 16) (s' := (153, [some (.ref 1), some (.int a), some (.int b), some (.int (-2)), some (.int (-2)), some (.int 0), some (.int 0), some (.int 0)], [.int b], zz_hs)) rfl ?_
      refine zz_fin.if rfl (fun c_5 => ?_) (fun c_5 => ?_)
      · refine zz_fin.steps (n := 2) (s' := (160, [some (.ref 1), some (.int a), some (.int b), some (.int (-2)), some (.int (-2)), some (.int 0), some (.int 0), some (.int 0)], [.int 1, .int b], zz_hs)) rfl ?_
        refine zz_fin.ic rfl (fun c_6 => ?_) (fun c_6 => ?_)
        · refine zz_fin.steps (n := 5) (s' := (182, [some (.ref 1), some (.int a), some (.int b), some (.int (-2)), some (.int (-2)), some (.int 0), some (.int 0), some (.int 0)], [.int (-2)], zz_hs)) rfl ?_
          exact zz_fin.at (n := 1) rfl ⟨by simp_all [rr_spread, zz_cond], rfl⟩
        · refine zz_fin.steps (n := 1) (s' := (165, [some (.ref 1), some (.int a), some (.int b), some (.int (-2)), some (.int (-2)), some (.int 0), some (.int 0), some (.int 0)], [.int (-2)], zz_hs)) rfl ?_
          exact zz_fin.at (n := 1) rfl ⟨by simp_all [rr_spread, zz_cond], rfl⟩
      · refine zz_fin.steps (n := 1) (s' := (157, [some (.ref 1), some (.int a), some (.int b), some (.int (-2)), some (.int (-2)), some (.int 0), some (.int 0), some (.int 0)], [.int (-2)], zz_hs)) rfl ?_
        exact zz_fin.at (n := 1) rfl ⟨by simp_all [rr_spread, zz_cond], rfl⟩
    · refine zz_fin.steps (n := 1) (s' := (17, [some (.ref 1), some (.int a), some (.int b), none, none, none, none, none], [.int (-1)], zz_hs)) rfl ?_
      exact zz_fin.at (n := 1) rfl ⟨by simp_all [rr_spread, zz_cond], rfl⟩
theorem mm_spread (a b : Int32) : zz_fin none 245 (0, zz_in [.ref 540, .int a, .int b] (zz_nl 245), [], zz_hs) (fun v h => v = some (.int (rr_spread a b)) ∧ h = zz_hs) := by
  refine zz_fin.steps (n := 1) (s' := (1, [some (.ref 540), some (.int a), some (.int b), none, none, none, none], [.int a], zz_hs)) rfl ?_
  refine zz_fin.call (ψ := fun v h => v = some (.int (zz_wi a 0 35999)) ∧ h = zz_hs) rfl rfl (Nat.le_of_ble_eq_true rfl) (mw_isDay a) ?_
  rintro v h ⟨rfl, rfl⟩
  refine zz_fin.if rfl (fun c_2 => ?_) (fun c_2 => ?_)
  · refine zz_fin.steps (n := 1) (s' := (17, [some (.ref 540), some (.int a), some (.int b), none, none, none, none], [.int (-1)], zz_hs)) rfl ?_
    exact zz_fin.at (n := 1) rfl ⟨by simp_all [rr_spread, zz_cond], rfl⟩
  · refine zz_fin.steps (n := 3) (s' := (10, [some (.ref 540), some (.int a), some (.int b), none, none, none, none], [.int 2, .int 0, .int b], zz_hs)) rfl ?_
    refine zz_fin.call (ψ := fun v h => v = some (.int (zz_wi b 0 2)) ∧ h = zz_hs) rfl rfl (Nat.le_of_ble_eq_true rfl) (zz_within _ (Or.inr rfl) b 0 2 zz_hs) ?_
    rintro v h ⟨rfl, rfl⟩
    refine zz_fin.if rfl (fun c_4 => ?_) (fun c_4 => ?_)
    · refine zz_fin.steps (n := 13) (s' := (116, [some (.ref 540), some (.int a), some (.int b), some (.int (-2)), some (.int (-2)), some (.int 0), none], [.int b], zz_hs)) rfl ?_
      refine zz_fin.if rfl (fun c_5 => ?_) (fun c_5 => ?_)
      · refine zz_fin.steps (n := 2) (s' := (125, [some (.ref 540), some (.int a), some (.int b), some (.int (-2)), some (.int (-2)), some (.int 0), none], [.int 1, .int b], zz_hs)) rfl ?_
        refine zz_fin.ic rfl (fun c_6 => ?_) (fun c_6 => ?_)
        · refine zz_fin.steps (n := 5) (s' := (158, [some (.ref 540), some (.int a), some (.int b), some (.int (-2)), some (.int (-2)), some (.int 0), none], [.int (-2)], zz_hs)) rfl ?_
          exact zz_fin.at (n := 1) rfl ⟨by simp_all [rr_spread, zz_cond], rfl⟩
        · refine zz_fin.steps (n := 2) (s' := (158, [some (.ref 540), some (.int a), some (.int b), some (.int (-2)), some (.int (-2)), some (.int 0), none], [.int (-2)], zz_hs)) rfl ?_
          exact zz_fin.at (n := 1) rfl ⟨by simp_all [rr_spread, zz_cond], rfl⟩
      · refine zz_fin.steps (n := 2) (s' := (158, [some (.ref 540), some (.int a), some (.int b), some (.int (-2)), some (.int (-2)), some (.int 0), none], [.int (-2)], zz_hs)) rfl ?_
        exact zz_fin.at (n := 1) rfl ⟨by simp_all [rr_spread, zz_cond], rfl⟩
    · refine zz_fin.steps (n := 1) (s' := (17, [some (.ref 540), some (.int a), some (.int b), none, none, none, none], [.int (-1)], zz_hs)) rfl ?_
      exact zz_fin.at (n := 1) rfl ⟨by simp_all [rr_spread, zz_cond], rfl⟩
def rr_is (a : Int32) : Int32 := if a = 1 then 60 else if 0 ≤ a.toInt ∧ a.toInt ≤ 6 then 0 else -1
theorem xx_is_0  : zz_fin none 71 (0, zz_in [.ref 1, .int 0] (zz_nl 71), [], zz_hs) (fun v h => v = some (.int 0) ∧ h = zz_hs) := by
  refine zz_fin.steps (n := 5) (s' := (51, [some (.ref 1), some (.int 0)], [.int 0], zz_hs)) rfl ?_
  exact zz_fin.at (n := 1) rfl ⟨rfl, rfl⟩
theorem xx_is_1  : zz_fin none 71 (0, zz_in [.ref 1, .int 1] (zz_nl 71), [], zz_hs) (fun v h => v = some (.int 60) ∧ h = zz_hs) := by
  refine zz_fin.steps (n := 5) (s' := (59, [some (.ref 1), some (.int 1)], [.int 60], zz_hs)) rfl ?_
  exact zz_fin.at (n := 1) rfl ⟨rfl, rfl⟩
theorem xx_is_2  : zz_fin none 71 (0, zz_in [.ref 1, .int 2] (zz_nl 71), [], zz_hs) (fun v h => v = some (.int 0) ∧ h = zz_hs) := by
  refine zz_fin.steps (n := 6) (s' := (70, [some (.ref 1), some (.int 2)], [.int 0], zz_hs)) rfl ?_
  exact zz_fin.at (n := 1) rfl ⟨rfl, rfl⟩
theorem xx_is_3  : zz_fin none 71 (0, zz_in [.ref 1, .int 3] (zz_nl 71), [], zz_hs) (fun v h => v = some (.int 0) ∧ h = zz_hs) := by
  refine zz_fin.steps (n := 5) (s' := (78, [some (.ref 1), some (.int 3)], [.int 0], zz_hs)) rfl ?_
  exact zz_fin.at (n := 1) rfl ⟨rfl, rfl⟩
theorem xx_is_4  : zz_fin none 71 (0, zz_in [.ref 1, .int 4] (zz_nl 71), [], zz_hs) (fun v h => v = some (.int 0) ∧ h = zz_hs) := by
  refine zz_fin.steps (n := 5) (s' := (86, [some (.ref 1), some (.int 4)], [.int 0], zz_hs)) rfl ?_
  exact zz_fin.at (n := 1) rfl ⟨rfl, rfl⟩
theorem xx_is_5  : zz_fin none 71 (0, zz_in [.ref 1, .int 5] (zz_nl 71), [], zz_hs) (fun v h => v = some (.int 0) ∧ h = zz_hs) := by
  refine zz_fin.steps (n := 5) (s' := (92, [some (.ref 1), some (.int 5)], [.int 0, .ref 2], zz_hs)) rfl ?_
  refine zz_fin.call (ψ := fun v h => v = some (.int 0) ∧ h = zz_hs) rfl rfl (Nat.le_of_ble_eq_true rfl) ?_ ?_
  · refine zz_fin.steps (n := 9) (s' := (47, [some (.ref 2), some (.int 0), some (.int 0), some (.int 0)], [.int 0], zz_hs)) rfl ?_
    exact zz_fin.at (n := 1) rfl ⟨rfl, rfl⟩
  rintro v h ⟨rfl, rfl⟩
  exact zz_fin.at (n := 1) rfl ⟨rfl, rfl⟩
theorem xx_is_6  : zz_fin none 71 (0, zz_in [.ref 1, .int 6] (zz_nl 71), [], zz_hs) (fun v h => v = some (.int 0) ∧ h = zz_hs) := by
  refine zz_fin.steps (n := 5) (s' := (101, [some (.ref 1), some (.int 6)], [.int 1, .ref 2], zz_hs)) rfl ?_
  refine zz_fin.call (ψ := fun v h => v = some (.int 0) ∧ h = zz_hs) rfl rfl (Nat.le_of_ble_eq_true rfl) ?_ ?_
  · refine zz_fin.steps (n := 9) (s' := (47, [some (.ref 2), some (.int 1), some (.int 0), some (.int 0)], [.int 0], zz_hs)) rfl ?_
    exact zz_fin.at (n := 1) rfl ⟨rfl, rfl⟩
  rintro v h ⟨rfl, rfl⟩
  exact zz_fin.at (n := 1) rfl ⟨rfl, rfl⟩
theorem xx_is_n (a : Int32) (hc : ¬ (0 ≤ a.toInt ∧ a.toInt ≤ 6)) : zz_fin none 71 (0, zz_in [.ref 1, .int a] (zz_nl 71), [], zz_hs) (fun v h => v = some (.int (-1)) ∧ h = zz_hs) := by
  refine zz_fin.steps (n := 1) (s' := (1, [some (.ref 1), some (.int a)], [.int a], zz_hs)) rfl ?_
  refine zz_fin.swd rfl (by intro q hq; simp only [List.mem_cons, List.not_mem_nil, or_false] at hq; rcases hq with rfl | rfl | rfl | rfl | rfl | rfl | rfl <;> (show (_ : Int) ≠ _; omega)) ?_
  refine zz_fin.steps (n := 1) (s' := (106, [some (.ref 1), some (.int a)], [.int (-1)], zz_hs)) rfl ?_
  exact zz_fin.at (n := 1) rfl ⟨rfl, rfl⟩
theorem xx_is (a : Int32) : zz_fin none 71 (0, zz_in [.ref 1, .int a] (zz_nl 71), [], zz_hs) (fun v h => v = some (.int (rr_is a)) ∧ h = zz_hs) := by
  by_cases hc : 0 ≤ a.toInt ∧ a.toInt ≤ 6
  · have h7 : a.toInt = 0 ∨ a.toInt = 1 ∨ a.toInt = 2 ∨ a.toInt = 3 ∨ a.toInt = 4 ∨ a.toInt = 5 ∨ a.toInt = 6 := by omega
    rcases h7 with h | h | h | h | h | h | h
    · have e : a = 0 := Int32.toInt_inj.mp (h.trans (by decide))
      subst e
      rw [show rr_is 0 = 0 from by decide]
      exact xx_is_0
    · have e : a = 1 := Int32.toInt_inj.mp (h.trans (by decide))
      subst e
      rw [show rr_is 1 = 60 from by decide]
      exact xx_is_1
    · have e : a = 2 := Int32.toInt_inj.mp (h.trans (by decide))
      subst e
      rw [show rr_is 2 = 0 from by decide]
      exact xx_is_2
    · have e : a = 3 := Int32.toInt_inj.mp (h.trans (by decide))
      subst e
      rw [show rr_is 3 = 0 from by decide]
      exact xx_is_3
    · have e : a = 4 := Int32.toInt_inj.mp (h.trans (by decide))
      subst e
      rw [show rr_is 4 = 0 from by decide]
      exact xx_is_4
    · have e : a = 5 := Int32.toInt_inj.mp (h.trans (by decide))
      subst e
      rw [show rr_is 5 = 0 from by decide]
      exact xx_is_5
    · have e : a = 6 := Int32.toInt_inj.mp (h.trans (by decide))
      subst e
      rw [show rr_is 6 = 0 from by decide]
      exact xx_is_6
  · rw [show rr_is a = -1 from by unfold rr_is; rw [if_neg (fun e => hc (by subst e; decide)), if_neg hc]]
    exact xx_is_n a hc
theorem mm_is_0  : zz_fin none 252 (0, zz_in [.ref 540, .int 0] (zz_nl 252), [], zz_hs) (fun v h => v = some (.int 0) ∧ h = zz_hs) := by
  refine zz_fin.steps (n := 16) (s' := (118, [some (.ref 540), some (.int 0), some (.int 0), some (.int 0), none], [.int 0], zz_hs)) rfl ?_
  exact zz_fin.at (n := 1) rfl ⟨rfl, rfl⟩
theorem mm_is_1  : zz_fin none 252 (0, zz_in [.ref 540, .int 1] (zz_nl 252), [], zz_hs) (fun v h => v = some (.int 60) ∧ h = zz_hs) := by
  refine zz_fin.steps (n := 16) (s' := (118, [some (.ref 540), some (.int 1), some (.int 0), some (.int 0), none], [.int 60], zz_hs)) rfl ?_
  exact zz_fin.at (n := 1) rfl ⟨rfl, rfl⟩
theorem mm_is_2  : zz_fin none 252 (0, zz_in [.ref 540, .int 2] (zz_nl 252), [], zz_hs) (fun v h => v = some (.int 0) ∧ h = zz_hs) := by
  refine zz_fin.steps (n := 16) (s' := (118, [some (.ref 540), some (.int 2), some (.int 0), some (.int 0), none], [.int 0], zz_hs)) rfl ?_
  exact zz_fin.at (n := 1) rfl ⟨rfl, rfl⟩
theorem mm_is_3  : zz_fin none 252 (0, zz_in [.ref 540, .int 3] (zz_nl 252), [], zz_hs) (fun v h => v = some (.int 0) ∧ h = zz_hs) := by
  refine zz_fin.steps (n := 14) (s' := (123, [some (.ref 540), some (.int 3), some (.int 0), some (.int 0), none], [.int 0], zz_hs)) rfl ?_
  exact zz_fin.at (n := 1) rfl ⟨rfl, rfl⟩
theorem mm_is_4  : zz_fin none 252 (0, zz_in [.ref 540, .int 4] (zz_nl 252), [], zz_hs) (fun v h => v = some (.int 0) ∧ h = zz_hs) := by
  refine zz_fin.steps (n := 14) (s' := (128, [some (.ref 540), some (.int 4), some (.int 0), some (.int 0), none], [.int 0], zz_hs)) rfl ?_
  exact zz_fin.at (n := 1) rfl ⟨rfl, rfl⟩
theorem mm_is_5  : zz_fin none 252 (0, zz_in [.ref 540, .int 5] (zz_nl 252), [], zz_hs) (fun v h => v = some (.int 0) ∧ h = zz_hs) := by
  refine zz_fin.steps (n := 13) (s' := (130, [some (.ref 540), some (.int 5), some (.int 0), some (.int 0), none], [.ref 540], zz_hs)) rfl ?_
  refine zz_fin.call (ψ := fun v h => v = some (.int 0) ∧ h = zz_hs) rfl rfl (Nat.le_of_ble_eq_true rfl) ?_ ?_
  · refine zz_fin.steps (n := 11) (s' := (35, [some (.ref 540), some (.int 0), some (.int 0)], [.int 0], zz_hs)) rfl ?_
    exact zz_fin.at (n := 1) rfl ⟨rfl, rfl⟩
  rintro v h ⟨rfl, rfl⟩
  exact zz_fin.at (n := 1) rfl ⟨rfl, rfl⟩
theorem mm_is_6  : zz_fin none 252 (0, zz_in [.ref 540, .int 6] (zz_nl 252), [], zz_hs) (fun v h => v = some (.int 0) ∧ h = zz_hs) := by
  refine zz_fin.steps (n := 13) (s' := (135, [some (.ref 540), some (.int 6), some (.int 0), some (.int 0), none], [.int 0], zz_hs)) rfl ?_
  exact zz_fin.at (n := 1) rfl ⟨rfl, rfl⟩
theorem mm_is_n (a : Int32) (hc : ¬ (0 ≤ a.toInt ∧ a.toInt ≤ 6)) : zz_fin none 252 (0, zz_in [.ref 540, .int a] (zz_nl 252), [], zz_hs) (fun v h => v = some (.int (-1)) ∧ h = zz_hs) := by
  refine zz_fin.steps (n := 11) (s' := (71, [some (.ref 540), some (.int a), some (.int 0), some (.int 0), none], [.int a], zz_hs)) rfl ?_
  refine zz_fin.swd rfl (by intro q hq; simp only [List.mem_cons, List.not_mem_nil, or_false] at hq; rcases hq with rfl | rfl | rfl | rfl | rfl | rfl | rfl <;> (show (_ : Int) ≠ _; omega)) ?_
  refine zz_fin.steps (n := 1) (s' := (137, [some (.ref 540), some (.int a), some (.int 0), some (.int 0), none], [.int (-1)], zz_hs)) rfl ?_
  exact zz_fin.at (n := 1) rfl ⟨rfl, rfl⟩
theorem mm_is (a : Int32) : zz_fin none 252 (0, zz_in [.ref 540, .int a] (zz_nl 252), [], zz_hs) (fun v h => v = some (.int (rr_is a)) ∧ h = zz_hs) := by
  by_cases hc : 0 ≤ a.toInt ∧ a.toInt ≤ 6
  · have h7 : a.toInt = 0 ∨ a.toInt = 1 ∨ a.toInt = 2 ∨ a.toInt = 3 ∨ a.toInt = 4 ∨ a.toInt = 5 ∨ a.toInt = 6 := by omega
    rcases h7 with h | h | h | h | h | h | h
    · have e : a = 0 := Int32.toInt_inj.mp (h.trans (by decide))
      subst e
      rw [show rr_is 0 = 0 from by decide]
      exact mm_is_0
    · have e : a = 1 := Int32.toInt_inj.mp (h.trans (by decide))
      subst e
      rw [show rr_is 1 = 60 from by decide]
      exact mm_is_1
    · have e : a = 2 := Int32.toInt_inj.mp (h.trans (by decide))
      subst e
      rw [show rr_is 2 = 0 from by decide]
      exact mm_is_2
    · have e : a = 3 := Int32.toInt_inj.mp (h.trans (by decide))
      subst e
      rw [show rr_is 3 = 0 from by decide]
      exact mm_is_3
    · have e : a = 4 := Int32.toInt_inj.mp (h.trans (by decide))
      subst e
      rw [show rr_is 4 = 0 from by decide]
      exact mm_is_4
    · have e : a = 5 := Int32.toInt_inj.mp (h.trans (by decide))
      subst e
      rw [show rr_is 5 = 0 from by decide]
      exact mm_is_5
    · have e : a = 6 := Int32.toInt_inj.mp (h.trans (by decide))
      subst e
      rw [show rr_is 6 = 0 from by decide]
      exact mm_is_6
  · rw [show rr_is a = -1 from by unfold rr_is; rw [if_neg (fun e => hc (by subst e; decide)), if_neg hc]]
    exact mm_is_n a hc
theorem xx_restore_n (a : Int32) (hc : ¬ (0 ≤ a ∧ a ≤ 1)) : zz_fin none 144 (0, zz_in [.ref 1, .int a] (zz_nl 144), [], zz_hs) (fun v h => v = some (.int 0) ∧ h = zz_hs) := by
  refine zz_fin.steps (n := 3) (s' := (3, [some (.ref 1), some (.int a)], [.int 1, .int 0, .int a], zz_hs)) rfl ?_
  refine zz_fin.call (ψ := fun v h => v = some (.int 0) ∧ h = zz_hs) rfl rfl (Nat.le_of_ble_eq_true rfl) (zz_within0 (Or.inl rfl) hc) ?_
  rintro v h ⟨rfl, rfl⟩
  refine zz_fin.steps (n := 2) (s' := (19, [some (.ref 1), some (.int a)], [.int 0], zz_hs)) rfl ?_
  exact zz_fin.at (n := 1) rfl ⟨rfl, rfl⟩
theorem mm_restore_n (a : Int32) (hc : ¬ (0 ≤ a ∧ a ≤ 1)) : zz_fin none 155 (0, zz_in [.ref 540, .int a] (zz_nl 155), [], zz_hs) (fun v h => v = some (.int 0) ∧ h = zz_hs) := by
  refine zz_fin.steps (n := 3) (s' := (3, [some (.ref 540), some (.int a)], [.int 1, .int 0, .int a], zz_hs)) rfl ?_
  refine zz_fin.call (ψ := fun v h => v = some (.int 0) ∧ h = zz_hs) rfl rfl (Nat.le_of_ble_eq_true rfl) (zz_within0 (Or.inr rfl) hc) ?_
  rintro v h ⟨rfl, rfl⟩
  refine zz_fin.steps (n := 2) (s' := (19, [some (.ref 540), some (.int a)], [.int 0], zz_hs)) rfl ?_
  exact zz_fin.at (n := 1) rfl ⟨rfl, rfl⟩
theorem xx_keep_n (a : Int32) (hc : ¬ (0 ≤ a ∧ a ≤ 1)) : zz_fin none 143 (0, zz_in [.ref 1, .int a] (zz_nl 143), [], zz_hs) (fun v h => v = some (.int 0) ∧ h = zz_hs) := by
  refine zz_fin.steps (n := 3) (s' := (3, [some (.ref 1), some (.int a)], [.int 1, .int 0, .int a], zz_hs)) rfl ?_
  refine zz_fin.call (ψ := fun v h => v = some (.int 0) ∧ h = zz_hs) rfl rfl (Nat.le_of_ble_eq_true rfl) (zz_within0 (Or.inl rfl) hc) ?_
  rintro v h ⟨rfl, rfl⟩
  refine zz_fin.steps (n := 2) (s' := (10, [some (.ref 1), some (.int a)], [.int 0], zz_hs)) rfl ?_
  exact zz_fin.at (n := 1) rfl ⟨rfl, rfl⟩
theorem mm_keep_n (a : Int32) (hc : ¬ (0 ≤ a ∧ a ≤ 1)) : zz_fin none 153 (0, zz_in [.ref 540, .int a] (zz_nl 153), [], zz_hs) (fun v h => v = some (.int 0) ∧ h = zz_hs) := by
  refine zz_fin.steps (n := 3) (s' := (3, [some (.ref 540), some (.int a)], [.int 1, .int 0, .int a], zz_hs)) rfl ?_
  refine zz_fin.call (ψ := fun v h => v = some (.int 0) ∧ h = zz_hs) rfl rfl (Nat.le_of_ble_eq_true rfl) (zz_within0 (Or.inr rfl) hc) ?_
  rintro v h ⟨rfl, rfl⟩
  refine zz_fin.steps (n := 2) (s' := (10, [some (.ref 540), some (.int a)], [.int 0], zz_hs)) rfl ?_
  exact zz_fin.at (n := 1) rfl ⟨rfl, rfl⟩
theorem xx_end_n (a : Int32) (hc : ¬ (0 ≤ a ∧ a ≤ 0)) : zz_fin none 13 (0, zz_in [.ref 1, .int a] (zz_nl 13), [], zz_hs) (fun v h => v = some (.int (-1)) ∧ h = zz_hs) := by
  refine zz_fin.steps (n := 5) (s' := (9, [some (.ref 1), some (.int a)], [.int 0, .int 0, .int a], zz_hs)) rfl ?_
  refine zz_fin.call (ψ := fun v h => v = some (.int 0) ∧ h = zz_hs) rfl rfl (Nat.le_of_ble_eq_true rfl) (zz_within0 (Or.inl rfl) hc) ?_
  rintro v h ⟨rfl, rfl⟩
  refine zz_fin.steps (n := 2) (s' := (16, [some (.ref 1), some (.int a)], [.int (-1)], zz_hs)) rfl ?_
  exact zz_fin.at (n := 1) rfl ⟨rfl, rfl⟩
theorem mm_end_n (a : Int32) (hc : ¬ (0 ≤ a ∧ a ≤ 0)) : zz_fin none 160 (0, zz_in [.ref 540, .int a] (zz_nl 160), [], zz_hs) (fun v h => v = some (.int (-1)) ∧ h = zz_hs) := by
  refine zz_fin.steps (n := 4) (s' := (6, [some (.ref 540), some (.int a)], [.int 0, .int 0, .int a], zz_hs)) rfl ?_
  refine zz_fin.call (ψ := fun v h => v = some (.int 0) ∧ h = zz_hs) rfl rfl (Nat.le_of_ble_eq_true rfl) (zz_within0 (Or.inr rfl) hc) ?_
  rintro v h ⟨rfl, rfl⟩
  refine zz_fin.steps (n := 2) (s' := (13, [some (.ref 540), some (.int a)], [.int (-1)], zz_hs)) rfl ?_
  exact zz_fin.at (n := 1) rfl ⟨rfl, rfl⟩
theorem xx_restore_0  : zz_fin none 144 (0, zz_in [.ref 1, .int 0] (zz_nl 144), [], zz_hs) (fun v h => v = some (.int 0) ∧ h = zz_hs) := by
  refine zz_fin.steps (n := 3) (s' := (3, [some (.ref 1), some (.int 0)], [.int 1, .int 0, .int 0], zz_hs)) rfl ?_
  refine zz_fin.call (ψ := fun v h => v = some (.int 1) ∧ h = zz_hs) rfl rfl (Nat.le_of_ble_eq_true rfl) (zz_within1 (Or.inl rfl) (by decide)) ?_
  rintro v h ⟨rfl, rfl⟩
  refine zz_fin.steps (n := 7) (s' := (19, [some (.ref 1), some (.int 0)], [.int 0], zz_hs)) rfl ?_
  exact zz_fin.at (n := 1) rfl ⟨rfl, rfl⟩
theorem mm_restore_0  : zz_fin none 155 (0, zz_in [.ref 540, .int 0] (zz_nl 155), [], zz_hs) (fun v h => v = some (.int 0) ∧ h = zz_hs) := by
  refine zz_fin.steps (n := 3) (s' := (3, [some (.ref 540), some (.int 0)], [.int 1, .int 0, .int 0], zz_hs)) rfl ?_
  refine zz_fin.call (ψ := fun v h => v = some (.int 1) ∧ h = zz_hs) rfl rfl (Nat.le_of_ble_eq_true rfl) (zz_within1 (Or.inr rfl) (by decide)) ?_
  rintro v h ⟨rfl, rfl⟩
  refine zz_fin.steps (n := 7) (s' := (19, [some (.ref 540), some (.int 0)], [.int 0], zz_hs)) rfl ?_
  exact zz_fin.at (n := 1) rfl ⟨rfl, rfl⟩
theorem xx_restore_1  : zz_fin none 144 (0, zz_in [.ref 1, .int 1] (zz_nl 144), [], zz_hs) (fun v h => v = some (.int 0) ∧ h = zz_hs) := by
  refine zz_fin.steps (n := 3) (s' := (3, [some (.ref 1), some (.int 1)], [.int 1, .int 0, .int 1], zz_hs)) rfl ?_
  refine zz_fin.call (ψ := fun v h => v = some (.int 1) ∧ h = zz_hs) rfl rfl (Nat.le_of_ble_eq_true rfl) (zz_within1 (Or.inl rfl) (by decide)) ?_
  rintro v h ⟨rfl, rfl⟩
  refine zz_fin.steps (n := 7) (s' := (19, [some (.ref 1), some (.int 1)], [.int 0], zz_hs)) rfl ?_
  exact zz_fin.at (n := 1) rfl ⟨rfl, rfl⟩
theorem mm_restore_1  : zz_fin none 155 (0, zz_in [.ref 540, .int 1] (zz_nl 155), [], zz_hs) (fun v h => v = some (.int 0) ∧ h = zz_hs) := by
  refine zz_fin.steps (n := 3) (s' := (3, [some (.ref 540), some (.int 1)], [.int 1, .int 0, .int 1], zz_hs)) rfl ?_
  refine zz_fin.call (ψ := fun v h => v = some (.int 1) ∧ h = zz_hs) rfl rfl (Nat.le_of_ble_eq_true rfl) (zz_within1 (Or.inr rfl) (by decide)) ?_
  rintro v h ⟨rfl, rfl⟩
  refine zz_fin.steps (n := 7) (s' := (19, [some (.ref 540), some (.int 1)], [.int 0], zz_hs)) rfl ?_
  exact zz_fin.at (n := 1) rfl ⟨rfl, rfl⟩
theorem xx_end_0  : zz_fin none 13 (0, zz_in [.ref 1, .int 0] (zz_nl 13), [], zz_hs) (fun v h => v = some (.int 0) ∧ h = ((553, 15206), (zz_ly, (zz_w zz_g0 454 0 0)))) := by
  refine zz_fin.steps (n := 5) (s' := (9, [some (.ref 1), some (.int 0)], [.int 0, .int 0, .int 0], zz_hs)) rfl ?_
  refine zz_fin.call (ψ := fun v h => v = some (.int 1) ∧ h = zz_hs) rfl rfl (Nat.le_of_ble_eq_true rfl) (zz_within1 (Or.inl rfl) (by decide)) ?_
  rintro v h ⟨rfl, rfl⟩
  refine zz_fin.steps (n := 6) (s' := (26, [some (.ref 1), some (.int 0)], [.int 0], ((553, 15206), (zz_ly, (zz_w zz_g0 454 0 0))))) rfl ?_
  exact zz_fin.at (n := 1) rfl ⟨rfl, rfl⟩
theorem mm_end_0  : zz_fin none 160 (0, zz_in [.ref 540, .int 0] (zz_nl 160), [], ((553, 15206), (zz_ly, (zz_w zz_g0 454 0 0)))) (fun v h => v = some (.int 0) ∧ h.1 = zz_hs.1) := by
  refine zz_fin.steps (n := 4) (s' := (6, [some (.ref 540), some (.int 0)], [.int 0, .int 0, .int 0], ((553, 15206), (zz_ly, (zz_w zz_g0 454 0 0))))) rfl ?_
  refine zz_fin.call (ψ := fun v h => v = some (.int 1) ∧ h = ((553, 15206), (zz_ly, (zz_w zz_g0 454 0 0)))) rfl rfl (Nat.le_of_ble_eq_true rfl) (zz_within1 (Or.inr rfl) (by decide)) ?_
  rintro v h ⟨rfl, rfl⟩
  refine zz_fin.steps (n := 5) (s' := (20, [some (.ref 540), some (.int 0)], [.int 0], ((553, 15206), (zz_ly, (zz_w (zz_w zz_g0 454 0 0) 540 4 0))))) rfl ?_
  exact zz_fin.at (n := 1) rfl ⟨rfl, rfl⟩
