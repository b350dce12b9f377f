/-! BY HAND: set, its contract -/
theorem set_all {g : aa_G} (h5 : aa_inv g) (h6 : aa_Phi g) {w1 w2 w3 w4 : Int32} : zz_fin none 257 (0, zz_in [.ref 540, .int w1, .int w2, .int w3, .int w4] (zz_nl 257), [], aa_H g) (aa_rpost g) := by
  have no : aa_rpost g (some (.int (-1))) (aa_H g) := ⟨g, rfl, h5, h6, aa_fr.rf, -1, rfl, by decide, by decide⟩
  refine zz_fin.steps (n := 2) (s' := (2, [some (.ref 540), some (.int w1), some (.int w2), some (.int w3), some (.int w4), none, none, none, none], [.int w1, .ref 540], aa_H g)) rfl ?_
  refine zz_fin.call rfl rfl (Nat.le_of_ble_eq_true rfl) (town_all h5) ?_
  rintro v h ⟨rfl | ⟨rfl, t, ht, rfl⟩, rfl⟩
  · exact zz_fin.at (n := 3) rfl no
  refine zz_fin.steps (n := 4) (s' := (13, [some (.ref 540), some (.int (Int32.ofNat t)), some (.int w2), some (.int w3), some (.int w4), none, none, none, none], [.int 359, .int 0, .int w2], aa_H g)) rfl ?_
  by_cases c : (0 : Int32) ≤ w2 ∧ w2 ≤ 359
  · refine zz_fin.call rfl rfl (Nat.le_of_ble_eq_true rfl) (zz_within1 (.inr rfl) c) ?_
    rintro v h ⟨rfl, rfl⟩
    have c1 : (0 : Int) ≤ w2.toInt := aa_le32.mp c.1
    have c2 : w2.toInt ≤ (359 : Int32).toInt := aa_le32.mp c.2
    have e : (359 : Int32).toInt = 359 := rfl
    refine zz_fin.steps (n := 2) (s' := (20, [some (.ref 540), some (.int (Int32.ofNat t)), some (.int w2), some (.int w3), some (.int w4), none, none, none, none], [.int w3], aa_H g)) rfl ?_
    refine zz_fin.call rfl rfl (Nat.le_of_ble_eq_true rfl) second_all ?_
    rintro v h ⟨rfl | ⟨rfl, b0, b1⟩, rfl⟩
    · exact zz_fin.at (n := 3) rfl no
    refine zz_fin.steps (n := 2) (s' := (28, [some (.ref 540), some (.int (Int32.ofNat t)), some (.int w2), some (.int w3), some (.int w4), none, none, none, none], [.int w4], aa_H g)) rfl ?_
    refine zz_fin.call rfl rfl (Nat.le_of_ble_eq_true rfl) second_all ?_
    rintro v h ⟨rfl | ⟨rfl, d0, d1⟩, rfl⟩
    · exact zz_fin.at (n := 3) rfl no
    refine zz_fin.steps (n := 3) (s' := (37, [some (.ref 540), some (.int (Int32.ofNat t)), some (.int w2), some (.int w3), some (.int w4), none, none, none, none], [.int w4, .int w3], aa_H g)) rfl ?_
    refine zz_fin.ic rfl (fun d => ?_) (fun d => zz_fin.at (n := 2) rfl no)
    have d : w3.toInt - w4.toInt < 0 := (aa_cmp _ _ _).mp d
    exact set_find h5 h6 ht c1 (by omega) b0 (by omega) d1
  · refine zz_fin.call rfl rfl (Nat.le_of_ble_eq_true rfl) (zz_within0 (.inr rfl) c) ?_
    rintro v h ⟨rfl, rfl⟩
    exact zz_fin.at (n := 3) rfl no
