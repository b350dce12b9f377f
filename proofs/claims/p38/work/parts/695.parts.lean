/-! BY HAND: what set and remove call -/
theorem town_all {w1 : Int32} {g : aa_G} (h5 : aa_inv g) : zz_fin none 192 (0, zz_in [.ref 540, .int w1] (zz_nl 192), [], aa_H g) (fun v h' => (v = some (.int 0) ∨ (v = some (.int 1) ∧ ∃ t : Nat, t < 4 ∧ w1 = Int32.ofNat t)) ∧ h' = aa_H g) := by
  have e1 : (1 : Int32).toInt = 1 := rfl
  have e0 : (0 : Int32).toInt = 0 := rfl
  have b0 : (0 : Int) ≤ (g 541 0).toInt := (h5 541 0).1
  have b1 : (g 541 0).toInt ≤ 4 := (h5 541 0).2
  have es : (g 541 0 - 1).toInt = (g 541 0).toInt - 1 := by rw [aa_sub32 (by omega) (by omega), e1]
  refine zz_fin.steps (n := 8) (s' := (10, [some (.ref 540), some (.int w1)], [.int (g 541 0 - 1), .int 0, .int w1], aa_H g)) rfl ?_
  by_cases c : (0 : Int32) ≤ w1 ∧ w1 ≤ g 541 0 - 1
  · refine zz_fin.call rfl rfl (Nat.le_of_ble_eq_true rfl) (zz_within1 (.inr rfl) c) ?_
    rintro v h ⟨rfl, rfl⟩
    have c1 : (0 : Int) ≤ w1.toInt := aa_le32.mp c.1
    have c2 := aa_le32.mp c.2
    rw [es] at c2
    exact zz_fin.at (n := 1) rfl ⟨.inr ⟨rfl, w1.toInt.toNat, by omega, aa_eqN (by omega) (by omega)⟩, rfl⟩
  · refine zz_fin.call rfl rfl (Nat.le_of_ble_eq_true rfl) (zz_within0 (.inr rfl) c) ?_
    rintro v h ⟨rfl, rfl⟩
    exact zz_fin.at (n := 1) rfl ⟨.inl rfl, rfl⟩
theorem second_all {w1 : Int32} {h : zz_H} : zz_fin none 199 (0, zz_in [.int w1] (zz_nl 199), [], h) (fun v h' => (v = some (.int 0) ∨ (v = some (.int 1) ∧ 0 ≤ w1.toInt ∧ w1.toInt ≤ 86399)) ∧ h' = h) := by
  refine zz_fin.steps (n := 3) (s' := (4, [some (.int w1)], [.int 86399, .int 0, .int w1], h)) rfl ?_
  by_cases c : (0 : Int32) ≤ w1 ∧ w1 ≤ 86399
  · refine zz_fin.call rfl rfl (Nat.le_of_ble_eq_true rfl) (zz_within1 (.inr rfl) c) ?_
    rintro v h ⟨rfl, rfl⟩
    have c1 : (0 : Int) ≤ w1.toInt := aa_le32.mp c.1
    have c2 : w1.toInt ≤ (86399 : Int32).toInt := aa_le32.mp c.2
    have e : (86399 : Int32).toInt = 86399 := rfl
    exact zz_fin.at (n := 1) rfl ⟨.inr ⟨rfl, c1, by omega⟩, rfl⟩
  · refine zz_fin.call rfl rfl (Nat.le_of_ble_eq_true rfl) (zz_within0 (.inr rfl) c) ?_
    rintro v h ⟨rfl, rfl⟩
    exact zz_fin.at (n := 1) rfl ⟨.inl rfl, rfl⟩
theorem point_lay {P : Nat} (hP : P < 6000) {a b c : Int32} {g : aa_G} : zz_fin none 177 (0, zz_in [.ref 540, .int (Int32.ofNat P), .int a, .int b, .int c] (zz_nl 177), [], aa_H g) (fun v h' => v = none ∧ h' = aa_H (zz_w (zz_w (zz_w g 541 (P + 1) a) 541 (P + 2) b) 541 (P + 3) c)) := by
  have eP : ∀ k : Nat, Int32.ofNat P + Int32.ofNat k = Int32.ofNat (P + k) := fun k => (Int32.ofNat_add P k).symm
  refine zz_fin.steps (n := 6) (s' := (8, [some (.ref 540), some (.int (Int32.ofNat P)), some (.int a), some (.int b), some (.int c)], [.int a, .int (Int32.ofNat P + Int32.ofNat 1), .ref 541], aa_H g)) rfl ?_
  rw [eP]
  refine zz_fin.ias (n := 6384) rfl rfl (zz_inbN (by omega) (by omega)) ?_
  rw [zz_toN (by omega)]
  refine zz_fin.steps (n := 6) (s' := (17, [some (.ref 540), some (.int (Int32.ofNat P)), some (.int a), some (.int b), some (.int c)], [.int b, .int (Int32.ofNat P + Int32.ofNat 2), .ref 541], aa_H (zz_w g 541 (P + 1) a))) rfl ?_
  rw [eP]
  refine zz_fin.ias (n := 6384) rfl rfl (zz_inbN (by omega) (by omega)) ?_
  rw [zz_toN (by omega)]
  refine zz_fin.steps (n := 6) (s' := (27, [some (.ref 540), some (.int (Int32.ofNat P)), some (.int a), some (.int b), some (.int c)], [.int c, .int (Int32.ofNat P + Int32.ofNat 3), .ref 541], aa_H (zz_w (zz_w g 541 (P + 1) a) 541 (P + 2) b))) rfl ?_
  rw [eP]
  refine zz_fin.ias (n := 6384) rfl rfl (zz_inbN (by omega) (by omega)) ?_
  rw [zz_toN (by omega)]
  exact zz_fin.at (n := 1) rfl ⟨rfl, rfl⟩
theorem deed156 {g : aa_G} (h5 : aa_inv g) (h6 : aa_Phi g) : zz_fin none 156 (0, zz_in [.ref 540] (zz_nl 156), [], aa_H g) (fun v h => v = none ∧ ∃ g', h = aa_H g' ∧ aa_inv g' ∧ aa_Phi g' ∧ aa_fr aa_dw g g') := by
  have hp : (1 : Int) ≤ (g 541 1).toInt := (h5 541 1).1
  refine zz_fin.steps (n := 2) (s' := (2, [some (.ref 540)], [.int (Int32.ofNat 0), .ref 540], aa_H g)) rfl ?_
  refine zz_fin.call rfl rfl (Nat.le_of_ble_eq_true rfl) (deed_all (row := 0) (.inl rfl) ⟨h5, h6, hp⟩) ?_
  rintro v h ⟨rfl, g1, rfl, k1, k2, k3⟩
  exact zz_fin.at (n := 1) rfl ⟨rfl, g1, rfl, k1, k2, k3⟩
