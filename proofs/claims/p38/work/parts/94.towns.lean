/-! TOWNS AND POINTS OF A STATE: the class's small methods, for the states 2 and 34 -/
/-- which state: 2 or 34; its town t is the cell 5 t + S + 12 -/
theorem dt_four {t : Nat} (h : t < 4) : t = 0 ∨ t = 1 ∨ t = 2 ∨ t = 3 := by omega
theorem dt_obj_2 {t : Nat} (ht : t < 4) {g : aa_G} : (zz_obj (aa_H g) (5 * t + 13 + 1) 7).isSome = true := by
  rcases dt_four ht with rfl | rfl | rfl | rfl <;> rfl
theorem dt_obj_34 {t : Nat} (ht : t < 4) {g : aa_G} : (zz_obj (aa_H g) (5 * t + 45 + 1) 7).isSome = true := by
  rcases dt_four ht with rfl | rfl | rfl | rfl <;> rfl
section AJ
variable {X : zz_X} {m pc : Nat} {lv : zz_V} {φ : Option Value → zz_H → Prop}
theorem zz_fin.gt0_2 {u w : Nat} {vv : Value} {sw : List (Int × Nat)} {q : Nat} {r : List Value} {g : aa_G} {t : Nat} (ht : t < 4) (hT : zz_T m pc = some (.getfield q, (7, 0, u, w), vv, sw)) (kk : zz_fin X m (pc + 3, lv, .int (g (5 * t + 14) 0) :: r, aa_H g) φ) : zz_fin X m (pc, lv, .ref (5 * t + 14) :: r, aa_H g) φ := by
  refine zz_fin.step1 hT ?_ kk
  rcases dt_four ht with rfl | rfl | rfl | rfl <;> rfl
theorem zz_fin.gt1_2 {u w : Nat} {vv : Value} {sw : List (Int × Nat)} {q : Nat} {r : List Value} {g : aa_G} {t : Nat} (ht : t < 4) (hT : zz_T m pc = some (.getfield q, (7, 1, u, w), vv, sw)) (kk : zz_fin X m (pc + 3, lv, .int (g (5 * t + 14) 1) :: r, aa_H g) φ) : zz_fin X m (pc, lv, .ref (5 * t + 14) :: r, aa_H g) φ := by
  refine zz_fin.step1 hT ?_ kk
  rcases dt_four ht with rfl | rfl | rfl | rfl <;> rfl
theorem zz_fin.gt0_34 {u w : Nat} {vv : Value} {sw : List (Int × Nat)} {q : Nat} {r : List Value} {g : aa_G} {t : Nat} (ht : t < 4) (hT : zz_T m pc = some (.getfield q, (7, 0, u, w), vv, sw)) (kk : zz_fin X m (pc + 3, lv, .int (g (5 * t + 46) 0) :: r, aa_H g) φ) : zz_fin X m (pc, lv, .ref (5 * t + 46) :: r, aa_H g) φ := by
  refine zz_fin.step1 hT ?_ kk
  rcases dt_four ht with rfl | rfl | rfl | rfl <;> rfl
theorem zz_fin.gt1_34 {u w : Nat} {vv : Value} {sw : List (Int × Nat)} {q : Nat} {r : List Value} {g : aa_G} {t : Nat} (ht : t < 4) (hT : zz_T m pc = some (.getfield q, (7, 1, u, w), vv, sw)) (kk : zz_fin X m (pc + 3, lv, .int (g (5 * t + 46) 1) :: r, aa_H g) φ) : zz_fin X m (pc, lv, .ref (5 * t + 46) :: r, aa_H g) φ := by
  refine zz_fin.step1 hT ?_ kk
  rcases dt_four ht with rfl | rfl | rfl | rfl <;> rfl
end AJ
theorem dt_fill_2_0 {g : aa_G} {i : Nat} (hi : i < 12) {y d k p : Int32} : zz_fin none 36 (0, zz_in [.ref 14, .int (Int32.ofNat i), .int y, .int d, .int k, .int p] (zz_nl 36), [], aa_H g) (fun v h => v = none ∧ h = aa_H (zz_w (zz_w (zz_w (zz_w g 15 i y) 16 i d) 17 i k) 18 i p)) := by
  refine zz_fin.steps (n := 3) (s' := (4, [some (.ref 14), some (.int (Int32.ofNat i)), some (.int y), some (.int d), some (.int k), some (.int p)], [.int 11, .int 0, .int (Int32.ofNat i)], aa_H g)) rfl ?_
  refine zz_fin.call rfl rfl (Nat.le_of_ble_eq_true rfl) (zz_within1 (.inl rfl) (lo := 0) (hi := 11) ⟨aa_le32.mpr (by rw [zz_ofN (by omega)]; show (0 : Int) ≤ _; omega), aa_le32.mpr (by rw [zz_ofN (by omega)]; show _ ≤ (11 : Int); omega)⟩) ?_
  rintro v h ⟨rfl, rfl⟩
  refine zz_fin.if rfl (fun c => ?_) (fun c => absurd rfl c)
  refine zz_fin.steps (n := 4) (s' := (17, [some (.ref 14), some (.int (Int32.ofNat i)), some (.int y), some (.int d), some (.int k), some (.int p)], [.int y, .int (Int32.ofNat i), .ref 15], aa_H g)) rfl ?_
  refine zz_fin.ias (n := 12) rfl rfl (zz_inbN hi (by omega)) ?_
  rw [zz_toN (by omega)]
  refine zz_fin.steps (n := 4) (s' := (24, [some (.ref 14), some (.int (Int32.ofNat i)), some (.int y), some (.int d), some (.int k), some (.int p)], [.int d, .int (Int32.ofNat i), .ref 16], aa_H (zz_w g 15 i y))) rfl ?_
  refine zz_fin.ias (n := 12) rfl rfl (zz_inbN hi (by omega)) ?_
  rw [zz_toN (by omega)]
  refine zz_fin.steps (n := 4) (s' := (32, [some (.ref 14), some (.int (Int32.ofNat i)), some (.int y), some (.int d), some (.int k), some (.int p)], [.int k, .int (Int32.ofNat i), .ref 17], aa_H (zz_w (zz_w g 15 i y) 16 i d))) rfl ?_
  refine zz_fin.ias (n := 12) rfl rfl (zz_inbN hi (by omega)) ?_
  rw [zz_toN (by omega)]
  refine zz_fin.steps (n := 4) (s' := (40, [some (.ref 14), some (.int (Int32.ofNat i)), some (.int y), some (.int d), some (.int k), some (.int p)], [.int p, .int (Int32.ofNat i), .ref 18], aa_H (zz_w (zz_w (zz_w g 15 i y) 16 i d) 17 i k))) rfl ?_
  refine zz_fin.ias (n := 12) rfl rfl (zz_inbN hi (by omega)) ?_
  rw [zz_toN (by omega)]
  exact zz_fin.at (n := 1) rfl ⟨rfl, rfl⟩
theorem dt_fill_2_1 {g : aa_G} {i : Nat} (hi : i < 12) {y d k p : Int32} : zz_fin none 36 (0, zz_in [.ref 19, .int (Int32.ofNat i), .int y, .int d, .int k, .int p] (zz_nl 36), [], aa_H g) (fun v h => v = none ∧ h = aa_H (zz_w (zz_w (zz_w (zz_w g 20 i y) 21 i d) 22 i k) 23 i p)) := by
  refine zz_fin.steps (n := 3) (s' := (4, [some (.ref 19), some (.int (Int32.ofNat i)), some (.int y), some (.int d), some (.int k), some (.int p)], [.int 11, .int 0, .int (Int32.ofNat i)], aa_H g)) rfl ?_
  refine zz_fin.call rfl rfl (Nat.le_of_ble_eq_true rfl) (zz_within1 (.inl rfl) (lo := 0) (hi := 11) ⟨aa_le32.mpr (by rw [zz_ofN (by omega)]; show (0 : Int) ≤ _; omega), aa_le32.mpr (by rw [zz_ofN (by omega)]; show _ ≤ (11 : Int); omega)⟩) ?_
  rintro v h ⟨rfl, rfl⟩
  refine zz_fin.if rfl (fun c => ?_) (fun c => absurd rfl c)
  refine zz_fin.steps (n := 4) (s' := (17, [some (.ref 19), some (.int (Int32.ofNat i)), some (.int y), some (.int d), some (.int k), some (.int p)], [.int y, .int (Int32.ofNat i), .ref 20], aa_H g)) rfl ?_
  refine zz_fin.ias (n := 12) rfl rfl (zz_inbN hi (by omega)) ?_
  rw [zz_toN (by omega)]
  refine zz_fin.steps (n := 4) (s' := (24, [some (.ref 19), some (.int (Int32.ofNat i)), some (.int y), some (.int d), some (.int k), some (.int p)], [.int d, .int (Int32.ofNat i), .ref 21], aa_H (zz_w g 20 i y))) rfl ?_
  refine zz_fin.ias (n := 12) rfl rfl (zz_inbN hi (by omega)) ?_
  rw [zz_toN (by omega)]
  refine zz_fin.steps (n := 4) (s' := (32, [some (.ref 19), some (.int (Int32.ofNat i)), some (.int y), some (.int d), some (.int k), some (.int p)], [.int k, .int (Int32.ofNat i), .ref 22], aa_H (zz_w (zz_w g 20 i y) 21 i d))) rfl ?_
  refine zz_fin.ias (n := 12) rfl rfl (zz_inbN hi (by omega)) ?_
  rw [zz_toN (by omega)]
  refine zz_fin.steps (n := 4) (s' := (40, [some (.ref 19), some (.int (Int32.ofNat i)), some (.int y), some (.int d), some (.int k), some (.int p)], [.int p, .int (Int32.ofNat i), .ref 23], aa_H (zz_w (zz_w (zz_w g 20 i y) 21 i d) 22 i k))) rfl ?_
  refine zz_fin.ias (n := 12) rfl rfl (zz_inbN hi (by omega)) ?_
  rw [zz_toN (by omega)]
  exact zz_fin.at (n := 1) rfl ⟨rfl, rfl⟩
theorem dt_fill_2_2 {g : aa_G} {i : Nat} (hi : i < 12) {y d k p : Int32} : zz_fin none 36 (0, zz_in [.ref 24, .int (Int32.ofNat i), .int y, .int d, .int k, .int p] (zz_nl 36), [], aa_H g) (fun v h => v = none ∧ h = aa_H (zz_w (zz_w (zz_w (zz_w g 25 i y) 26 i d) 27 i k) 28 i p)) := by
  refine zz_fin.steps (n := 3) (s' := (4, [some (.ref 24), some (.int (Int32.ofNat i)), some (.int y), some (.int d), some (.int k), some (.int p)], [.int 11, .int 0, .int (Int32.ofNat i)], aa_H g)) rfl ?_
  refine zz_fin.call rfl rfl (Nat.le_of_ble_eq_true rfl) (zz_within1 (.inl rfl) (lo := 0) (hi := 11) ⟨aa_le32.mpr (by rw [zz_ofN (by omega)]; show (0 : Int) ≤ _; omega), aa_le32.mpr (by rw [zz_ofN (by omega)]; show _ ≤ (11 : Int); omega)⟩) ?_
  rintro v h ⟨rfl, rfl⟩
  refine zz_fin.if rfl (fun c => ?_) (fun c => absurd rfl c)
  refine zz_fin.steps (n := 4) (s' := (17, [some (.ref 24), some (.int (Int32.ofNat i)), some (.int y), some (.int d), some (.int k), some (.int p)], [.int y, .int (Int32.ofNat i), .ref 25], aa_H g)) rfl ?_
  refine zz_fin.ias (n := 12) rfl rfl (zz_inbN hi (by omega)) ?_
  rw [zz_toN (by omega)]
  refine zz_fin.steps (n := 4) (s' := (24, [some (.ref 24), some (.int (Int32.ofNat i)), some (.int y), some (.int d), some (.int k), some (.int p)], [.int d, .int (Int32.ofNat i), .ref 26], aa_H (zz_w g 25 i y))) rfl ?_
  refine zz_fin.ias (n := 12) rfl rfl (zz_inbN hi (by omega)) ?_
  rw [zz_toN (by omega)]
  refine zz_fin.steps (n := 4) (s' := (32, [some (.ref 24), some (.int (Int32.ofNat i)), some (.int y), some (.int d), some (.int k), some (.int p)], [.int k, .int (Int32.ofNat i), .ref 27], aa_H (zz_w (zz_w g 25 i y) 26 i d))) rfl ?_
  refine zz_fin.ias (n := 12) rfl rfl (zz_inbN hi (by omega)) ?_
  rw [zz_toN (by omega)]
  refine zz_fin.steps (n := 4) (s' := (40, [some (.ref 24), some (.int (Int32.ofNat i)), some (.int y), some (.int d), some (.int k), some (.int p)], [.int p, .int (Int32.ofNat i), .ref 28], aa_H (zz_w (zz_w (zz_w g 25 i y) 26 i d) 27 i k))) rfl ?_
  refine zz_fin.ias (n := 12) rfl rfl (zz_inbN hi (by omega)) ?_
  rw [zz_toN (by omega)]
  exact zz_fin.at (n := 1) rfl ⟨rfl, rfl⟩
theorem dt_fill_2_3 {g : aa_G} {i : Nat} (hi : i < 12) {y d k p : Int32} : zz_fin none 36 (0, zz_in [.ref 29, .int (Int32.ofNat i), .int y, .int d, .int k, .int p] (zz_nl 36), [], aa_H g) (fun v h => v = none ∧ h = aa_H (zz_w (zz_w (zz_w (zz_w g 30 i y) 31 i d) 32 i k) 33 i p)) := by
  refine zz_fin.steps (n := 3) (s' := (4, [some (.ref 29), some (.int (Int32.ofNat i)), some (.int y), some (.int d), some (.int k), some (.int p)], [.int 11, .int 0, .int (Int32.ofNat i)], aa_H g)) rfl ?_
  refine zz_fin.call rfl rfl (Nat.le_of_ble_eq_true rfl) (zz_within1 (.inl rfl) (lo := 0) (hi := 11) ⟨aa_le32.mpr (by rw [zz_ofN (by omega)]; show (0 : Int) ≤ _; omega), aa_le32.mpr (by rw [zz_ofN (by omega)]; show _ ≤ (11 : Int); omega)⟩) ?_
  rintro v h ⟨rfl, rfl⟩
  refine zz_fin.if rfl (fun c => ?_) (fun c => absurd rfl c)
  refine zz_fin.steps (n := 4) (s' := (17, [some (.ref 29), some (.int (Int32.ofNat i)), some (.int y), some (.int d), some (.int k), some (.int p)], [.int y, .int (Int32.ofNat i), .ref 30], aa_H g)) rfl ?_
  refine zz_fin.ias (n := 12) rfl rfl (zz_inbN hi (by omega)) ?_
  rw [zz_toN (by omega)]
  refine zz_fin.steps (n := 4) (s' := (24, [some (.ref 29), some (.int (Int32.ofNat i)), some (.int y), some (.int d), some (.int k), some (.int p)], [.int d, .int (Int32.ofNat i), .ref 31], aa_H (zz_w g 30 i y))) rfl ?_
  refine zz_fin.ias (n := 12) rfl rfl (zz_inbN hi (by omega)) ?_
  rw [zz_toN (by omega)]
  refine zz_fin.steps (n := 4) (s' := (32, [some (.ref 29), some (.int (Int32.ofNat i)), some (.int y), some (.int d), some (.int k), some (.int p)], [.int k, .int (Int32.ofNat i), .ref 32], aa_H (zz_w (zz_w g 30 i y) 31 i d))) rfl ?_
  refine zz_fin.ias (n := 12) rfl rfl (zz_inbN hi (by omega)) ?_
  rw [zz_toN (by omega)]
  refine zz_fin.steps (n := 4) (s' := (40, [some (.ref 29), some (.int (Int32.ofNat i)), some (.int y), some (.int d), some (.int k), some (.int p)], [.int p, .int (Int32.ofNat i), .ref 33], aa_H (zz_w (zz_w (zz_w g 30 i y) 31 i d) 32 i k))) rfl ?_
  refine zz_fin.ias (n := 12) rfl rfl (zz_inbN hi (by omega)) ?_
  rw [zz_toN (by omega)]
  exact zz_fin.at (n := 1) rfl ⟨rfl, rfl⟩
theorem dt_fill_2 {t : Nat} (ht : t < 4) {g : aa_G} {i : Nat} (hi : i < 12) {y d k p : Int32} : zz_fin none 36 (0, zz_in [.ref (5 * t + 14), .int (Int32.ofNat i), .int y, .int d, .int k, .int p] (zz_nl 36), [], aa_H g) (fun v h => v = none ∧ h = aa_H (zz_w (zz_w (zz_w (zz_w g (5 * t + 15) i y) (5 * t + 16) i d) (5 * t + 17) i k) (5 * t + 18) i p)) := by
  rcases dt_four ht with rfl | rfl | rfl | rfl
  · exact dt_fill_2_0 hi
  · exact dt_fill_2_1 hi
  · exact dt_fill_2_2 hi
  · exact dt_fill_2_3 hi
theorem dt_fill_34_0 {g : aa_G} {i : Nat} (hi : i < 12) {y d k p : Int32} : zz_fin none 36 (0, zz_in [.ref 46, .int (Int32.ofNat i), .int y, .int d, .int k, .int p] (zz_nl 36), [], aa_H g) (fun v h => v = none ∧ h = aa_H (zz_w (zz_w (zz_w (zz_w g 47 i y) 48 i d) 49 i k) 50 i p)) := by
  refine zz_fin.steps (n := 3) (s' := (4, [some (.ref 46), some (.int (Int32.ofNat i)), some (.int y), some (.int d), some (.int k), some (.int p)], [.int 11, .int 0, .int (Int32.ofNat i)], aa_H g)) rfl ?_
  refine zz_fin.call rfl rfl (Nat.le_of_ble_eq_true rfl) (zz_within1 (.inl rfl) (lo := 0) (hi := 11) ⟨aa_le32.mpr (by rw [zz_ofN (by omega)]; show (0 : Int) ≤ _; omega), aa_le32.mpr (by rw [zz_ofN (by omega)]; show _ ≤ (11 : Int); omega)⟩) ?_
  rintro v h ⟨rfl, rfl⟩
  refine zz_fin.if rfl (fun c => ?_) (fun c => absurd rfl c)
  refine zz_fin.steps (n := 4) (s' := (17, [some (.ref 46), some (.int (Int32.ofNat i)), some (.int y), some (.int d), some (.int k), some (.int p)], [.int y, .int (Int32.ofNat i), .ref 47], aa_H g)) rfl ?_
  refine zz_fin.ias (n := 12) rfl rfl (zz_inbN hi (by omega)) ?_
  rw [zz_toN (by omega)]
  refine zz_fin.steps (n := 4) (s' := (24, [some (.ref 46), some (.int (Int32.ofNat i)), some (.int y), some (.int d), some (.int k), some (.int p)], [.int d, .int (Int32.ofNat i), .ref 48], aa_H (zz_w g 47 i y))) rfl ?_
  refine zz_fin.ias (n := 12) rfl rfl (zz_inbN hi (by omega)) ?_
  rw [zz_toN (by omega)]
  refine zz_fin.steps (n := 4) (s' := (32, [some (.ref 46), some (.int (Int32.ofNat i)), some (.int y), some (.int d), some (.int k), some (.int p)], [.int k, .int (Int32.ofNat i), .ref 49], aa_H (zz_w (zz_w g 47 i y) 48 i d))) rfl ?_
  refine zz_fin.ias (n := 12) rfl rfl (zz_inbN hi (by omega)) ?_
  rw [zz_toN (by omega)]
  refine zz_fin.steps (n := 4) (s' := (40, [some (.ref 46), some (.int (Int32.ofNat i)), some (.int y), some (.int d), some (.int k), some (.int p)], [.int p, .int (Int32.ofNat i), .ref 50], aa_H (zz_w (zz_w (zz_w g 47 i y) 48 i d) 49 i k))) rfl ?_
  refine zz_fin.ias (n := 12) rfl rfl (zz_inbN hi (by omega)) ?_
  rw [zz_toN (by omega)]
  exact zz_fin.at (n := 1) rfl ⟨rfl, rfl⟩
theorem dt_fill_34_1 {g : aa_G} {i : Nat} (hi : i < 12) {y d k p : Int32} : zz_fin none 36 (0, zz_in [.ref 51, .int (Int32.ofNat i), .int y, .int d, .int k, .int p] (zz_nl 36), [], aa_H g) (fun v h => v = none ∧ h = aa_H (zz_w (zz_w (zz_w (zz_w g 52 i y) 53 i d) 54 i k) 55 i p)) := by
  refine zz_fin.steps (n := 3) (s' := (4, [some (.ref 51), some (.int (Int32.ofNat i)), some (.int y), some (.int d), some (.int k), some (.int p)], [.int 11, .int 0, .int (Int32.ofNat i)], aa_H g)) rfl ?_
  refine zz_fin.call rfl rfl (Nat.le_of_ble_eq_true rfl) (zz_within1 (.inl rfl) (lo := 0) (hi := 11) ⟨aa_le32.mpr (by rw [zz_ofN (by omega)]; show (0 : Int) ≤ _; omega), aa_le32.mpr (by rw [zz_ofN (by omega)]; show _ ≤ (11 : Int); omega)⟩) ?_
  rintro v h ⟨rfl, rfl⟩
  refine zz_fin.if rfl (fun c => ?_) (fun c => absurd rfl c)
  refine zz_fin.steps (n := 4) (s' := (17, [some (.ref 51), some (.int (Int32.ofNat i)), some (.int y), some (.int d), some (.int k), some (.int p)], [.int y, .int (Int32.ofNat i), .ref 52], aa_H g)) rfl ?_
  refine zz_fin.ias (n := 12) rfl rfl (zz_inbN hi (by omega)) ?_
  rw [zz_toN (by omega)]
  refine zz_fin.steps (n := 4) (s' := (24, [some (.ref 51), some (.int (Int32.ofNat i)), some (.int y), some (.int d), some (.int k), some (.int p)], [.int d, .int (Int32.ofNat i), .ref 53], aa_H (zz_w g 52 i y))) rfl ?_
  refine zz_fin.ias (n := 12) rfl rfl (zz_inbN hi (by omega)) ?_
  rw [zz_toN (by omega)]
  refine zz_fin.steps (n := 4) (s' := (32, [some (.ref 51), some (.int (Int32.ofNat i)), some (.int y), some (.int d), some (.int k), some (.int p)], [.int k, .int (Int32.ofNat i), .ref 54], aa_H (zz_w (zz_w g 52 i y) 53 i d))) rfl ?_
  refine zz_fin.ias (n := 12) rfl rfl (zz_inbN hi (by omega)) ?_
  rw [zz_toN (by omega)]
  refine zz_fin.steps (n := 4) (s' := (40, [some (.ref 51), some (.int (Int32.ofNat i)), some (.int y), some (.int d), some (.int k), some (.int p)], [.int p, .int (Int32.ofNat i), .ref 55], aa_H (zz_w (zz_w (zz_w g 52 i y) 53 i d) 54 i k))) rfl ?_
  refine zz_fin.ias (n := 12) rfl rfl (zz_inbN hi (by omega)) ?_
  rw [zz_toN (by omega)]
  exact zz_fin.at (n := 1) rfl ⟨rfl, rfl⟩
theorem dt_fill_34_2 {g : aa_G} {i : Nat} (hi : i < 12) {y d k p : Int32} : zz_fin none 36 (0, zz_in [.ref 56, .int (Int32.ofNat i), .int y, .int d, .int k, .int p] (zz_nl 36), [], aa_H g) (fun v h => v = none ∧ h = aa_H (zz_w (zz_w (zz_w (zz_w g 57 i y) 58 i d) 59 i k) 60 i p)) := by
  refine zz_fin.steps (n := 3) (s' := (4, [some (.ref 56), some (.int (Int32.ofNat i)), some (.int y), some (.int d), some (.int k), some (.int p)], [.int 11, .int 0, .int (Int32.ofNat i)], aa_H g)) rfl ?_
  refine zz_fin.call rfl rfl (Nat.le_of_ble_eq_true rfl) (zz_within1 (.inl rfl) (lo := 0) (hi := 11) ⟨aa_le32.mpr (by rw [zz_ofN (by omega)]; show (0 : Int) ≤ _; omega), aa_le32.mpr (by rw [zz_ofN (by omega)]; show _ ≤ (11 : Int); omega)⟩) ?_
  rintro v h ⟨rfl, rfl⟩
  refine zz_fin.if rfl (fun c => ?_) (fun c => absurd rfl c)
  refine zz_fin.steps (n := 4) (s' := (17, [some (.ref 56), some (.int (Int32.ofNat i)), some (.int y), some (.int d), some (.int k), some (.int p)], [.int y, .int (Int32.ofNat i), .ref 57], aa_H g)) rfl ?_
  refine zz_fin.ias (n := 12) rfl rfl (zz_inbN hi (by omega)) ?_
  rw [zz_toN (by omega)]
  refine zz_fin.steps (n := 4) (s' := (24, [some (.ref 56), some (.int (Int32.ofNat i)), some (.int y), some (.int d), some (.int k), some (.int p)], [.int d, .int (Int32.ofNat i), .ref 58], aa_H (zz_w g 57 i y))) rfl ?_
  refine zz_fin.ias (n := 12) rfl rfl (zz_inbN hi (by omega)) ?_
  rw [zz_toN (by omega)]
  refine zz_fin.steps (n := 4) (s' := (32, [some (.ref 56), some (.int (Int32.ofNat i)), some (.int y), some (.int d), some (.int k), some (.int p)], [.int k, .int (Int32.ofNat i), .ref 59], aa_H (zz_w (zz_w g 57 i y) 58 i d))) rfl ?_
  refine zz_fin.ias (n := 12) rfl rfl (zz_inbN hi (by omega)) ?_
  rw [zz_toN (by omega)]
  refine zz_fin.steps (n := 4) (s' := (40, [some (.ref 56), some (.int (Int32.ofNat i)), some (.int y), some (.int d), some (.int k), some (.int p)], [.int p, .int (Int32.ofNat i), .ref 60], aa_H (zz_w (zz_w (zz_w g 57 i y) 58 i d) 59 i k))) rfl ?_
  refine zz_fin.ias (n := 12) rfl rfl (zz_inbN hi (by omega)) ?_
  rw [zz_toN (by omega)]
  exact zz_fin.at (n := 1) rfl ⟨rfl, rfl⟩
theorem dt_fill_34_3 {g : aa_G} {i : Nat} (hi : i < 12) {y d k p : Int32} : zz_fin none 36 (0, zz_in [.ref 61, .int (Int32.ofNat i), .int y, .int d, .int k, .int p] (zz_nl 36), [], aa_H g) (fun v h => v = none ∧ h = aa_H (zz_w (zz_w (zz_w (zz_w g 62 i y) 63 i d) 64 i k) 65 i p)) := by
  refine zz_fin.steps (n := 3) (s' := (4, [some (.ref 61), some (.int (Int32.ofNat i)), some (.int y), some (.int d), some (.int k), some (.int p)], [.int 11, .int 0, .int (Int32.ofNat i)], aa_H g)) rfl ?_
  refine zz_fin.call rfl rfl (Nat.le_of_ble_eq_true rfl) (zz_within1 (.inl rfl) (lo := 0) (hi := 11) ⟨aa_le32.mpr (by rw [zz_ofN (by omega)]; show (0 : Int) ≤ _; omega), aa_le32.mpr (by rw [zz_ofN (by omega)]; show _ ≤ (11 : Int); omega)⟩) ?_
  rintro v h ⟨rfl, rfl⟩
  refine zz_fin.if rfl (fun c => ?_) (fun c => absurd rfl c)
  refine zz_fin.steps (n := 4) (s' := (17, [some (.ref 61), some (.int (Int32.ofNat i)), some (.int y), some (.int d), some (.int k), some (.int p)], [.int y, .int (Int32.ofNat i), .ref 62], aa_H g)) rfl ?_
  refine zz_fin.ias (n := 12) rfl rfl (zz_inbN hi (by omega)) ?_
  rw [zz_toN (by omega)]
  refine zz_fin.steps (n := 4) (s' := (24, [some (.ref 61), some (.int (Int32.ofNat i)), some (.int y), some (.int d), some (.int k), some (.int p)], [.int d, .int (Int32.ofNat i), .ref 63], aa_H (zz_w g 62 i y))) rfl ?_
  refine zz_fin.ias (n := 12) rfl rfl (zz_inbN hi (by omega)) ?_
  rw [zz_toN (by omega)]
  refine zz_fin.steps (n := 4) (s' := (32, [some (.ref 61), some (.int (Int32.ofNat i)), some (.int y), some (.int d), some (.int k), some (.int p)], [.int k, .int (Int32.ofNat i), .ref 64], aa_H (zz_w (zz_w g 62 i y) 63 i d))) rfl ?_
  refine zz_fin.ias (n := 12) rfl rfl (zz_inbN hi (by omega)) ?_
  rw [zz_toN (by omega)]
  refine zz_fin.steps (n := 4) (s' := (40, [some (.ref 61), some (.int (Int32.ofNat i)), some (.int y), some (.int d), some (.int k), some (.int p)], [.int p, .int (Int32.ofNat i), .ref 65], aa_H (zz_w (zz_w (zz_w g 62 i y) 63 i d) 64 i k))) rfl ?_
  refine zz_fin.ias (n := 12) rfl rfl (zz_inbN hi (by omega)) ?_
  rw [zz_toN (by omega)]
  exact zz_fin.at (n := 1) rfl ⟨rfl, rfl⟩
theorem dt_fill_34 {t : Nat} (ht : t < 4) {g : aa_G} {i : Nat} (hi : i < 12) {y d k p : Int32} : zz_fin none 36 (0, zz_in [.ref (5 * t + 46), .int (Int32.ofNat i), .int y, .int d, .int k, .int p] (zz_nl 36), [], aa_H g) (fun v h => v = none ∧ h = aa_H (zz_w (zz_w (zz_w (zz_w g (5 * t + 47) i y) (5 * t + 48) i d) (5 * t + 49) i k) (5 * t + 50) i p)) := by
  rcases dt_four ht with rfl | rfl | rfl | rfl
  · exact dt_fill_34_0 hi
  · exact dt_fill_34_1 hi
  · exact dt_fill_34_2 hi
  · exact dt_fill_34_3 hi
theorem dt_app_2_0 {g : aa_G} {i : Nat} (hi : i < 12) (hc : g 14 1 = Int32.ofNat i) {y d k p : Int32} : zz_fin none 35 (0, zz_in [.ref 14, .int y, .int d, .int k, .int p] (zz_nl 35), [], aa_H g) (fun v h => v = none ∧ h = aa_H (zz_w (zz_w (zz_w (zz_w (zz_w g 15 i y) 16 i d) 17 i k) 18 i p) 14 1 (Int32.ofNat (i + 1)))) := by
  refine zz_fin.steps (n := 3) (s' := (6, [some (.ref 14), some (.int y), some (.int d), some (.int k), some (.int p)], [.int 12, .int (g 14 1)], aa_H g)) rfl ?_
  rw [hc]
  refine zz_fin.ic rfl (fun c1 => ?_) (fun c1 => ?_)
  · have c1 : (12 : Int32).toInt ≤ (Int32.ofNat i).toInt := aa_le32.mp (of_decide_eq_true c1)
    rw [zz_ofN (by omega), show (12 : Int32).toInt = 12 from rfl] at c1
    omega
  · refine zz_fin.steps (n := 3) (s' := (14, [some (.ref 14), some (.int y), some (.int d), some (.int k), some (.int p)], [.int (g 14 1), .ref 14], aa_H g)) rfl ?_
    rw [hc]
    refine zz_fin.steps (n := 4) (s' := (19, [some (.ref 14), some (.int y), some (.int d), some (.int k), some (.int p)], [.int p, .int k, .int d, .int y, .int (Int32.ofNat i), .ref 14], aa_H g)) rfl ?_
    refine zz_fin.call rfl rfl (Nat.le_of_ble_eq_true rfl) (dt_fill_2_0 hi) ?_
    rintro v h ⟨rfl, rfl⟩
    refine zz_fin.steps (n := 5) (s' := (29, [some (.ref 14), some (.int y), some (.int d), some (.int k), some (.int p)], [.int ((g 14 1) + 1), .ref 14], aa_H (zz_w (zz_w (zz_w (zz_w g 15 i y) 16 i d) 17 i k) 18 i p))) rfl ?_
    rw [hc, aa_succ]
    refine zz_fin.steps (n := 1) (s' := (32, [some (.ref 14), some (.int y), some (.int d), some (.int k), some (.int p)], [], aa_H (zz_w (zz_w (zz_w (zz_w (zz_w g 15 i y) 16 i d) 17 i k) 18 i p) 14 1 (Int32.ofNat (i + 1))))) rfl ?_
    exact zz_fin.at (n := 1) rfl ⟨rfl, rfl⟩
theorem dt_app_2_1 {g : aa_G} {i : Nat} (hi : i < 12) (hc : g 19 1 = Int32.ofNat i) {y d k p : Int32} : zz_fin none 35 (0, zz_in [.ref 19, .int y, .int d, .int k, .int p] (zz_nl 35), [], aa_H g) (fun v h => v = none ∧ h = aa_H (zz_w (zz_w (zz_w (zz_w (zz_w g 20 i y) 21 i d) 22 i k) 23 i p) 19 1 (Int32.ofNat (i + 1)))) := by
  refine zz_fin.steps (n := 3) (s' := (6, [some (.ref 19), some (.int y), some (.int d), some (.int k), some (.int p)], [.int 12, .int (g 19 1)], aa_H g)) rfl ?_
  rw [hc]
  refine zz_fin.ic rfl (fun c1 => ?_) (fun c1 => ?_)
  · have c1 : (12 : Int32).toInt ≤ (Int32.ofNat i).toInt := aa_le32.mp (of_decide_eq_true c1)
    rw [zz_ofN (by omega), show (12 : Int32).toInt = 12 from rfl] at c1
    omega
  · refine zz_fin.steps (n := 3) (s' := (14, [some (.ref 19), some (.int y), some (.int d), some (.int k), some (.int p)], [.int (g 19 1), .ref 19], aa_H g)) rfl ?_
    rw [hc]
    refine zz_fin.steps (n := 4) (s' := (19, [some (.ref 19), some (.int y), some (.int d), some (.int k), some (.int p)], [.int p, .int k, .int d, .int y, .int (Int32.ofNat i), .ref 19], aa_H g)) rfl ?_
    refine zz_fin.call rfl rfl (Nat.le_of_ble_eq_true rfl) (dt_fill_2_1 hi) ?_
    rintro v h ⟨rfl, rfl⟩
    refine zz_fin.steps (n := 5) (s' := (29, [some (.ref 19), some (.int y), some (.int d), some (.int k), some (.int p)], [.int ((g 19 1) + 1), .ref 19], aa_H (zz_w (zz_w (zz_w (zz_w g 20 i y) 21 i d) 22 i k) 23 i p))) rfl ?_
    rw [hc, aa_succ]
    refine zz_fin.steps (n := 1) (s' := (32, [some (.ref 19), some (.int y), some (.int d), some (.int k), some (.int p)], [], aa_H (zz_w (zz_w (zz_w (zz_w (zz_w g 20 i y) 21 i d) 22 i k) 23 i p) 19 1 (Int32.ofNat (i + 1))))) rfl ?_
    exact zz_fin.at (n := 1) rfl ⟨rfl, rfl⟩
theorem dt_app_2_2 {g : aa_G} {i : Nat} (hi : i < 12) (hc : g 24 1 = Int32.ofNat i) {y d k p : Int32} : zz_fin none 35 (0, zz_in [.ref 24, .int y, .int d, .int k, .int p] (zz_nl 35), [], aa_H g) (fun v h => v = none ∧ h = aa_H (zz_w (zz_w (zz_w (zz_w (zz_w g 25 i y) 26 i d) 27 i k) 28 i p) 24 1 (Int32.ofNat (i + 1)))) := by
  refine zz_fin.steps (n := 3) (s' := (6, [some (.ref 24), some (.int y), some (.int d), some (.int k), some (.int p)], [.int 12, .int (g 24 1)], aa_H g)) rfl ?_
  rw [hc]
  refine zz_fin.ic rfl (fun c1 => ?_) (fun c1 => ?_)
  · have c1 : (12 : Int32).toInt ≤ (Int32.ofNat i).toInt := aa_le32.mp (of_decide_eq_true c1)
    rw [zz_ofN (by omega), show (12 : Int32).toInt = 12 from rfl] at c1
    omega
  · refine zz_fin.steps (n := 3) (s' := (14, [some (.ref 24), some (.int y), some (.int d), some (.int k), some (.int p)], [.int (g 24 1), .ref 24], aa_H g)) rfl ?_
    rw [hc]
    refine zz_fin.steps (n := 4) (s' := (19, [some (.ref 24), some (.int y), some (.int d), some (.int k), some (.int p)], [.int p, .int k, .int d, .int y, .int (Int32.ofNat i), .ref 24], aa_H g)) rfl ?_
    refine zz_fin.call rfl rfl (Nat.le_of_ble_eq_true rfl) (dt_fill_2_2 hi) ?_
    rintro v h ⟨rfl, rfl⟩
    refine zz_fin.steps (n := 5) (s' := (29, [some (.ref 24), some (.int y), some (.int d), some (.int k), some (.int p)], [.int ((g 24 1) + 1), .ref 24], aa_H (zz_w (zz_w (zz_w (zz_w g 25 i y) 26 i d) 27 i k) 28 i p))) rfl ?_
    rw [hc, aa_succ]
    refine zz_fin.steps (n := 1) (s' := (32, [some (.ref 24), some (.int y), some (.int d), some (.int k), some (.int p)], [], aa_H (zz_w (zz_w (zz_w (zz_w (zz_w g 25 i y) 26 i d) 27 i k) 28 i p) 24 1 (Int32.ofNat (i + 1))))) rfl ?_
    exact zz_fin.at (n := 1) rfl ⟨rfl, rfl⟩
theorem dt_app_2_3 {g : aa_G} {i : Nat} (hi : i < 12) (hc : g 29 1 = Int32.ofNat i) {y d k p : Int32} : zz_fin none 35 (0, zz_in [.ref 29, .int y, .int d, .int k, .int p] (zz_nl 35), [], aa_H g) (fun v h => v = none ∧ h = aa_H (zz_w (zz_w (zz_w (zz_w (zz_w g 30 i y) 31 i d) 32 i k) 33 i p) 29 1 (Int32.ofNat (i + 1)))) := by
  refine zz_fin.steps (n := 3) (s' := (6, [some (.ref 29), some (.int y), some (.int d), some (.int k), some (.int p)], [.int 12, .int (g 29 1)], aa_H g)) rfl ?_
  rw [hc]
  refine zz_fin.ic rfl (fun c1 => ?_) (fun c1 => ?_)
  · have c1 : (12 : Int32).toInt ≤ (Int32.ofNat i).toInt := aa_le32.mp (of_decide_eq_true c1)
    rw [zz_ofN (by omega), show (12 : Int32).toInt = 12 from rfl] at c1
    omega
  · refine zz_fin.steps (n := 3) (s' := (14, [some (.ref 29), some (.int y), some (.int d), some (.int k), some (.int p)], [.int (g 29 1), .ref 29], aa_H g)) rfl ?_
    rw [hc]
    refine zz_fin.steps (n := 4) (s' := (19, [some (.ref 29), some (.int y), some (.int d), some (.int k), some (.int p)], [.int p, .int k, .int d, .int y, .int (Int32.ofNat i), .ref 29], aa_H g)) rfl ?_
    refine zz_fin.call rfl rfl (Nat.le_of_ble_eq_true rfl) (dt_fill_2_3 hi) ?_
    rintro v h ⟨rfl, rfl⟩
    refine zz_fin.steps (n := 5) (s' := (29, [some (.ref 29), some (.int y), some (.int d), some (.int k), some (.int p)], [.int ((g 29 1) + 1), .ref 29], aa_H (zz_w (zz_w (zz_w (zz_w g 30 i y) 31 i d) 32 i k) 33 i p))) rfl ?_
    rw [hc, aa_succ]
    refine zz_fin.steps (n := 1) (s' := (32, [some (.ref 29), some (.int y), some (.int d), some (.int k), some (.int p)], [], aa_H (zz_w (zz_w (zz_w (zz_w (zz_w g 30 i y) 31 i d) 32 i k) 33 i p) 29 1 (Int32.ofNat (i + 1))))) rfl ?_
    exact zz_fin.at (n := 1) rfl ⟨rfl, rfl⟩
theorem dt_app_2 {t : Nat} (ht : t < 4) {g : aa_G} {i : Nat} (hi : i < 12) (hc : g (5 * t + 14) 1 = Int32.ofNat i) {y d k p : Int32} : zz_fin none 35 (0, zz_in [.ref (5 * t + 14), .int y, .int d, .int k, .int p] (zz_nl 35), [], aa_H g) (fun v h => v = none ∧ h = aa_H (zz_w (zz_w (zz_w (zz_w (zz_w g (5 * t + 15) i y) (5 * t + 16) i d) (5 * t + 17) i k) (5 * t + 18) i p) (5 * t + 14) 1 (Int32.ofNat (i + 1)))) := by
  rcases dt_four ht with rfl | rfl | rfl | rfl
  · exact dt_app_2_0 hi hc
  · exact dt_app_2_1 hi hc
  · exact dt_app_2_2 hi hc
  · exact dt_app_2_3 hi hc
theorem dt_app_34_0 {g : aa_G} {i : Nat} (hi : i < 12) (hc : g 46 1 = Int32.ofNat i) {y d k p : Int32} : zz_fin none 35 (0, zz_in [.ref 46, .int y, .int d, .int k, .int p] (zz_nl 35), [], aa_H g) (fun v h => v = none ∧ h = aa_H (zz_w (zz_w (zz_w (zz_w (zz_w g 47 i y) 48 i d) 49 i k) 50 i p) 46 1 (Int32.ofNat (i + 1)))) := by
  refine zz_fin.steps (n := 3) (s' := (6, [some (.ref 46), some (.int y), some (.int d), some (.int k), some (.int p)], [.int 12, .int (g 46 1)], aa_H g)) rfl ?_
  rw [hc]
  refine zz_fin.ic rfl (fun c1 => ?_) (fun c1 => ?_)
  · have c1 : (12 : Int32).toInt ≤ (Int32.ofNat i).toInt := aa_le32.mp (of_decide_eq_true c1)
    rw [zz_ofN (by omega), show (12 : Int32).toInt = 12 from rfl] at c1
    omega
  · refine zz_fin.steps (n := 3) (s' := (14, [some (.ref 46), some (.int y), some (.int d), some (.int k), some (.int p)], [.int (g 46 1), .ref 46], aa_H g)) rfl ?_
    rw [hc]
    refine zz_fin.steps (n := 4) (s' := (19, [some (.ref 46), some (.int y), some (.int d), some (.int k), some (.int p)], [.int p, .int k, .int d, .int y, .int (Int32.ofNat i), .ref 46], aa_H g)) rfl ?_
    refine zz_fin.call rfl rfl (Nat.le_of_ble_eq_true rfl) (dt_fill_34_0 hi) ?_
    rintro v h ⟨rfl, rfl⟩
    refine zz_fin.steps (n := 5) (s' := (29, [some (.ref 46), some (.int y), some (.int d), some (.int k), some (.int p)], [.int ((g 46 1) + 1), .ref 46], aa_H (zz_w (zz_w (zz_w (zz_w g 47 i y) 48 i d) 49 i k) 50 i p))) rfl ?_
    rw [hc, aa_succ]
    refine zz_fin.steps (n := 1) (s' := (32, [some (.ref 46), some (.int y), some (.int d), some (.int k), some (.int p)], [], aa_H (zz_w (zz_w (zz_w (zz_w (zz_w g 47 i y) 48 i d) 49 i k) 50 i p) 46 1 (Int32.ofNat (i + 1))))) rfl ?_
    exact zz_fin.at (n := 1) rfl ⟨rfl, rfl⟩
theorem dt_app_34_1 {g : aa_G} {i : Nat} (hi : i < 12) (hc : g 51 1 = Int32.ofNat i) {y d k p : Int32} : zz_fin none 35 (0, zz_in [.ref 51, .int y, .int d, .int k, .int p] (zz_nl 35), [], aa_H g) (fun v h => v = none ∧ h = aa_H (zz_w (zz_w (zz_w (zz_w (zz_w g 52 i y) 53 i d) 54 i k) 55 i p) 51 1 (Int32.ofNat (i + 1)))) := by
  refine zz_fin.steps (n := 3) (s' := (6, [some (.ref 51), some (.int y), some (.int d), some (.int k), some (.int p)], [.int 12, .int (g 51 1)], aa_H g)) rfl ?_
  rw [hc]
  refine zz_fin.ic rfl (fun c1 => ?_) (fun c1 => ?_)
  · have c1 : (12 : Int32).toInt ≤ (Int32.ofNat i).toInt := aa_le32.mp (of_decide_eq_true c1)
    rw [zz_ofN (by omega), show (12 : Int32).toInt = 12 from rfl] at c1
    omega
  · refine zz_fin.steps (n := 3) (s' := (14, [some (.ref 51), some (.int y), some (.int d), some (.int k), some (.int p)], [.int (g 51 1), .ref 51], aa_H g)) rfl ?_
    rw [hc]
    refine zz_fin.steps (n := 4) (s' := (19, [some (.ref 51), some (.int y), some (.int d), some (.int k), some (.int p)], [.int p, .int k, .int d, .int y, .int (Int32.ofNat i), .ref 51], aa_H g)) rfl ?_
    refine zz_fin.call rfl rfl (Nat.le_of_ble_eq_true rfl) (dt_fill_34_1 hi) ?_
    rintro v h ⟨rfl, rfl⟩
    refine zz_fin.steps (n := 5) (s' := (29, [some (.ref 51), some (.int y), some (.int d), some (.int k), some (.int p)], [.int ((g 51 1) + 1), .ref 51], aa_H (zz_w (zz_w (zz_w (zz_w g 52 i y) 53 i d) 54 i k) 55 i p))) rfl ?_
    rw [hc, aa_succ]
    refine zz_fin.steps (n := 1) (s' := (32, [some (.ref 51), some (.int y), some (.int d), some (.int k), some (.int p)], [], aa_H (zz_w (zz_w (zz_w (zz_w (zz_w g 52 i y) 53 i d) 54 i k) 55 i p) 51 1 (Int32.ofNat (i + 1))))) rfl ?_
    exact zz_fin.at (n := 1) rfl ⟨rfl, rfl⟩
theorem dt_app_34_2 {g : aa_G} {i : Nat} (hi : i < 12) (hc : g 56 1 = Int32.ofNat i) {y d k p : Int32} : zz_fin none 35 (0, zz_in [.ref 56, .int y, .int d, .int k, .int p] (zz_nl 35), [], aa_H g) (fun v h => v = none ∧ h = aa_H (zz_w (zz_w (zz_w (zz_w (zz_w g 57 i y) 58 i d) 59 i k) 60 i p) 56 1 (Int32.ofNat (i + 1)))) := by
  refine zz_fin.steps (n := 3) (s' := (6, [some (.ref 56), some (.int y), some (.int d), some (.int k), some (.int p)], [.int 12, .int (g 56 1)], aa_H g)) rfl ?_
  rw [hc]
  refine zz_fin.ic rfl (fun c1 => ?_) (fun c1 => ?_)
  · have c1 : (12 : Int32).toInt ≤ (Int32.ofNat i).toInt := aa_le32.mp (of_decide_eq_true c1)
    rw [zz_ofN (by omega), show (12 : Int32).toInt = 12 from rfl] at c1
    omega
  · refine zz_fin.steps (n := 3) (s' := (14, [some (.ref 56), some (.int y), some (.int d), some (.int k), some (.int p)], [.int (g 56 1), .ref 56], aa_H g)) rfl ?_
    rw [hc]
    refine zz_fin.steps (n := 4) (s' := (19, [some (.ref 56), some (.int y), some (.int d), some (.int k), some (.int p)], [.int p, .int k, .int d, .int y, .int (Int32.ofNat i), .ref 56], aa_H g)) rfl ?_
    refine zz_fin.call rfl rfl (Nat.le_of_ble_eq_true rfl) (dt_fill_34_2 hi) ?_
    rintro v h ⟨rfl, rfl⟩
    refine zz_fin.steps (n := 5) (s' := (29, [some (.ref 56), some (.int y), some (.int d), some (.int k), some (.int p)], [.int ((g 56 1) + 1), .ref 56], aa_H (zz_w (zz_w (zz_w (zz_w g 57 i y) 58 i d) 59 i k) 60 i p))) rfl ?_
    rw [hc, aa_succ]
    refine zz_fin.steps (n := 1) (s' := (32, [some (.ref 56), some (.int y), some (.int d), some (.int k), some (.int p)], [], aa_H (zz_w (zz_w (zz_w (zz_w (zz_w g 57 i y) 58 i d) 59 i k) 60 i p) 56 1 (Int32.ofNat (i + 1))))) rfl ?_
    exact zz_fin.at (n := 1) rfl ⟨rfl, rfl⟩
theorem dt_app_34_3 {g : aa_G} {i : Nat} (hi : i < 12) (hc : g 61 1 = Int32.ofNat i) {y d k p : Int32} : zz_fin none 35 (0, zz_in [.ref 61, .int y, .int d, .int k, .int p] (zz_nl 35), [], aa_H g) (fun v h => v = none ∧ h = aa_H (zz_w (zz_w (zz_w (zz_w (zz_w g 62 i y) 63 i d) 64 i k) 65 i p) 61 1 (Int32.ofNat (i + 1)))) := by
  refine zz_fin.steps (n := 3) (s' := (6, [some (.ref 61), some (.int y), some (.int d), some (.int k), some (.int p)], [.int 12, .int (g 61 1)], aa_H g)) rfl ?_
  rw [hc]
  refine zz_fin.ic rfl (fun c1 => ?_) (fun c1 => ?_)
  · have c1 : (12 : Int32).toInt ≤ (Int32.ofNat i).toInt := aa_le32.mp (of_decide_eq_true c1)
    rw [zz_ofN (by omega), show (12 : Int32).toInt = 12 from rfl] at c1
    omega
  · refine zz_fin.steps (n := 3) (s' := (14, [some (.ref 61), some (.int y), some (.int d), some (.int k), some (.int p)], [.int (g 61 1), .ref 61], aa_H g)) rfl ?_
    rw [hc]
    refine zz_fin.steps (n := 4) (s' := (19, [some (.ref 61), some (.int y), some (.int d), some (.int k), some (.int p)], [.int p, .int k, .int d, .int y, .int (Int32.ofNat i), .ref 61], aa_H g)) rfl ?_
    refine zz_fin.call rfl rfl (Nat.le_of_ble_eq_true rfl) (dt_fill_34_3 hi) ?_
    rintro v h ⟨rfl, rfl⟩
    refine zz_fin.steps (n := 5) (s' := (29, [some (.ref 61), some (.int y), some (.int d), some (.int k), some (.int p)], [.int ((g 61 1) + 1), .ref 61], aa_H (zz_w (zz_w (zz_w (zz_w g 62 i y) 63 i d) 64 i k) 65 i p))) rfl ?_
    rw [hc, aa_succ]
    refine zz_fin.steps (n := 1) (s' := (32, [some (.ref 61), some (.int y), some (.int d), some (.int k), some (.int p)], [], aa_H (zz_w (zz_w (zz_w (zz_w (zz_w g 62 i y) 63 i d) 64 i k) 65 i p) 61 1 (Int32.ofNat (i + 1))))) rfl ?_
    exact zz_fin.at (n := 1) rfl ⟨rfl, rfl⟩
theorem dt_app_34 {t : Nat} (ht : t < 4) {g : aa_G} {i : Nat} (hi : i < 12) (hc : g (5 * t + 46) 1 = Int32.ofNat i) {y d k p : Int32} : zz_fin none 35 (0, zz_in [.ref (5 * t + 46), .int y, .int d, .int k, .int p] (zz_nl 35), [], aa_H g) (fun v h => v = none ∧ h = aa_H (zz_w (zz_w (zz_w (zz_w (zz_w g (5 * t + 47) i y) (5 * t + 48) i d) (5 * t + 49) i k) (5 * t + 50) i p) (5 * t + 46) 1 (Int32.ofNat (i + 1)))) := by
  rcases dt_four ht with rfl | rfl | rfl | rfl
  · exact dt_app_34_0 hi hc
  · exact dt_app_34_1 hi hc
  · exact dt_app_34_2 hi hc
  · exact dt_app_34_3 hi hc
theorem dt_lat_2_0 {g : aa_G} {i : Nat} (hi : i ≤ 12) (hc : g 14 1 = Int32.ofNat i) : zz_fin none 32 (0, zz_in [.ref 14] (zz_nl 32), [], aa_H g) (fun v h => v = some (.int (if i = 0 then -1 else g 15 (i - 1))) ∧ h = aa_H g) := by
  refine zz_fin.steps (n := 4) (s' := (7, [some (.ref 14)], [.int 12, .int 1, .int (g 14 1)], aa_H g)) rfl ?_
  rw [hc]
  by_cases hz : i = 0
  · refine zz_fin.call rfl rfl (Nat.le_of_ble_eq_true rfl) (zz_within0 (.inl rfl) fun e => ?_) ?_
    · have e : (1 : Int32).toInt ≤ (Int32.ofNat i).toInt := aa_le32.mp e.1
      rw [hz] at e
      exact absurd e (by decide)
    · rintro v h ⟨rfl, rfl⟩
      refine zz_fin.if rfl (fun c => ?_) (fun c => zc_no0 c)
      refine zz_fin.steps (n := 1) (s' := (28, [some (.ref 14)], [.int (-1)], aa_H g)) rfl ?_
      exact zz_fin.at (n := 1) rfl ⟨by rw [if_pos hz], rfl⟩
  · refine zz_fin.call rfl rfl (Nat.le_of_ble_eq_true rfl) (zz_within1 (.inl rfl) ⟨aa_le32.mpr (by rw [zz_ofN (by omega)]; show (1 : Int) ≤ _; omega), aa_le32.mpr (by rw [zz_ofN (by omega)]; show _ ≤ (12 : Int); omega)⟩) ?_
    rintro v h ⟨rfl, rfl⟩
    refine zz_fin.if rfl (fun c => zc_no1 c) (fun c => ?_)
    refine zz_fin.steps (n := 6) (s' := (23, [some (.ref 14)], [.int ((g 14 1) - 1), .ref 15], aa_H g)) rfl ?_
    rw [hc, show Int32.ofNat i - 1 = Int32.ofNat (i - 1) from aa_eqN (by rw [aa_sub32 (by rw [zz_ofN (by omega), show (1 : Int32).toInt = 1 from rfl]; omega) (by rw [zz_ofN (by omega), show (1 : Int32).toInt = 1 from rfl]; omega), zz_ofN (by omega), show (1 : Int32).toInt = 1 from rfl]; omega) (by omega)]
    refine zz_fin.ial (n := 12) rfl rfl (zz_inbN (by omega) (by omega)) ?_
    rw [zz_toN (by omega)]
    refine zz_fin.steps (n := 1) (s' := (28, [some (.ref 14)], [.int (g 15 (i - 1))], aa_H g)) rfl ?_
    exact zz_fin.at (n := 1) rfl ⟨by rw [if_neg hz], rfl⟩
theorem dt_lat_2_1 {g : aa_G} {i : Nat} (hi : i ≤ 12) (hc : g 19 1 = Int32.ofNat i) : zz_fin none 32 (0, zz_in [.ref 19] (zz_nl 32), [], aa_H g) (fun v h => v = some (.int (if i = 0 then -1 else g 20 (i - 1))) ∧ h = aa_H g) := by
  refine zz_fin.steps (n := 4) (s' := (7, [some (.ref 19)], [.int 12, .int 1, .int (g 19 1)], aa_H g)) rfl ?_
  rw [hc]
  by_cases hz : i = 0
  · refine zz_fin.call rfl rfl (Nat.le_of_ble_eq_true rfl) (zz_within0 (.inl rfl) fun e => ?_) ?_
    · have e : (1 : Int32).toInt ≤ (Int32.ofNat i).toInt := aa_le32.mp e.1
      rw [hz] at e
      exact absurd e (by decide)
    · rintro v h ⟨rfl, rfl⟩
      refine zz_fin.if rfl (fun c => ?_) (fun c => zc_no0 c)
      refine zz_fin.steps (n := 1) (s' := (28, [some (.ref 19)], [.int (-1)], aa_H g)) rfl ?_
      exact zz_fin.at (n := 1) rfl ⟨by rw [if_pos hz], rfl⟩
  · refine zz_fin.call rfl rfl (Nat.le_of_ble_eq_true rfl) (zz_within1 (.inl rfl) ⟨aa_le32.mpr (by rw [zz_ofN (by omega)]; show (1 : Int) ≤ _; omega), aa_le32.mpr (by rw [zz_ofN (by omega)]; show _ ≤ (12 : Int); omega)⟩) ?_
    rintro v h ⟨rfl, rfl⟩
    refine zz_fin.if rfl (fun c => zc_no1 c) (fun c => ?_)
    refine zz_fin.steps (n := 6) (s' := (23, [some (.ref 19)], [.int ((g 19 1) - 1), .ref 20], aa_H g)) rfl ?_
    rw [hc, show Int32.ofNat i - 1 = Int32.ofNat (i - 1) from aa_eqN (by rw [aa_sub32 (by rw [zz_ofN (by omega), show (1 : Int32).toInt = 1 from rfl]; omega) (by rw [zz_ofN (by omega), show (1 : Int32).toInt = 1 from rfl]; omega), zz_ofN (by omega), show (1 : Int32).toInt = 1 from rfl]; omega) (by omega)]
    refine zz_fin.ial (n := 12) rfl rfl (zz_inbN (by omega) (by omega)) ?_
    rw [zz_toN (by omega)]
    refine zz_fin.steps (n := 1) (s' := (28, [some (.ref 19)], [.int (g 20 (i - 1))], aa_H g)) rfl ?_
    exact zz_fin.at (n := 1) rfl ⟨by rw [if_neg hz], rfl⟩
theorem dt_lat_2_2 {g : aa_G} {i : Nat} (hi : i ≤ 12) (hc : g 24 1 = Int32.ofNat i) : zz_fin none 32 (0, zz_in [.ref 24] (zz_nl 32), [], aa_H g) (fun v h => v = some (.int (if i = 0 then -1 else g 25 (i - 1))) ∧ h = aa_H g) := by
  refine zz_fin.steps (n := 4) (s' := (7, [some (.ref 24)], [.int 12, .int 1, .int (g 24 1)], aa_H g)) rfl ?_
  rw [hc]
  by_cases hz : i = 0
  · refine zz_fin.call rfl rfl (Nat.le_of_ble_eq_true rfl) (zz_within0 (.inl rfl) fun e => ?_) ?_
    · have e : (1 : Int32).toInt ≤ (Int32.ofNat i).toInt := aa_le32.mp e.1
      rw [hz] at e
      exact absurd e (by decide)
    · rintro v h ⟨rfl, rfl⟩
      refine zz_fin.if rfl (fun c => ?_) (fun c => zc_no0 c)
      refine zz_fin.steps (n := 1) (s' := (28, [some (.ref 24)], [.int (-1)], aa_H g)) rfl ?_
      exact zz_fin.at (n := 1) rfl ⟨by rw [if_pos hz], rfl⟩
  · refine zz_fin.call rfl rfl (Nat.le_of_ble_eq_true rfl) (zz_within1 (.inl rfl) ⟨aa_le32.mpr (by rw [zz_ofN (by omega)]; show (1 : Int) ≤ _; omega), aa_le32.mpr (by rw [zz_ofN (by omega)]; show _ ≤ (12 : Int); omega)⟩) ?_
    rintro v h ⟨rfl, rfl⟩
    refine zz_fin.if rfl (fun c => zc_no1 c) (fun c => ?_)
    refine zz_fin.steps (n := 6) (s' := (23, [some (.ref 24)], [.int ((g 24 1) - 1), .ref 25], aa_H g)) rfl ?_
    rw [hc, show Int32.ofNat i - 1 = Int32.ofNat (i - 1) from aa_eqN (by rw [aa_sub32 (by rw [zz_ofN (by omega), show (1 : Int32).toInt = 1 from rfl]; omega) (by rw [zz_ofN (by omega), show (1 : Int32).toInt = 1 from rfl]; omega), zz_ofN (by omega), show (1 : Int32).toInt = 1 from rfl]; omega) (by omega)]
    refine zz_fin.ial (n := 12) rfl rfl (zz_inbN (by omega) (by omega)) ?_
    rw [zz_toN (by omega)]
    refine zz_fin.steps (n := 1) (s' := (28, [some (.ref 24)], [.int (g 25 (i - 1))], aa_H g)) rfl ?_
    exact zz_fin.at (n := 1) rfl ⟨by rw [if_neg hz], rfl⟩
theorem dt_lat_2_3 {g : aa_G} {i : Nat} (hi : i ≤ 12) (hc : g 29 1 = Int32.ofNat i) : zz_fin none 32 (0, zz_in [.ref 29] (zz_nl 32), [], aa_H g) (fun v h => v = some (.int (if i = 0 then -1 else g 30 (i - 1))) ∧ h = aa_H g) := by
  refine zz_fin.steps (n := 4) (s' := (7, [some (.ref 29)], [.int 12, .int 1, .int (g 29 1)], aa_H g)) rfl ?_
  rw [hc]
  by_cases hz : i = 0
  · refine zz_fin.call rfl rfl (Nat.le_of_ble_eq_true rfl) (zz_within0 (.inl rfl) fun e => ?_) ?_
    · have e : (1 : Int32).toInt ≤ (Int32.ofNat i).toInt := aa_le32.mp e.1
      rw [hz] at e
      exact absurd e (by decide)
    · rintro v h ⟨rfl, rfl⟩
      refine zz_fin.if rfl (fun c => ?_) (fun c => zc_no0 c)
      refine zz_fin.steps (n := 1) (s' := (28, [some (.ref 29)], [.int (-1)], aa_H g)) rfl ?_
      exact zz_fin.at (n := 1) rfl ⟨by rw [if_pos hz], rfl⟩
  · refine zz_fin.call rfl rfl (Nat.le_of_ble_eq_true rfl) (zz_within1 (.inl rfl) ⟨aa_le32.mpr (by rw [zz_ofN (by omega)]; show (1 : Int) ≤ _; omega), aa_le32.mpr (by rw [zz_ofN (by omega)]; show _ ≤ (12 : Int); omega)⟩) ?_
    rintro v h ⟨rfl, rfl⟩
    refine zz_fin.if rfl (fun c => zc_no1 c) (fun c => ?_)
    refine zz_fin.steps (n := 6) (s' := (23, [some (.ref 29)], [.int ((g 29 1) - 1), .ref 30], aa_H g)) rfl ?_
    rw [hc, show Int32.ofNat i - 1 = Int32.ofNat (i - 1) from aa_eqN (by rw [aa_sub32 (by rw [zz_ofN (by omega), show (1 : Int32).toInt = 1 from rfl]; omega) (by rw [zz_ofN (by omega), show (1 : Int32).toInt = 1 from rfl]; omega), zz_ofN (by omega), show (1 : Int32).toInt = 1 from rfl]; omega) (by omega)]
    refine zz_fin.ial (n := 12) rfl rfl (zz_inbN (by omega) (by omega)) ?_
    rw [zz_toN (by omega)]
    refine zz_fin.steps (n := 1) (s' := (28, [some (.ref 29)], [.int (g 30 (i - 1))], aa_H g)) rfl ?_
    exact zz_fin.at (n := 1) rfl ⟨by rw [if_neg hz], rfl⟩
theorem dt_lat_2 {t : Nat} (ht : t < 4) {g : aa_G} {i : Nat} (hi : i ≤ 12) (hc : g (5 * t + 14) 1 = Int32.ofNat i) : zz_fin none 32 (0, zz_in [.ref (5 * t + 14)] (zz_nl 32), [], aa_H g) (fun v h => v = some (.int (if i = 0 then -1 else g (5 * t + 15) (i - 1))) ∧ h = aa_H g) := by
  rcases dt_four ht with rfl | rfl | rfl | rfl
  · exact dt_lat_2_0 hi hc
  · exact dt_lat_2_1 hi hc
  · exact dt_lat_2_2 hi hc
  · exact dt_lat_2_3 hi hc
theorem dt_lat_34_0 {g : aa_G} {i : Nat} (hi : i ≤ 12) (hc : g 46 1 = Int32.ofNat i) : zz_fin none 32 (0, zz_in [.ref 46] (zz_nl 32), [], aa_H g) (fun v h => v = some (.int (if i = 0 then -1 else g 47 (i - 1))) ∧ h = aa_H g) := by
  refine zz_fin.steps (n := 4) (s' := (7, [some (.ref 46)], [.int 12, .int 1, .int (g 46 1)], aa_H g)) rfl ?_
  rw [hc]
  by_cases hz : i = 0
  · refine zz_fin.call rfl rfl (Nat.le_of_ble_eq_true rfl) (zz_within0 (.inl rfl) fun e => ?_) ?_
    · have e : (1 : Int32).toInt ≤ (Int32.ofNat i).toInt := aa_le32.mp e.1
      rw [hz] at e
      exact absurd e (by decide)
    · rintro v h ⟨rfl, rfl⟩
      refine zz_fin.if rfl (fun c => ?_) (fun c => zc_no0 c)
      refine zz_fin.steps (n := 1) (s' := (28, [some (.ref 46)], [.int (-1)], aa_H g)) rfl ?_
      exact zz_fin.at (n := 1) rfl ⟨by rw [if_pos hz], rfl⟩
  · refine zz_fin.call rfl rfl (Nat.le_of_ble_eq_true rfl) (zz_within1 (.inl rfl) ⟨aa_le32.mpr (by rw [zz_ofN (by omega)]; show (1 : Int) ≤ _; omega), aa_le32.mpr (by rw [zz_ofN (by omega)]; show _ ≤ (12 : Int); omega)⟩) ?_
    rintro v h ⟨rfl, rfl⟩
    refine zz_fin.if rfl (fun c => zc_no1 c) (fun c => ?_)
    refine zz_fin.steps (n := 6) (s' := (23, [some (.ref 46)], [.int ((g 46 1) - 1), .ref 47], aa_H g)) rfl ?_
    rw [hc, show Int32.ofNat i - 1 = Int32.ofNat (i - 1) from aa_eqN (by rw [aa_sub32 (by rw [zz_ofN (by omega), show (1 : Int32).toInt = 1 from rfl]; omega) (by rw [zz_ofN (by omega), show (1 : Int32).toInt = 1 from rfl]; omega), zz_ofN (by omega), show (1 : Int32).toInt = 1 from rfl]; omega) (by omega)]
    refine zz_fin.ial (n := 12) rfl rfl (zz_inbN (by omega) (by omega)) ?_
    rw [zz_toN (by omega)]
    refine zz_fin.steps (n := 1) (s' := (28, [some (.ref 46)], [.int (g 47 (i - 1))], aa_H g)) rfl ?_
    exact zz_fin.at (n := 1) rfl ⟨by rw [if_neg hz], rfl⟩
theorem dt_lat_34_1 {g : aa_G} {i : Nat} (hi : i ≤ 12) (hc : g 51 1 = Int32.ofNat i) : zz_fin none 32 (0, zz_in [.ref 51] (zz_nl 32), [], aa_H g) (fun v h => v = some (.int (if i = 0 then -1 else g 52 (i - 1))) ∧ h = aa_H g) := by
  refine zz_fin.steps (n := 4) (s' := (7, [some (.ref 51)], [.int 12, .int 1, .int (g 51 1)], aa_H g)) rfl ?_
  rw [hc]
  by_cases hz : i = 0
  · refine zz_fin.call rfl rfl (Nat.le_of_ble_eq_true rfl) (zz_within0 (.inl rfl) fun e => ?_) ?_
    · have e : (1 : Int32).toInt ≤ (Int32.ofNat i).toInt := aa_le32.mp e.1
      rw [hz] at e
      exact absurd e (by decide)
    · rintro v h ⟨rfl, rfl⟩
      refine zz_fin.if rfl (fun c => ?_) (fun c => zc_no0 c)
      refine zz_fin.steps (n := 1) (s' := (28, [some (.ref 51)], [.int (-1)], aa_H g)) rfl ?_
      exact zz_fin.at (n := 1) rfl ⟨by rw [if_pos hz], rfl⟩
  · refine zz_fin.call rfl rfl (Nat.le_of_ble_eq_true rfl) (zz_within1 (.inl rfl) ⟨aa_le32.mpr (by rw [zz_ofN (by omega)]; show (1 : Int) ≤ _; omega), aa_le32.mpr (by rw [zz_ofN (by omega)]; show _ ≤ (12 : Int); omega)⟩) ?_
    rintro v h ⟨rfl, rfl⟩
    refine zz_fin.if rfl (fun c => zc_no1 c) (fun c => ?_)
    refine zz_fin.steps (n := 6) (s' := (23, [some (.ref 51)], [.int ((g 51 1) - 1), .ref 52], aa_H g)) rfl ?_
    rw [hc, show Int32.ofNat i - 1 = Int32.ofNat (i - 1) from aa_eqN (by rw [aa_sub32 (by rw [zz_ofN (by omega), show (1 : Int32).toInt = 1 from rfl]; omega) (by rw [zz_ofN (by omega), show (1 : Int32).toInt = 1 from rfl]; omega), zz_ofN (by omega), show (1 : Int32).toInt = 1 from rfl]; omega) (by omega)]
    refine zz_fin.ial (n := 12) rfl rfl (zz_inbN (by omega) (by omega)) ?_
    rw [zz_toN (by omega)]
    refine zz_fin.steps (n := 1) (s' := (28, [some (.ref 51)], [.int (g 52 (i - 1))], aa_H g)) rfl ?_
    exact zz_fin.at (n := 1) rfl ⟨by rw [if_neg hz], rfl⟩
theorem dt_lat_34_2 {g : aa_G} {i : Nat} (hi : i ≤ 12) (hc : g 56 1 = Int32.ofNat i) : zz_fin none 32 (0, zz_in [.ref 56] (zz_nl 32), [], aa_H g) (fun v h => v = some (.int (if i = 0 then -1 else g 57 (i - 1))) ∧ h = aa_H g) := by
  refine zz_fin.steps (n := 4) (s' := (7, [some (.ref 56)], [.int 12, .int 1, .int (g 56 1)], aa_H g)) rfl ?_
  rw [hc]
  by_cases hz : i = 0
  · refine zz_fin.call rfl rfl (Nat.le_of_ble_eq_true rfl) (zz_within0 (.inl rfl) fun e => ?_) ?_
    · have e : (1 : Int32).toInt ≤ (Int32.ofNat i).toInt := aa_le32.mp e.1
      rw [hz] at e
      exact absurd e (by decide)
    · rintro v h ⟨rfl, rfl⟩
      refine zz_fin.if rfl (fun c => ?_) (fun c => zc_no0 c)
      refine zz_fin.steps (n := 1) (s' := (28, [some (.ref 56)], [.int (-1)], aa_H g)) rfl ?_
      exact zz_fin.at (n := 1) rfl ⟨by rw [if_pos hz], rfl⟩
  · refine zz_fin.call rfl rfl (Nat.le_of_ble_eq_true rfl) (zz_within1 (.inl rfl) ⟨aa_le32.mpr (by rw [zz_ofN (by omega)]; show (1 : Int) ≤ _; omega), aa_le32.mpr (by rw [zz_ofN (by omega)]; show _ ≤ (12 : Int); omega)⟩) ?_
    rintro v h ⟨rfl, rfl⟩
    refine zz_fin.if rfl (fun c => zc_no1 c) (fun c => ?_)
    refine zz_fin.steps (n := 6) (s' := (23, [some (.ref 56)], [.int ((g 56 1) - 1), .ref 57], aa_H g)) rfl ?_
    rw [hc, show Int32.ofNat i - 1 = Int32.ofNat (i - 1) from aa_eqN (by rw [aa_sub32 (by rw [zz_ofN (by omega), show (1 : Int32).toInt = 1 from rfl]; omega) (by rw [zz_ofN (by omega), show (1 : Int32).toInt = 1 from rfl]; omega), zz_ofN (by omega), show (1 : Int32).toInt = 1 from rfl]; omega) (by omega)]
    refine zz_fin.ial (n := 12) rfl rfl (zz_inbN (by omega) (by omega)) ?_
    rw [zz_toN (by omega)]
    refine zz_fin.steps (n := 1) (s' := (28, [some (.ref 56)], [.int (g 57 (i - 1))], aa_H g)) rfl ?_
    exact zz_fin.at (n := 1) rfl ⟨by rw [if_neg hz], rfl⟩
theorem dt_lat_34_3 {g : aa_G} {i : Nat} (hi : i ≤ 12) (hc : g 61 1 = Int32.ofNat i) : zz_fin none 32 (0, zz_in [.ref 61] (zz_nl 32), [], aa_H g) (fun v h => v = some (.int (if i = 0 then -1 else g 62 (i - 1))) ∧ h = aa_H g) := by
  refine zz_fin.steps (n := 4) (s' := (7, [some (.ref 61)], [.int 12, .int 1, .int (g 61 1)], aa_H g)) rfl ?_
  rw [hc]
  by_cases hz : i = 0
  · refine zz_fin.call rfl rfl (Nat.le_of_ble_eq_true rfl) (zz_within0 (.inl rfl) fun e => ?_) ?_
    · have e : (1 : Int32).toInt ≤ (Int32.ofNat i).toInt := aa_le32.mp e.1
      rw [hz] at e
      exact absurd e (by decide)
    · rintro v h ⟨rfl, rfl⟩
      refine zz_fin.if rfl (fun c => ?_) (fun c => zc_no0 c)
      refine zz_fin.steps (n := 1) (s' := (28, [some (.ref 61)], [.int (-1)], aa_H g)) rfl ?_
      exact zz_fin.at (n := 1) rfl ⟨by rw [if_pos hz], rfl⟩
  · refine zz_fin.call rfl rfl (Nat.le_of_ble_eq_true rfl) (zz_within1 (.inl rfl) ⟨aa_le32.mpr (by rw [zz_ofN (by omega)]; show (1 : Int) ≤ _; omega), aa_le32.mpr (by rw [zz_ofN (by omega)]; show _ ≤ (12 : Int); omega)⟩) ?_
    rintro v h ⟨rfl, rfl⟩
    refine zz_fin.if rfl (fun c => zc_no1 c) (fun c => ?_)
    refine zz_fin.steps (n := 6) (s' := (23, [some (.ref 61)], [.int ((g 61 1) - 1), .ref 62], aa_H g)) rfl ?_
    rw [hc, show Int32.ofNat i - 1 = Int32.ofNat (i - 1) from aa_eqN (by rw [aa_sub32 (by rw [zz_ofN (by omega), show (1 : Int32).toInt = 1 from rfl]; omega) (by rw [zz_ofN (by omega), show (1 : Int32).toInt = 1 from rfl]; omega), zz_ofN (by omega), show (1 : Int32).toInt = 1 from rfl]; omega) (by omega)]
    refine zz_fin.ial (n := 12) rfl rfl (zz_inbN (by omega) (by omega)) ?_
    rw [zz_toN (by omega)]
    refine zz_fin.steps (n := 1) (s' := (28, [some (.ref 61)], [.int (g 62 (i - 1))], aa_H g)) rfl ?_
    exact zz_fin.at (n := 1) rfl ⟨by rw [if_neg hz], rfl⟩
theorem dt_lat_34 {t : Nat} (ht : t < 4) {g : aa_G} {i : Nat} (hi : i ≤ 12) (hc : g (5 * t + 46) 1 = Int32.ofNat i) : zz_fin none 32 (0, zz_in [.ref (5 * t + 46)] (zz_nl 32), [], aa_H g) (fun v h => v = some (.int (if i = 0 then -1 else g (5 * t + 47) (i - 1))) ∧ h = aa_H g) := by
  rcases dt_four ht with rfl | rfl | rfl | rfl
  · exact dt_lat_34_0 hi hc
  · exact dt_lat_34_1 hi hc
  · exact dt_lat_34_2 hi hc
  · exact dt_lat_34_3 hi hc
theorem dt_clr_2_0 {g : aa_G} {z : Int32} : zz_fin none 29 (0, zz_in [.ref 14, .int z] (zz_nl 29), [], aa_H g) (fun v h => v = none ∧ h = aa_H (zz_w (zz_w g 14 0 z) 14 1 0)) := by
  refine zz_fin.steps (n := 6) (s' := (10, [some (.ref 14), some (.int z)], [], aa_H (zz_w (zz_w g 14 0 z) 14 1 0))) rfl ?_
  exact zz_fin.at (n := 1) rfl ⟨rfl, rfl⟩
theorem dt_clr_2_1 {g : aa_G} {z : Int32} : zz_fin none 29 (0, zz_in [.ref 19, .int z] (zz_nl 29), [], aa_H g) (fun v h => v = none ∧ h = aa_H (zz_w (zz_w g 19 0 z) 19 1 0)) := by
  refine zz_fin.steps (n := 6) (s' := (10, [some (.ref 19), some (.int z)], [], aa_H (zz_w (zz_w g 19 0 z) 19 1 0))) rfl ?_
  exact zz_fin.at (n := 1) rfl ⟨rfl, rfl⟩
theorem dt_clr_2_2 {g : aa_G} {z : Int32} : zz_fin none 29 (0, zz_in [.ref 24, .int z] (zz_nl 29), [], aa_H g) (fun v h => v = none ∧ h = aa_H (zz_w (zz_w g 24 0 z) 24 1 0)) := by
  refine zz_fin.steps (n := 6) (s' := (10, [some (.ref 24), some (.int z)], [], aa_H (zz_w (zz_w g 24 0 z) 24 1 0))) rfl ?_
  exact zz_fin.at (n := 1) rfl ⟨rfl, rfl⟩
theorem dt_clr_2_3 {g : aa_G} {z : Int32} : zz_fin none 29 (0, zz_in [.ref 29, .int z] (zz_nl 29), [], aa_H g) (fun v h => v = none ∧ h = aa_H (zz_w (zz_w g 29 0 z) 29 1 0)) := by
  refine zz_fin.steps (n := 6) (s' := (10, [some (.ref 29), some (.int z)], [], aa_H (zz_w (zz_w g 29 0 z) 29 1 0))) rfl ?_
  exact zz_fin.at (n := 1) rfl ⟨rfl, rfl⟩
theorem dt_clr_2 {t : Nat} (ht : t < 4) {g : aa_G} {z : Int32} : zz_fin none 29 (0, zz_in [.ref (5 * t + 14), .int z] (zz_nl 29), [], aa_H g) (fun v h => v = none ∧ h = aa_H (zz_w (zz_w g (5 * t + 14) 0 z) (5 * t + 14) 1 0)) := by
  rcases dt_four ht with rfl | rfl | rfl | rfl
  · exact dt_clr_2_0 
  · exact dt_clr_2_1 
  · exact dt_clr_2_2 
  · exact dt_clr_2_3 
theorem dt_clr_34_0 {g : aa_G} {z : Int32} : zz_fin none 29 (0, zz_in [.ref 46, .int z] (zz_nl 29), [], aa_H g) (fun v h => v = none ∧ h = aa_H (zz_w (zz_w g 46 0 z) 46 1 0)) := by
  refine zz_fin.steps (n := 6) (s' := (10, [some (.ref 46), some (.int z)], [], aa_H (zz_w (zz_w g 46 0 z) 46 1 0))) rfl ?_
  exact zz_fin.at (n := 1) rfl ⟨rfl, rfl⟩
theorem dt_clr_34_1 {g : aa_G} {z : Int32} : zz_fin none 29 (0, zz_in [.ref 51, .int z] (zz_nl 29), [], aa_H g) (fun v h => v = none ∧ h = aa_H (zz_w (zz_w g 51 0 z) 51 1 0)) := by
  refine zz_fin.steps (n := 6) (s' := (10, [some (.ref 51), some (.int z)], [], aa_H (zz_w (zz_w g 51 0 z) 51 1 0))) rfl ?_
  exact zz_fin.at (n := 1) rfl ⟨rfl, rfl⟩
theorem dt_clr_34_2 {g : aa_G} {z : Int32} : zz_fin none 29 (0, zz_in [.ref 56, .int z] (zz_nl 29), [], aa_H g) (fun v h => v = none ∧ h = aa_H (zz_w (zz_w g 56 0 z) 56 1 0)) := by
  refine zz_fin.steps (n := 6) (s' := (10, [some (.ref 56), some (.int z)], [], aa_H (zz_w (zz_w g 56 0 z) 56 1 0))) rfl ?_
  exact zz_fin.at (n := 1) rfl ⟨rfl, rfl⟩
theorem dt_clr_34_3 {g : aa_G} {z : Int32} : zz_fin none 29 (0, zz_in [.ref 61, .int z] (zz_nl 29), [], aa_H g) (fun v h => v = none ∧ h = aa_H (zz_w (zz_w g 61 0 z) 61 1 0)) := by
  refine zz_fin.steps (n := 6) (s' := (10, [some (.ref 61), some (.int z)], [], aa_H (zz_w (zz_w g 61 0 z) 61 1 0))) rfl ?_
  exact zz_fin.at (n := 1) rfl ⟨rfl, rfl⟩
theorem dt_clr_34 {t : Nat} (ht : t < 4) {g : aa_G} {z : Int32} : zz_fin none 29 (0, zz_in [.ref (5 * t + 46), .int z] (zz_nl 29), [], aa_H g) (fun v h => v = none ∧ h = aa_H (zz_w (zz_w g (5 * t + 46) 0 z) (5 * t + 46) 1 0)) := by
  rcases dt_four ht with rfl | rfl | rfl | rfl
  · exact dt_clr_34_0 
  · exact dt_clr_34_1 
  · exact dt_clr_34_2 
  · exact dt_clr_34_3 
