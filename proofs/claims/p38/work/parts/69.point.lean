/-! BY HAND: the point that is looked up -/
theorem tab_all {t : Nat} {h : zz_H} : zz_fin none 164 (0, zz_in [.int (Int32.ofNat t)] (zz_nl 164), [], h) (fun v h' => v = some (.int (Int32.ofNat (3 + 50 * t))) ∧ h' = h) := by
  refine zz_fin.at (n := 6) rfl ⟨?_, rfl⟩
  have e : Int32.ofNat (3 + 50 * t) = Int32.ofNat 3 + Int32.ofNat 50 * Int32.ofNat t := by
    rw [Int32.ofNat_add, Int32.ofNat_mul]
  rw [e]
  rfl
theorem point_loop {t c : Nat} (ht : t < 4) (hc : c ≤ 12) {w2 : Int32} {g : aa_G} (h0 : g 541 (4 + 50 * t) = Int32.ofNat c) (n : Nat) : ∀ i, i + n = c → zz_fin none 258 (2, [some (.ref 540), some (.int (Int32.ofNat t)), some (.int w2), some (.int (Int32.ofNat i))], [], aa_H g) (fun v h' => (∃ x : Nat, x ≤ c ∧ v = some (.int (Int32.ofNat x))) ∧ h' = aa_H g) := by
  have hcnt : (aa_H g).2.2 541 (3 + 50 * t + 1) = Int32.ofNat c := by
    rw [show 3 + 50 * t + 1 = 4 + 50 * t by omega]
    exact h0
  have top : ∀ i, i ≤ c → (i < c → zz_fin none 258 (17, [some (.ref 540), some (.int (Int32.ofNat t)), some (.int w2), some (.int (Int32.ofNat i))], [], aa_H g) (fun v h' => (∃ x : Nat, x ≤ c ∧ v = some (.int (Int32.ofNat x))) ∧ h' = aa_H g)) → zz_fin none 258 (2, [some (.ref 540), some (.int (Int32.ofNat t)), some (.int w2), some (.int (Int32.ofNat i))], [], aa_H g) (fun v h' => (∃ x : Nat, x ≤ c ∧ v = some (.int (Int32.ofNat x))) ∧ h' = aa_H g) := fun i hi kk => by
    refine zz_fin.steps (n := 4) (s' := (8, [some (.ref 540), some (.int (Int32.ofNat t)), some (.int w2), some (.int (Int32.ofNat i))], [.int (Int32.ofNat t), .ref 541, .int (Int32.ofNat i)], aa_H g)) rfl ?_
    refine zz_fin.call rfl rfl (Nat.le_of_ble_eq_true rfl) tab_all ?_
    rintro v h ⟨rfl, rfl⟩
    refine zz_fin.steps (n := 2) (s' := (13, [some (.ref 540), some (.int (Int32.ofNat t)), some (.int w2), some (.int (Int32.ofNat i))], [.int (Int32.ofNat (3 + 50 * t) + Int32.ofNat 1), .ref 541, .int (Int32.ofNat i)], aa_H g)) rfl ?_
    rw [show Int32.ofNat (3 + 50 * t) + Int32.ofNat 1 = Int32.ofNat (3 + 50 * t + 1) from (Int32.ofNat_add _ 1).symm]
    refine zz_fin.ial (n := 6384) rfl rfl (zz_inbN (by omega) (by omega)) ?_
    rw [zz_toN (by omega), hcnt]
    refine zz_fin.ic rfl (fun d => ?_) (fun d => ?_)
    · exact zz_fin.at (n := 2) rfl ⟨⟨i, hi, rfl⟩, rfl⟩
    · have d : ¬ (0 : Int) ≤ (Int32.ofNat i).toInt - (Int32.ofNat c).toInt := fun z => d ((aa_cmp _ _ _).mpr z)
      rw [zz_ofN (by omega), zz_ofN (by omega)] at d
      exact kk (by omega)
  induction n with
  | zero => exact fun i hi => top i (by omega) fun z => absurd z (by omega)
  | succ n ih =>
    intro i hi
    refine top i (by omega) fun hic => ?_
    refine zz_fin.steps (n := 4) (s' := (23, [some (.ref 540), some (.int (Int32.ofNat t)), some (.int w2), some (.int (Int32.ofNat i))], [.int (Int32.ofNat i), .int (Int32.ofNat t), .ref 541], aa_H g)) rfl ?_
    refine zz_fin.call rfl rfl (Nat.le_of_ble_eq_true rfl) at_all ?_
    rintro v h ⟨rfl, rfl⟩
    refine zz_fin.ial (n := 6384) rfl rfl (zz_inbN (by omega) (by omega)) ?_
    refine zz_fin.steps (n := 1) (s' := (28, [some (.ref 540), some (.int (Int32.ofNat t)), some (.int w2), some (.int (Int32.ofNat i))], [.int w2, .int (g 541 (Int32.ofNat (5 + 50 * t + 4 * i)).toNatClampNeg)], aa_H g)) rfl ?_
    refine zz_fin.ic rfl (fun d => ?_) (fun d => ?_)
    · exact zz_fin.at (n := 2) rfl ⟨⟨i, by omega, rfl⟩, rfl⟩
    · refine zz_fin.steps (n := 2) (s' := (2, [some (.ref 540), some (.int (Int32.ofNat t)), some (.int w2), some (.int (Int32.ofNat i + 1))], [], aa_H g)) rfl ?_
      rw [show Int32.ofNat i + 1 = Int32.ofNat (i + 1) from (Int32.ofNat_add i 1).symm]
      exact ih (i + 1) (by omega)
theorem point_all {t c : Nat} (ht : t < 4) (hc : c ≤ 12) {w2 : Int32} {g : aa_G} (h0 : g 541 (4 + 50 * t) = Int32.ofNat c) : zz_fin none 258 (0, zz_in [.ref 540, .int (Int32.ofNat t), .int w2] (zz_nl 258), [], aa_H g) (fun v h' => (∃ x : Nat, x ≤ c ∧ v = some (.int (Int32.ofNat x))) ∧ h' = aa_H g) := by
  refine zz_fin.steps (n := 2) (s' := (2, [some (.ref 540), some (.int (Int32.ofNat t)), some (.int w2), some (.int (Int32.ofNat 0))], [], aa_H g)) rfl ?_
  exact point_loop ht hc h0 c 0 (by omega)
