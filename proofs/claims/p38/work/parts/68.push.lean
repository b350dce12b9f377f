/-! BY HAND: the points are pushed along, up by one and down by one -/
theorem at_all {t i : Nat} {h : zz_H} : zz_fin none 175 (0, zz_in [.int (Int32.ofNat t), .int (Int32.ofNat i)] (zz_nl 175), [], h) (fun v h' => v = some (.int (Int32.ofNat (5 + 50 * t + 4 * i))) ∧ h' = h) := by
  refine zz_fin.at (n := 12) rfl ⟨?_, rfl⟩
  have e : Int32.ofNat (3 + 50 * t + 2 + 4 * i) = Int32.ofNat 3 + Int32.ofNat 50 * Int32.ofNat t + Int32.ofNat 2 + Int32.ofNat 4 * Int32.ofNat i := by
    rw [Int32.ofNat_add, Int32.ofNat_add, Int32.ofNat_add, Int32.ofNat_mul, Int32.ofNat_mul]
  rw [show 5 + 50 * t + 4 * i = 3 + 50 * t + 2 + 4 * i by omega, e]
  rfl
def aa_up (g0 g : aa_G) (m E : Nat) : Prop := (∀ q, m ≤ q → q < E → g 541 (q + 4) = g0 541 q) ∧ ∀ k r, ¬ (k = 541 ∧ m + 4 ≤ r ∧ r < E + 4) → g k r = g0 k r
theorem up_loop {t x S E : Nat} (hx : x < 12) (ht : t < 4) (hS : S = 5 + 50 * t + 4 * x) (hE : E ≤ 5 + 50 * t + 44) {w2 w3 w4 l5 : Option Value} {z7 : Int32} (g0 : aa_G) {φ : Option Value → zz_H → Prop} (kk : ∀ g y, aa_up g0 g S E → zz_fin none 257 (168, [some (.ref 540), some (.int (Int32.ofNat t)), w2, w3, w4, l5, some (.int (Int32.ofNat x)), some (.int z7), y], [], aa_H g) φ) (n : Nat) : ∀ j, j + 1 = S + n → j < E → ∀ g, aa_up g0 g (j + 1) E → zz_fin none 257 (135, [some (.ref 540), some (.int (Int32.ofNat t)), w2, w3, w4, l5, some (.int (Int32.ofNat x)), some (.int z7), some (.int (Int32.ofNat j))], [], aa_H g) φ := by
  induction n with
  | zero =>
    intro j hj hjE g hg
    refine zz_fin.steps (n := 3) (s' := (140, [some (.ref 540), some (.int (Int32.ofNat t)), w2, w3, w4, l5, some (.int (Int32.ofNat x)), some (.int z7), some (.int (Int32.ofNat j))], [.int (Int32.ofNat x), .int (Int32.ofNat t), .int (Int32.ofNat j)], aa_H g)) rfl ?_
    refine zz_fin.call rfl rfl (Nat.le_of_ble_eq_true rfl) at_all ?_
    rintro v h ⟨rfl, rfl⟩
    refine zz_fin.ic rfl (fun d => ?_) (fun d => ?_)
    · exact kk g _ (by rwa [show S = j + 1 by omega])
    · refine absurd ((aa_cmp _ _ _).mpr ?_) d
      show (Int32.ofNat j).toInt - (Int32.ofNat (5 + 50 * t + 4 * x)).toInt < 0
      rw [zz_ofN (by omega), zz_ofN (by omega)]
      omega
  | succ n ih =>
    intro j hj hjE g hg
    have ej := zz_ofN (show j < 2147483648 by omega)
    have em : (-1 : Int32).toInt = -1 := rfl
    refine zz_fin.steps (n := 3) (s' := (140, [some (.ref 540), some (.int (Int32.ofNat t)), w2, w3, w4, l5, some (.int (Int32.ofNat x)), some (.int z7), some (.int (Int32.ofNat j))], [.int (Int32.ofNat x), .int (Int32.ofNat t), .int (Int32.ofNat j)], aa_H g)) rfl ?_
    refine zz_fin.call rfl rfl (Nat.le_of_ble_eq_true rfl) at_all ?_
    rintro v h ⟨rfl, rfl⟩
    refine zz_fin.ic rfl (fun d => ?_) (fun d => ?_)
    · have d : (Int32.ofNat j).toInt - (Int32.ofNat (5 + 50 * t + 4 * x)).toInt < 0 := (aa_cmp _ _ _).mp d
      rw [ej, zz_ofN (by omega)] at d
      omega
    · refine zz_fin.steps (n := 8) (s' := (160, [some (.ref 540), some (.int (Int32.ofNat t)), w2, w3, w4, l5, some (.int (Int32.ofNat x)), some (.int z7), some (.int (Int32.ofNat j))], [.int (Int32.ofNat j), .ref 541, .int (Int32.ofNat j + Int32.ofNat 4), .ref 541], aa_H g)) rfl ?_
      rw [show Int32.ofNat j + Int32.ofNat 4 = Int32.ofNat (j + 4) from (Int32.ofNat_add j 4).symm]
      refine zz_fin.ial (n := 6384) rfl rfl (zz_inbN (by omega) (by omega)) ?_
      refine zz_fin.ias (n := 6384) rfl rfl (zz_inbN (by omega) (by omega)) ?_
      rw [zz_toN (by omega), zz_toN (by omega)]
      refine zz_fin.steps (n := 2) (s' := (135, [some (.ref 540), some (.int (Int32.ofNat t)), w2, w3, w4, l5, some (.int (Int32.ofNat x)), some (.int z7), some (.int (Int32.ofNat j + (-1)))], [], aa_H (zz_w g 541 (j + 4) (g 541 j)))) rfl ?_
      obtain ⟨i, rfl⟩ : ∃ i, j = i + 1 := ⟨j - 1, by omega⟩
      rw [show Int32.ofNat (i + 1) + (-1) = Int32.ofNat i from aa_eqN (by rw [aa_add32 (by omega) (by omega), ej, em]; omega) (by omega)]
      refine ih i (by omega) (by omega) _ ⟨fun q hq hqE => ?_, fun k r hr => ?_⟩
      · by_cases e : q = i + 1
        · subst e
          rw [aa_w_at]
          exact hg.2 541 _ (by omega)
        · rw [aa_w_ne _ _ (by omega)]
          exact hg.1 q (by omega) hqE
      · rw [aa_w_ne _ _ (by omega)]
        exact hg.2 k r (by omega)
def aa_dn (g0 g : aa_G) (S m : Nat) : Prop := (∀ q, S ≤ q → q < m → g 541 q = g0 541 (q + 4)) ∧ ∀ k r, ¬ (k = 541 ∧ S ≤ r ∧ r < m) → g k r = g0 k r
theorem dn_loop {t c S E : Nat} (hc : c ≤ 11) (ht : t < 4) (hS : 5 + 50 * t ≤ S) (hE : E = 5 + 50 * t + 4 * c) {w2 : Option Value} {z4 : Int32} (g0 : aa_G) (h0 : g0 541 (4 + 50 * t) = Int32.ofNat c) {φ : Option Value → zz_H → Prop} (kk : ∀ g y, aa_dn g0 g S E → zz_fin none 259 (112, [some (.ref 540), some (.int (Int32.ofNat t)), w2, some (.int (Int32.ofNat (4 + 50 * t))), some (.int z4), y], [], aa_H g) φ) (n : Nat) : ∀ j, j + n = E → S ≤ j → ∀ g, aa_dn g0 g S j → zz_fin none 259 (75, [some (.ref 540), some (.int (Int32.ofNat t)), w2, some (.int (Int32.ofNat (4 + 50 * t))), some (.int z4), some (.int (Int32.ofNat j))], [], aa_H g) φ := by
  induction n with
  | zero =>
    intro j hj hjS g hg
    have hcnt : (aa_H g).2.2 541 (4 + 50 * t) = Int32.ofNat c := (hg.2 541 _ (by omega)).trans h0
    refine zz_fin.steps (n := 5) (s' := (83, [some (.ref 540), some (.int (Int32.ofNat t)), w2, some (.int (Int32.ofNat (4 + 50 * t))), some (.int z4), some (.int (Int32.ofNat j))], [.int (Int32.ofNat (4 + 50 * t)), .ref 541, .int (Int32.ofNat t), .int (Int32.ofNat j)], aa_H g)) rfl ?_
    refine zz_fin.ial (n := 6384) rfl rfl (zz_inbN (by omega) (by omega)) ?_
    rw [zz_toN (by omega), hcnt]
    refine zz_fin.call rfl rfl (Nat.le_of_ble_eq_true rfl) at_all ?_
    rintro v h ⟨rfl, rfl⟩
    refine zz_fin.ic rfl (fun d => ?_) (fun d => ?_)
    · exact kk g _ (by rwa [show E = j by omega])
    · refine absurd ((aa_cmp _ _ _).mpr ?_) d
      show (0 : Int) ≤ (Int32.ofNat j).toInt - (Int32.ofNat (5 + 50 * t + 4 * c)).toInt
      rw [zz_ofN (by omega), zz_ofN (by omega)]
      omega
  | succ n ih =>
    intro j hj hjS g hg
    have ej := zz_ofN (show j < 2147483648 by omega)
    have hcnt : (aa_H g).2.2 541 (4 + 50 * t) = Int32.ofNat c := (hg.2 541 _ (by omega)).trans h0
    refine zz_fin.steps (n := 5) (s' := (83, [some (.ref 540), some (.int (Int32.ofNat t)), w2, some (.int (Int32.ofNat (4 + 50 * t))), some (.int z4), some (.int (Int32.ofNat j))], [.int (Int32.ofNat (4 + 50 * t)), .ref 541, .int (Int32.ofNat t), .int (Int32.ofNat j)], aa_H g)) rfl ?_
    refine zz_fin.ial (n := 6384) rfl rfl (zz_inbN (by omega) (by omega)) ?_
    rw [zz_toN (by omega), hcnt]
    refine zz_fin.call rfl rfl (Nat.le_of_ble_eq_true rfl) at_all ?_
    rintro v h ⟨rfl, rfl⟩
    refine zz_fin.ic rfl (fun d => ?_) (fun d => ?_)
    · have d : (0 : Int) ≤ (Int32.ofNat j).toInt - (Int32.ofNat (5 + 50 * t + 4 * c)).toInt := (aa_cmp _ _ _).mp d
      rw [ej, zz_ofN (by omega)] at d
      omega
    · refine zz_fin.steps (n := 8) (s' := (104, [some (.ref 540), some (.int (Int32.ofNat t)), w2, some (.int (Int32.ofNat (4 + 50 * t))), some (.int z4), some (.int (Int32.ofNat j))], [.int (Int32.ofNat j + Int32.ofNat 4), .ref 541, .int (Int32.ofNat j), .ref 541], aa_H g)) rfl ?_
      rw [show Int32.ofNat j + Int32.ofNat 4 = Int32.ofNat (j + 4) from (Int32.ofNat_add j 4).symm]
      refine zz_fin.ial (n := 6384) rfl rfl (zz_inbN (by omega) (by omega)) ?_
      refine zz_fin.ias (n := 6384) rfl rfl (zz_inbN (by omega) (by omega)) ?_
      rw [zz_toN (by omega), zz_toN (by omega)]
      refine zz_fin.steps (n := 2) (s' := (75, [some (.ref 540), some (.int (Int32.ofNat t)), w2, some (.int (Int32.ofNat (4 + 50 * t))), some (.int z4), some (.int (Int32.ofNat j + 1))], [], aa_H (zz_w g 541 j (g 541 (j + 4))))) rfl ?_
      rw [show Int32.ofNat j + 1 = Int32.ofNat (j + 1) from (Int32.ofNat_add j 1).symm]
      refine ih (j + 1) (by omega) (by omega) _ ⟨fun q hq hqE => ?_, fun k r hr => ?_⟩
      · by_cases e : q = j
        · subst e
          rw [aa_w_at]
          exact hg.2 541 _ (by omega)
        · rw [aa_w_ne _ _ (by omega)]
          exact hg.1 q hq (by omega)
      · rw [aa_w_ne _ _ (by omega)]
        exact hg.2 k r (by omega)
