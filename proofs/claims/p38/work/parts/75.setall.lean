/-! BY HAND: set, up to the deed -/
theorem set_find {g : aa_G} (h5 : aa_inv g) (h6 : aa_Phi g) {t : Nat} (ht : t < 4) {w2 w3 w4 : Int32} (a0 : 0 ≤ w2.toInt) (a1 : w2.toInt ≤ 359) (b0 : 0 ≤ w3.toInt) (b1 : w3.toInt < w4.toInt) (b2 : w4.toInt ≤ 86399) : zz_fin none 257 (42, [some (.ref 540), some (.int (Int32.ofNat t)), some (.int w2), some (.int w3), some (.int w4), none, none, none, none], [], aa_H g) (aa_rpost g) := by
  have no : aa_rpost g (some (.int (-1))) (aa_H g) := ⟨g, rfl, h5, h6, aa_fr.rf, -1, rfl, by decide, by decide⟩
  obtain ⟨c, hc, -, h0⟩ := aa_cnt h5 ht
  have h0' : (aa_H g).2.2 541 (4 + 50 * t) = Int32.ofNat c := h0
  refine zz_fin.steps (n := 1) (s' := (43, [some (.ref 540), some (.int (Int32.ofNat t)), some (.int w2), some (.int w3), some (.int w4), none, none, none, none], [.int (Int32.ofNat t)], aa_H g)) rfl ?_
  refine zz_fin.call rfl rfl (Nat.le_of_ble_eq_true rfl) tab_all ?_
  rintro v h ⟨rfl, rfl⟩
  refine zz_fin.steps (n := 3) (s' := (50, [some (.ref 540), some (.int (Int32.ofNat t)), some (.int w2), some (.int w3), some (.int w4), some (.int (Int32.ofNat (3 + 50 * t) + Int32.ofNat 1)), none, none, none], [], aa_H g)) rfl ?_
  rw [show Int32.ofNat (3 + 50 * t) + Int32.ofNat 1 = Int32.ofNat (4 + 50 * t) by rw [← Int32.ofNat_add, show 3 + 50 * t + 1 = 4 + 50 * t by omega]]
  refine zz_fin.steps (n := 3) (s' := (53, [some (.ref 540), some (.int (Int32.ofNat t)), some (.int w2), some (.int w3), some (.int w4), some (.int (Int32.ofNat (4 + 50 * t))), none, none, none], [.int w2, .int (Int32.ofNat t), .ref 540], aa_H g)) rfl ?_
  refine zz_fin.call rfl rfl (Nat.le_of_ble_eq_true rfl) (point_all ht hc h0) ?_
  rintro v h ⟨⟨x, hx, rfl⟩, rfl⟩
  refine zz_fin.steps (n := 5) (s' := (66, [some (.ref 540), some (.int (Int32.ofNat t)), some (.int w2), some (.int w3), some (.int w4), some (.int (Int32.ofNat (4 + 50 * t))), some (.int (Int32.ofNat x)), none, none], [.int (Int32.ofNat (4 + 50 * t)), .ref 541, .int (Int32.ofNat x)], aa_H g)) rfl ?_
  refine zz_fin.ial (n := 6384) rfl rfl (zz_inbN (by omega) (by omega)) ?_
  rw [zz_toN (by omega), h0']
  have neu : zz_fin none 257 (89, [some (.ref 540), some (.int (Int32.ofNat t)), some (.int w2), some (.int w3), some (.int w4), some (.int (Int32.ofNat (4 + 50 * t))), some (.int (Int32.ofNat x)), none, none], [], aa_H g) (aa_rpost g) := by
    refine zz_fin.steps (n := 7) (s' := (103, [some (.ref 540), some (.int (Int32.ofNat t)), some (.int w2), some (.int w3), some (.int w4), some (.int (Int32.ofNat (4 + 50 * t))), some (.int (Int32.ofNat x)), some (.int 0), none], [.int (Int32.ofNat (4 + 50 * t)), .ref 541], aa_H g)) rfl ?_
    refine zz_fin.ial (n := 6384) rfl rfl (zz_inbN (by omega) (by omega)) ?_
    rw [zz_toN (by omega), h0']
    refine zz_fin.steps (n := 1) (s' := (106, [some (.ref 540), some (.int (Int32.ofNat t)), some (.int w2), some (.int w3), some (.int w4), some (.int (Int32.ofNat (4 + 50 * t))), some (.int (Int32.ofNat x)), some (.int 0), none], [.int 12, .int (Int32.ofNat c)], aa_H g)) rfl ?_
    refine zz_fin.ic rfl (fun d => ?_) (fun d => ?_)
    · have d : (Int32.ofNat c).toInt - (12 : Int32).toInt ≠ 0 := (aa_cmp _ _ _).mp d
      have e12 : (12 : Int32).toInt = 12 := rfl
      rw [zz_ofN (by omega), e12] at d
      exact set_mid h5 h6 ht hc h0 a0 a1 b0 b1 b2 (.inr ⟨rfl, hx, by omega⟩)
    · exact zz_fin.at (n := 2) rfl no
  refine zz_fin.ic rfl (fun d => neu) (fun d => ?_)
  have d : ¬ (0 : Int) ≤ (Int32.ofNat x).toInt - (Int32.ofNat c).toInt := fun z => d ((aa_cmp _ _ _).mpr z)
  rw [zz_ofN (by omega), zz_ofN (by omega)] at d
  refine zz_fin.steps (n := 4) (s' := (77, [some (.ref 540), some (.int (Int32.ofNat t)), some (.int w2), some (.int w3), some (.int w4), some (.int (Int32.ofNat (4 + 50 * t))), some (.int (Int32.ofNat x)), none, none], [.int (Int32.ofNat x), .int (Int32.ofNat t), .ref 541], aa_H g)) rfl ?_
  refine zz_fin.call rfl rfl (Nat.le_of_ble_eq_true rfl) at_all ?_
  rintro v h ⟨rfl, rfl⟩
  refine zz_fin.ial (n := 6384) rfl rfl (zz_inbN (by omega) (by omega)) ?_
  refine zz_fin.steps (n := 1) (s' := (82, [some (.ref 540), some (.int (Int32.ofNat t)), some (.int w2), some (.int w3), some (.int w4), some (.int (Int32.ofNat (4 + 50 * t))), some (.int (Int32.ofNat x)), none, none], [.int w2, .int (g 541 (Int32.ofNat (5 + 50 * t + 4 * x)).toNatClampNeg)], aa_H g)) rfl ?_
  refine zz_fin.ic rfl (fun e => neu) (fun e => ?_)
  refine zz_fin.steps (n := 5) (s' := (111, [some (.ref 540), some (.int (Int32.ofNat t)), some (.int w2), some (.int w3), some (.int w4), some (.int (Int32.ofNat (4 + 50 * t))), some (.int (Int32.ofNat x)), some (.int 1), none], [], aa_H g)) rfl ?_
  exact set_mid h5 h6 ht hc h0 a0 a1 b0 b1 b2 (.inl ⟨by decide, by omega⟩)
