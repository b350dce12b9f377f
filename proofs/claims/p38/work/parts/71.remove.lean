/-! BY HAND: remove -/
theorem aa_cnt {g : aa_G} (h5 : aa_inv g) {t : Nat} (ht : t < 4) : ∃ c : Nat, c ≤ 12 ∧ (g 541 (4 + 50 * t)).toInt = (c : Int) ∧ g 541 (4 + 50 * t) = Int32.ofNat c := by
  have k : (aa_iv 36 (4 + 50 * t)).1 ≤ (g 541 (4 + 50 * t)).toInt ∧ (g 541 (4 + 50 * t)).toInt ≤ (aa_iv 36 (4 + 50 * t)).2 := h5 541 (4 + 50 * t)
  have e : aa_iv 36 (4 + 50 * t) = (0, 12) := by
    rcases (show t = 0 ∨ t = 1 ∨ t = 2 ∨ t = 3 by omega) with rfl | rfl | rfl | rfl <;> rfl
  rw [e] at k
  have k1 : (0 : Int) ≤ (g 541 (4 + 50 * t)).toInt := k.1
  have k2 : (g 541 (4 + 50 * t)).toInt ≤ 12 := k.2
  exact ⟨(g 541 (4 + 50 * t)).toInt.toNat, by omega, by omega, aa_eqN (by omega) (by omega)⟩
theorem aa_dw_same {g g1 : aa_G} (h : aa_fr aa_dw g g1) {j : Nat} (hj : j < 399) : g1 541 j = g 541 j := by
  rcases h.1 541 j with e | ⟨w, hw, e, e1, e2⟩
  · exact e
  · rcases List.mem_cons.mp hw with rfl | hw
    · exact absurd e (by decide)
    · rcases List.mem_cons.mp hw with rfl | hw
      · have e1 : (1197 : Int) ≤ (j : Int) := e1
        omega
      · cases hw
abbrev aa_rw : aa_W := [(35, 1, 1), (36, 1197, 5984), (36, 0, 398)]
theorem aa_dw_rw {g g1 : aa_G} (k3 : aa_fr aa_dw g g1) : aa_fr aa_rw g g1 := ⟨fun a b => (k3.1 a b).imp id fun ⟨w, hw, z⟩ => ⟨w, List.mem_append_left [(36, 0, 398)] hw, z⟩, k3.2.imp id fun ⟨w, hw, z⟩ => ⟨w, List.mem_append_left [(36, 0, 398)] hw, z⟩⟩
/-- what set and remove end with -/
def aa_rpost (g0 : aa_G) (v : Option Value) (h : zz_H) : Prop := ∃ g', h = aa_H g' ∧ aa_inv g' ∧ aa_Phi g' ∧ aa_fr aa_rw g0 g' ∧ ∃ z : Int32, v = some (.int z) ∧ -1 ≤ z.toInt ∧ z.toInt ≤ 12
theorem remove_tail {g : aa_G} (h5 : aa_inv g) (h6 : aa_Phi g) {t x c : Nat} (ht : t < 4) (hx : x < c) (hc : c ≤ 12) (h0 : g 541 (4 + 50 * t) = Int32.ofNat c) {w2 : Int32} {y : Option Value} : zz_fin none 259 (53, [some (.ref 540), some (.int (Int32.ofNat t)), some (.int w2), some (.int (Int32.ofNat (4 + 50 * t))), some (.int (Int32.ofNat x)), y], [], aa_H g) (aa_rpost g) := by
  have e1 : (1 : Int32).toInt = 1 := rfl
  refine zz_fin.steps (n := 1) (s' := (54, [some (.ref 540), some (.int (Int32.ofNat t)), some (.int w2), some (.int (Int32.ofNat (4 + 50 * t))), some (.int (Int32.ofNat x)), y], [.ref 540], aa_H g)) rfl ?_
  refine zz_fin.call rfl rfl (Nat.le_of_ble_eq_true rfl) (deed156 h5 h6) ?_
  rintro v h ⟨rfl, g1, rfl, k1, k2, k3⟩
  have h1 : (aa_H g1).2.2 541 (4 + 50 * t) = Int32.ofNat c := (aa_dw_same k3 (by omega)).trans h0
  refine zz_fin.steps (n := 4) (s' := (63, [some (.ref 540), some (.int (Int32.ofNat t)), some (.int w2), some (.int (Int32.ofNat (4 + 50 * t))), some (.int (Int32.ofNat x)), y], [.int (Int32.ofNat (4 + 50 * t)), .ref 541, .int (Int32.ofNat (4 + 50 * t)), .ref 541], aa_H g1)) rfl ?_
  refine zz_fin.ial (n := 6384) rfl rfl (zz_inbN (by omega) (by omega)) ?_
  rw [zz_toN (by omega), h1]
  refine zz_fin.steps (n := 2) (s' := (66, [some (.ref 540), some (.int (Int32.ofNat t)), some (.int w2), some (.int (Int32.ofNat (4 + 50 * t))), some (.int (Int32.ofNat x)), y], [.int (Int32.ofNat c - 1), .int (Int32.ofNat (4 + 50 * t)), .ref 541], aa_H g1)) rfl ?_
  obtain ⟨d, rfl⟩ : ∃ d, c = d + 1 := ⟨c - 1, by omega⟩
  have ec : Int32.ofNat (d + 1) - 1 = Int32.ofNat d := aa_eqN (by rw [aa_sub32 (by rw [zz_ofN (by omega), e1]; omega) (by rw [zz_ofN (by omega), e1]; omega), zz_ofN (by omega), e1]; omega) (by omega)
  rw [ec]
  refine zz_fin.ias (n := 6384) rfl rfl (zz_inbN (by omega) (by omega)) ?_
  rw [zz_toN (by omega)]
  refine zz_fin.steps (n := 2) (s' := (70, [some (.ref 540), some (.int (Int32.ofNat t)), some (.int w2), some (.int (Int32.ofNat (4 + 50 * t))), some (.int (Int32.ofNat x)), y], [.int (Int32.ofNat x), .int (Int32.ofNat t)], aa_H (zz_w g1 541 (4 + 50 * t) (Int32.ofNat d)))) rfl ?_
  refine zz_fin.call rfl rfl (Nat.le_of_ble_eq_true rfl) at_all ?_
  rintro v h ⟨rfl, rfl⟩
  refine zz_fin.steps (n := 1) (s' := (75, [some (.ref 540), some (.int (Int32.ofNat t)), some (.int w2), some (.int (Int32.ofNat (4 + 50 * t))), some (.int (Int32.ofNat x)), some (.int (Int32.ofNat (5 + 50 * t + 4 * x)))], [], aa_H (zz_w g1 541 (4 + 50 * t) (Int32.ofNat d)))) rfl ?_
  have ei : aa_iv 36 (4 + 50 * t) = (0, 12) := by
    rcases (show t = 0 ∨ t = 1 ∨ t = 2 ∨ t = 3 by omega) with rfl | rfl | rfl | rfl <;> rfl
  have q1 : aa_inv (zz_w g1 541 (4 + 50 * t) (Int32.ofNat d)) := by
    refine aa_inv_w k1 ?_ ?_
    · show (aa_iv 36 (4 + 50 * t)).1 ≤ _
      rw [ei, zz_ofN (by omega)]
      show (0 : Int) ≤ (d : Int)
      omega
    · show _ ≤ (aa_iv 36 (4 + 50 * t)).2
      rw [ei, zz_ofN (by omega)]
      show (d : Int) ≤ 12
      omega
  refine dn_loop (c := d) (S := 5 + 50 * t + 4 * x) (E := 5 + 50 * t + 4 * d) (by omega) ht (by omega) rfl (zz_w g1 541 (4 + 50 * t) (Int32.ofNat d)) (aa_w_at _ _ _ _) (fun g3 z hd => ?_) (4 * d - 4 * x) _ (by omega) (Nat.le_refl _) _ ⟨fun q hq hq2 => absurd hq2 (by omega), fun _ _ _ => rfl⟩
  have q2 : aa_inv g3 := aa_dn_inv hd q1 ht (by omega) (by omega)
  have hcn : g3 541 (4 + 50 * t) = Int32.ofNat d := by rw [hd.2 541 _ (by omega), aa_w_at]
  have hold : ∀ j, 4 + 50 * t < j → j < 5 + 50 * t + 4 * x → g3 541 j = g1 541 j := fun j j1 j2 => by rw [hd.2 541 _ (by omega), aa_w_ne _ _ (by omega)]
  have hnew : ∀ j, 5 + 50 * t + 4 * x ≤ j → j < 5 + 50 * t + 4 * d → g3 541 j = g1 541 (j + 4) := fun j j1 j2 => by rw [hd.1 j j1 j2, aa_w_ne _ _ (by omega)]
  have tb : aa_tb g1 g3 t := fun k j hj => by rw [hd.2 k j (by omega), aa_w_ne _ _ (by omega)]
  have hc1 : (g1 541 (4 + 50 * t)).toInt = (d : Int) + 1 := by
    have h1 : g1 541 (4 + 50 * t) = Int32.ofNat (d + 1) := h1
    rw [h1, zz_ofN (by omega)]
    omega
  have gd1 : ∀ i : Nat, i < d + 1 → aa_gd g1 (5 + 50 * t + 4 * i) := fun i hi => by
    have := (k2.1 0 (by omega)).1 t i ht (by omega) (by rw [show 399 * 0 + 50 * t + 4 = 4 + 50 * t by omega]; omega)
    rwa [show 399 * 0 + 50 * t + 4 * i + 5 = 5 + 50 * t + 4 * i by omega] at this
  have q3 : aa_Phi g3 := by
    refine aa_Phi_tb ht k2 tb fun i hi hic => ?_
    rw [hcn, zz_ofN (by omega)] at hic
    by_cases e : i < x
    · have := gd1 i (by omega)
      unfold aa_gd at this ⊢
      rwa [hold _ (by omega) (by omega), hold _ (by omega) (by omega), hold _ (by omega) (by omega)]
    · have := gd1 (i + 1) (by omega)
      unfold aa_gd at this ⊢
      rw [hnew _ (by omega) (by omega), hnew _ (by omega) (by omega), hnew _ (by omega) (by omega)]
      rwa [show 5 + 50 * t + 4 * i + 3 + 4 = 5 + 50 * t + 4 * (i + 1) + 3 by omega, show 5 + 50 * t + 4 * i + 1 + 4 = 5 + 50 * t + 4 * (i + 1) + 1 by omega, show 5 + 50 * t + 4 * i + 2 + 4 = 5 + 50 * t + 4 * (i + 1) + 2 by omega]
  have hcn' : (aa_H g3).2.2 541 (4 + 50 * t) = Int32.ofNat d := hcn
  refine zz_fin.steps (n := 3) (s' := (117, [some (.ref 540), some (.int (Int32.ofNat t)), some (.int w2), some (.int (Int32.ofNat (4 + 50 * t))), some (.int (Int32.ofNat x)), z], [.int (Int32.ofNat (4 + 50 * t)), .ref 541], aa_H g3)) rfl ?_
  refine zz_fin.ial (n := 6384) rfl rfl (zz_inbN (by omega) (by omega)) ?_
  rw [zz_toN (by omega), hcn']
  refine zz_fin.at (n := 1) rfl ⟨g3, rfl, q2, q3, (aa_dw_rw k3).tr (aa_tb_fr ht tb (by decide)), _, rfl, ?_, ?_⟩
  · rw [zz_ofN (by omega)]
    omega
  · rw [zz_ofN (by omega)]
    omega
