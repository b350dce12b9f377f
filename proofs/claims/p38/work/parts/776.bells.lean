/-! BY HAND: bells, from where all is read on -/
/-- so much of what was read stands in row 0 -/
def aa_bt (g0 g : aa_G) (p q : Nat) : Prop := g 541 2 = g0 540 10 ∧ (∀ i, i < p → g 541 (203 + i) = g0 544 i) ∧ (∀ i, i < q → g 541 (259 + i) = g0 545 i) ∧ ∀ k j, ¬ (k = 541 ∧ (j = 2 ∨ (203 ≤ j ∧ j < 203 + p) ∨ (259 ≤ j ∧ j < 259 + q))) → g k j = g0 k j
theorem bt_codes {g0 : aa_G} {v1 : Int32} {C N : Nat} (hC : C ≤ 140) (hN : N ≤ 8) (eC : g0 540 11 = Int32.ofNat C) (n : Nat) : ∀ (k : Nat), n + k = C → ∀ (g : aa_G), aa_bt g0 g (7 * N) k → zz_fin none 178 (106, [some (.ref 540), some (.int v1), some (.int (Int32.ofNat k))], [], aa_H g) (fun v h => v = some (.int (g0 540 10)) ∧ ∃ g', h = aa_H g' ∧ aa_bt g0 g' (7 * N) C) := by
  induction n with
  | zero =>
    intro k hk g hg
    have e11 : g 540 11 = Int32.ofNat C := by rw [hg.2.2.2 540 11 (by omega)]; exact eC
    have e10 : g 540 10 = g0 540 10 := hg.2.2.2 540 10 (by omega)
    refine zz_fin.steps (n := 3) (s' := (111, [some (.ref 540), some (.int v1), some (.int (Int32.ofNat k))], [.int (g 540 11), .int (Int32.ofNat k)], aa_H g)) rfl ?_
    rw [e11]
    refine zz_fin.ic rfl (fun c => ?_) (fun c => ?_)
    · refine zz_fin.steps (n := 2) (s' := (140, [some (.ref 540), some (.int v1), some (.int (Int32.ofNat k))], [.int (g 540 10)], aa_H g)) rfl ?_
      have hk : k = C := by omega
      subst hk
      exact zz_fin.at (n := 1) rfl ⟨by rw [e10], g, rfl, hg⟩
    · refine absurd ((aa_cmp .ge (Int32.ofNat k) (Int32.ofNat C)).mpr ?_) c
      show (0 : Int) ≤ (Int32.ofNat k).toInt - (Int32.ofNat C).toInt
      rw [zz_ofN (by omega), zz_ofN (by omega)]
      omega
  | succ n ih =>
    intro k hk g hg
    have e11 : g 540 11 = Int32.ofNat C := by rw [hg.2.2.2 540 11 (by omega)]; exact eC
    refine zz_fin.steps (n := 3) (s' := (111, [some (.ref 540), some (.int v1), some (.int (Int32.ofNat k))], [.int (g 540 11), .int (Int32.ofNat k)], aa_H g)) rfl ?_
    rw [e11]
    refine zz_fin.ic rfl (fun c => ?_) (fun c => ?_)
    · have c : (0 : Int) ≤ (Int32.ofNat k).toInt - (Int32.ofNat C).toInt := (aa_cmp _ _ _).mp c
      rw [zz_ofN (by omega), zz_ofN (by omega)] at c
      omega
    · refine zz_fin.steps (n := 8) (s' := (128, [some (.ref 540), some (.int v1), some (.int (Int32.ofNat k))], [.int (Int32.ofNat k), .ref 545, .int (Int32.ofNat 259 + Int32.ofNat k), .ref 541], aa_H g)) rfl ?_
      rw [show Int32.ofNat 259 + Int32.ofNat k = Int32.ofNat (259 + k) from (Int32.ofNat_add 259 k).symm]
      refine zz_fin.ial (n := 140) rfl rfl (zz_inbN (by omega) (by omega)) ?_
      refine zz_fin.ias (n := 6384) rfl rfl (zz_inbN (by omega) (by omega)) ?_
      rw [zz_toN (by omega), zz_toN (by omega)]
      refine zz_fin.steps (n := 2) (s' := (106, [some (.ref 540), some (.int v1), some (.int (Int32.ofNat k + 1))], [], aa_H (zz_w g 541 (259 + k) (g 545 k)))) rfl ?_
      rw [show Int32.ofNat k + 1 = Int32.ofNat (k + 1) from (Int32.ofNat_add k 1).symm]
      obtain ⟨b1, b2, b3, b4⟩ := hg
      refine ih (k + 1) (by omega) _ ⟨?_, fun i hi => ?_, fun i hi => ?_, fun a b hab => ?_⟩
      · rw [aa_w_ne _ _ (by omega)]
        exact b1
      · rw [aa_w_ne _ _ (by omega)]
        exact b2 i hi
      · by_cases hik : i = k
        · subst hik
          rw [aa_w_at]
          exact b4 545 _ (by omega)
        · rw [aa_w_ne _ _ (by omega)]
          exact b3 i (by omega)
      · rw [aa_w_ne _ _ (by omega)]
        exact b4 a b (by omega)
theorem bt_bells {g0 : aa_G} {v1 : Int32} {C N : Nat} (hC : C ≤ 140) (hN : N ≤ 8) (eC : g0 540 11 = Int32.ofNat C) (eN : g0 540 10 = Int32.ofNat N) (n : Nat) : ∀ (k : Nat), n + k = 7 * N → ∀ (g : aa_G), aa_bt g0 g k 0 → zz_fin none 178 (71, [some (.ref 540), some (.int v1), some (.int (Int32.ofNat k))], [], aa_H g) (fun v h => v = some (.int (g0 540 10)) ∧ ∃ g', h = aa_H g' ∧ aa_bt g0 g' (7 * N) C) := by
  have e7 : (7 : Int32) * Int32.ofNat N = Int32.ofNat (7 * N) := (Int32.ofNat_mul 7 N).symm
  induction n with
  | zero =>
    intro k hk g hg
    have e10 : g 540 10 = Int32.ofNat N := by rw [hg.2.2.2 540 10 (by omega)]; exact eN
    refine zz_fin.steps (n := 5) (s' := (79, [some (.ref 540), some (.int v1), some (.int (Int32.ofNat k))], [.int (7 * g 540 10), .int (Int32.ofNat k)], aa_H g)) rfl ?_
    rw [e10, e7]
    refine zz_fin.ic rfl (fun c => ?_) (fun c => ?_)
    · refine zz_fin.steps (n := 2) (s' := (106, [some (.ref 540), some (.int v1), some (.int (Int32.ofNat 0))], [], aa_H g)) rfl ?_
      have hk : k = 7 * N := by omega
      subst hk
      exact bt_codes hC hN eC C 0 (by omega) g hg
    · refine absurd ((aa_cmp .ge (Int32.ofNat k) (Int32.ofNat (7 * N))).mpr ?_) c
      show (0 : Int) ≤ (Int32.ofNat k).toInt - (Int32.ofNat (7 * N)).toInt
      rw [zz_ofN (by omega), zz_ofN (by omega)]
      omega
  | succ n ih =>
    intro k hk g hg
    have e10 : g 540 10 = Int32.ofNat N := by rw [hg.2.2.2 540 10 (by omega)]; exact eN
    refine zz_fin.steps (n := 5) (s' := (79, [some (.ref 540), some (.int v1), some (.int (Int32.ofNat k))], [.int (7 * g 540 10), .int (Int32.ofNat k)], aa_H g)) rfl ?_
    rw [e10, e7]
    refine zz_fin.ic rfl (fun c => ?_) (fun c => ?_)
    · have c : (0 : Int) ≤ (Int32.ofNat k).toInt - (Int32.ofNat (7 * N)).toInt := (aa_cmp _ _ _).mp c
      rw [zz_ofN (by omega), zz_ofN (by omega)] at c
      omega
    · refine zz_fin.steps (n := 8) (s' := (96, [some (.ref 540), some (.int v1), some (.int (Int32.ofNat k))], [.int (Int32.ofNat k), .ref 544, .int (Int32.ofNat 203 + Int32.ofNat k), .ref 541], aa_H g)) rfl ?_
      rw [show Int32.ofNat 203 + Int32.ofNat k = Int32.ofNat (203 + k) from (Int32.ofNat_add 203 k).symm]
      refine zz_fin.ial (n := 56) rfl rfl (zz_inbN (by omega) (by omega)) ?_
      refine zz_fin.ias (n := 6384) rfl rfl (zz_inbN (by omega) (by omega)) ?_
      rw [zz_toN (by omega), zz_toN (by omega)]
      refine zz_fin.steps (n := 2) (s' := (71, [some (.ref 540), some (.int v1), some (.int (Int32.ofNat k + 1))], [], aa_H (zz_w g 541 (203 + k) (g 544 k)))) rfl ?_
      rw [show Int32.ofNat k + 1 = Int32.ofNat (k + 1) from (Int32.ofNat_add k 1).symm]
      obtain ⟨b1, b2, b3, b4⟩ := hg
      refine ih (k + 1) (by omega) _ ⟨?_, fun i hi => ?_, fun i hi => absurd hi (Nat.not_lt_zero i), fun a b hab => ?_⟩
      · rw [aa_w_ne _ _ (by omega)]
        exact b1
      · by_cases hik : i = k
        · subst hik
          rw [aa_w_at]
          exact b4 544 _ (by omega)
        · rw [aa_w_ne _ _ (by omega)]
          exact b2 i (by omega)
      · rw [aa_w_ne _ _ (by omega)]
        exact b4 a b (by omega)
theorem bt_nb {g : aa_G} (h : aa_Phi g) {N : Nat} (hN : N ≤ 8) (eN : g 540 10 = Int32.ofNat N) {b : Nat} (hb : b < N) : aa_nb g b := h.2.2 b (by omega) (by rw [eN, zz_ofN (by omega)]; omega)
theorem bt_inv {g0 g : aa_G} {C N : Nat} (hi : aa_inv g0) (h : aa_Phi g0) (hC : C ≤ 140) (hN : N ≤ 8) (eC : g0 540 11 = Int32.ofNat C) (eN : g0 540 10 = Int32.ofNat N) (hg : aa_bt g0 g (7 * N) C) : aa_inv g := fun k j => by
  obtain ⟨b1, b2, b3, b4⟩ := hg
  by_cases e : k = 541 ∧ (j = 2 ∨ (203 ≤ j ∧ j < 203 + 7 * N) ∨ (259 ≤ j ∧ j < 259 + C))
  · obtain ⟨rfl, rfl | ⟨e1, e2⟩ | ⟨e1, e2⟩⟩ := e
    · rw [b1, eN]
      show (0 : Int) ≤ (Int32.ofNat N).toInt ∧ (Int32.ofNat N).toInt ≤ 8
      rw [zz_ofN (by omega)]
      omega
    · obtain ⟨i, rfl⟩ : ∃ i, j = 203 + i := ⟨j - 203, by omega⟩
      rw [b2 i (by omega)]
      show (aa_iv 36 (203 + i)).1 ≤ _ ∧ _ ≤ (aa_iv 36 (203 + i)).2
      rw [aa_iv36, show (203 + i) / 399 = 0 by omega, show (203 + i) % 399 = 203 + i by omega]
      unfold aa_place
      rw [if_neg fun z => by have := Nat.le_of_ble_eq_true z; omega, if_pos (Nat.ble_eq_true_of_le (by omega)), show 203 + i - 203 = i by omega]
      obtain ⟨k0, k1, k2, k3, k4, k5, k6, k7, -⟩ := bt_nb h hN eN (b := i / 7) (by omega)
      rw [eC, zz_ofN (by omega)] at k7
      have hb : ∃ b, i / 7 = b := ⟨_, rfl⟩
      obtain ⟨b, hb⟩ := hb
      rw [hb] at k0 k1 k2 k3 k4 k5 k6 k7
      have hm : i % 7 = 0 ∨ i % 7 = 1 ∨ i % 7 = 2 ∨ i % 7 = 3 ∨ i % 7 = 4 ∨ i % 7 = 5 ∨ i % 7 = 6 := by omega
      rcases hm with hm | hm | hm | hm | hm | hm | hm
      · rw [hm, show i = 7 * b by omega]; exact k0
      · rw [hm, show i = 7 * b + 1 by omega]; exact k1
      · rw [hm, show i = 7 * b + 2 by omega]; exact k2
      · rw [hm, show i = 7 * b + 3 by omega]; exact k3
      · rw [hm, show i = 7 * b + 4 by omega]; exact k4
      · rw [hm, show i = 7 * b + 5 by omega]
        show (0 : Int) ≤ (g0 544 (7 * b + 5)).toInt ∧ (g0 544 (7 * b + 5)).toInt ≤ 140
        omega
      · rw [hm, show i = 7 * b + 6 by omega]
        show (0 : Int) ≤ (g0 544 (7 * b + 6)).toInt ∧ (g0 544 (7 * b + 6)).toInt ≤ 140
        omega
    · obtain ⟨i, rfl⟩ : ∃ i, j = 259 + i := ⟨j - 259, by omega⟩
      rw [b3 i (by omega)]
      show (aa_iv 36 (259 + i)).1 ≤ _ ∧ _ ≤ (aa_iv 36 (259 + i)).2
      rw [aa_iv36, show (259 + i) / 399 = 0 by omega, show (259 + i) % 399 = 259 + i by omega]
      unfold aa_place
      rw [if_pos (Nat.ble_eq_true_of_le (by omega))]
      have q := hi 545 i
      rw [show aa_iv (aa_gc 545) i = (0, 200255) from aa_flat_ok rfl i 0] at q
      exact q
  · rw [b4 k j e]
    exact hi k j
theorem bt_Phi {g0 g : aa_G} {C N : Nat} (h : aa_Phi g0) (hC : C ≤ 140) (hN : N ≤ 8) (eC : g0 540 11 = Int32.ofNat C) (eN : g0 540 10 = Int32.ofNat N) (hg : aa_bt g0 g (7 * N) C) : aa_Phi g := by
  obtain ⟨b1, b2, b3, b4⟩ := hg
  have hnb := fun {b : Nat} (hb : b < N) => bt_nb h hN eN hb
  obtain ⟨k1, ⟨k2, k3⟩, k4⟩ := h
  have oth : ∀ k, k ≠ 541 → g k = g0 k := fun k hk => by
    funext j
    exact b4 k j fun e => hk e.1
  have out : ∀ j, ¬ (j = 2 ∨ (203 ≤ j ∧ j < 399)) → g 541 j = g0 541 j := fun j hj => b4 541 j fun e => by omega
  refine ⟨fun r hr => ⟨?_, ?_⟩, ⟨fun k hk hq => ?_, fun k hk hq => ?_⟩, fun b hb hq => ?_⟩
  · exact aa_pt_of (fun q q1 q2 _ _ _ => out _ (by omega)) (k1 r hr).1
  · by_cases e : r = 0
    · subst e
      intro b hb hc
      rw [show 399 * 0 + 2 = 2 from rfl, b1, eN, zz_ofN (by omega)] at hc
      obtain ⟨-, -, -, -, -, q5, q6, q7, q8⟩ := hnb (b := b) (by omega)
      rw [eC, zz_ofN (by omega)] at q7
      unfold aa_seg
      rw [show 399 * 0 + 203 + 7 * b + 5 = 203 + (7 * b + 5) by omega, show 399 * 0 + 203 + 7 * b + 6 = 203 + (7 * b + 6) by omega, b2 _ (by omega), b2 _ (by omega), aa_run_congr (c := g0 545)]
      · exact q8
      · intro i hi
        show g 541 (399 * 0 + 259 + ((g0 544 (7 * b + 5)).toInt.toNat + i)) = _
        rw [show 399 * 0 + 259 + ((g0 544 (7 * b + 5)).toInt.toNat + i) = 259 + ((g0 544 (7 * b + 5)).toInt.toNat + i) by omega]
        exact b3 _ (by omega)
    · exact aa_rp_of (out _ (by omega)) (fun q _ => out _ (by omega)) (k1 r hr).2
  · rw [oth 542 (by decide)] at hq
    rw [out _ (by omega)]
    exact k2 k hk hq
  · rw [oth 540 (by decide)] at hq
    rw [out _ (by omega)]
    exact k3 k hk hq
  · rw [oth 540 (by decide)] at hq
    exact aa_nb_of (fun q _ => by rw [oth 544 (by decide)]) (by rw [oth 540 (by decide)]; exact Int.le_refl _) (fun i _ => by rw [oth 545 (by decide)]) (k4 b hb hq)
theorem bt_fr {g0 g : aa_G} {C N : Nat} (hC : C ≤ 140) (hN : N ≤ 8) (hg : aa_bt g0 g (7 * N) C) {ws : aa_W} (hw : (36, 0, 398) ∈ ws) : aa_fr ws g0 g := by
  obtain ⟨b1, b2, b3, b4⟩ := hg
  refine ⟨fun k j => ?_, .inl (aa_dep_eq (b4 540 10 (by omega)) (b4 540 11 (by omega)) ?_ ?_)⟩
  · by_cases e : k = 541 ∧ (j = 2 ∨ (203 ≤ j ∧ j < 203 + 7 * N) ∨ (259 ≤ j ∧ j < 259 + C))
    · obtain ⟨rfl, e⟩ := e
      exact .inr ⟨_, hw, rfl, by show (0 : Int) ≤ (j : Int); omega, by show (j : Int) ≤ 398; omega⟩
    · exact .inl (b4 k j e)
  · funext j
    exact b4 544 j (by omega)
  · funext j
    exact b4 545 j (by omega)
/-- what is written from there on -/
def bt_ws : aa_W := [(35, 1, 1), (36, 1197, 5984), (36, 0, 398)]
theorem bells_tail {g : aa_G} (h5 : aa_inv g) (h6 : aa_Phi g) (v1 : Int32) (v2 : Option Value) : zz_fin none 178 (55, [some (.ref 540), some (.int v1), v2], [], aa_H g) (fun v h => ∃ g' z, h = aa_H g' ∧ v = some (.int z) ∧ 0 ≤ z.toInt ∧ z.toInt ≤ 8 ∧ aa_inv g' ∧ aa_Phi g' ∧ aa_fr bt_ws g g') := by
  refine zz_fin.steps (n := 1) (s' := (56, [some (.ref 540), some (.int v1), v2], [.ref 540], aa_H g)) rfl ?_
  refine zz_fin.call rfl rfl (Nat.le_of_ble_eq_true rfl) (deed156 h5 h6) ?_
  rintro v h ⟨rfl, g1, rfl, k1, k2, k3⟩
  have n0 : (0 : Int) ≤ (g1 540 10).toInt := (k1 540 10).1
  have n1 : (g1 540 10).toInt ≤ 8 := (k1 540 10).2
  have c0 : (0 : Int) ≤ (g1 540 11).toInt := (k1 540 11).1
  have c1 : (g1 540 11).toInt ≤ 140 := (k1 540 11).2
  have eN : g1 540 10 = Int32.ofNat (g1 540 10).toInt.toNat := aa_eqN (by omega) (by omega)
  have eC : g1 540 11 = Int32.ofNat (g1 540 11).toInt.toNat := aa_eqN (by omega) (by omega)
  have hN : (g1 540 10).toInt.toNat ≤ 8 := by omega
  have hC : (g1 540 11).toInt.toNat ≤ 140 := by omega
  refine zz_fin.steps (n := 5) (s' := (68, [some (.ref 540), some (.int v1), v2], [.int (g1 540 10), .int (Int32.ofNat 2), .ref 541], aa_H g1)) rfl ?_
  refine zz_fin.ias (n := 6384) rfl rfl (zz_inbN (by omega) (by omega)) ?_
  rw [zz_toN (by omega)]
  refine zz_fin.steps (n := 2) (s' := (71, [some (.ref 540), some (.int v1), some (.int (Int32.ofNat 0))], [], aa_H (zz_w g1 541 2 (g1 540 10)))) rfl ?_
  refine (bt_bells (g0 := g1) hC hN eC eN (7 * (g1 540 10).toInt.toNat) 0 rfl _ ⟨aa_w_at _ _ _ _, fun i hi => absurd hi (Nat.not_lt_zero i), fun i hi => absurd hi (Nat.not_lt_zero i), fun k j hkj => aa_w_ne _ _ fun e => hkj ⟨e.1, .inl e.2⟩⟩).mono ?_
  rintro v h ⟨rfl, g', rfl, hg⟩
  refine ⟨g', _, rfl, rfl, n0, n1, bt_inv k1 k2 hC hN eC eN hg, bt_Phi k2 hC hN eC eN hg, ?_⟩
  refine aa_fr.tr (g1 := g1) ⟨fun a b => (k3.1 a b).imp id fun ⟨w, hw, z⟩ => ⟨w, List.mem_append_left [(36, 0, 398)] hw, z⟩, k3.2.imp id fun ⟨w, hw, z⟩ => ⟨w, List.mem_append_left [(36, 0, 398)] hw, z⟩⟩ (bt_fr hC hN hg (List.mem_cons_of_mem _ (List.mem_cons_of_mem _ List.mem_cons_self)))
