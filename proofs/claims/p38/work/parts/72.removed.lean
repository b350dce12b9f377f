/-! BY HAND: remove, its contract -/
theorem remove_all {g : aa_G} (h5 : aa_inv g) (h6 : aa_Phi g) {w1 w2 : Int32} : zz_fin none 259 (0, zz_in [.ref 540, .int w1, .int w2] (zz_nl 259), [], aa_H g) (aa_rpost g) := by
  have no : aa_rpost g (some (.int (-1))) (aa_H g) := ⟨g, rfl, h5, h6, aa_fr.rf, -1, rfl, by decide, by decide⟩
  refine zz_fin.steps (n := 2) (s' := (2, [some (.ref 540), some (.int w1), some (.int w2), none, none, none], [.int w1, .ref 540], aa_H g)) rfl ?_
  refine zz_fin.call rfl rfl (Nat.le_of_ble_eq_true rfl) (town_all h5) ?_
  rintro v h ⟨hv, rfl⟩
  rcases hv with rfl | ⟨rfl, t, ht, rfl⟩
  · exact zz_fin.at (n := 3) rfl no
  · obtain ⟨c, hc, -, h0⟩ := aa_cnt h5 ht
    have h0' : (aa_H g).2.2 541 (4 + 50 * t) = Int32.ofNat c := h0
    refine zz_fin.steps (n := 2) (s' := (11, [some (.ref 540), some (.int (Int32.ofNat t)), some (.int w2), none, none, none], [.int (Int32.ofNat t)], aa_H g)) rfl ?_
    refine zz_fin.call rfl rfl (Nat.le_of_ble_eq_true rfl) tab_all ?_
    rintro v h ⟨rfl, rfl⟩
    refine zz_fin.steps (n := 3) (s' := (17, [some (.ref 540), some (.int (Int32.ofNat t)), some (.int w2), some (.int (Int32.ofNat (3 + 50 * t) + Int32.ofNat 1)), none, none], [], aa_H g)) rfl ?_
    rw [show Int32.ofNat (3 + 50 * t) + Int32.ofNat 1 = Int32.ofNat (4 + 50 * t) by rw [← Int32.ofNat_add, show 3 + 50 * t + 1 = 4 + 50 * t by omega]]
    refine zz_fin.steps (n := 3) (s' := (20, [some (.ref 540), some (.int (Int32.ofNat t)), some (.int w2), some (.int (Int32.ofNat (4 + 50 * t))), none, none], [.int w2, .int (Int32.ofNat t), .ref 540], aa_H g)) rfl ?_
    refine zz_fin.call rfl rfl (Nat.le_of_ble_eq_true rfl) (point_all ht hc h0) ?_
    rintro v h ⟨⟨x, hx, rfl⟩, rfl⟩
    refine zz_fin.steps (n := 5) (s' := (32, [some (.ref 540), some (.int (Int32.ofNat t)), some (.int w2), some (.int (Int32.ofNat (4 + 50 * t))), some (.int (Int32.ofNat x)), none], [.int (Int32.ofNat (4 + 50 * t)), .ref 541, .int (Int32.ofNat x)], aa_H g)) rfl ?_
    refine zz_fin.ial (n := 6384) rfl rfl (zz_inbN (by omega) (by omega)) ?_
    rw [zz_toN (by omega), h0']
    refine zz_fin.ic rfl (fun d => ?_) (fun d => ?_)
    · exact zz_fin.at (n := 2) rfl no
    · have d : ¬ (Int32.ofNat x).toInt - (Int32.ofNat c).toInt = 0 := fun z => d ((aa_cmp _ _ _).mpr z)
      rw [zz_ofN (by omega), zz_ofN (by omega)] at d
      refine zz_fin.steps (n := 4) (s' := (43, [some (.ref 540), some (.int (Int32.ofNat t)), some (.int w2), some (.int (Int32.ofNat (4 + 50 * t))), some (.int (Int32.ofNat x)), none], [.int (Int32.ofNat x), .int (Int32.ofNat t), .ref 541], aa_H g)) rfl ?_
      refine zz_fin.call rfl rfl (Nat.le_of_ble_eq_true rfl) at_all ?_
      rintro v h ⟨rfl, rfl⟩
      refine zz_fin.ial (n := 6384) rfl rfl (zz_inbN (by omega) (by omega)) ?_
      refine zz_fin.steps (n := 1) (s' := (48, [some (.ref 540), some (.int (Int32.ofNat t)), some (.int w2), some (.int (Int32.ofNat (4 + 50 * t))), some (.int (Int32.ofNat x)), none], [.int w2, .int (g 541 (Int32.ofNat (5 + 50 * t + 4 * x)).toNatClampNeg)], aa_H g)) rfl ?_
      refine zz_fin.ic rfl (fun e => ?_) (fun e => ?_)
      · exact remove_tail h5 h6 ht (by omega) hc h0
      · exact zz_fin.at (n := 2) rfl no
theorem aa_h13 : aa_met aa_Phi aa_m13 := by
  intro ν0 g as h1 h2 h3 h4 h5 h6
  obtain ⟨as, rfl, h7⟩ := aa_this h4
  clear h4
  obtain ⟨w1, as, rfl, e1, h8⟩ := aa_ms_int h7
  clear h7
  obtain ⟨w2, as, rfl, e2, h7⟩ := aa_ms_int h8
  clear h8
  have hlen : ν0.length = 2 := h1.1
  match ν0, hlen, h1, as, h7 with
  | [a, b], _, h1, [], _ =>
    refine (remove_all h5 h6).mono ?_
    rintro v h ⟨g', rfl, k1, k2, k3, z, rfl, z1, z2⟩
    refine ⟨g', rfl, k1, k2, k3, _, List.mem_cons_self, [z.toInt], aa_vb_new h1 (lo := -1) (hi := 12) (gr := 0) z1 z2 (fun y => absurd rfl y), fun f hf => (by cases hf), fun q hq => (by cases hq), Nat.one_ne_zero, z, rfl, ?_⟩
    show some ((0 : Int) + (1 * z.toInt + 0)) = some _
    congr 1
    omega
