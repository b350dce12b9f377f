/-! keep, told apart -/
def aa_x7 : aa_K := ((143, 1, [(13, 0, 39), (5, 0, 7), (6, 0, 7), (7, 0, 7), (8, 0, 7), (9, 0, 7), (10, 0, 7), (11, 0, 39), (12, 0, 39), (15, 0, 11), (16, 0, 11), (17, 0, 11), (18, 0, 11), (22, 0, 1), (4, 0, 0), (4, 1, 1), (2, 0, 0), (2, 1, 1), (14, 0, 0), (14, 1, 1)]), (((([(-2147483648, 2147483647, 0)], []), ([], [(3, (1, [])), (1, (0, [(0, 1)]))])), [(0, 1)]), ([((([(-2147483648, 2147483647, 0)], [(-1, [(0, -1)])]), ([], [(1, (0, []))])), []), ((([(-2147483648, 2147483647, 0)], [(-2, [(0, 1)])]), ([], [(1, (0, []))])), []), ((([(-2147483648, 2147483647, 0)], [(0, [(0, 1)]), (1, [(0, -1)])]), ([], [(1, (1, []))])), [])], [])))
def aa_x8 : aa_K := ((153, 1, [(37, 0, 1), (36, 399, 1196)]), (((([(-2147483648, 2147483647, 0)], []), ([], [(3, (540, [])), (1, (0, [(0, 1)]))])), [(0, 1)]), ([((([(-2147483648, 2147483647, 0)], [(-1, [(0, -1)])]), ([], [(1, (0, []))])), []), ((([(-2147483648, 2147483647, 0)], [(-2, [(0, 1)])]), ([], [(1, (0, []))])), []), ((([(-2147483648, 2147483647, 0)], [(0, [(0, 1)]), (1, [(0, -1)])]), ([], [(1, (1, []))])), [])], [])))
set_option maxRecDepth 100000 in
theorem aa_xe7 : aa_chk (aa_x0 :: aa_p3) aa_free (fun _ _ _ _ => false) (fun _ => false) 400 aa_x7 = true := by decide +kernel
theorem aa_x7_ok {Φ : aa_G → Prop} (hG : aa_good Φ aa_free (fun _ _ _ _ => false)) : aa_met Φ aa_x7 := aa_chk_ok hG (aa_mcons (aa_met_p3 hG) (aa_chk_ok hG aa_no1 (fun _ _ q => by cases q) aa_xe0)) (fun _ _ q => by cases q) aa_xe7
theorem aa_x8_ok : aa_met aa_Phi aa_x8 := by
  intro ν0 g as h1 h2 h3 h4 h5 h6
  obtain ⟨as, rfl, h7⟩ := aa_this h4
  clear h4
  obtain ⟨w1, as, rfl, e1, h8⟩ := aa_ms_int h7
  clear h7
  have hlen : ν0.length = 1 := h1.1
  match ν0, hlen, h1, as, h8, e1 with
  | [a], _, h1, [], _, e1 =>
    have e1 : (0 : Int) + (1 * a + 0) = w1.toInt := Option.some.inj e1
    refine zz_fin.steps (n := 3) (s' := (3, [some (.ref 540), some (.int w1)], [.int 1, .int 0, .int w1], aa_H g)) rfl ?_
    by_cases c : (0 : Int32) ≤ w1 ∧ w1 ≤ 1
    · refine zz_fin.call rfl rfl (Nat.le_of_ble_eq_true rfl) (zz_within1 (.inr rfl) c) ?_
      rintro v h ⟨rfl, rfl⟩
      obtain ⟨k, hk, rfl⟩ := aa_slot c
      refine zz_fin.steps (n := 6) (s' := (16, [some (.ref 540), some (.int (Int32.ofNat k))], [.int (1 + Int32.ofNat k), .int (Int32.ofNat 0), .ref 540], aa_H g)) rfl ?_
      rw [show (1 : Int32) + Int32.ofNat k = Int32.ofNat (1 + k) from (Int32.ofNat_add 1 k).symm]
      have hp : (1 : Int) ≤ (g 541 1).toInt := (h5 541 1).1
      refine zz_fin.call rfl rfl (Nat.le_of_ble_eq_true rfl) (aa_copy (f := 0) (t := 1 + k) (by omega) (by omega) (by omega) h5 h6 hp) ?_
      rintro v h ⟨rfl, g1, rfl, hc, k1, k2⟩
      refine zz_fin.steps (n := 4) (s' := (25, [some (.ref 540), some (.int (Int32.ofNat k))], [.int 1, .int (Int32.ofNat k), .ref 542], aa_H g1)) rfl ?_
      refine zz_fin.bas1 (n := 2) rfl rfl (zz_inbN hk (by omega)) ?_
      rw [zz_toN (by omega)]
      have hp1 : 1 ≤ (g1 541 (399 * (1 + k) + 1)).toInt := by
        rw [hc.1 1 (by omega)]
        exact hp
      have b1 : aa_iv 37 k = (0, 1) := aa_flat_ok rfl k 0
      have b2 : (vp_nar .boolean 1).toInt = 1 := by decide
      refine zz_fin.at (n := 2) rfl ⟨_, rfl, aa_inv_w k1 (v := vp_nar .boolean 1) ?_ ?_, aa_Phi_kept k2 hp1, ?_, _, List.mem_cons_of_mem _ (List.mem_cons_of_mem _ List.mem_cons_self), [], h1, ?_, fun q hq => (by cases hq), Nat.one_ne_zero, _, rfl, rfl⟩
      · show (aa_iv 37 k).1 ≤ _
        rw [b1, b2]
        decide
      · show _ ≤ (aa_iv 37 k).2
        rw [b1, b2]
        decide
      · exact (aa_cp_fr hc (List.mem_cons_of_mem _ List.mem_cons_self) (by omega) (by omega)).tr (aa_fr_kept hk List.mem_cons_self)
      · have ek := zz_ofN (show k < 2147483648 by omega)
        intro f hf
        rcases List.mem_cons.mp hf with rfl | hf
        · exact ⟨_, rfl, by show 0 ≤ (0 : Int) + (1 * a + 0); omega⟩
        · rcases List.mem_cons.mp hf with rfl | hf
          · exact ⟨_, rfl, by show 0 ≤ (1 : Int) + (-1 * a + 0); omega⟩
          · cases hf
    · refine zz_fin.call rfl rfl (Nat.le_of_ble_eq_true rfl) (zz_within0 (.inr rfl) c) ?_
      rintro v h ⟨rfl, rfl⟩
      by_cases d : a < 0
      · refine zz_fin.at (n := 3) rfl ⟨g, rfl, h5, h6, aa_fr.rf, _, List.mem_cons_self, [], h1, fun f hf => ?_, fun q hq => (by cases hq), Nat.one_ne_zero, _, rfl, rfl⟩
        rcases List.mem_cons.mp hf with rfl | hf
        · exact ⟨_, rfl, by show 0 ≤ (-1 : Int) + (-1 * a + 0); omega⟩
        · cases hf
      · have d2 : 2 ≤ a := by
          by_cases z : 2 ≤ a
          · exact z
          · refine absurd ⟨aa_le32.mpr ?_, aa_le32.mpr ?_⟩ c
            · show (0 : Int) ≤ w1.toInt
              omega
            · show w1.toInt ≤ (1 : Int)
              omega
        refine zz_fin.at (n := 3) rfl ⟨g, rfl, h5, h6, aa_fr.rf, _, List.mem_cons_of_mem _ List.mem_cons_self, [], h1, fun f hf => ?_, fun q hq => (by cases hq), Nat.one_ne_zero, _, rfl, rfl⟩
        rcases List.mem_cons.mp hf with rfl | hf
        · exact ⟨_, rfl, by show 0 ≤ (-2 : Int) + (1 * a + 0); omega⟩
        · cases hf
