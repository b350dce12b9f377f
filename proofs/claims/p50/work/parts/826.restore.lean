/-! keep and restore, told apart by their argument: 0, 1, below, above; what is kept stands by both -/
abbrev aa_kc : aa_F := (453, [])
abbrev aa_km : aa_F := (542, [])
def aa_y0 : aa_K := ((143, 1, [(13, 0, 39), (5, 0, 7), (6, 0, 7), (7, 0, 7), (8, 0, 7), (9, 0, 7), (10, 0, 7), (11, 0, 39), (12, 0, 39), (15, 0, 11), (16, 0, 11), (17, 0, 11), (18, 0, 11), (22, 0, 1), (4, 0, 0), (4, 1, 1), (2, 0, 0), (2, 1, 1), (14, 0, 0), (14, 1, 1)]), (((([(0, 1, 0)], []), ([((aa_kc, aa_c 1), aa_id 0)], [(3, (1, [])), (1, aa_c 0)])), []), ([(((([(0, 1, 0)], []), ([((aa_kc, aa_c 0), aa_c 1), ((aa_kc, aa_c 1), aa_id 0)], [(1, aa_c 1)])), []))], [])))
def aa_y1 : aa_K := ((143, 1, [(13, 0, 39), (5, 0, 7), (6, 0, 7), (7, 0, 7), (8, 0, 7), (9, 0, 7), (10, 0, 7), (11, 0, 39), (12, 0, 39), (15, 0, 11), (16, 0, 11), (17, 0, 11), (18, 0, 11), (22, 0, 1), (4, 0, 0), (4, 1, 1), (2, 0, 0), (2, 1, 1), (14, 0, 0), (14, 1, 1)]), (((([(0, 1, 0)], []), ([((aa_kc, aa_c 0), aa_id 0)], [(3, (1, [])), (1, aa_c 1)])), []), ([(((([(0, 1, 0)], []), ([((aa_kc, aa_c 0), aa_id 0), ((aa_kc, aa_c 1), aa_c 1)], [(1, aa_c 1)])), []))], [])))
def aa_y2 : aa_K := ((143, 1, []), (((([(-2147483648, -1, 0)], []), ([], [(3, (1, [])), (1, aa_id 0)])), [(0, 1)]), ([(((([(-2147483648, -1, 0)], []), ([], [(1, aa_c 0)])), []))], [])))
def aa_y3 : aa_K := ((143, 1, []), (((([(2, 2147483647, 0)], []), ([], [(3, (1, [])), (1, aa_id 0)])), [(0, 1)]), ([(((([(2, 2147483647, 0)], []), ([], [(1, aa_c 0)])), []))], [])))
def aa_y4 : aa_K := ((144, 1, [(13, 0, 39), (5, 0, 7), (6, 0, 7), (7, 0, 7), (8, 0, 7), (9, 0, 7), (10, 0, 7), (11, 0, 39), (12, 0, 39), (15, 0, 11), (16, 0, 11), (17, 0, 11), (18, 0, 11), (4, 0, 0), (4, 1, 1), (19, 0, 0), (19, 1, 1), (2, 0, 0), (2, 1, 1), (14, 0, 0), (14, 1, 1)]), (((([(0, 1, 0)], []), ([((aa_kc, aa_c 0), aa_id 0)], [(3, (1, [])), (1, aa_c 0)])), []), ([(((([(0, 1, 0)], [(0, [(0, -1)])]), ([((aa_kc, aa_c 0), aa_id 0)], [(1, aa_c 0)])), [])), (((([(0, 1, 0)], [(-1, [(0, 1)])]), ([((aa_kc, aa_c 0), aa_id 0)], [(1, aa_c 1)])), []))], [])))
def aa_y5 : aa_K := ((144, 1, [(13, 0, 39), (5, 0, 7), (6, 0, 7), (7, 0, 7), (8, 0, 7), (9, 0, 7), (10, 0, 7), (11, 0, 39), (12, 0, 39), (15, 0, 11), (16, 0, 11), (17, 0, 11), (18, 0, 11), (4, 0, 0), (4, 1, 1), (19, 0, 0), (19, 1, 1), (2, 0, 0), (2, 1, 1), (14, 0, 0), (14, 1, 1)]), (((([(0, 1, 0)], []), ([((aa_kc, aa_c 1), aa_id 0)], [(3, (1, [])), (1, aa_c 1)])), []), ([(((([(0, 1, 0)], [(0, [(0, -1)])]), ([((aa_kc, aa_c 1), aa_id 0)], [(1, aa_c 0)])), [])), (((([(0, 1, 0)], [(-1, [(0, 1)])]), ([((aa_kc, aa_c 1), aa_id 0)], [(1, aa_c 1)])), []))], [])))
def aa_y6 : aa_K := ((144, 1, []), (((([(-2147483648, -1, 0)], []), ([], [(3, (1, [])), (1, aa_id 0)])), [(0, 1)]), ([(((([(-2147483648, -1, 0)], []), ([], [(1, aa_c 0)])), []))], [])))
def aa_y7 : aa_K := ((144, 1, []), (((([(2, 2147483647, 0)], []), ([], [(3, (1, [])), (1, aa_id 0)])), [(0, 1)]), ([(((([(2, 2147483647, 0)], []), ([], [(1, aa_c 0)])), []))], [])))
def aa_z0 : aa_K := ((153, 1, [(37, 0, 1), (36, 399, 1196)]), (((([(0, 1, 0)], []), ([((aa_km, aa_c 1), aa_id 0)], [(3, (540, [])), (1, aa_c 0)])), []), ([(((([(0, 1, 0)], []), ([((aa_km, aa_c 0), aa_c 1), ((aa_km, aa_c 1), aa_id 0)], [(1, aa_c 1)])), []))], [])))
def aa_z1 : aa_K := ((153, 1, [(37, 0, 1), (36, 399, 1196)]), (((([(0, 1, 0)], []), ([((aa_km, aa_c 0), aa_id 0)], [(3, (540, [])), (1, aa_c 1)])), []), ([(((([(0, 1, 0)], []), ([((aa_km, aa_c 0), aa_id 0), ((aa_km, aa_c 1), aa_c 1)], [(1, aa_c 1)])), []))], [])))
def aa_z2 : aa_K := ((153, 1, []), (((([(-2147483648, -1, 0)], []), ([], [(3, (540, [])), (1, aa_id 0)])), [(0, 1)]), ([(((([(-2147483648, -1, 0)], []), ([], [(1, aa_c 0)])), []))], [])))
def aa_z3 : aa_K := ((153, 1, []), (((([(2, 2147483647, 0)], []), ([], [(3, (540, [])), (1, aa_id 0)])), [(0, 1)]), ([(((([(2, 2147483647, 0)], []), ([], [(1, aa_c 0)])), []))], [])))
def aa_z4 : aa_K := ((155, 1, [(35, 1, 1), (36, 1197, 5984), (36, 0, 398)]), (((([(0, 1, 0)], []), ([((aa_km, aa_c 0), aa_id 0)], [(3, (540, [])), (1, aa_c 0)])), []), ([(((([(0, 1, 0)], [(0, [(0, -1)])]), ([((aa_km, aa_c 0), aa_id 0)], [(1, aa_c 0)])), [])), (((([(0, 1, 0)], [(-1, [(0, 1)])]), ([((aa_km, aa_c 0), aa_id 0)], [(1, aa_c 1)])), []))], [])))
def aa_z5 : aa_K := ((155, 1, [(35, 1, 1), (36, 1197, 5984), (36, 0, 398)]), (((([(0, 1, 0)], []), ([((aa_km, aa_c 1), aa_id 0)], [(3, (540, [])), (1, aa_c 1)])), []), ([(((([(0, 1, 0)], [(0, [(0, -1)])]), ([((aa_km, aa_c 1), aa_id 0)], [(1, aa_c 0)])), [])), (((([(0, 1, 0)], [(-1, [(0, 1)])]), ([((aa_km, aa_c 1), aa_id 0)], [(1, aa_c 1)])), []))], [])))
def aa_z6 : aa_K := ((155, 1, []), (((([(-2147483648, -1, 0)], []), ([], [(3, (540, [])), (1, aa_id 0)])), [(0, 1)]), ([(((([(-2147483648, -1, 0)], []), ([], [(1, aa_c 0)])), []))], [])))
def aa_z7 : aa_K := ((155, 1, []), (((([(2, 2147483647, 0)], []), ([], [(3, (540, [])), (1, aa_id 0)])), [(0, 1)]), ([(((([(2, 2147483647, 0)], []), ([], [(1, aa_c 0)])), []))], [])))
section AZ
variable {Φ : aa_G → Prop}
set_option maxRecDepth 100000 in
theorem aa_ye2 : aa_chk (aa_x0 :: aa_p3) aa_free (fun _ _ _ _ => false) (fun _ => false) 400 aa_y2 = true := by decide +kernel
theorem aa_y2_ok (hG : aa_good Φ aa_free (fun _ _ _ _ => false)) : aa_met Φ aa_y2 := aa_chk_ok hG (aa_mcons (aa_met_p3 hG) (aa_chk_ok hG aa_no1 (fun _ _ q => by cases q) aa_xe0)) (fun _ _ q => by cases q) aa_ye2
set_option maxRecDepth 100000 in
theorem aa_ye3 : aa_chk (aa_x0 :: aa_p3) aa_free (fun _ _ _ _ => false) (fun _ => false) 400 aa_y3 = true := by decide +kernel
theorem aa_y3_ok (hG : aa_good Φ aa_free (fun _ _ _ _ => false)) : aa_met Φ aa_y3 := aa_chk_ok hG (aa_mcons (aa_met_p3 hG) (aa_chk_ok hG aa_no1 (fun _ _ q => by cases q) aa_xe0)) (fun _ _ q => by cases q) aa_ye3
set_option maxRecDepth 100000 in
theorem aa_ye4 : aa_chk (aa_x0 :: aa_p3) aa_free (fun _ _ _ _ => false) (fun _ => false) 400 aa_y4 = true := by decide +kernel
theorem aa_y4_ok (hG : aa_good Φ aa_free (fun _ _ _ _ => false)) : aa_met Φ aa_y4 := aa_chk_ok hG (aa_mcons (aa_met_p3 hG) (aa_chk_ok hG aa_no1 (fun _ _ q => by cases q) aa_xe0)) (fun _ _ q => by cases q) aa_ye4
set_option maxRecDepth 100000 in
theorem aa_ye5 : aa_chk (aa_x0 :: aa_p3) aa_free (fun _ _ _ _ => false) (fun _ => false) 400 aa_y5 = true := by decide +kernel
theorem aa_y5_ok (hG : aa_good Φ aa_free (fun _ _ _ _ => false)) : aa_met Φ aa_y5 := aa_chk_ok hG (aa_mcons (aa_met_p3 hG) (aa_chk_ok hG aa_no1 (fun _ _ q => by cases q) aa_xe0)) (fun _ _ q => by cases q) aa_ye5
set_option maxRecDepth 100000 in
theorem aa_ye6 : aa_chk (aa_x0 :: aa_p3) aa_free (fun _ _ _ _ => false) (fun _ => false) 400 aa_y6 = true := by decide +kernel
theorem aa_y6_ok (hG : aa_good Φ aa_free (fun _ _ _ _ => false)) : aa_met Φ aa_y6 := aa_chk_ok hG (aa_mcons (aa_met_p3 hG) (aa_chk_ok hG aa_no1 (fun _ _ q => by cases q) aa_xe0)) (fun _ _ q => by cases q) aa_ye6
set_option maxRecDepth 100000 in
theorem aa_ye7 : aa_chk (aa_x0 :: aa_p3) aa_free (fun _ _ _ _ => false) (fun _ => false) 400 aa_y7 = true := by decide +kernel
theorem aa_y7_ok (hG : aa_good Φ aa_free (fun _ _ _ _ => false)) : aa_met Φ aa_y7 := aa_chk_ok hG (aa_mcons (aa_met_p3 hG) (aa_chk_ok hG aa_no1 (fun _ _ q => by cases q) aa_xe0)) (fun _ _ q => by cases q) aa_ye7
end AZ
set_option maxRecDepth 100000 in
theorem aa_ze2 : aa_chk [aa_x1] aa_mfree aa_hook (fun _ => false) 400 aa_z2 = true := by decide +kernel
theorem aa_z2_ok : aa_met aa_Phi aa_z2 := aa_chk_ok aa_model_good (aa_one1 aa_xm1) (fun _ _ q => by cases q) aa_ze2
set_option maxRecDepth 100000 in
theorem aa_ze3 : aa_chk [aa_x1] aa_mfree aa_hook (fun _ => false) 400 aa_z3 = true := by decide +kernel
theorem aa_z3_ok : aa_met aa_Phi aa_z3 := aa_chk_ok aa_model_good (aa_one1 aa_xm1) (fun _ _ q => by cases q) aa_ze3
set_option maxRecDepth 100000 in
theorem aa_ze6 : aa_chk [aa_x1] aa_mfree aa_hook (fun _ => false) 400 aa_z6 = true := by decide +kernel
theorem aa_z6_ok : aa_met aa_Phi aa_z6 := aa_chk_ok aa_model_good (aa_one1 aa_xm1) (fun _ _ q => by cases q) aa_ze6
set_option maxRecDepth 100000 in
theorem aa_ze7 : aa_chk [aa_x1] aa_mfree aa_hook (fun _ => false) 400 aa_z7 = true := by decide +kernel
theorem aa_z7_ok : aa_met aa_Phi aa_z7 := aa_chk_ok aa_model_good (aa_one1 aa_xm1) (fun _ _ q => by cases q) aa_ze7
theorem keep_k {g : aa_G} (h5 : aa_inv g) (h6 : aa_Phi g) {k : Nat} (hk : k < 2) : zz_fin none 153 (0, zz_in [.ref 540, .int (Int32.ofNat k)] (zz_nl 153), [], aa_H g) (fun v h => v = some (.int 1) ∧ ∃ g', h = aa_H g' ∧ aa_inv g' ∧ aa_Phi g' ∧ aa_fr [(37, 0, 1), (36, 399, 1196)] g g' ∧ (g' 542 k).toInt = 1 ∧ ∀ j, j ≠ k → g' 542 j = g 542 j) := by
  have c : (0 : Int32) ≤ Int32.ofNat k ∧ Int32.ofNat k ≤ 1 := by
    have e := zz_ofN (show k < 2147483648 by omega)
    refine ⟨aa_le32.mpr ?_, aa_le32.mpr ?_⟩
    · show (0 : Int) ≤ (Int32.ofNat k).toInt
      omega
    · show (Int32.ofNat k).toInt ≤ (1 : Int)
      omega
  refine zz_fin.steps (n := 3) (s' := (3, [some (.ref 540), some (.int (Int32.ofNat k))], [.int 1, .int 0, .int (Int32.ofNat k)], aa_H g)) rfl ?_
  refine zz_fin.call rfl rfl (Nat.le_of_ble_eq_true rfl) (zz_within1 (.inr rfl) c) ?_
  rintro v h ⟨rfl, rfl⟩
  refine zz_fin.steps (n := 6) (s' := (16, [some (.ref 540), some (.int (Int32.ofNat k))], [.int (1 + Int32.ofNat k), .int (Int32.ofNat 0), .ref 540], aa_H g)) rfl ?_
  rw [show (1 : Int32) + Int32.ofNat k = Int32.ofNat (1 + k) from (Int32.ofNat_add 1 k).symm]
  have hp : (1 : Int) ≤ (g 541 1).toInt := (h5 541 1).1
  refine zz_fin.call rfl rfl (Nat.le_of_ble_eq_true rfl) (aa_copy (f := 0) (t := 1 + k) (by omega) (by omega) (by omega) h5 h6 hp) ?_
  rintro v h ⟨rfl, g1, rfl, hc, k1, k2⟩
  refine zz_fin.steps (n := 4) (s' := (25, [some (.ref 540), some (.int (Int32.ofNat k))], [.int 1, .int (Int32.ofNat k), .ref 542], aa_H g1)) rfl ?_
  refine zz_fin.bas1 (n := 2) rfl rfl (zz_inbN hk (by omega)) ?_
  rw [zz_toN (by omega)]
  have hp1 : 1 ≤ (g1 541 (399 * (1 + k) + 1)).toInt := by
    rw [hc.1 1 (by omega)]
    exact hp
  have b1 : aa_iv 37 k = (0, 1) := aa_flat_ok rfl k 0
  have b2 : (vp_nar .boolean 1).toInt = 1 := by decide
  refine zz_fin.at (n := 2) rfl ⟨rfl, _, rfl, aa_inv_w k1 (v := vp_nar .boolean 1) ?_ ?_, aa_Phi_kept k2 hp1, ?_, ?_, fun j hj => ?_⟩
  · show (aa_iv 37 k).1 ≤ _
    rw [b1, b2]
    decide
  · show _ ≤ (aa_iv 37 k).2
    rw [b1, b2]
    decide
  · exact (aa_cp_fr hc (List.mem_cons_of_mem _ List.mem_cons_self) (by omega) (by omega)).tr (aa_fr_kept hk List.mem_cons_self)
  · rw [aa_w_at]
    exact b2
  · rw [aa_w_ne _ _ fun e => hj e.2]
    exact hc.2 542 j (by omega)
theorem restore_k {g : aa_G} (h5 : aa_inv g) (h6 : aa_Phi g) {k : Nat} (hk : k < 2) : zz_fin none 155 (0, zz_in [.ref 540, .int (Int32.ofNat k)] (zz_nl 155), [], aa_H g) (fun v h => ((v = some (.int 0) ∧ (g 542 k).toInt = 0) ∨ (v = some (.int 1) ∧ (g 542 k).toInt ≠ 0)) ∧ ∃ g', h = aa_H g' ∧ aa_inv g' ∧ aa_Phi g' ∧ aa_fr [(35, 1, 1), (36, 1197, 5984), (36, 0, 398)] g g' ∧ g' 542 = g 542) := by
  have c : (0 : Int32) ≤ Int32.ofNat k ∧ Int32.ofNat k ≤ 1 := by
    have e := zz_ofN (show k < 2147483648 by omega)
    refine ⟨aa_le32.mpr ?_, aa_le32.mpr ?_⟩
    · show (0 : Int) ≤ (Int32.ofNat k).toInt
      omega
    · show (Int32.ofNat k).toInt ≤ (1 : Int)
      omega
  refine zz_fin.steps (n := 3) (s' := (3, [some (.ref 540), some (.int (Int32.ofNat k))], [.int 1, .int 0, .int (Int32.ofNat k)], aa_H g)) rfl ?_
  refine zz_fin.call rfl rfl (Nat.le_of_ble_eq_true rfl) (zz_within1 (.inr rfl) c) ?_
  rintro v h ⟨rfl, rfl⟩
  refine zz_fin.steps (n := 4) (s' := (14, [some (.ref 540), some (.int (Int32.ofNat k))], [.int (Int32.ofNat k), .ref 542], aa_H g)) rfl ?_
  refine zz_fin.bal1 (n := 2) rfl rfl (zz_inbN hk (by omega)) ?_
  rw [zz_toN (by omega)]
  refine zz_fin.if rfl (fun d => ?_) (fun d => ?_)
  · have d : g 542 k ≠ 0 := of_decide_eq_true d
    have d1 : (g 542 k).toInt ≠ 0 := fun z => d (Int32.toInt_inj.mp z)
    refine zz_fin.steps (n := 1) (s' := (21, [some (.ref 540), some (.int (Int32.ofNat k))], [.ref 540], aa_H g)) rfl ?_
    refine zz_fin.call rfl rfl (Nat.le_of_ble_eq_true rfl) (deed156 h5 h6) ?_
    rintro v h ⟨rfl, g1, rfl, k1, k2, k3⟩
    refine zz_fin.steps (n := 5) (s' := (29, [some (.ref 540), some (.int (Int32.ofNat k))], [.int (Int32.ofNat 0), .int (1 + Int32.ofNat k), .ref 540], aa_H g1)) rfl ?_
    rw [show (1 : Int32) + Int32.ofNat k = Int32.ofNat (1 + k) from (Int32.ofNat_add 1 k).symm]
    have hk1 : ∀ j, g1 542 j = g 542 j := fun j => by
      rcases k3.1 542 j with e | ⟨w, hw, e, -⟩
      · exact e
      · rcases List.mem_cons.mp hw with rfl | hw
        · exact absurd e (by decide)
        · rcases List.mem_cons.mp hw with rfl | hw
          · exact absurd e (by decide)
          · cases hw
    have hp1 : 1 ≤ (g1 541 (399 * (1 + k) + 1)).toInt := k2.2.1.1 k hk (by rw [hk1]; exact d1)
    refine zz_fin.call rfl rfl (Nat.le_of_ble_eq_true rfl) (aa_copy (f := 1 + k) (t := 0) (by omega) (by omega) (by omega) k1 k2 hp1) ?_
    rintro v h ⟨rfl, g2, rfl, hc, q1, q2⟩
    have fw : aa_fr [(35, 1, 1), (36, 1197, 5984), (36, 0, 398)] g g1 := ⟨fun a b => (k3.1 a b).imp id fun ⟨w, hw, z⟩ => ⟨w, List.mem_append_left [(36, 0, 398)] hw, z⟩, k3.2.imp id fun ⟨w, hw, z⟩ => ⟨w, List.mem_append_left [(36, 0, 398)] hw, z⟩⟩
    refine zz_fin.at (n := 2) rfl ⟨.inr ⟨rfl, d1⟩, g2, rfl, q1, q2, fw.tr (aa_cp_fr hc (List.mem_cons_of_mem _ (List.mem_cons_of_mem _ List.mem_cons_self)) (by omega) (by omega)), ?_⟩
    funext j
    rw [hc.2 542 j (by omega)]
    exact hk1 j
  · have d : g 542 k = 0 := Decidable.byContradiction fun z => d (decide_eq_true z)
    exact zz_fin.at (n := 2) rfl ⟨.inl ⟨rfl, by rw [d]; rfl⟩, g, rfl, h5, h6, aa_fr.rf, rfl⟩
theorem aa_z0_ok : aa_met aa_Phi aa_z0 := by
  intro ν0 g as h1 h2 h3 h4 h5 h6
  obtain ⟨as, rfl, h7⟩ := aa_this h4
  clear h4
  obtain ⟨w1, as, rfl, e1, h8⟩ := aa_ms_int h7
  clear h7
  have rx := aa_vh_at h3 (k := 542) (j := 1) (r := (542, [])) (sl := aa_c 1) (f := aa_id 0) List.mem_cons_self rfl rfl
  have hlen : ν0.length = 1 := h1.1
  match ν0, hlen, h1, as, h8, e1, rx with
  | [a], _, h1, [], _, e1, rx =>
    have e1 : (0 : Int) + 0 = w1.toInt := Option.some.inj e1
    have e1 : w1 = Int32.ofNat 0 := aa_eqN (by omega) (by omega)
    subst e1
    have rx : (0 : Int) + (1 * a + 0) = (g 542 1).toInt := Option.some.inj rx
    refine (keep_k h5 h6 (k := 0) (by omega)).mono ?_
    rintro v h ⟨rfl, g', rfl, k1, k2, k3, k4, k5⟩
    refine ⟨g', rfl, k1, k2, k3, _, List.mem_cons_self, [], h1, fun f hf => (by cases hf), ?_, Nat.one_ne_zero, _, rfl, rfl⟩
    have e5 := k5 1 (by omega)
    have q1 : ∃ (x y : Nat) (z : Int), aa_ev [a] aa_km = some (x : Int) ∧ aa_ev [a] (aa_c 0) = some (y : Int) ∧ aa_ev [a] (aa_c 1) = some z ∧ aa_rd g' x y = z := ⟨542, 0, 1, rfl, rfl, rfl, k4⟩
    have q2 : ∃ (x y : Nat) (z : Int), aa_ev [a] aa_km = some (x : Int) ∧ aa_ev [a] (aa_c 1) = some (y : Int) ∧ aa_ev [a] (aa_id 0) = some z ∧ aa_rd g' x y = z := by
      refine ⟨542, 1, _, rfl, rfl, rfl, ?_⟩
      show (g' 542 1).toInt = (0 : Int) + (1 * a + 0)
      rw [e5]
      exact rx.symm
    exact List.forall_mem_cons.mpr ⟨q1, List.forall_mem_cons.mpr ⟨q2, fun q hq => by cases hq⟩⟩
theorem aa_z4_ok : aa_met aa_Phi aa_z4 := by
  intro ν0 g as h1 h2 h3 h4 h5 h6
  obtain ⟨as, rfl, h7⟩ := aa_this h4
  clear h4
  obtain ⟨w1, as, rfl, e1, h8⟩ := aa_ms_int h7
  clear h7
  have rx := aa_vh_at h3 (k := 542) (j := 0) (r := (542, [])) (sl := aa_c 0) (f := aa_id 0) List.mem_cons_self rfl rfl
  have hlen : ν0.length = 1 := h1.1
  match ν0, hlen, h1, as, h8, e1, rx with
  | [a], _, h1, [], _, e1, rx =>
    have e1 : (0 : Int) + 0 = w1.toInt := Option.some.inj e1
    have e1 : w1 = Int32.ofNat 0 := aa_eqN (by omega) (by omega)
    subst e1
    have rx : (0 : Int) + (1 * a + 0) = (g 542 0).toInt := Option.some.inj rx
    have ra : (0 : Int) ≤ a := (h1.2 0 _ a rfl rfl).1
    refine (restore_k h5 h6 (k := 0) (by omega)).mono ?_
    rintro v h ⟨hv, g', rfl, k1, k2, k3, k4⟩
    have q2 : ∃ (x y : Nat) (z : Int), aa_ev [a] aa_km = some (x : Int) ∧ aa_ev [a] (aa_c 0) = some (y : Int) ∧ aa_ev [a] (aa_id 0) = some z ∧ aa_rd g' x y = z := by
      refine ⟨542, 0, _, rfl, rfl, rfl, ?_⟩
      show (g' 542 0).toInt = (0 : Int) + (1 * a + 0)
      rw [k4]
      exact rx.symm
    rcases hv with ⟨rfl, d⟩ | ⟨rfl, d⟩
    · refine ⟨g', rfl, k1, k2, k3, _, List.mem_cons_self, [], h1, List.forall_mem_cons.mpr ⟨⟨_, rfl, ?_⟩, fun f hf => (by cases hf)⟩, List.forall_mem_cons.mpr ⟨q2, fun q hq => by cases hq⟩, Nat.one_ne_zero, _, rfl, rfl⟩
      show 0 ≤ (0 : Int) + (-1 * a + 0)
      omega
    · refine ⟨g', rfl, k1, k2, k3, _, List.mem_cons_of_mem _ List.mem_cons_self, [], h1, List.forall_mem_cons.mpr ⟨⟨_, rfl, ?_⟩, fun f hf => (by cases hf)⟩, List.forall_mem_cons.mpr ⟨q2, fun q hq => by cases hq⟩, Nat.one_ne_zero, _, rfl, rfl⟩
      show 0 ≤ (-1 : Int) + (1 * a + 0)
      omega
theorem aa_z1_ok : aa_met aa_Phi aa_z1 := by
  intro ν0 g as h1 h2 h3 h4 h5 h6
  obtain ⟨as, rfl, h7⟩ := aa_this h4
  clear h4
  obtain ⟨w1, as, rfl, e1, h8⟩ := aa_ms_int h7
  clear h7
  have rx := aa_vh_at h3 (k := 542) (j := 0) (r := (542, [])) (sl := aa_c 0) (f := aa_id 0) List.mem_cons_self rfl rfl
  have hlen : ν0.length = 1 := h1.1
  match ν0, hlen, h1, as, h8, e1, rx with
  | [a], _, h1, [], _, e1, rx =>
    have e1 : (1 : Int) + 0 = w1.toInt := Option.some.inj e1
    have e1 : w1 = Int32.ofNat 1 := aa_eqN (by omega) (by omega)
    subst e1
    have rx : (0 : Int) + (1 * a + 0) = (g 542 0).toInt := Option.some.inj rx
    refine (keep_k h5 h6 (k := 1) (by omega)).mono ?_
    rintro v h ⟨rfl, g', rfl, k1, k2, k3, k4, k5⟩
    refine ⟨g', rfl, k1, k2, k3, _, List.mem_cons_self, [], h1, fun f hf => (by cases hf), ?_, Nat.one_ne_zero, _, rfl, rfl⟩
    have e5 := k5 0 (by omega)
    have q1 : ∃ (x y : Nat) (z : Int), aa_ev [a] aa_km = some (x : Int) ∧ aa_ev [a] (aa_c 1) = some (y : Int) ∧ aa_ev [a] (aa_c 1) = some z ∧ aa_rd g' x y = z := ⟨542, 1, 1, rfl, rfl, rfl, k4⟩
    have q2 : ∃ (x y : Nat) (z : Int), aa_ev [a] aa_km = some (x : Int) ∧ aa_ev [a] (aa_c 0) = some (y : Int) ∧ aa_ev [a] (aa_id 0) = some z ∧ aa_rd g' x y = z := by
      refine ⟨542, 0, _, rfl, rfl, rfl, ?_⟩
      show (g' 542 0).toInt = (0 : Int) + (1 * a + 0)
      rw [e5]
      exact rx.symm
    exact List.forall_mem_cons.mpr ⟨q2, List.forall_mem_cons.mpr ⟨q1, fun q hq => by cases hq⟩⟩
theorem aa_z5_ok : aa_met aa_Phi aa_z5 := by
  intro ν0 g as h1 h2 h3 h4 h5 h6
  obtain ⟨as, rfl, h7⟩ := aa_this h4
  clear h4
  obtain ⟨w1, as, rfl, e1, h8⟩ := aa_ms_int h7
  clear h7
  have rx := aa_vh_at h3 (k := 542) (j := 1) (r := (542, [])) (sl := aa_c 1) (f := aa_id 0) List.mem_cons_self rfl rfl
  have hlen : ν0.length = 1 := h1.1
  match ν0, hlen, h1, as, h8, e1, rx with
  | [a], _, h1, [], _, e1, rx =>
    have e1 : (1 : Int) + 0 = w1.toInt := Option.some.inj e1
    have e1 : w1 = Int32.ofNat 1 := aa_eqN (by omega) (by omega)
    subst e1
    have rx : (0 : Int) + (1 * a + 0) = (g 542 1).toInt := Option.some.inj rx
    have ra : (0 : Int) ≤ a := (h1.2 0 _ a rfl rfl).1
    refine (restore_k h5 h6 (k := 1) (by omega)).mono ?_
    rintro v h ⟨hv, g', rfl, k1, k2, k3, k4⟩
    have q2 : ∃ (x y : Nat) (z : Int), aa_ev [a] aa_km = some (x : Int) ∧ aa_ev [a] (aa_c 1) = some (y : Int) ∧ aa_ev [a] (aa_id 0) = some z ∧ aa_rd g' x y = z := by
      refine ⟨542, 1, _, rfl, rfl, rfl, ?_⟩
      show (g' 542 1).toInt = (0 : Int) + (1 * a + 0)
      rw [k4]
      exact rx.symm
    rcases hv with ⟨rfl, d⟩ | ⟨rfl, d⟩
    · refine ⟨g', rfl, k1, k2, k3, _, List.mem_cons_self, [], h1, List.forall_mem_cons.mpr ⟨⟨_, rfl, ?_⟩, fun f hf => (by cases hf)⟩, List.forall_mem_cons.mpr ⟨q2, fun q hq => by cases hq⟩, Nat.one_ne_zero, _, rfl, rfl⟩
      show 0 ≤ (0 : Int) + (-1 * a + 0)
      omega
    · refine ⟨g', rfl, k1, k2, k3, _, List.mem_cons_of_mem _ List.mem_cons_self, [], h1, List.forall_mem_cons.mpr ⟨⟨_, rfl, ?_⟩, fun f hf => (by cases hf)⟩, List.forall_mem_cons.mpr ⟨q2, fun q hq => by cases hq⟩, Nat.one_ne_zero, _, rfl, rfl⟩
      show 0 ≤ (-1 : Int) + (1 * a + 0)
      omega
theorem keepc_0 {Φ : aa_G → Prop} (hG : aa_good Φ aa_free (fun _ _ _ _ => false)) {g : aa_G} (h5 : aa_inv g) (h6 : Φ g) : zz_fin none 143 (0, zz_in [.ref 1, .int 0] (zz_nl 143), [], aa_H g) (fun v h => v = some (.int 1) ∧ ∃ g', h = aa_H g' ∧ aa_inv g' ∧ Φ g' ∧ aa_fr aa_y0.1.2.2 g g' ∧ (g' 453 0).toInt = 1 ∧ ∀ j, j ≠ 0 → g' 453 j = g 453 j) := by
  refine zz_fin.steps (n := 3) (s' := (3, [some (.ref 1), some (.int 0)], [.int 1, .int 0, .int 0], aa_H g)) rfl ?_
  refine zz_fin.call rfl rfl (Nat.le_of_ble_eq_true rfl) (zz_within1 (.inl rfl) (by decide)) ?_
  rintro v h ⟨rfl, rfl⟩
  refine zz_fin.steps (n := 7) (s' := (21, [some (.ref 1), some (.int 0)], [.ref 2, .ref 476], aa_H g)) rfl ?_
  have hb : aa_vb [(0, 553, 2), (0, 553, 2)] [476, 2] := aa_vb_new (aa_vb_new (iv := []) (ν := []) ⟨rfl, fun i q v hq => by cases hq⟩ (lo := 0) (hi := 553) (gr := 2) (v := 476) (by decide) (by decide) (fun _ => ⟨by decide, by decide⟩)) (lo := 0) (hi := 553) (gr := 2) (v := 2) (by decide) (by decide) (fun _ => ⟨by decide, by decide⟩)
  refine zz_fin.call rfl rfl (Nat.le_of_ble_eq_true rfl) (aa_met_p3 hG aa_k6 (List.mem_of_getElem? (i := 133) rfl) [476, 2] g [.ref 476, .ref 2] hb (fun f hf => by cases hf) (fun q hq => by cases hq) ⟨⟨Nat.succ_ne_zero _, 476, rfl, rfl⟩, ⟨Nat.succ_ne_zero _, 2, rfl, rfl⟩, trivial⟩ h5 h6) ?_
  rintro v h ⟨g1, rfl, k1, k2, k3, A, hA, ρ, -, -, -, hr⟩
  rcases List.mem_cons.mp hA with rfl | hA
  · match v, hr with
    | none, _ =>
      refine zz_fin.steps (n := 4) (s' := (30, [some (.ref 1), some (.int 0)], [.int 1, .int 0, .ref 453], aa_H g1)) rfl ?_
      refine zz_fin.bas1 (n := 2) rfl rfl (by decide) ?_
      have b2 : (vp_nar .boolean 1).toInt = 1 := by decide
      have hfr : aa_fr aa_y0.1.2.2 g1 (zz_w g1 453 0 (vp_nar .boolean 1)) := by
        refine ⟨fun a b => ?_, .inl (aa_dep_w ⟨fun e => by have := e.1; omega, by decide, by decide⟩)⟩
        by_cases e : a = 453 ∧ b = 0
        · obtain ⟨rfl, rfl⟩ := e
          exact .inr ⟨(22, 0, 1), by decide, rfl, by decide, by decide⟩
        · exact .inl (aa_w_ne _ _ e)
      have hff : aa_fr aa_free g1 (zz_w g1 453 0 (vp_nar .boolean 1)) := aa_fr_sub hfr (by decide)
      refine zz_fin.at (n := 2) rfl ⟨rfl, zz_w g1 453 0 (vp_nar .boolean 1), rfl, aa_inv_w k1 (by decide) (by decide), hG.1 _ _ k2 hff, (aa_fr_sub k3 (by decide)).tr hfr, ?_, fun j hj => ?_⟩
      · rw [aa_w_at]
        exact b2
      · rw [aa_w_ne _ _ fun e => hj e.2]
        rcases k3.1 453 j with e | ⟨w, hw, w1, -⟩
        · exact e
        · exact absurd w1 ((by decide : ∀ w ∈ aa_k6.1.2.2, w.1 ≠ 22) w hw)
  · cases hA
theorem aa_y0_ok {Φ : aa_G → Prop} (hG : aa_good Φ aa_free (fun _ _ _ _ => false)) : aa_met Φ aa_y0 := by
  intro ν0 g as h1 h2 h3 h4 h5 h6
  obtain ⟨k, as, rfl, ek, h7⟩ := aa_ms_ref h4
  clear h4
  have ek : (1 : Int) + 0 = (k : Int) := Option.some.inj ek
  have ek : k = 1 := by omega
  subst ek
  obtain ⟨w1, as, rfl, e1, h8⟩ := aa_ms_int h7
  clear h7
  have rx := aa_vh_at h3 (k := 453) (j := 1) (r := (453, [])) (sl := aa_c 1) (f := aa_id 0) List.mem_cons_self rfl rfl
  have hlen : ν0.length = 1 := h1.1
  match ν0, hlen, h1, as, h8, e1, rx with
  | [a], _, h1, [], _, e1, rx =>
    have e1 : (0 : Int) + 0 = w1.toInt := Option.some.inj e1
    have e1 : w1 = 0 := Int32.toInt_inj.mp (by rw [← e1]; rfl)
    subst e1
    have rx : (0 : Int) + (1 * a + 0) = (g 453 1).toInt := Option.some.inj rx
    refine (keepc_0 hG h5 h6).mono ?_
    rintro v h ⟨rfl, g', rfl, k1, k2, k3, k4, k5⟩
    refine ⟨g', rfl, k1, k2, k3, _, List.mem_cons_self, [], h1, fun f hf => (by cases hf), ?_, Nat.one_ne_zero, _, rfl, rfl⟩
    have e5 := k5 1 (by omega)
    have q1 : ∃ (x y : Nat) (z : Int), aa_ev [a] aa_kc = some (x : Int) ∧ aa_ev [a] (aa_c 0) = some (y : Int) ∧ aa_ev [a] (aa_c 1) = some z ∧ aa_rd g' x y = z := ⟨453, 0, 1, rfl, rfl, rfl, k4⟩
    have q2 : ∃ (x y : Nat) (z : Int), aa_ev [a] aa_kc = some (x : Int) ∧ aa_ev [a] (aa_c 1) = some (y : Int) ∧ aa_ev [a] (aa_id 0) = some z ∧ aa_rd g' x y = z := by
      refine ⟨453, 1, _, rfl, rfl, rfl, ?_⟩
      show (g' 453 1).toInt = (0 : Int) + (1 * a + 0)
      rw [e5]
      exact rx.symm
    exact List.forall_mem_cons.mpr ⟨q1, List.forall_mem_cons.mpr ⟨q2, fun q hq => by cases hq⟩⟩
theorem keepc_1 {Φ : aa_G → Prop} (hG : aa_good Φ aa_free (fun _ _ _ _ => false)) {g : aa_G} (h5 : aa_inv g) (h6 : Φ g) : zz_fin none 143 (0, zz_in [.ref 1, .int 1] (zz_nl 143), [], aa_H g) (fun v h => v = some (.int 1) ∧ ∃ g', h = aa_H g' ∧ aa_inv g' ∧ Φ g' ∧ aa_fr aa_y1.1.2.2 g g' ∧ (g' 453 1).toInt = 1 ∧ ∀ j, j ≠ 1 → g' 453 j = g 453 j) := by
  refine zz_fin.steps (n := 3) (s' := (3, [some (.ref 1), some (.int 1)], [.int 1, .int 0, .int 1], aa_H g)) rfl ?_
  refine zz_fin.call rfl rfl (Nat.le_of_ble_eq_true rfl) (zz_within1 (.inl rfl) (by decide)) ?_
  rintro v h ⟨rfl, rfl⟩
  refine zz_fin.steps (n := 7) (s' := (21, [some (.ref 1), some (.int 1)], [.ref 2, .ref 508], aa_H g)) rfl ?_
  have hb : aa_vb [(0, 553, 2), (0, 553, 2)] [508, 2] := aa_vb_new (aa_vb_new (iv := []) (ν := []) ⟨rfl, fun i q v hq => by cases hq⟩ (lo := 0) (hi := 553) (gr := 2) (v := 508) (by decide) (by decide) (fun _ => ⟨by decide, by decide⟩)) (lo := 0) (hi := 553) (gr := 2) (v := 2) (by decide) (by decide) (fun _ => ⟨by decide, by decide⟩)
  refine zz_fin.call rfl rfl (Nat.le_of_ble_eq_true rfl) (aa_met_p3 hG aa_k6 (List.mem_of_getElem? (i := 133) rfl) [508, 2] g [.ref 508, .ref 2] hb (fun f hf => by cases hf) (fun q hq => by cases hq) ⟨⟨Nat.succ_ne_zero _, 508, rfl, rfl⟩, ⟨Nat.succ_ne_zero _, 2, rfl, rfl⟩, trivial⟩ h5 h6) ?_
  rintro v h ⟨g1, rfl, k1, k2, k3, A, hA, ρ, -, -, -, hr⟩
  rcases List.mem_cons.mp hA with rfl | hA
  · match v, hr with
    | none, _ =>
      refine zz_fin.steps (n := 4) (s' := (30, [some (.ref 1), some (.int 1)], [.int 1, .int 1, .ref 453], aa_H g1)) rfl ?_
      refine zz_fin.bas1 (n := 2) rfl rfl (by decide) ?_
      have b2 : (vp_nar .boolean 1).toInt = 1 := by decide
      have hfr : aa_fr aa_y1.1.2.2 g1 (zz_w g1 453 1 (vp_nar .boolean 1)) := by
        refine ⟨fun a b => ?_, .inl (aa_dep_w ⟨fun e => by have := e.1; omega, by decide, by decide⟩)⟩
        by_cases e : a = 453 ∧ b = 1
        · obtain ⟨rfl, rfl⟩ := e
          exact .inr ⟨(22, 0, 1), by decide, rfl, by decide, by decide⟩
        · exact .inl (aa_w_ne _ _ e)
      have hff : aa_fr aa_free g1 (zz_w g1 453 1 (vp_nar .boolean 1)) := aa_fr_sub hfr (by decide)
      refine zz_fin.at (n := 2) rfl ⟨rfl, zz_w g1 453 1 (vp_nar .boolean 1), rfl, aa_inv_w k1 (by decide) (by decide), hG.1 _ _ k2 hff, (aa_fr_sub k3 (by decide)).tr hfr, ?_, fun j hj => ?_⟩
      · rw [aa_w_at]
        exact b2
      · rw [aa_w_ne _ _ fun e => hj e.2]
        rcases k3.1 453 j with e | ⟨w, hw, w1, -⟩
        · exact e
        · exact absurd w1 ((by decide : ∀ w ∈ aa_k6.1.2.2, w.1 ≠ 22) w hw)
  · cases hA
theorem aa_y1_ok {Φ : aa_G → Prop} (hG : aa_good Φ aa_free (fun _ _ _ _ => false)) : aa_met Φ aa_y1 := by
  intro ν0 g as h1 h2 h3 h4 h5 h6
  obtain ⟨k, as, rfl, ek, h7⟩ := aa_ms_ref h4
  clear h4
  have ek : (1 : Int) + 0 = (k : Int) := Option.some.inj ek
  have ek : k = 1 := by omega
  subst ek
  obtain ⟨w1, as, rfl, e1, h8⟩ := aa_ms_int h7
  clear h7
  have rx := aa_vh_at h3 (k := 453) (j := 0) (r := (453, [])) (sl := aa_c 0) (f := aa_id 0) List.mem_cons_self rfl rfl
  have hlen : ν0.length = 1 := h1.1
  match ν0, hlen, h1, as, h8, e1, rx with
  | [a], _, h1, [], _, e1, rx =>
    have e1 : (1 : Int) + 0 = w1.toInt := Option.some.inj e1
    have e1 : w1 = 1 := Int32.toInt_inj.mp (by rw [← e1]; rfl)
    subst e1
    have rx : (0 : Int) + (1 * a + 0) = (g 453 0).toInt := Option.some.inj rx
    refine (keepc_1 hG h5 h6).mono ?_
    rintro v h ⟨rfl, g', rfl, k1, k2, k3, k4, k5⟩
    refine ⟨g', rfl, k1, k2, k3, _, List.mem_cons_self, [], h1, fun f hf => (by cases hf), ?_, Nat.one_ne_zero, _, rfl, rfl⟩
    have e5 := k5 0 (by omega)
    have q1 : ∃ (x y : Nat) (z : Int), aa_ev [a] aa_kc = some (x : Int) ∧ aa_ev [a] (aa_c 1) = some (y : Int) ∧ aa_ev [a] (aa_c 1) = some z ∧ aa_rd g' x y = z := ⟨453, 1, 1, rfl, rfl, rfl, k4⟩
    have q2 : ∃ (x y : Nat) (z : Int), aa_ev [a] aa_kc = some (x : Int) ∧ aa_ev [a] (aa_c 0) = some (y : Int) ∧ aa_ev [a] (aa_id 0) = some z ∧ aa_rd g' x y = z := by
      refine ⟨453, 0, _, rfl, rfl, rfl, ?_⟩
      show (g' 453 0).toInt = (0 : Int) + (1 * a + 0)
      rw [e5]
      exact rx.symm
    exact List.forall_mem_cons.mpr ⟨q2, List.forall_mem_cons.mpr ⟨q1, fun q hq => by cases hq⟩⟩
