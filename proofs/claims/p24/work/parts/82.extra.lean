section
/-! BY HAND: all of aa_hands; bells' contract -/
theorem aa_hands_met : ∀ K ∈ aa_hands, aa_met aa_Phi K := List.forall_mem_cons.mpr ⟨aa_h0, List.forall_mem_cons.mpr ⟨aa_h1, List.forall_mem_cons.mpr ⟨aa_h2, List.forall_mem_cons.mpr ⟨aa_h3, List.forall_mem_cons.mpr ⟨aa_h4, List.forall_mem_cons.mpr ⟨aa_h5, List.forall_mem_cons.mpr ⟨aa_h6, List.forall_mem_cons.mpr ⟨aa_h7, List.forall_mem_cons.mpr ⟨aa_h8, List.forall_mem_cons.mpr ⟨aa_h9, List.forall_mem_cons.mpr ⟨aa_h10, List.forall_mem_cons.mpr ⟨aa_h11, List.forall_mem_cons.mpr ⟨aa_h12, List.forall_mem_cons.mpr ⟨aa_h13, fun Q hQ => by cases hQ⟩⟩⟩⟩⟩⟩⟩⟩⟩⟩⟩⟩⟩⟩
theorem bells_post {g0 g : aa_G} {z : Int32} {g' : aa_G} (hf : aa_fr aa_m121.1.2.2 g0 g) (h4 : (g 540 4).toInt = 0) (z0 : 0 ≤ z.toInt) (z1 : z.toInt ≤ 8) (k1 : aa_inv g') (k2 : aa_Phi g') (k3 : aa_fr bt_ws g g') : aa_post aa_Phi aa_m121 [] g0 (some (.int z)) (aa_H g') := by
  have e4 : g' 540 4 = g 540 4 := by
    rcases k3.1 540 4 with e | ⟨w, hw, w1, w2, w3⟩
    · exact e
    · rcases List.mem_cons.mp hw with rfl | hw
      · have w3 : (4 : Int) ≤ 1 := w3
        omega
      · rcases List.mem_cons.mp hw with rfl | hw
        · exact absurd w1 (by decide)
        · rcases List.mem_cons.mp hw with rfl | hw
          · exact absurd w1 (by decide)
          · cases hw
  refine ⟨g', rfl, k1, k2, hf.tr ⟨fun a b => (k3.1 a b).imp id fun ⟨w, hw, q⟩ => ⟨w, List.mem_append_left [(35, 4, 7), (35, 10, 12), (39, 0, 55), (40, 0, 139), (900, 0, 0)] hw, q⟩, k3.2.imp id fun ⟨w, hw, q⟩ => ⟨w, List.mem_append_left [(35, 4, 7), (35, 10, 12), (39, 0, 55), (40, 0, 139), (900, 0, 0)] hw, q⟩⟩, _, List.mem_cons_of_mem _ List.mem_cons_self, [z.toInt], aa_vb_new (iv := []) (ν := []) ⟨rfl, fun i q v hq => by cases hq⟩ (lo := 0) (hi := 8) (gr := 0) z0 z1 (fun y => absurd rfl y), fun f hf => (by cases hf), ?_, Nat.one_ne_zero, z, rfl, ?_⟩
  · intro q hq
    rcases List.mem_cons.mp hq with rfl | hq
    · refine ⟨540, 4, 0, rfl, rfl, rfl, ?_⟩
      show (g' 540 4).toInt = 0
      rw [e4]
      exact h4
    · cases hq
  · show some ((0 : Int) + (1 * z.toInt + 0)) = some _
    congr 1
    omega
theorem aa_bells_met : aa_met aa_Phi aa_m121 := by
  refine aa_chk_ok aa_model_good (aa_mL107 aa_hands_met) ?_ aa_dbells
  intro c hc hgc ν0 g0 y hν0
  rcases List.mem_cons.mp hc with rfl | hc
  · exact absurd hgc (by decide)
  rcases List.mem_cons.mp hc with rfl | hc
  · exact absurd hgc (by decide)
  rcases List.mem_cons.mp hc with rfl | hc
  · intro τ g lv t1 t2 t3 t4 t5 t6
    obtain ⟨-, h5, h6, hf⟩ := t5
    have r4 := aa_vh_at t3 (k := 540) (j := 4) (r := (540, [])) (sl := (4, [])) (f := (0, [])) (List.mem_cons_of_mem _ (List.mem_cons_of_mem _ (List.mem_cons_of_mem _ (List.mem_cons_of_mem _ List.mem_cons_self)))) rfl rfl
    have r4 : (0 : Int) + 0 = (g 540 4).toInt := Option.some.inj r4
    match ν0, hν0 with
    | [], _ =>
      match lv, t4 with
      | [a, b, c], t4 =>
        obtain ⟨⟨k, rfl, hk⟩, ⟨v1, rfl, -⟩, -, -⟩ := t4
        have hk : (540 : Int) + 0 = (k : Int) := Option.some.inj hk
        have hk : k = 540 := by omega
        subst hk
        refine (bells_tail h5 h6 v1 c).mono ?_
        rintro v h ⟨g', z, rfl, rfl, z0, z1, k1, k2, k3⟩
        exact bells_post hf (by omega) z0 z1 k1 k2 k3
  · cases hc
end
section
/-! CONTRACTS THAT SAY MORE, over those that stand: what the compared methods answer -/
def aa_full : aa_I := (-2147483648, 2147483647, 0)
abbrev aa_uc : aa_F := (454, [])
abbrev aa_um : aa_F := (540, [])
/-- within, told apart -/
def aa_x0 : aa_K := ((14, 3, []), ((([aa_full, aa_full, aa_full], []), ([], [(1, aa_id 0), (1, aa_id 1), (1, aa_id 2)])), [(0, 0), (0, 1), (0, 2)]), ([((([aa_full, aa_full, aa_full], [(-1, [(0, -1), (1, 1)])]), ([], [(1, (0, []))])), []), ((([aa_full, aa_full, aa_full], [(-1, [(0, 1), (2, -1)])]), ([], [(1, (0, []))])), []), ((([aa_full, aa_full, aa_full], [(0, [(0, 1), (1, -1)]), (0, [(0, -1), (2, 1)])]), ([], [(1, (1, []))])), [])], []))
def aa_x1 : aa_K := ((154, 3, []), ((([aa_full, aa_full, aa_full], []), ([], [(1, aa_id 0), (1, aa_id 1), (1, aa_id 2)])), [(0, 0), (0, 1), (0, 2)]), ([((([aa_full, aa_full, aa_full], [(-1, [(0, -1), (1, 1)])]), ([], [(1, (0, []))])), []), ((([aa_full, aa_full, aa_full], [(-1, [(0, 1), (2, -1)])]), ([], [(1, (0, []))])), []), ((([aa_full, aa_full, aa_full], [(0, [(0, 1), (1, -1)]), (0, [(0, -1), (2, 1)])]), ([], [(1, (1, []))])), [])], []))
/-- Tape.append -/
def aa_x2 : aa_K := ((12, 2, [(24, 0, 499), (23, 0, 0)]), ((([aa_full, (0, 496, 0)], []), ([((aa_uc, aa_c 0), aa_id 1)], [(3, aa_uc), (1, aa_id 0)])), [(0, 1)]), ([((([aa_full, (0, 496, 0)], []), ([((aa_uc, aa_c 0), (4, [(1, 1)]))], [])), [])], []))
/-- feed -/
def aa_x3 : aa_K := ((11, 6, [(24, 0, 499), (23, 0, 0)]), ((([aa_full, aa_full, aa_full, aa_full, aa_full, (0, 500, 0)], []), ([((aa_uc, aa_c 0), aa_id 5)], [(3, (1, [])), (1, aa_id 0), (1, aa_id 1), (1, aa_id 2), (1, aa_id 3), (1, aa_id 4)])), [(0, 1), (0, 2), (0, 3), (0, 4), (0, 5)]),
  ([((([aa_full, aa_full, aa_full, aa_full, aa_full, (0, 500, 0)], [(-481, [(5, 1)])]), ([((aa_uc, aa_c 0), aa_id 5)], [(1, (-1, []))])), []), ((([aa_full, aa_full, aa_full, aa_full, aa_full, (0, 500, 0)], [(480, [(5, -1)])]), ([((aa_uc, aa_c 0), (20, [(5, 1)]))], [(1, (20, [(5, 1)]))])), [])], []))
def aa_x4 : aa_K := ((158, 6, [(38, 0, 499), (35, 4, 4)]), ((([aa_full, aa_full, aa_full, aa_full, aa_full, (0, 500, 0)], []), ([((aa_um, aa_c 4), aa_id 5)], [(3, (540, [])), (1, aa_id 0), (1, aa_id 1), (1, aa_id 2), (1, aa_id 3), (1, aa_id 4)])), [(0, 1), (0, 2), (0, 3), (0, 4), (0, 5)]),
  ([((([aa_full, aa_full, aa_full, aa_full, aa_full, (0, 500, 0)], [(-481, [(5, 1)])]), ([((aa_um, aa_c 4), aa_id 5)], [(1, (-1, []))])), []), ((([aa_full, aa_full, aa_full, aa_full, aa_full, (0, 500, 0)], [(480, [(5, -1)])]), ([((aa_um, aa_c 4), (20, [(5, 1)]))], [(1, (20, [(5, 1)]))])), [])], []))
/-- end -/
def aa_x5 : aa_K := ((13, 2, [(23, 0, 0)]), ((([aa_full, (0, 500, 0)], []), ([((aa_uc, aa_c 0), aa_id 1)], [(3, (1, [])), (1, aa_id 0)])), [(0, 1)]),
  ([((([aa_full, (0, 500, 0)], [(-1, [(0, -1)])]), ([((aa_uc, aa_c 0), aa_id 1)], [(1, (-1, []))])), []), ((([aa_full, (0, 500, 0)], [(-1, [(0, 1), (1, -1)])]), ([((aa_uc, aa_c 0), aa_id 1)], [(1, (-1, []))])), []), ((([aa_full, (0, 500, 0)], [(0, [(0, 1)]), (0, [(0, -1), (1, 1)])]), ([((aa_uc, aa_c 0), aa_id 0)], [(1, aa_id 0)])), [])], []))
def aa_x6 : aa_K := ((160, 2, [(35, 4, 4)]), ((([aa_full, (0, 500, 0)], []), ([((aa_um, aa_c 4), aa_id 1)], [(3, (540, [])), (1, aa_id 0)])), [(0, 1)]),
  ([((([aa_full, (0, 500, 0)], [(-1, [(0, -1)])]), ([((aa_um, aa_c 4), aa_id 1)], [(1, (-1, []))])), []), ((([aa_full, (0, 500, 0)], [(-1, [(0, 1), (1, -1)])]), ([((aa_um, aa_c 4), aa_id 1)], [(1, (-1, []))])), []), ((([aa_full, (0, 500, 0)], [(0, [(0, 1)]), (0, [(0, -1), (1, 1)])]), ([((aa_um, aa_c 4), aa_id 0)], [(1, aa_id 0)])), [])], []))
section AZ
variable {Φ : aa_G → Prop}
def aa_xc : List aa_K := aa_x5 :: aa_x3 :: aa_x2 :: aa_x0 :: aa_p3
set_option maxRecDepth 100000 in
theorem aa_xe0 : aa_chk [] aa_free (fun _ _ _ _ => false) (fun _ => false) 400 aa_x0 = true := by decide +kernel
set_option maxRecDepth 100000 in
theorem aa_xe2 : aa_chk [] aa_free (fun _ _ _ _ => false) (fun _ => false) 400 aa_x2 = true := by decide +kernel
set_option maxRecDepth 100000 in
theorem aa_xe3 : aa_chk [aa_x2] aa_free (fun _ _ _ _ => false) (fun _ => false) 400 aa_x3 = true := by decide +kernel
set_option maxRecDepth 100000 in
theorem aa_xe5 : aa_chk [aa_x0] aa_free (fun _ _ _ _ => false) (fun _ => false) 400 aa_x5 = true := by decide +kernel
theorem aa_one1 {K : aa_K} (h : aa_met Φ K) : ∀ Q ∈ [K], aa_met Φ Q := fun Q hQ => by
  rcases List.mem_cons.mp hQ with rfl | hQ
  · exact h
  · cases hQ
theorem aa_no1 : ∀ Q ∈ ([] : List aa_K), aa_met Φ Q := fun Q hQ => by cases hQ
theorem aa_xm (hG : aa_good Φ aa_free (fun _ _ _ _ => false)) : ∀ K ∈ aa_xc, aa_met Φ K := by
  have m0 : aa_met Φ aa_x0 := aa_chk_ok hG aa_no1 (fun _ _ q => by cases q) aa_xe0
  have m2 : aa_met Φ aa_x2 := aa_chk_ok hG aa_no1 (fun _ _ q => by cases q) aa_xe2
  have m3 : aa_met Φ aa_x3 := aa_chk_ok hG (aa_one1 m2) (fun _ _ q => by cases q) aa_xe3
  have m5 : aa_met Φ aa_x5 := aa_chk_ok hG (aa_one1 m0) (fun _ _ q => by cases q) aa_xe5
  exact aa_mcons (aa_mcons (aa_mcons (aa_mcons (aa_met_p3 hG) m0) m2) m3) m5
end AZ
set_option maxRecDepth 100000 in
theorem aa_xe1 : aa_chk [] aa_mfree aa_hook (fun _ => false) 400 aa_x1 = true := by decide +kernel
set_option maxRecDepth 100000 in
theorem aa_xe4 : aa_chk [aa_m14] aa_mfree aa_hook (fun _ => false) 400 aa_x4 = true := by decide +kernel
set_option maxRecDepth 100000 in
theorem aa_xe6 : aa_chk [aa_x1] aa_mfree aa_hook (fun _ => false) 400 aa_x6 = true := by decide +kernel
theorem aa_xm1 : aa_met aa_Phi aa_x1 := aa_chk_ok aa_model_good aa_no1 (fun _ _ q => by cases q) aa_xe1
theorem aa_xm14 : aa_met aa_Phi aa_m14 := aa_chk_ok aa_model_good aa_no1 (fun _ _ q => by cases q) (show aa_chk [] aa_mfree aa_hook (fun _ => false) 400 aa_m14 = true by decide +kernel)
theorem aa_xm4 : aa_met aa_Phi aa_x4 := aa_chk_ok aa_model_good (aa_one1 aa_xm14) (fun _ _ q => by cases q) aa_xe4
theorem aa_xm6 : aa_met aa_Phi aa_x6 := aa_chk_ok aa_model_good (aa_one1 aa_xm1) (fun _ _ q => by cases q) aa_xe6
/-- the class writes nothing that the model's rows speak of -/
theorem aa_free_no : ∀ w ∈ aa_free, w.1 ≠ 35 ∧ w.1 ≠ 36 ∧ w.1 ≠ 37 ∧ w.1 ≠ 39 ∧ w.1 ≠ 40 := by decide
theorem aa_good_free : aa_good aa_Phi aa_free (fun _ _ _ _ => false) := by
  refine ⟨fun g g' h hf => aa_Phi_same ?_ h, fun _ _ _ _ _ _ _ _ _ _ _ _ _ _ _ _ _ _ e => by cases e⟩
  have at' : ∀ k j, (∀ w ∈ aa_free, w.1 ≠ aa_gc k) → g' k j = g k j := fun k j q => by
    rcases hf.1 k j with e | ⟨w, hw, w1, -⟩
    · exact e
    · exact absurd w1 (q w hw)
  refine ⟨fun j _ _ _ _ _ _ => at' 541 j fun w hw => (aa_free_no w hw).2.1, ?_, at' 540 1 fun w hw => (aa_free_no w hw).1, at' 540 10 fun w hw => (aa_free_no w hw).1, at' 540 11 fun w hw => (aa_free_no w hw).1, ?_, ?_⟩
  · funext j
    exact at' 542 j fun w hw => (aa_free_no w hw).2.2.1
  · funext j
    exact at' 544 j fun w hw => (aa_free_no w hw).2.2.2.1
  · funext j
    exact at' 545 j fun w hw => (aa_free_no w hw).2.2.2.2
end
