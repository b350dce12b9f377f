/-! BY HAND: all of aa_hands; bells' contract -/
theorem aa_hands_met : ∀ K ∈ aa_hands, aa_met aa_Phi K := List.forall_mem_cons.mpr ⟨aa_h0, List.forall_mem_cons.mpr ⟨aa_h1, List.forall_mem_cons.mpr ⟨aa_h2, List.forall_mem_cons.mpr ⟨aa_h3, List.forall_mem_cons.mpr ⟨aa_h4, List.forall_mem_cons.mpr ⟨aa_h5, List.forall_mem_cons.mpr ⟨aa_h6, List.forall_mem_cons.mpr ⟨aa_h7, List.forall_mem_cons.mpr ⟨aa_h8, List.forall_mem_cons.mpr ⟨aa_h9, List.forall_mem_cons.mpr ⟨aa_h10, List.forall_mem_cons.mpr ⟨aa_h11, List.forall_mem_cons.mpr ⟨aa_h12, List.forall_mem_cons.mpr ⟨aa_h13, fun Q hQ => by cases hQ⟩⟩⟩⟩⟩⟩⟩⟩⟩⟩⟩⟩⟩⟩
theorem bells_post {g0 g : aa_G} {z : Int32} {g' : aa_G} (hf : aa_fr aa_m121.1.2.2 g0 g) (h4 : (g 540 4).toInt = 0) (z0 : 0 ≤ z.toInt) (z1 : z.toInt ≤ 8) (k1 : aa_inv g') (k2 : aa_Phi g') (k3 : aa_fr bt_ws g g') : aa_post aa_Phi aa_m121 [] g0 (some (.int z)) (aa_H g') := by
  have e4 : g' 540 4 = g 540 4 := by
    rcases k3.1 540 4 with e | ⟨w, hw, w1, w2, w3⟩
    · exact e
    · rcases List.mem_cons.mp hw with rfl | hw
      · have w3 : (4 : Int) ≤ 1 := w3
        omega
      · rcases List.mem_cons.mp hw with rfl | hw
        · exact absurd w1 (by decide)
        · rcases List.mem_cons.mp hw with rfl | hw
          · exact absurd w1 (by decide)
          · cases hw
  refine ⟨g', rfl, k1, k2, hf.tr ⟨fun a b => (k3.1 a b).imp id fun ⟨w, hw, q⟩ => ⟨w, List.mem_append_left [(35, 4, 7), (35, 10, 12), (39, 0, 55), (40, 0, 139), (900, 0, 0)] hw, q⟩, k3.2.imp id fun ⟨w, hw, q⟩ => ⟨w, List.mem_append_left [(35, 4, 7), (35, 10, 12), (39, 0, 55), (40, 0, 139), (900, 0, 0)] hw, q⟩⟩, _, List.mem_cons_of_mem _ List.mem_cons_self, [z.toInt], aa_vb_new (iv := []) (ν := []) ⟨rfl, fun i q v hq => by cases hq⟩ (lo := 0) (hi := 8) (gr := 0) z0 z1 (fun y => absurd rfl y), fun f hf => (by cases hf), ?_, Nat.one_ne_zero, z, rfl, ?_⟩
  · intro q hq
    rcases List.mem_cons.mp hq with rfl | hq
    · refine ⟨540, 4, 0, rfl, rfl, rfl, ?_⟩
      show (g' 540 4).toInt = 0
      rw [e4]
      exact h4
    · cases hq
  · show some ((0 : Int) + (1 * z.toInt + 0)) = some _
    congr 1
    omega
theorem aa_bells_met : aa_met aa_Phi aa_m121 := by
  refine aa_chk_ok aa_model_good (aa_mL107 aa_hands_met) ?_ aa_dbells
  intro c hc hgc ν0 g0 y hν0
  rcases List.mem_cons.mp hc with rfl | hc
  · exact absurd hgc (by decide)
  rcases List.mem_cons.mp hc with rfl | hc
  · exact absurd hgc (by decide)
  rcases List.mem_cons.mp hc with rfl | hc
  · intro τ g lv t1 t2 t3 t4 t5 t6
    obtain ⟨-, h5, h6, hf⟩ := t5
    have r4 := aa_vh_at t3 (k := 540) (j := 4) (r := (540, [])) (sl := (4, [])) (f := (0, [])) (List.mem_cons_of_mem _ (List.mem_cons_of_mem _ (List.mem_cons_of_mem _ (List.mem_cons_of_mem _ List.mem_cons_self)))) rfl rfl
    have r4 : (0 : Int) + 0 = (g 540 4).toInt := Option.some.inj r4
    match ν0, hν0 with
    | [], _ =>
      match lv, t4 with
      | [a, b, c], t4 =>
        obtain ⟨⟨k, rfl, hk⟩, ⟨v1, rfl, -⟩, -, -⟩ := t4
        have hk : (540 : Int) + 0 = (k : Int) := Option.some.inj hk
        have hk : k = 540 := by omega
        subst hk
        refine (bells_tail h5 h6 v1 c).mono ?_
        rintro v h ⟨g', z, rfl, rfl, z0, z1, k1, k2, k3⟩
        exact bells_post hf (by omega) z0 z1 k1 k2 k3
  · cases hc
