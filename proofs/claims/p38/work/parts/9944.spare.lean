/-! SPARE leaves nothing behind; what an asking call writes is nothing of the states -/
def aa_x237 : aa_K := ((237, 1, [(35, 13, 13), (35, 13, 15), (35, 16, 16)]), (((([(-2147483648, 2147483647, 0)], []), ([(((540, []), (16, [])), (-1, []))], [(3, (540, [])), (1, (0, [(0, 1)]))])), [(0, 1)]), ([((([(-2147483648, 2147483647, 0)], []), ([(((540, []), (16, [])), (-1, []))], [(1, (-1, []))])), []), ((([(-2147483648, 2147483647, 0), (1, 4, 0), (-2147483648, 2147483647, 0)], [(0, [(0, 1)]), (3, [(0, -1)])]), ([(((541, []), (0, [])), (0, [(1, 1)])), (((540, []), (16, [])), (-1, []))], [(1, (0, [(2, 1)]))])), [(1, 0), (0, 0)])], [(14, ((([(0, 3, 0), (-2147483648, 2147483647, 0), (0, 12, 0), (1, 4, 0)], []), ([(((541, []), (0, [])), (0, [(3, 1)])), (((540, []), (16, [])), (-1, []))], [(3, (540, [])), (1, (0, [(0, 1)])), (1, (0, [(1, 1)])), (1, (0, [(2, 1)])), (0, (0, [])), (0, (0, []))])), [(0, 2), (0, 3), (1, 0)]), (12, [(2, -1)]))])))
set_option maxRecDepth 100000 in
theorem aa_xe237 : aa_chk aa_L73 aa_mfree aa_hook (fun _ => false) 400 aa_x237 = true := by decide +kernel
theorem aa_xm237 : aa_met aa_Phi aa_x237 := aa_chk_ok aa_model_good (aa_mL73 aa_hands_met) (fun _ _ q => by cases q) aa_xe237
theorem kx_vh {τ : List Int} {g : aa_G} {l : aa_C} (h : aa_vh l τ g) (hq : (((540, []), (16, [])), (-1, [])) ∈ l) : g 540 16 = -1 := by
  obtain ⟨a, b, v, h1, h2, h3, h4⟩ := h _ hq
  have h1 : (540 : Int) = (a : Int) := Option.some.inj h1
  have h2 : (16 : Int) = (b : Int) := Option.some.inj h2
  have h3 : (-1 : Int) = v := Option.some.inj h3
  have ea : a = 540 := by omega
  have eb : b = 16 := by omega
  subst ea
  subst eb
  rw [aa_rd_of (by decide)] at h4
  exact Int32.toInt_inj.mp (by rw [h4, ← h3]; rfl)
theorem kx_237 {g : aa_G} {a0 : Int32} (hi : aa_inv g) (hφ : aa_Phi g) (hl : g 540 16 = -1) : zz_fin none 237 (0, zz_in [.ref 540, .int a0] (zz_nl 237), [], aa_H g) (fun v h => ∃ y g', v = some (.int y) ∧ h = aa_H g' ∧ aa_inv g' ∧ aa_Phi g' ∧ aa_fr aa_x237.1.2.2 g g' ∧ g' 540 16 = -1) := by
  refine (aa_xm237 [a0.toInt] g [.ref 540, .int a0] (aa_vb_new (⟨rfl, fun i q v hq => by cases hq⟩ : aa_vb [] []) (lo := -2147483648) (hi := 2147483647) (gr := 0) (ko_rng a0).1 (ko_rng a0).2 (fun z => absurd rfl z)) (fun f hf => by cases hf) ?_ ⟨⟨Nat.succ_ne_zero _, 540, rfl, rfl⟩, ⟨Nat.one_ne_zero, a0, rfl, aa_id_ev rfl⟩, trivial⟩ hi hφ).mono ?_
  · intro q hq
    have hq := List.mem_singleton.mp hq
    subst hq
    exact ⟨540, 16, -1, rfl, rfl, rfl, by rw [aa_rd_of (by decide), hl]; rfl⟩
  · rintro v h ⟨g', rfl, k1, k2, k3, A, hA, ρ, -, -, vh, hr⟩
    rcases List.mem_cons.mp hA with rfl | hA
    · match v, hr with
      | some w, hr =>
        obtain ⟨-, z, hz, -⟩ := hr
        exact ⟨z, g', congrArg some (Option.some.inj hz), rfl, k1, k2, k3, kx_vh vh List.mem_cons_self⟩
    · rcases List.mem_cons.mp hA with rfl | hA
      · match v, hr with
        | some w, hr =>
          obtain ⟨-, z, hz, -⟩ := hr
          exact ⟨z, g', congrArg some (Option.some.inj hz), rfl, k1, k2, k3, kx_vh vh (List.mem_cons_of_mem _ List.mem_cons_self)⟩
      · cases hA
/-- a cell of a state, of what is kept, of the tapes -/
def lk_in (k : Nat) : Bool := (Nat.ble 2 k && Nat.ble k 33) || Nat.beq k 66 || (Nat.ble 68 k && Nat.ble k 451) || Nat.beq k 453 || (Nat.ble 476 k && Nat.ble k 539) || Nat.beq k 454 || Nat.beq k 455 || Nat.beq k 1 || Nat.beq k 459 || Nat.beq k 460
def lk_a (ws : aa_W) : Bool := ((List.range 540).all fun k => !(lk_in k) || ws.all fun w => !(Nat.beq w.1 (aa_gc k)))
def lk_b (ws : aa_W) : Bool := ([541, 542, 543, 553].all fun k => ws.all fun w => !(Nat.beq w.1 (aa_gc k))) && ([1, 4, 6, 35, 37].all fun j : Nat => ws.all fun w => !(Nat.beq w.1 (aa_gc 540)) || !(decide (w.2.1 ≤ (j : Int)) && decide ((j : Int) ≤ w.2.2)))
theorem lk_ae {ws : aa_W} (h : lk_a ws = true) {g g' : aa_G} (hf : aa_fr ws g g') {k : Nat} (hk : k < 540) (hj : lk_in k = true) (j : Nat) : g' k j = g k j := by
  have h := List.all_eq_true.mp h k (List.mem_range.mpr hk)
  rw [hj] at h
  exact ko_ne hf h j
theorem lk_is {k : Nat} (h : (2 ≤ k ∧ k ≤ 33) ∨ k = 66 ∨ (68 ≤ k ∧ k ≤ 451) ∨ k = 453 ∨ (476 ≤ k ∧ k ≤ 539) ∨ k = 454 ∨ k = 455 ∨ k = 1 ∨ k = 459 ∨ k = 460) : lk_in k = true := by
  unfold lk_in
  simp only [Bool.or_eq_true, Bool.and_eq_true, Nat.ble_eq, Nat.beq_eq]
  omega
theorem lk_ar {Q : rq_Q} (hQ : rq_cp Q) {ws : aa_W} (h : lk_a ws = true) {gc gc' gm : aa_G} (hi : aa_inv gm) (hR : rr_g Q gc gm) (hf : aa_fr ws gc gc') : rr_g Q gc' gm :=
  rr_c hQ hi hR fun k j hk z => lk_ae h hf hk (lk_is (by omega)) j
theorem lk_br {Q : rq_Q} (hQ : rq_cp Q) {ws : aa_W} (h : lk_b ws = true) {gc gm gm' : aa_G} (hi : aa_inv gm) (hR : rr_g Q gc gm) (hf : aa_fr ws gm gm') (hl : gm' 540 16 = gm 540 16) : rr_g Q gc gm' := by
  have h := (Bool.and_eq_true _ _ ▸ h : _ ∧ _)
  have e1 : ∀ k, k ∈ [541, 542, 543, 553] → ∀ j, gm' k j = gm k j := fun k hk j => ko_ne hf (List.all_eq_true.mp h.1 k hk) j
  have e2 : ∀ j, j ∈ [1, 4, 6, 35, 37] → gm' 540 j = gm 540 j := fun j hj => ko_at hf (List.all_eq_true.mp h.2 j hj)
  refine rr_m hQ hi hR fun k j hk z => ?_
  rcases z with ⟨rfl, -⟩ | rfl | rfl | rfl | ⟨rfl, z⟩
  · exact e1 541 (by decide) j
  · exact e1 542 (by decide) j
  · exact e1 543 (by decide) j
  · exact e1 553 (by decide) j
  · rcases z with rfl | rfl | rfl | rfl | rfl | rfl
    · exact e2 1 (by decide)
    · exact e2 4 (by decide)
    · exact e2 6 (by decide)
    · exact hl
    · exact e2 35 (by decide)
    · exact e2 37 (by decide)
theorem lq_129 {g : aa_G} {a0 : Int32} (hi : aa_inv g) (hφ : aa_Phi g) (hR : lr_R g) : lq_ok false 129 237 [.int a0] g := by
  refine zz_fin.mono (ko_fw (ko_129 hi hφ) fun _ _ _ r => dn_129 r) ?_
  rintro v h ⟨e1, e2, i1, p1, f1⟩
  have wc : lk_c aa_k120.1.2.2 = true := by decide +kernel
  obtain ⟨q1, q2, q3⟩ := lk_mid wc hi hR f1
  have hl : (fn_129 g a0).2 540 16 = -1 := q1.2.2.2.2.2.2.2.1
  refine ⟨_, _, e1, e2, zz_fin.mono (kx_237 i1 p1 hl) ?_⟩
  rintro v h ⟨y, g2, hy, rfl, i2, p2, f2, h16⟩
  have z2 : rr_g (qb_s lr_B) (fn_129 g a0).2 g2 := lk_ar (qb_cp lr_cp) (by decide +kernel) i2 (lk_br (qb_cp lr_cp) (by decide +kernel) i1 q1 f2 (h16.trans hl.symm)) f1
  obtain ⟨w1, w2⟩ := lk_end (by decide +kernel) i2 f2 z2 (lk_ee (by decide +kernel) f1 f2 q2) q3
  exact ⟨y, g2, hy, fun z => absurd z (by decide), rfl, i2, p2, w1, w2⟩
/-- both sides' writes at once, as the law's list has them -/
theorem lr_fr {ws : aa_W} (ha : lk_a ws = true) (hb : lk_b ws = true) (h16 : (ws.all fun w => !(Nat.beq w.1 (aa_gc 540)) || !(decide (w.2.1 ≤ ((16 : Nat) : Int)) && decide (((16 : Nat) : Int) ≤ w.2.2))) = true) {g g' : aa_G} (hi : aa_inv g) (hf : aa_fr ws g g') (h : lr_R g) : lr_R g' := by
  have hb' := (Bool.and_eq_true _ _ ▸ hb : _ ∧ _)
  refine ⟨?_, (lk_ae ha hf (by omega) (by decide) 14).trans (h.2.trans (ko_at hf (List.all_eq_true.mp hb'.2 35 (by decide))).symm)⟩
  have m : rr_g (qb_s lr_B) g' g := lk_ar (qb_cp lr_cp) ha hi h.1 hf
  exact lk_br (qb_cp lr_cp) hb hi m hf (ko_at hf h16)
