/-! contracts at a call: what is not written is as it was -/
theorem ko_rng (a : Int32) : (-2147483648 : Int) ≤ a.toInt ∧ a.toInt ≤ 2147483647 := by
  have r1 := a.le_toInt
  have r2 := a.toInt_lt
  exact ⟨by omega, by omega⟩
theorem ko_ne {ws : aa_W} {g g' : aa_G} (hf : aa_fr ws g g') {k : Nat} (h : (ws.all fun w => !(Nat.beq w.1 (aa_gc k))) = true) (j : Nat) : g' k j = g k j := by
  rcases hf.1 k j with e | ⟨w, hw, w1, -⟩
  · exact e
  · have h1 := List.all_eq_true.mp h w hw
    rw [w1] at h1
    rw [show Nat.beq (aa_gc k) (aa_gc k) = true from Nat.beq_refl _] at h1
    cases h1
theorem ko_at {ws : aa_W} {g g' : aa_G} (hf : aa_fr ws g g') {k j : Nat} (h : (ws.all fun w => !(Nat.beq w.1 (aa_gc k)) || !(decide (w.2.1 ≤ (j : Int)) && decide ((j : Int) ≤ w.2.2))) = true) : g' k j = g k j := by
  rcases hf.1 k j with e | ⟨w, hw, w1, w2, w3⟩
  · exact e
  · have h1 := List.all_eq_true.mp h w hw
    rw [w1, show Nat.beq (aa_gc k) (aa_gc k) = true from Nat.beq_refl _, decide_eq_true w2, decide_eq_true w3] at h1
    cases h1
/-- of a run that is known to end, by its contract and by what it does -/
theorem ko_fw {m : Nat} {as : List Value} {g : aa_G} {K : aa_K} {ν : List Int} {E : Int32 × aa_G} (f : zz_fin none m (0, zz_in as (zz_nl m), [], aa_H g) (aa_post aa_Phi K ν g)) (d : ∀ n v h, rn_s n m (0, zz_in as (zz_nl m), [], aa_H g) v h → iw_s v h E) : zz_fin none m (0, zz_in as (zz_nl m), [], aa_H g) (fun v h => v = some (.int E.1) ∧ h = aa_H E.2 ∧ aa_inv E.2 ∧ aa_Phi E.2 ∧ aa_fr K.1.2.2 g E.2) := rn_also f fun n v h r ⟨g', e, k1, k2, k3, _⟩ => by
  obtain ⟨e1, e2⟩ := d n v h r
  have e3 : E.2 = g' := ep_H (e2.symm.trans e)
  exact ⟨e1, e2, by rw [e3]; exact k1, by rw [e3]; exact k2, by rw [e3]; exact k3⟩
theorem ko_fi {m : Nat} {as : List Value} {g : aa_G} {K : aa_K} {ν : List Int} {E : Int32} (f : zz_fin none m (0, zz_in as (zz_nl m), [], aa_H g) (aa_post aa_Phi K ν g)) (d : ∀ n v h, rn_s n m (0, zz_in as (zz_nl m), [], aa_H g) v h → ir_s g v h E) : zz_fin none m (0, zz_in as (zz_nl m), [], aa_H g) (fun v h => v = some (.int E) ∧ h = aa_H g) := rn_also f fun n v h r _ => d n v h r
theorem ko_bw {m n : Nat} {as : List Value} {g : aa_G} {K : aa_K} {ν : List Int} {E : Int32 × aa_G} {v : Option Value} {h : zz_H} (f : zz_fin none m (0, zz_in as (zz_nl m), [], aa_H g) (aa_post aa_Phi K ν g)) (d : iw_s v h E) (r : rn_s n m (0, zz_in as (zz_nl m), [], aa_H g) v h) : aa_inv E.2 ∧ aa_Phi E.2 ∧ aa_fr K.1.2.2 g E.2 := by
  obtain ⟨g', e, k1, k2, k3, _⟩ := rn_fin f r
  have e3 : E.2 = g' := ep_H (d.2.symm.trans e)
  rw [e3]
  exact ⟨k1, k2, k3⟩
theorem ko_bv {m n : Nat} {as : List Value} {g : aa_G} {K : aa_K} {ν : List Int} {E : aa_G} {v : Option Value} {h : zz_H} (f : zz_fin none m (0, zz_in as (zz_nl m), [], aa_H g) (aa_post aa_Phi K ν g)) (d : ig_s v h E) (r : rn_s n m (0, zz_in as (zz_nl m), [], aa_H g) v h) : aa_inv E ∧ aa_Phi E ∧ aa_fr K.1.2.2 g E := by
  obtain ⟨g', e, k1, k2, k3, _⟩ := rn_fin f r
  have e3 : E = g' := ep_H (d.2.symm.trans e)
  rw [e3]
  exact ⟨k1, k2, k3⟩
theorem ko_Phi {g : aa_G} {k j : Nat} {v : Int32} (hk : k < 540) (h : aa_Phi g) : aa_Phi (zz_w g k j v) := aa_Phi_same ⟨fun i _ _ _ _ _ _ => aa_w_ne _ _ (by omega), funext fun i => aa_w_ne _ _ (by omega), aa_w_ne _ _ (by omega), aa_w_ne _ _ (by omega), aa_w_ne _ _ (by omega), funext fun i => aa_w_ne _ _ (by omega), funext fun i => aa_w_ne _ _ (by omega)⟩ h
theorem ko_ring {g : aa_G} (hi : aa_inv g) : rem_ok g := by
  have k1 := hi 66 0
  have k2 := hi 66 1
  rw [show aa_iv (aa_gc 66) 0 = (0, 12) from by decide +kernel] at k1
  rw [show aa_iv (aa_gc 66) 1 = (0, 11) from by decide +kernel] at k2
  have k1 : (0 : Int) ≤ (g 66 0).toInt ∧ (g 66 0).toInt ≤ 12 := k1
  have k2 : (0 : Int) ≤ (g 66 1).toInt ∧ (g 66 1).toInt ≤ 11 := k2
  exact ⟨(g 66 0).toInt.toNat, (g 66 1).toInt.toNat, by omega, by omega, aa_eqN (by omega) (by omega), aa_eqN (by omega) (by omega)⟩
/-! CONTRACTS AT A CALL (printed by wip/dc/kon.py) -/
theorem ko_57 {g : aa_G} {a0 : Int32} (hi : aa_inv g) (hφ : aa_Phi g) (h0 : (0 : Int) ≤ a0.toInt ∧ a0.toInt ≤ 2147483647) (h1 : (-1 : Int) ≤ (g 1 14).toInt ∧ (g 1 14).toInt ≤ -1) (h2 : (0 : Int) ≤ (g 454 0).toInt ∧ (g 454 0).toInt ≤ 0) (h3 : (-1 : Int) ≤ (g 454 4).toInt ∧ (g 454 4).toInt ≤ -1) : zz_fin none 57 (0, zz_in [.ref 1, .int a0] (zz_nl 57), [], aa_H g) (aa_post aa_Phi aa_k56 [a0.toInt, (g 1 14).toInt, (g 454 0).toInt, (g 454 4).toInt] g) := by
  have hK : aa_met aa_Phi aa_k56 := aa_met_p3 aa_good_free _ (List.mem_of_getElem? (i := 83) rfl)
  refine hK [a0.toInt, (g 1 14).toInt, (g 454 0).toInt, (g 454 4).toInt] g [.ref 1, .int a0] (aa_vb_new (aa_vb_new (aa_vb_new (aa_vb_new (⟨rfl, fun i q v hq => by cases hq⟩ : aa_vb [] []) (lo := 0) (hi := 2147483647) (gr := 0) h0.1 h0.2 (fun z => absurd rfl z)) (lo := -1) (hi := -1) (gr := 0) h1.1 h1.2 (fun z => absurd rfl z)) (lo := 0) (hi := 0) (gr := 0) h2.1 h2.2 (fun z => absurd rfl z)) (lo := -1) (hi := -1) (gr := 0) h3.1 h3.2 (fun z => absurd rfl z)) (fun f hf => by cases hf) (fun q hq => ?_) ⟨⟨Nat.succ_ne_zero _, 1, rfl, rfl⟩, ⟨Nat.one_ne_zero, a0, rfl, aa_id_ev rfl⟩, trivial⟩ hi hφ
  rcases List.mem_cons.mp hq with rfl | hq
  · exact ⟨1, 14, _, rfl, rfl, aa_id_ev rfl, by rw [aa_rd_of (by decide)]⟩
  rcases List.mem_cons.mp hq with rfl | hq
  · exact ⟨454, 0, _, rfl, rfl, aa_id_ev rfl, by rw [aa_rd_of (by decide)]⟩
  rcases List.mem_cons.mp hq with rfl | hq
  · exact ⟨454, 4, _, rfl, rfl, aa_id_ev rfl, by rw [aa_rd_of (by decide)]⟩
  cases hq
theorem ko_263 {g : aa_G} {a0 : Int32} (hi : aa_inv g) (hφ : aa_Phi g) (h0 : (0 : Int) ≤ a0.toInt ∧ a0.toInt ≤ 145) (h1 : (0 : Int) ≤ (g 540 4).toInt ∧ (g 540 4).toInt ≤ 0) (h2 : (1 : Int) ≤ (g 540 34).toInt ∧ (g 540 34).toInt ≤ 30) : zz_fin none 263 (0, zz_in [.ref 540, .int a0] (zz_nl 263), [], aa_H g) (aa_post aa_Phi aa_m111 [a0.toInt, (g 540 4).toInt, (g 540 34).toInt] g) := by
  have hK : aa_met aa_Phi aa_m111 := (aa_mL98 aa_hands_met _ List.mem_cons_self)
  refine hK [a0.toInt, (g 540 4).toInt, (g 540 34).toInt] g [.ref 540, .int a0] (aa_vb_new (aa_vb_new (aa_vb_new (⟨rfl, fun i q v hq => by cases hq⟩ : aa_vb [] []) (lo := 0) (hi := 145) (gr := 0) h0.1 h0.2 (fun z => absurd rfl z)) (lo := 0) (hi := 0) (gr := 0) h1.1 h1.2 (fun z => absurd rfl z)) (lo := 1) (hi := 30) (gr := 0) h2.1 h2.2 (fun z => absurd rfl z)) (fun f hf => by cases hf) (fun q hq => ?_) ⟨⟨Nat.succ_ne_zero _, 540, rfl, rfl⟩, ⟨Nat.one_ne_zero, a0, rfl, aa_id_ev rfl⟩, trivial⟩ hi hφ
  rcases List.mem_cons.mp hq with rfl | hq
  · exact ⟨540, 4, _, rfl, rfl, aa_id_ev rfl, by rw [aa_rd_of (by decide)]⟩
  rcases List.mem_cons.mp hq with rfl | hq
  · exact ⟨540, 34, _, rfl, rfl, aa_id_ev rfl, by rw [aa_rd_of (by decide)]⟩
  cases hq
theorem ko_54 {g : aa_G} (hi : aa_inv g) (hφ : aa_Phi g)  : zz_fin none 54 (0, zz_in [.ref 456, .ref 454] (zz_nl 54), [], aa_H g) (aa_post aa_Phi aa_k44 [] g) := by
  have hK : aa_met aa_Phi aa_k44 := aa_met_p3 aa_good_free _ (List.mem_of_getElem? (i := 95) rfl)
  refine hK [] g [.ref 456, .ref 454] (⟨rfl, fun i q v hq => by cases hq⟩ : aa_vb [] []) (fun f hf => by cases hf) (fun q hq => by cases hq) ⟨⟨Nat.succ_ne_zero _, 456, rfl, rfl⟩, ⟨Nat.succ_ne_zero _, 454, rfl, rfl⟩, trivial⟩ hi hφ
theorem ko_38 {g : aa_G} (hi : aa_inv g) (hφ : aa_Phi g)  : zz_fin none 38 (0, zz_in [.ref 1] (zz_nl 38), [], aa_H g) (aa_post aa_Phi aa_k26 [] g) := by
  have hK : aa_met aa_Phi aa_k26 := aa_met_p3 aa_good_free _ (List.mem_of_getElem? (i := 113) rfl)
  refine hK [] g [.ref 1] (⟨rfl, fun i q v hq => by cases hq⟩ : aa_vb [] []) (fun f hf => by cases hf) (fun q hq => by cases hq) ⟨⟨Nat.succ_ne_zero _, 1, rfl, rfl⟩, trivial⟩ hi hφ
/-! ACTS done: the class's acts() -/
noncomputable def ca_st (many : Int32) (z : aa_G × Int32) : (aa_G × Int32) ⊕ (Int32 × aa_G) := if many ≤ z.2 then .inr (many, z.1) else if (fn_57 z.1 z.2).1 ≠ 0 then .inl ((fn_57 z.1 z.2).2, z.2 + 1) else .inr (z.2, zz_w (fn_57 z.1 z.2).2 1 14 z.2)
noncomputable def ca_lp (g : aa_G) (many i : Int32) : Int32 × aa_G := lp_f (0, g) (ca_st many) (g, i)
noncomputable def fn_53 (g : aa_G) : Int32 × aa_G := if (fn_54 g).1 ≠ -1 then ca_lp (zz_w (fn_38 (fn_54 g).2) 1 14 (-1)) (fn_54 g).1 0 else (-1, fn_38 (fn_54 g).2)
/-- while ACTS are done -/
def ca_ok (g : aa_G) : Prop := aa_inv g ∧ aa_Phi g ∧ g 1 14 = -1 ∧ g 454 0 = 0 ∧ g 454 4 = -1
theorem ca_ko {g : aa_G} {i : Int32} (h : ca_ok g) (hi : 0 ≤ i.toInt) : zz_fin none 57 (0, zz_in [.ref 1, .int i] (zz_nl 57), [], aa_H g) (aa_post aa_Phi aa_k56 [i.toInt, (g 1 14).toInt, (g 454 0).toInt, (g 454 4).toInt] g) := by
  obtain ⟨h1, h2, h3, h4, h5⟩ := h
  have e1 : (g 1 14).toInt = -1 := by rw [h3]; rfl
  have e2 : (g 454 0).toInt = 0 := by rw [h4]; rfl
  have e3 : (g 454 4).toInt = -1 := by rw [h5]; rfl
  exact ko_57 h1 h2 ⟨hi, (ko_rng i).2⟩ (by omega) (by omega) (by omega)
theorem ca_next {g : aa_G} {E : Int32 × aa_G} (h : ca_ok g) (k : aa_inv E.2 ∧ aa_Phi E.2 ∧ aa_fr aa_k56.1.2.2 g E.2) : ca_ok E.2 := by
  obtain ⟨h1, h2, h3, h4, h5⟩ := h
  obtain ⟨k1, k2, k3⟩ := k
  exact ⟨k1, k2, (ko_at k3 (by decide +kernel)).trans h3, (ko_at k3 (by decide +kernel)).trans h4, (ko_at k3 (by decide +kernel)).trans h5⟩
theorem ca_run {v : Option Value} {h : zz_H} {many : Int32} {d : Int32 × aa_G} : ∀ (n : Nat) (i : Int32) (g : aa_G), ca_ok g → 0 ≤ i.toInt → rn_s n 53 (30, [some (.ref 1), some (.int many), some (.int i)], [], aa_H g) v h → iw_s v h (lp_f d (ca_st many) (g, i)) := by
  intro n
  induction n using Nat.strongRecOn with
  | _ n ih =>
    intro i g hg hi r
    refine lp_go (P := iw_s v h) ?_
    show lp_q (iw_s v h) d (ca_st many) (if many ≤ i then .inr (many, g) else if (fn_57 g i).1 ≠ 0 then .inl ((fn_57 g i).2, i + 1) else .inr (i, zz_w (fn_57 g i).2 1 14 i))
    obtain ⟨n1, l1, r⟩ := rn_steps 1 (32, [some (.ref 1), some (.int many), some (.int i)], [.int many, .int i], aa_H g) rfl r
    refine rn_ic (lp_q (iw_s v h) d (ca_st many)) rfl decide_eq_true_iff.symm r (fun c l2n l2 r => ?_) (fun c l2n l2 r => ?_)
    · obtain ⟨n3, l3, r⟩ := rn_steps 0 (57, [some (.ref 1), some (.int many), some (.int i)], [.int many], aa_H g) rfl r
      exact rn_ire rfl r
    · obtain ⟨n3, l3, r⟩ := rn_steps 1 (37, [some (.ref 1), some (.int many), some (.int i)], [.int i, .ref 1], aa_H g) rfl r
      obtain ⟨_, n4, v1, h1, -, l4, rc, r⟩ := rn_call (m2 := 57) (as := [.ref 1, .int i]) (rest := []) rfl rfl r
      have d57 := dn_57 (ko_ring hg.1) rc
      have nx := ca_next hg (ko_bw (ca_ko hg hi) d57 rc)
      obtain ⟨rfl, rfl⟩ := d57
      have r : rn_s n4 53 (40, [some (.ref 1), some (.int many), some (.int i)], [.int (fn_57 g i).1], aa_H (fn_57 g i).2) v h := r
      refine rn_if (lp_q (iw_s v h) d (ca_st many)) rfl decide_eq_true_iff.symm r (fun c2 l5n l5 r => ?_) (fun c2 l5n l5 r => ?_)
      · obtain ⟨n6, l6, r⟩ := rn_steps 1 (30, [some (.ref 1), some (.int many), some (.int (i + 1))], [], aa_H (fn_57 g i).2) rfl r
        refine ih n6 (by omega) (i + 1) _ nx ?_ r
        have c' := mt aa_le32.mpr c
        have := many.toInt_lt
        rw [aa_add32 (by rw [show (1 : Int32).toInt = 1 from rfl]; omega) (by rw [show (1 : Int32).toInt = 1 from rfl]; omega), show (1 : Int32).toInt = 1 from rfl]
        omega
      · obtain ⟨n6, l6, r⟩ := rn_steps 3 (49, [some (.ref 1), some (.int many), some (.int i)], [.int i], aa_H (zz_w (fn_57 g i).2 1 14 i)) rfl r
        exact rn_ire rfl r
theorem ca_54 {g : aa_G} {E : Int32 × aa_G} {n : Nat} {v : Option Value} {h : zz_H} (hi : aa_inv g) (hφ : aa_Phi g) (d : iw_s v h E) (r : rn_s n 54 (0, zz_in [.ref 456, .ref 454] (zz_nl 54), [], aa_H g) v h) : (aa_inv E.2 ∧ aa_Phi E.2) ∧ (E.1 ≠ -1 → (E.2 454 4) = -1) := by
  have k := ko_bw (ko_54 hi hφ) d r
  refine ⟨⟨k.1, k.2.1⟩, fun hne => ?_⟩
  obtain ⟨g', e, k1, k2, k3, A, hA, ρ, q1, q2, q3, q4⟩ := rn_fin (ko_54 hi hφ) r
  have e3 : E.2 = g' := ep_H (d.2.symm.trans e)
  rcases List.mem_cons.mp hA with rfl | hA
  · exfalso
    have q4 : aa_mr ([] ++ ρ) [(1, (-1, []))] v := q4
    rw [d.1] at q4
    obtain ⟨-, z, hz, hz2⟩ := q4
    have hz := Option.some.inj hz
    injection hz with hz
    have hz2 : (-1 : Int) = z.toInt := Option.some.inj hz2
    exact hne (ti_eq.mpr (by rw [hz, ← hz2]; rfl))
  · rcases List.mem_cons.mp hA with rfl | hA
    · have w := aa_vh_at q3 (k := 454) (j := 4) (r := (454, [])) (sl := (4, [])) (f := (-1, [])) List.mem_cons_self rfl rfl
      have w : (-1 : Int) = aa_rd g' 454 4 := Option.some.inj w
      rw [aa_rd_of (by decide)] at w
      rw [e3]
      exact ti_eq.mpr w.symm
    · cases hA
theorem dn_53 {v : Option Value} {h : zz_H} {n : Nat} {g : aa_G} (hi : aa_inv g) (hφ : aa_Phi g) (r : rn_s n 53 (0, zz_in [.ref 1] (zz_nl 53), [], aa_H g) v h) : iw_s v h (fn_53 g) := by
  have r : rn_s n 53 (0, [some (.ref 1), none, none], [], aa_H g) v h := r
  unfold fn_53
  obtain ⟨n1, l1, r⟩ := rn_steps 3 (8, [some (.ref 1), none, none], [.ref 454, .ref 456], aa_H g) rfl r
  obtain ⟨_, n2, v1, h1, -, l2, rc, r⟩ := rn_call (m2 := 54) (as := [.ref 456, .ref 454]) (rest := []) rfl rfl r
  have d54 := dn_54 rc
  obtain ⟨⟨i1, f1⟩, fl⟩ := ca_54 hi hφ d54 rc
  obtain ⟨rfl, rfl⟩ := d54
  have r : rn_s n2 53 (11, [some (.ref 1), none, none], [.int (fn_54 g).1], aa_H (fn_54 g).2) v h := r
  obtain ⟨n3, l3, r⟩ := rn_steps 1 (13, [some (.ref 1), some (.int (fn_54 g).1), none], [.ref 1], aa_H (fn_54 g).2) rfl r
  obtain ⟨_, n4, v1, h1, -, l4, rc, r⟩ := rn_call (m2 := 38) (as := [.ref 1]) (rest := []) rfl rfl r
  have d38 := dn_38 rc
  have k38 := ko_bv (ko_38 i1 f1) d38 rc
  obtain ⟨rfl, rfl⟩ := d38
  have r : rn_s n4 53 (16, [some (.ref 1), some (.int (fn_54 g).1), none], [], aa_H (fn_38 (fn_54 g).2)) v h := r
  obtain ⟨n5, l5, r⟩ := rn_steps 1 (18, [some (.ref 1), some (.int (fn_54 g).1), none], [.int (-1), .int (fn_54 g).1], aa_H (fn_38 (fn_54 g).2)) rfl r
  refine rn_ic (iw_s v h) rfl decide_eq_true_iff.symm r (fun c l6n l6 r => ?_) (fun c l6n l6 r => ?_)
  · obtain ⟨n7, l7, r⟩ := rn_steps 4 (30, [some (.ref 1), some (.int (fn_54 g).1), some (.int 0)], [], aa_H (zz_w (fn_38 (fn_54 g).2) 1 14 (-1))) rfl r
    have e38 : ∀ x : aa_G, fn_38 x = zz_w (zz_w x 1 13 (x 454 4)) 454 0 0 := fun x => rfl
    refine ca_run _ 0 _ ⟨aa_inv_w k38.1 (by decide +kernel) (by decide +kernel), ko_Phi (by omega) k38.2.1, aa_w_at _ _ _ _, ?_, ?_⟩ (by decide) r
    · rw [aa_w_ne _ _ (by omega), e38, aa_w_at]
    · rw [aa_w_ne _ _ (by omega), e38, aa_w_ne _ _ (by omega), aa_w_ne _ _ (by omega)]
      exact fl c
  · obtain ⟨n7, l7, r⟩ := rn_steps 0 (22, [some (.ref 1), some (.int (fn_54 g).1), none], [.int (-1)], aa_H (fn_38 (fn_54 g).2)) rfl r
    exact rn_ire rfl r
