/-! A TEXT: the class reads all items -/
theorem ct_res_fr {g g1 : aa_G} {b : Nat → Int32} {n : Nat} {r : Nat ⊕ (Nat × sp_A)} {v : Option Value} {h : zz_H} (hf : ct_fr g g1) (k : ct_res g1 b n r v h) : ct_res g b n r v h := by
  rcases k with ⟨f, k1, k2, g', k3, k4⟩ | ⟨q, A', k1, k2, k3, g', k4, k5, k6⟩
  · exact .inl ⟨f, k1, k2, g', k3, hf.bad2 k4⟩
  · exact .inr ⟨q, A', k1, k2, k3, g', k4, hf.tr k5, k6⟩
theorem hb_lt {b : Nat → Int32} {n p : Nat} {c : Int32} (h : sp_hb b n p = c) (hc : c ≠ -1) : p < n := Decidable.byContradiction fun z => hc (by rw [← h]; exact if_neg z)
theorem ct_item {g : aa_G} {b : Nat → Int32} {n p : Nat} {A : sp_A} (h : tc_ok g b n) (hA : cvs g 34 A) (hp : p ≤ n) : zz_fin none 23 (0, zz_in [.ref 454, .ref 34] (zz_nl 23), [], aa_H (tc_at g b n p)) (ct_res g b n (sp_item b n p A)) := by
  have bad : sp_item b n p A = .inl p → ∀ v h', (v = some (Value.int 0) ∧ ∃ g', h' = aa_H g' ∧ tc_bad g p g') → ct_res g b n (sp_item b n p A) v h' := fun e v h' ⟨e1, g', e2, e3⟩ => .inl ⟨p, e, e1, g', e2, ct_fr.rf.bad e3⟩
  refine zz_fin.steps (n := 5) (s' := (8, [some (.ref 454), some (.ref 34), some (.int (sp_hb b n p)), none, none, none], [.int 116, .int (sp_hb b n p)], aa_H (tc_at g b n p))) rfl ?_
  refine zz_fin.ic rfl (fun c1 => ?_) (fun c1 => ?_)
  · have c1 : sp_hb b n p ≠ 116 := of_decide_eq_true c1
    refine zz_fin.steps (n := 1) (s' := (18, [some (.ref 454), some (.ref 34), some (.int (sp_hb b n p)), none, none, none], [.ref 34], aa_H (tc_at g b n p))) rfl ?_
    refine zz_fin.call rfl rfl (Nat.le_of_ble_eq_true rfl) (ct_last (t := A.1.1) hA.2.1 (cvs_at hA).1) ?_
    rintro v h ⟨⟨e0, rfl⟩ | ⟨e0, rfl⟩, rfl⟩
    · have e : sp_item b n p A = .inl p := by rw [show sp_item b n p A = _ from if_neg c1, if_neg fun z => z.2.1 e0]
      refine zz_fin.steps (n := 3) (s' := (25, [some (.ref 454), some (.ref 34), some (.int (sp_hb b n p)), some (.null), none, none], [.int 112, .int (sp_hb b n p)], aa_H (tc_at g b n p))) rfl ?_
      refine zz_fin.ic rfl (fun c2 => ?_) (fun c2 => ?_)
      · refine zz_fin.steps (n := 4) (s' := (43, [some (.ref 454), some (.ref 34), some (.int (sp_hb b n p)), some (.null), some (.int 1), none], [.int 1], aa_H (tc_at g b n p))) rfl ?_
        refine zz_fin.if rfl (fun cz => zc_no1 cz) (fun cz => ?_)
        refine zz_fin.steps (n := 3) (s' := (60, [some (.ref 454), some (.ref 34), some (.int (sp_hb b n p)), some (.null), some (.int 1), none], [.ref 454], aa_H (tc_at g b n p))) rfl ?_
        refine zz_fin.call rfl rfl (Nat.le_of_ble_eq_true rfl) (tc_fail) ?_
        rintro v h' ⟨rfl, g', rfl, hg⟩
        exact zz_fin.at (n := 1) rfl (bad e _ _ ⟨rfl, g', rfl, hg⟩)
      · refine zz_fin.steps (n := 2) (s' := (31, [some (.ref 454), some (.ref 34), some (.int (sp_hb b n p)), some (.null), none, none], [.int 120, .int (sp_hb b n p)], aa_H (tc_at g b n p))) rfl ?_
        refine zz_fin.ic rfl (fun c3 => ?_) (fun c3 => ?_)
        · refine zz_fin.steps (n := 3) (s' := (43, [some (.ref 454), some (.ref 34), some (.int (sp_hb b n p)), some (.null), some (.int 0), none], [.int 0], aa_H (tc_at g b n p))) rfl ?_
          refine zz_fin.if rfl (fun cz => ?_) (fun cz => zc_no0 cz)
          refine zz_fin.steps (n := 1) (s' := (60, [some (.ref 454), some (.ref 34), some (.int (sp_hb b n p)), some (.null), some (.int 0), none], [.ref 454], aa_H (tc_at g b n p))) rfl ?_
          refine zz_fin.call rfl rfl (Nat.le_of_ble_eq_true rfl) (tc_fail) ?_
          rintro v h' ⟨rfl, g', rfl, hg⟩
          exact zz_fin.at (n := 1) rfl (bad e _ _ ⟨rfl, g', rfl, hg⟩)
        · refine zz_fin.steps (n := 4) (s' := (43, [some (.ref 454), some (.ref 34), some (.int (sp_hb b n p)), some (.null), some (.int 1), none], [.int 1], aa_H (tc_at g b n p))) rfl ?_
          refine zz_fin.if rfl (fun cz => zc_no1 cz) (fun cz => ?_)
          refine zz_fin.steps (n := 3) (s' := (60, [some (.ref 454), some (.ref 34), some (.int (sp_hb b n p)), some (.null), some (.int 1), none], [.ref 454], aa_H (tc_at g b n p))) rfl ?_
          refine zz_fin.call rfl rfl (Nat.le_of_ble_eq_true rfl) (tc_fail) ?_
          rintro v h' ⟨rfl, g', rfl, hg⟩
          exact zz_fin.at (n := 1) rfl (bad e _ _ ⟨rfl, g', rfl, hg⟩)
    · have ht : A.1.1 - 1 < 4 := by have := hA.2.1; omega
      have hT := (cvs_at (b := b) (n := n) (p := p) hA).2.2 (A.1.1 - 1) (by omega)
      refine zz_fin.steps (n := 3) (s' := (25, [some (.ref 454), some (.ref 34), some (.int (sp_hb b n p)), some (.ref (5 * (A.1.1 - 1) + 46)), none, none], [.int 112, .int (sp_hb b n p)], aa_H (tc_at g b n p))) rfl ?_
      refine zz_fin.ic rfl (fun c2 => ?_) (fun c2 => ?_)
      · have c2 : sp_hb b n p = 112 := of_decide_eq_true c2
        have hlet : sp_hb b n p = 112 ∨ sp_hb b n p = 120 := .inl c2
        have hp1 : p < n := hb_lt c2 (by decide)
        refine zz_fin.steps (n := 4) (s' := (43, [some (.ref 454), some (.ref 34), some (.int (sp_hb b n p)), some (.ref (5 * (A.1.1 - 1) + 46)), some (.int 1), none], [.int 1], aa_H (tc_at g b n p))) rfl ?_
        refine zz_fin.if rfl (fun cz => zc_no1 cz) (fun cz => ?_)
        refine zz_fin.steps (n := 3) (s' := (51, [some (.ref 454), some (.ref 34), some (.int (sp_hb b n p)), some (.ref (5 * (A.1.1 - 1) + 46)), some (.int 1), none], [.ref (5 * (A.1.1 - 1) + 46)], aa_H (tc_at g b n p))) rfl ?_
        refine zz_fin.gt1_34 ht rfl ?_
        rw [hT.2.1]
        refine zz_fin.steps (n := 1) (s' := (56, [some (.ref 454), some (.ref 34), some (.int (sp_hb b n p)), some (.ref (5 * (A.1.1 - 1) + 46)), some (.int 1), none], [.int 12, .int (Int32.ofNat (A.2.1 (A.1.1 - 1)))], aa_H (tc_at g b n p))) rfl ?_
        refine zz_fin.ic rfl (fun c4 => ?_) (fun c4 => ?_)
        · have c4 : (Int32.ofNat (A.2.1 (A.1.1 - 1))).toInt < (12 : Int32).toInt := aa_lt32.mp (of_decide_eq_true c4)
          have hc12 := hT.2.2.1
          rw [zz_ofN (by omega), show (12 : Int32).toInt = 12 from rfl] at c4
          have c4 : A.2.1 (A.1.1 - 1) < 12 := by omega
          rw [show sp_item b n p A = _ from if_neg c1, if_pos ⟨hlet, e0, by omega⟩]
          refine zz_fin.steps (n := 1) (s' := (65, [some (.ref 454), some (.ref 34), some (.int (sp_hb b n p)), some (.ref (5 * (A.1.1 - 1) + 46)), some (.int 1), none], [.ref 454], aa_H (tc_at g b n p))) rfl ?_
          refine zz_fin.call rfl rfl (Nat.le_of_ble_eq_true rfl) (tc_step h hp1) ?_
          rintro v h ⟨rfl, rfl⟩
          have hT2 := (cvs_at (b := b) (n := n) (p := p + 1) hA).2.2 (A.1.1 - 1) (by omega)
          refine zz_fin.steps (n := 3) (s' := (71, [some (.ref 454), some (.ref 34), some (.int (sp_hb b n p)), some (.ref (5 * (A.1.1 - 1) + 46)), some (.int 1), none], [.ref (5 * (A.1.1 - 1) + 46), .int 1, .ref 454], aa_H (tc_at g b n (p + 1)))) rfl ?_
          refine zz_fin.callv (k := 5 * (A.1.1 - 1) + 45) (as := []) rfl rfl rfl (dt_obj_34 ht) (Nat.le_of_ble_eq_true rfl) (Nat.le_of_ble_eq_true rfl) (dt_lat_34 ht hT2.2.2.1 hT2.2.1) ?_
          rintro v h ⟨rfl, rfl⟩
          have hlow : (if A.2.1 (A.1.1 - 1) = 0 then -1 else tc_at g b n (p + 1) (5 * (A.1.1 - 1) + 47) (A.2.1 (A.1.1 - 1) - 1)) + 1 = sp_low A := by
            unfold sp_low
            by_cases z : A.2.1 (A.1.1 - 1) = 0
            · rw [if_pos z, if_pos z]
            · rw [if_neg z, if_neg z]
              exact congrArg (· + 1) (hT2.2.2.2 (A.2.1 (A.1.1 - 1) - 1) (by omega)).1
          generalize (if A.2.1 (A.1.1 - 1) = 0 then -1 else tc_at g b n (p + 1) (5 * (A.1.1 - 1) + 47) (A.2.1 (A.1.1 - 1) - 1)) = LOW at hlow ⊢
          rw [← hlow]
          refine zz_fin.steps (n := 3) (s' := (79, [some (.ref 454), some (.ref 34), some (.int (sp_hb b n p)), some (.ref (5 * (A.1.1 - 1) + 46)), some (.int 1), none], [.int 359, .int (LOW + 1), .int 1, .ref 454], aa_H (tc_at g b n (p + 1)))) rfl ?_
          refine zz_fin.call rfl rfl (Nat.le_of_ble_eq_true rfl) (tc_num (neg := true) h (p := p + 1) hp1 (LOW + 1) 359) ?_
          rintro v h (⟨f, hf, rfl, g', rfl, hg⟩ | ⟨q, z, hq, rfl, rfl⟩)
          · rw [hf]
            refine zz_fin.if rfl (fun cz => absurd cz (by decide)) (fun cz => ?_)
            refine zz_fin.steps (n := 1) (s' := (86, [some (.ref 454), some (.ref 34), some (.int (sp_hb b n p)), some (.ref (5 * (A.1.1 - 1) + 46)), some (.int 1), none], [.int 0], aa_H (g'))) rfl ?_
            exact zz_fin.at (n := 1) rfl (.inl ⟨f, rfl, rfl, g', rfl, ct_fr.rf.bad hg⟩)
          · rw [hq]
            have hqn := sp_num_n hq hp1
            refine zz_fin.if rfl (fun cz => ?_) (fun cz => absurd rfl cz)
            unfold sp_then sp_pass
            dsimp only
            refine zz_fin.steps (n := 5) (s' := (96, [some (.ref 454), some (.ref 34), some (.int (sp_hb b n p)), some (.ref (5 * (A.1.1 - 1) + 46)), some (.int 1), some (.int z)], [.int 44, .ref 454], aa_H (tc_at (zz_w g 454 3 z) b n q))) rfl ?_
            refine zz_fin.call rfl rfl (Nat.le_of_ble_eq_true rfl) (tc_pass (tc_ok3 h z) (by decide)) ?_
            rintro v h (⟨rfl, hs, hqn2, rfl⟩ | ⟨rfl, hs, g', rfl, hg⟩)
            · rw [if_pos hs]
              refine zz_fin.if rfl (fun cz => zc_no1 cz) (fun cz => ?_)
              refine zz_fin.steps (n := 2) (s' := (105, [some (.ref 454), some (.ref 34), some (.int (sp_hb b n p)), some (.ref (5 * (A.1.1 - 1) + 46)), some (.int 1), some (.int z)], [.int 112, .int (sp_hb b n p)], aa_H (tc_at (zz_w g 454 3 z) b n (q + 1)))) rfl ?_
              rw [if_pos c2, c2]
              refine zz_fin.ic rfl (fun cz => absurd cz (by decide)) (fun cz => ?_)
              refine zz_fin.steps (n := 3) (s' := (112, [some (.ref 454), some (.ref 34), some (.int 112), some (.ref (5 * (A.1.1 - 1) + 46)), some (.int 1), some (.int z)], [.int z, .ref (5 * (A.1.1 - 1) + 46), .ref 454], aa_H (tc_at (zz_w g 454 3 z) b n (q + 1)))) rfl ?_
              refine zz_fin.call rfl rfl (Nat.le_of_ble_eq_true rfl) (ct_hours (tc_ok3 h z) (cvs_num hA) (p := q + 1) hqn2 (t := A.1.1 - 1) (by omega) c4) ?_
              rintro v h' hres
              have hres := ct_res_fr (ct_fr.num z) hres
              rcases hres with ⟨f, k1, rfl, k2⟩ | ⟨q, A', k1, k2, rfl, g', rfl, k4⟩
              · obtain ⟨g', rfl, k2⟩ := k2
                refine zz_fin.if rfl (fun cz => ?_) (fun cz => zc_no0 cz)
                refine zz_fin.steps (n := 1) (s' := (136, [some (.ref 454), some (.ref 34), some (.int 112), some (.ref (5 * (A.1.1 - 1) + 46)), some (.int 1), some (.int z)], [.int 0], aa_H (g'))) rfl ?_
                exact zz_fin.at (n := 1) rfl (.inl ⟨f, k1, rfl, g', rfl, k2⟩)
              · refine zz_fin.if rfl (fun cz => zc_no1 cz) (fun cz => ?_)
                refine zz_fin.steps (n := 3) (s' := (136, [some (.ref 454), some (.ref 34), some (.int 112), some (.ref (5 * (A.1.1 - 1) + 46)), some (.int 1), some (.int z)], [.int 1], aa_H (tc_at g' b n q))) rfl ?_
                exact zz_fin.at (n := 1) rfl (.inr ⟨q, A', k1, k2, rfl, g', rfl, k4⟩)
            · rw [if_neg hs]
              refine zz_fin.if rfl (fun cz => ?_) (fun cz => zc_no0 cz)
              refine zz_fin.steps (n := 1) (s' := (136, [some (.ref 454), some (.ref 34), some (.int (sp_hb b n p)), some (.ref (5 * (A.1.1 - 1) + 46)), some (.int 1), some (.int z)], [.int 0], aa_H (g'))) rfl ?_
              exact zz_fin.at (n := 1) rfl (.inl ⟨q, rfl, rfl, g', rfl, (ct_fr.num z).bad hg⟩)
        · have hc12 := hT.2.2.1
          have c4 : A.2.1 (A.1.1 - 1) = 12 := Decidable.byContradiction fun z => c4 (decide_eq_true (aa_lt32.mpr (by rw [zz_ofN (by omega), show (12 : Int32).toInt = 12 from rfl]; omega)))
          have e : sp_item b n p A = .inl p := by rw [show sp_item b n p A = _ from if_neg c1, if_neg fun z => z.2.2 c4]
          refine zz_fin.steps (n := 1) (s' := (60, [some (.ref 454), some (.ref 34), some (.int (sp_hb b n p)), some (.ref (5 * (A.1.1 - 1) + 46)), some (.int 1), none], [.ref 454], aa_H (tc_at g b n p))) rfl ?_
          refine zz_fin.call rfl rfl (Nat.le_of_ble_eq_true rfl) (tc_fail) ?_
          rintro v h' ⟨rfl, g', rfl, hg⟩
          exact zz_fin.at (n := 1) rfl (bad e _ _ ⟨rfl, g', rfl, hg⟩)
      · have c2 : sp_hb b n p ≠ 112 := fun z => c2 (decide_eq_true z)
        refine zz_fin.steps (n := 2) (s' := (31, [some (.ref 454), some (.ref 34), some (.int (sp_hb b n p)), some (.ref (5 * (A.1.1 - 1) + 46)), none, none], [.int 120, .int (sp_hb b n p)], aa_H (tc_at g b n p))) rfl ?_
        refine zz_fin.ic rfl (fun c3 => ?_) (fun c3 => ?_)
        · have c3 : sp_hb b n p ≠ 120 := of_decide_eq_true c3
          have e : sp_item b n p A = .inl p := by rw [show sp_item b n p A = _ from if_neg c1, if_neg fun z => z.1.elim c2 c3]
          refine zz_fin.steps (n := 3) (s' := (43, [some (.ref 454), some (.ref 34), some (.int (sp_hb b n p)), some (.ref (5 * (A.1.1 - 1) + 46)), some (.int 0), none], [.int 0], aa_H (tc_at g b n p))) rfl ?_
          refine zz_fin.if rfl (fun cz => ?_) (fun cz => zc_no0 cz)
          refine zz_fin.steps (n := 1) (s' := (60, [some (.ref 454), some (.ref 34), some (.int (sp_hb b n p)), some (.ref (5 * (A.1.1 - 1) + 46)), some (.int 0), none], [.ref 454], aa_H (tc_at g b n p))) rfl ?_
          refine zz_fin.call rfl rfl (Nat.le_of_ble_eq_true rfl) (tc_fail) ?_
          rintro v h' ⟨rfl, g', rfl, hg⟩
          exact zz_fin.at (n := 1) rfl (bad e _ _ ⟨rfl, g', rfl, hg⟩)
        · have c3 : sp_hb b n p = 120 := Decidable.byContradiction fun z => c3 (decide_eq_true z)
          have hlet : sp_hb b n p = 112 ∨ sp_hb b n p = 120 := .inr c3
          have hp1 : p < n := hb_lt c3 (by decide)
          refine zz_fin.steps (n := 4) (s' := (43, [some (.ref 454), some (.ref 34), some (.int (sp_hb b n p)), some (.ref (5 * (A.1.1 - 1) + 46)), some (.int 1), none], [.int 1], aa_H (tc_at g b n p))) rfl ?_
          refine zz_fin.if rfl (fun cz => zc_no1 cz) (fun cz => ?_)
          refine zz_fin.steps (n := 3) (s' := (51, [some (.ref 454), some (.ref 34), some (.int (sp_hb b n p)), some (.ref (5 * (A.1.1 - 1) + 46)), some (.int 1), none], [.ref (5 * (A.1.1 - 1) + 46)], aa_H (tc_at g b n p))) rfl ?_
          refine zz_fin.gt1_34 ht rfl ?_
          rw [hT.2.1]
          refine zz_fin.steps (n := 1) (s' := (56, [some (.ref 454), some (.ref 34), some (.int (sp_hb b n p)), some (.ref (5 * (A.1.1 - 1) + 46)), some (.int 1), none], [.int 12, .int (Int32.ofNat (A.2.1 (A.1.1 - 1)))], aa_H (tc_at g b n p))) rfl ?_
          refine zz_fin.ic rfl (fun c4 => ?_) (fun c4 => ?_)
          · have c4 : (Int32.ofNat (A.2.1 (A.1.1 - 1))).toInt < (12 : Int32).toInt := aa_lt32.mp (of_decide_eq_true c4)
            have hc12 := hT.2.2.1
            rw [zz_ofN (by omega), show (12 : Int32).toInt = 12 from rfl] at c4
            have c4 : A.2.1 (A.1.1 - 1) < 12 := by omega
            rw [show sp_item b n p A = _ from if_neg c1, if_pos ⟨hlet, e0, by omega⟩]
            refine zz_fin.steps (n := 1) (s' := (65, [some (.ref 454), some (.ref 34), some (.int (sp_hb b n p)), some (.ref (5 * (A.1.1 - 1) + 46)), some (.int 1), none], [.ref 454], aa_H (tc_at g b n p))) rfl ?_
            refine zz_fin.call rfl rfl (Nat.le_of_ble_eq_true rfl) (tc_step h hp1) ?_
            rintro v h ⟨rfl, rfl⟩
            have hT2 := (cvs_at (b := b) (n := n) (p := p + 1) hA).2.2 (A.1.1 - 1) (by omega)
            refine zz_fin.steps (n := 3) (s' := (71, [some (.ref 454), some (.ref 34), some (.int (sp_hb b n p)), some (.ref (5 * (A.1.1 - 1) + 46)), some (.int 1), none], [.ref (5 * (A.1.1 - 1) + 46), .int 1, .ref 454], aa_H (tc_at g b n (p + 1)))) rfl ?_
            refine zz_fin.callv (k := 5 * (A.1.1 - 1) + 45) (as := []) rfl rfl rfl (dt_obj_34 ht) (Nat.le_of_ble_eq_true rfl) (Nat.le_of_ble_eq_true rfl) (dt_lat_34 ht hT2.2.2.1 hT2.2.1) ?_
            rintro v h ⟨rfl, rfl⟩
            have hlow : (if A.2.1 (A.1.1 - 1) = 0 then -1 else tc_at g b n (p + 1) (5 * (A.1.1 - 1) + 47) (A.2.1 (A.1.1 - 1) - 1)) + 1 = sp_low A := by
              unfold sp_low
              by_cases z : A.2.1 (A.1.1 - 1) = 0
              · rw [if_pos z, if_pos z]
              · rw [if_neg z, if_neg z]
                exact congrArg (· + 1) (hT2.2.2.2 (A.2.1 (A.1.1 - 1) - 1) (by omega)).1
            generalize (if A.2.1 (A.1.1 - 1) = 0 then -1 else tc_at g b n (p + 1) (5 * (A.1.1 - 1) + 47) (A.2.1 (A.1.1 - 1) - 1)) = LOW at hlow ⊢
            rw [← hlow]
            refine zz_fin.steps (n := 3) (s' := (79, [some (.ref 454), some (.ref 34), some (.int (sp_hb b n p)), some (.ref (5 * (A.1.1 - 1) + 46)), some (.int 1), none], [.int 359, .int (LOW + 1), .int 1, .ref 454], aa_H (tc_at g b n (p + 1)))) rfl ?_
            refine zz_fin.call rfl rfl (Nat.le_of_ble_eq_true rfl) (tc_num (neg := true) h (p := p + 1) hp1 (LOW + 1) 359) ?_
            rintro v h (⟨f, hf, rfl, g', rfl, hg⟩ | ⟨q, z, hq, rfl, rfl⟩)
            · rw [hf]
              refine zz_fin.if rfl (fun cz => absurd cz (by decide)) (fun cz => ?_)
              refine zz_fin.steps (n := 1) (s' := (86, [some (.ref 454), some (.ref 34), some (.int (sp_hb b n p)), some (.ref (5 * (A.1.1 - 1) + 46)), some (.int 1), none], [.int 0], aa_H (g'))) rfl ?_
              exact zz_fin.at (n := 1) rfl (.inl ⟨f, rfl, rfl, g', rfl, ct_fr.rf.bad hg⟩)
            · rw [hq]
              have hqn := sp_num_n hq hp1
              refine zz_fin.if rfl (fun cz => ?_) (fun cz => absurd rfl cz)
              unfold sp_then sp_pass
              dsimp only
              refine zz_fin.steps (n := 5) (s' := (96, [some (.ref 454), some (.ref 34), some (.int (sp_hb b n p)), some (.ref (5 * (A.1.1 - 1) + 46)), some (.int 1), some (.int z)], [.int 44, .ref 454], aa_H (tc_at (zz_w g 454 3 z) b n q))) rfl ?_
              refine zz_fin.call rfl rfl (Nat.le_of_ble_eq_true rfl) (tc_pass (tc_ok3 h z) (by decide)) ?_
              rintro v h (⟨rfl, hs, hqn2, rfl⟩ | ⟨rfl, hs, g', rfl, hg⟩)
              · rw [if_pos hs]
                refine zz_fin.if rfl (fun cz => zc_no1 cz) (fun cz => ?_)
                refine zz_fin.steps (n := 2) (s' := (105, [some (.ref 454), some (.ref 34), some (.int (sp_hb b n p)), some (.ref (5 * (A.1.1 - 1) + 46)), some (.int 1), some (.int z)], [.int 112, .int (sp_hb b n p)], aa_H (tc_at (zz_w g 454 3 z) b n (q + 1)))) rfl ?_
                rw [if_neg c2, c3]
                refine zz_fin.ic rfl (fun cz => ?_) (fun cz => absurd rfl cz)
                refine zz_fin.steps (n := 3) (s' := (125, [some (.ref 454), some (.ref 34), some (.int 120), some (.ref (5 * (A.1.1 - 1) + 46)), some (.int 1), some (.int z)], [.int z, .ref (5 * (A.1.1 - 1) + 46), .ref 454], aa_H (tc_at (zz_w g 454 3 z) b n (q + 1)))) rfl ?_
                refine zz_fin.call rfl rfl (Nat.le_of_ble_eq_true rfl) (ct_kind (tc_ok3 h z) (cvs_num hA) (p := q + 1) hqn2 (t := A.1.1 - 1) (by omega) c4) ?_
                rintro v h' hres
                have hres := ct_res_fr (ct_fr.num z) hres
                rcases hres with ⟨f, k1, rfl, k2⟩ | ⟨q, A', k1, k2, rfl, g', rfl, k4⟩
                · obtain ⟨g', rfl, k2⟩ := k2
                  refine zz_fin.if rfl (fun cz => ?_) (fun cz => zc_no0 cz)
                  refine zz_fin.steps (n := 1) (s' := (136, [some (.ref 454), some (.ref 34), some (.int 120), some (.ref (5 * (A.1.1 - 1) + 46)), some (.int 1), some (.int z)], [.int 0], aa_H (g'))) rfl ?_
                  exact zz_fin.at (n := 1) rfl (.inl ⟨f, k1, rfl, g', rfl, k2⟩)
                · refine zz_fin.if rfl (fun cz => zc_no1 cz) (fun cz => ?_)
                  refine zz_fin.steps (n := 2) (s' := (136, [some (.ref 454), some (.ref 34), some (.int 120), some (.ref (5 * (A.1.1 - 1) + 46)), some (.int 1), some (.int z)], [.int 1], aa_H (tc_at g' b n q))) rfl ?_
                  exact zz_fin.at (n := 1) rfl (.inr ⟨q, A', k1, k2, rfl, g', rfl, k4⟩)
              · rw [if_neg hs]
                refine zz_fin.if rfl (fun cz => ?_) (fun cz => zc_no0 cz)
                refine zz_fin.steps (n := 1) (s' := (136, [some (.ref 454), some (.ref 34), some (.int (sp_hb b n p)), some (.ref (5 * (A.1.1 - 1) + 46)), some (.int 1), some (.int z)], [.int 0], aa_H (g'))) rfl ?_
                exact zz_fin.at (n := 1) rfl (.inl ⟨q, rfl, rfl, g', rfl, (ct_fr.num z).bad hg⟩)
          · have hc12 := hT.2.2.1
            have c4 : A.2.1 (A.1.1 - 1) = 12 := Decidable.byContradiction fun z => c4 (decide_eq_true (aa_lt32.mpr (by rw [zz_ofN (by omega), show (12 : Int32).toInt = 12 from rfl]; omega)))
            have e : sp_item b n p A = .inl p := by rw [show sp_item b n p A = _ from if_neg c1, if_neg fun z => z.2.2 c4]
            refine zz_fin.steps (n := 1) (s' := (60, [some (.ref 454), some (.ref 34), some (.int (sp_hb b n p)), some (.ref (5 * (A.1.1 - 1) + 46)), some (.int 1), none], [.ref 454], aa_H (tc_at g b n p))) rfl ?_
            refine zz_fin.call rfl rfl (Nat.le_of_ble_eq_true rfl) (tc_fail) ?_
            rintro v h' ⟨rfl, g', rfl, hg⟩
            exact zz_fin.at (n := 1) rfl (bad e _ _ ⟨rfl, g', rfl, hg⟩)
  · have c1 : sp_hb b n p = 116 := Decidable.byContradiction fun z => c1 (decide_eq_true z)
    rw [show sp_item b n p A = sp_rtown b n p A from if_pos c1]
    refine zz_fin.steps (n := 2) (s' := (13, [some (.ref 454), some (.ref 34), some (.int (sp_hb b n p)), none, none, none], [.ref 34, .ref 454], aa_H (tc_at g b n p))) rfl ?_
    refine zz_fin.call rfl rfl (Nat.le_of_ble_eq_true rfl) (ct_rtown h hA (hb_lt c1 (by decide))) ?_
    rintro v h' hres
    rcases hres with ⟨f, k1, rfl, k2⟩ | ⟨q, A', k1, k2, rfl, k3⟩
    · exact zz_fin.at (n := 1) rfl (.inl ⟨f, k1, rfl, k2⟩)
    · exact zz_fin.at (n := 1) rfl (.inr ⟨q, A', k1, k2, rfl, k3⟩)
