/-! METHODS READ (printed by wip/dc/dc.py) -/
-- 82: java/lang/Math floorDiv
noncomputable def fn_82 (a0 : Int32) (a1 : Int32) : Int32 := if 0 ≤ (a0 ^^^ a1) then a0 / a1 else if ((a0 / a1) * a1) = a0 then a0 / a1 else (a0 / a1) - 1
theorem dn_82 {v : Option Value} {h : zz_H} {n : Nat} {g : aa_G} {a0 : Int32} {a1 : Int32}  (r : rn_s n 82 (0, zz_in [.int a0, .int a1] (zz_nl 82), [], aa_H g) v h) : ir_s g v h (fn_82 a0 a1) := by
  have r : rn_s n 82 (0, [some (.int a0), some (.int a1), none], [], aa_H g) v h := r
  unfold fn_82
  obtain ⟨n1, ln1, r⟩ := rn_steps 1 (2, [some (.int a0), some (.int a1), none], [.int a1, .int a0], aa_H g) rfl r
  obtain ⟨hd3, n2, ln2, r⟩ := rn_div rfl r
  have r : rn_s _ 82 (3, [some (.int a0), some (.int a1), none], [.int (a0 / a1)], aa_H g) v h := r
  obtain ⟨n4, ln4, r⟩ := rn_steps 3 (7, [some (.int a0), some (.int a1), some (.int (a0 / a1))], [.int (a0 ^^^ a1)], aa_H g) rfl r
  refine rn_if (ir_s g v h) rfl decide_eq_true_iff.symm r (fun c5 l6n l6 r => ?_) (fun c5 l6n l6 r => ?_)
  · obtain ⟨n7, ln7, r⟩ := rn_steps 0 (22, [some (.int a0), some (.int a1), some (.int (a0 / a1))], [.int (a0 / a1)], aa_H g) rfl r
    exact rn_ire rfl r
  · obtain ⟨n8, ln8, r⟩ := rn_steps 3 (14, [some (.int a0), some (.int a1), some (.int (a0 / a1))], [.int a0, .int ((a0 / a1) * a1)], aa_H g) rfl r
    refine rn_ic (ir_s g v h) rfl decide_eq_true_iff.symm r (fun c9 l10n l10 r => ?_) (fun c9 l10n l10 r => ?_)
    · obtain ⟨n11, ln11, r⟩ := rn_steps 0 (22, [some (.int a0), some (.int a1), some (.int (a0 / a1))], [.int (a0 / a1)], aa_H g) rfl r
      exact rn_ire rfl r
    · obtain ⟨n12, ln12, r⟩ := rn_steps 2 (20, [some (.int a0), some (.int a1), some (.int (a0 / a1))], [.int ((a0 / a1) - 1)], aa_H g) rfl r
      exact rn_ire rfl r
-- 81: java/lang/Math floorMod
noncomputable def fn_81 (a0 : Int32) (a1 : Int32) : Int32 := if 0 ≤ (a0 ^^^ a1) then a0 - a0 / a1 * a1 else if (a0 - a0 / a1 * a1) = 0 then a0 - a0 / a1 * a1 else (a0 - a0 / a1 * a1) + a1
theorem dn_81 {v : Option Value} {h : zz_H} {n : Nat} {g : aa_G} {a0 : Int32} {a1 : Int32}  (r : rn_s n 81 (0, zz_in [.int a0, .int a1] (zz_nl 81), [], aa_H g) v h) : ir_s g v h (fn_81 a0 a1) := by
  have r : rn_s n 81 (0, [some (.int a0), some (.int a1), none], [], aa_H g) v h := r
  unfold fn_81
  obtain ⟨n1, ln1, r⟩ := rn_steps 1 (2, [some (.int a0), some (.int a1), none], [.int a1, .int a0], aa_H g) rfl r
  obtain ⟨hd3, n2, ln2, r⟩ := rn_rem rfl r
  have r : rn_s _ 81 (3, [some (.int a0), some (.int a1), none], [.int (a0 - a0 / a1 * a1)], aa_H g) v h := r
  obtain ⟨n4, ln4, r⟩ := rn_steps 3 (7, [some (.int a0), some (.int a1), some (.int (a0 - a0 / a1 * a1))], [.int (a0 ^^^ a1)], aa_H g) rfl r
  refine rn_if (ir_s g v h) rfl decide_eq_true_iff.symm r (fun c5 l6n l6 r => ?_) (fun c5 l6n l6 r => ?_)
  · obtain ⟨n7, ln7, r⟩ := rn_steps 0 (19, [some (.int a0), some (.int a1), some (.int (a0 - a0 / a1 * a1))], [.int (a0 - a0 / a1 * a1)], aa_H g) rfl r
    exact rn_ire rfl r
  · obtain ⟨n8, ln8, r⟩ := rn_steps 0 (11, [some (.int a0), some (.int a1), some (.int (a0 - a0 / a1 * a1))], [.int (a0 - a0 / a1 * a1)], aa_H g) rfl r
    refine rn_if (ir_s g v h) rfl decide_eq_true_iff.symm r (fun c9 l10n l10 r => ?_) (fun c9 l10n l10 r => ?_)
    · obtain ⟨n11, ln11, r⟩ := rn_steps 0 (19, [some (.int a0), some (.int a1), some (.int (a0 - a0 / a1 * a1))], [.int (a0 - a0 / a1 * a1)], aa_H g) rfl r
      exact rn_ire rfl r
    · obtain ⟨n12, ln12, r⟩ := rn_steps 2 (17, [some (.int a0), some (.int a1), some (.int (a0 - a0 / a1 * a1))], [.int ((a0 - a0 / a1 * a1) + a1)], aa_H g) rfl r
      exact rn_ire rfl r
-- 80: UnequalHours Span readBetween
noncomputable def fn_80_130 (g : aa_G) (B0 : Nat) (B1 : Nat) (b3 : Int32) (b5 : Int32) (b6 : Int32) : aa_G := zz_w g B0 7 ((g B0 7) + (fn_82 (((g (B1 + 3) b3.toNatClampNeg) - (g B0 7)) * b6) b5))
theorem dn_80_130 {v : Option Value} {h : zz_H} {n : Nat} {g : aa_G} {B0 : Nat} {B1 : Nat} {b3 : Int32} {b5 : Int32} {b6 : Int32} (hB0 : sp_ok B0) (hB1 : ct_tw B1) (x2 x4 : Option Value) (jx2 : rn_jk x2) (jx4 : rn_jk x4) (r : rn_s n 80 (130, [some (.ref B0), some (.ref B1), x2, some (.int b3), x4, some (.int b5), some (.int b6)], [.ref B0, .ref B0], aa_H g) v h) : ig_s v h (fn_80_130 g B0 B1 b3 b5 b6) := by
  unfold fn_80_130
  obtain ⟨n77, ln77, r⟩ := rn_gf rfl (sp_hk hB0) (sp_hl hB0) rfl r
  have r : rn_s _ 80 (133, [some (.ref B0), some (.ref B1), x2, some (.int b3), x4, some (.int b5), some (.int b6)], [.int (g B0 7), .ref B0], aa_H g) v h := r
  obtain ⟨n78, ln78, r⟩ := rn_steps 0 (134, [some (.ref B0), some (.ref B1), x2, some (.int b3), x4, some (.int b5), some (.int b6)], [.ref B1, .int (g B0 7), .ref B0], aa_H g) rfl r
  obtain ⟨n79, ln79, r⟩ := rn_gr rfl (tw_hk hB1) (tw_hl hB1) rfl r
  have r : rn_s _ 80 (137, [some (.ref B0), some (.ref B1), x2, some (.int b3), x4, some (.int b5), some (.int b6)], [.ref (B1 + 3), .int (g B0 7), .ref B0], aa_H g) v h := r
  obtain ⟨n80, ln80, r⟩ := rn_steps 0 (138, [some (.ref B0), some (.ref B1), x2, some (.int b3), x4, some (.int b5), some (.int b6)], [.int b3, .ref (B1 + 3), .int (g B0 7), .ref B0], aa_H g) rfl r
  obtain ⟨hb82, n81, ln81, r⟩ := rn_ial rfl (tw_a3 hB1).1 (tw_a3 hB1).2 r
  have r : rn_s _ 80 (139, [some (.ref B0), some (.ref B1), x2, some (.int b3), x4, some (.int b5), some (.int b6)], [.int (g (B1 + 3) b3.toNatClampNeg), .int (g B0 7), .ref B0], aa_H g) v h := r
  obtain ⟨n83, ln83, r⟩ := rn_steps 0 (140, [some (.ref B0), some (.ref B1), x2, some (.int b3), x4, some (.int b5), some (.int b6)], [.ref B0, .int (g (B1 + 3) b3.toNatClampNeg), .int (g B0 7), .ref B0], aa_H g) rfl r
  obtain ⟨n84, ln84, r⟩ := rn_gf rfl (sp_hk hB0) (sp_hl hB0) rfl r
  have r : rn_s _ 80 (143, [some (.ref B0), some (.ref B1), x2, some (.int b3), x4, some (.int b5), some (.int b6)], [.int (g B0 7), .int (g (B1 + 3) b3.toNatClampNeg), .int (g B0 7), .ref B0], aa_H g) v h := r
  obtain ⟨n85, ln85, r⟩ := rn_steps 3 (149, [some (.ref B0), some (.ref B1), x2, some (.int b3), x4, some (.int b5), some (.int b6)], [.int b5, .int (((g (B1 + 3) b3.toNatClampNeg) - (g B0 7)) * b6), .int (g B0 7), .ref B0], aa_H g) rfl r
  obtain ⟨_, n86, v1, h1, -, ln86, rc, r⟩ := rn_call (m2 := 82) (as := [.int (((g (B1 + 3) b3.toNatClampNeg) - (g B0 7)) * b6), .int b5]) (rest := [.int (g B0 7), .ref B0]) rfl rfl r
  obtain ⟨rfl, rfl⟩ := dn_82 rc
  have r : rn_s _ 80 (152, [some (.ref B0), some (.ref B1), x2, some (.int b3), x4, some (.int b5), some (.int b6)], [.int (fn_82 (((g (B1 + 3) b3.toNatClampNeg) - (g B0 7)) * b6) b5), .int (g B0 7), .ref B0], aa_H g) v h := r
  obtain ⟨n88, ln88, r⟩ := rn_steps 0 (153, [some (.ref B0), some (.ref B1), x2, some (.int b3), x4, some (.int b5), some (.int b6)], [.int ((g B0 7) + (fn_82 (((g (B1 + 3) b3.toNatClampNeg) - (g B0 7)) * b6) b5)), .ref B0], aa_H g) rfl r
  obtain ⟨n89, ln89, r⟩ := rn_pf rfl (sp_hk hB0) (sp_hl hB0) rfl r
  have r : rn_s _ 80 (156, [some (.ref B0), some (.ref B1), x2, some (.int b3), x4, some (.int b5), some (.int b6)], [], aa_H (zz_w g B0 7 ((g B0 7) + (fn_82 (((g (B1 + 3) b3.toNatClampNeg) - (g B0 7)) * b6) b5)))) v h := r
  exact rn_ret 1 rfl r
noncomputable def fn_80_54 (g : aa_G) (B0 : Nat) (B1 : Nat) (b2 : Int32) (b3 : Int32) (b4 : Int32) (s0 : Int32) (S1 : Nat) : aa_G := if (g B0 5) ≠ (-1) then g else if (fn_81 ((g S1 s0.toNatClampNeg) - (g (B1 + 1) b2.toNatClampNeg)) 360) ≤ 0 then g else fn_80_130 (zz_w g B0 6 ((g B0 6) + (fn_82 (((g (B1 + 2) b3.toNatClampNeg) - (g B0 6)) * (fn_81 (b4 - (g (B1 + 1) b2.toNatClampNeg)) 360)) (fn_81 ((g S1 s0.toNatClampNeg) - (g (B1 + 1) b2.toNatClampNeg)) 360)))) B0 B1 b3 (fn_81 ((g S1 s0.toNatClampNeg) - (g (B1 + 1) b2.toNatClampNeg)) 360) (fn_81 (b4 - (g (B1 + 1) b2.toNatClampNeg)) 360)
theorem dn_80_54 {v : Option Value} {h : zz_H} {n : Nat} {g : aa_G} {B0 : Nat} {B1 : Nat} {b2 : Int32} {b3 : Int32} {b4 : Int32} {s0 : Int32} {S1 : Nat} (hB0 : sp_ok B0) (hB1 : ct_tw B1) (hS1 : ar_12 S1) (x5 x6 : Option Value) (jx5 : rn_jk x5) (jx6 : rn_jk x6) (r : rn_s n 80 (54, [some (.ref B0), some (.ref B1), some (.int b2), some (.int b3), some (.int b4), x5, x6], [.int s0, .ref S1], aa_H g) v h) : ig_s v h (fn_80_54 g B0 B1 b2 b3 b4 s0 S1) := by
  unfold fn_80_54
  obtain ⟨hb37, n36, ln36, r⟩ := rn_ial rfl hS1.1 hS1.2 r
  have r : rn_s _ 80 (55, [some (.ref B0), some (.ref B1), some (.int b2), some (.int b3), some (.int b4), x5, x6], [.int (g S1 s0.toNatClampNeg)], aa_H g) v h := r
  obtain ⟨n38, ln38, r⟩ := rn_steps 0 (56, [some (.ref B0), some (.ref B1), some (.int b2), some (.int b3), some (.int b4), x5, x6], [.ref B1, .int (g S1 s0.toNatClampNeg)], aa_H g) rfl r
  obtain ⟨n39, ln39, r⟩ := rn_gr rfl (tw_hk hB1) (tw_hl hB1) rfl r
  have r : rn_s _ 80 (59, [some (.ref B0), some (.ref B1), some (.int b2), some (.int b3), some (.int b4), x5, x6], [.ref (B1 + 1), .int (g S1 s0.toNatClampNeg)], aa_H g) v h := r
  obtain ⟨n40, ln40, r⟩ := rn_steps 0 (60, [some (.ref B0), some (.ref B1), some (.int b2), some (.int b3), some (.int b4), x5, x6], [.int b2, .ref (B1 + 1), .int (g S1 s0.toNatClampNeg)], aa_H g) rfl r
  obtain ⟨hb42, n41, ln41, r⟩ := rn_ial rfl (tw_a1 hB1).1 (tw_a1 hB1).2 r
  have r : rn_s _ 80 (61, [some (.ref B0), some (.ref B1), some (.int b2), some (.int b3), some (.int b4), x5, x6], [.int (g (B1 + 1) b2.toNatClampNeg), .int (g S1 s0.toNatClampNeg)], aa_H g) v h := r
  obtain ⟨n43, ln43, r⟩ := rn_steps 1 (65, [some (.ref B0), some (.ref B1), some (.int b2), some (.int b3), some (.int b4), x5, x6], [.int 360, .int ((g S1 s0.toNatClampNeg) - (g (B1 + 1) b2.toNatClampNeg))], aa_H g) rfl r
  obtain ⟨_, n44, v1, h1, -, ln44, rc, r⟩ := rn_call (m2 := 81) (as := [.int ((g S1 s0.toNatClampNeg) - (g (B1 + 1) b2.toNatClampNeg)), .int 360]) (rest := []) rfl rfl r
  obtain ⟨rfl, rfl⟩ := dn_81 rc
  have r : rn_s _ 80 (68, [some (.ref B0), some (.ref B1), some (.int b2), some (.int b3), some (.int b4), x5, x6], [.int (fn_81 ((g S1 s0.toNatClampNeg) - (g (B1 + 1) b2.toNatClampNeg)) 360)], aa_H g) v h := r
  obtain ⟨n46, ln46, r⟩ := rn_steps 1 (71, [some (.ref B0), some (.ref B1), some (.int b2), some (.int b3), some (.int b4), some (.int (fn_81 ((g S1 s0.toNatClampNeg) - (g (B1 + 1) b2.toNatClampNeg)) 360)), x6], [.ref B0], aa_H g) rfl r
  obtain ⟨n47, ln47, r⟩ := rn_gf rfl (sp_hk hB0) (sp_hl hB0) rfl r
  have r : rn_s _ 80 (74, [some (.ref B0), some (.ref B1), some (.int b2), some (.int b3), some (.int b4), some (.int (fn_81 ((g S1 s0.toNatClampNeg) - (g (B1 + 1) b2.toNatClampNeg)) 360)), x6], [.int (g B0 5)], aa_H g) v h := r
  obtain ⟨n48, ln48, r⟩ := rn_steps 0 (75, [some (.ref B0), some (.ref B1), some (.int b2), some (.int b3), some (.int b4), some (.int (fn_81 ((g S1 s0.toNatClampNeg) - (g (B1 + 1) b2.toNatClampNeg)) 360)), x6], [.int (-1), .int (g B0 5)], aa_H g) rfl r
  refine rn_ic (ig_s v h) rfl decide_eq_true_iff.symm r (fun c49 l50n l50 r => ?_) (fun c49 l50n l50 r => ?_)
  · exact rn_ret 1 rfl r
  · obtain ⟨n51, ln51, r⟩ := rn_steps 0 (80, [some (.ref B0), some (.ref B1), some (.int b2), some (.int b3), some (.int b4), some (.int (fn_81 ((g S1 s0.toNatClampNeg) - (g (B1 + 1) b2.toNatClampNeg)) 360)), x6], [.int (fn_81 ((g S1 s0.toNatClampNeg) - (g (B1 + 1) b2.toNatClampNeg)) 360)], aa_H g) rfl r
    refine rn_if (ig_s v h) rfl decide_eq_true_iff.symm r (fun c52 l53n l53 r => ?_) (fun c52 l53n l53 r => ?_)
    · exact rn_ret 1 rfl r
    · obtain ⟨n54, ln54, r⟩ := rn_steps 1 (86, [some (.ref B0), some (.ref B1), some (.int b2), some (.int b3), some (.int b4), some (.int (fn_81 ((g S1 s0.toNatClampNeg) - (g (B1 + 1) b2.toNatClampNeg)) 360)), x6], [.ref B1, .int b4], aa_H g) rfl r
      obtain ⟨n55, ln55, r⟩ := rn_gr rfl (tw_hk hB1) (tw_hl hB1) rfl r
      have r : rn_s _ 80 (89, [some (.ref B0), some (.ref B1), some (.int b2), some (.int b3), some (.int b4), some (.int (fn_81 ((g S1 s0.toNatClampNeg) - (g (B1 + 1) b2.toNatClampNeg)) 360)), x6], [.ref (B1 + 1), .int b4], aa_H g) v h := r
      obtain ⟨n56, ln56, r⟩ := rn_steps 0 (90, [some (.ref B0), some (.ref B1), some (.int b2), some (.int b3), some (.int b4), some (.int (fn_81 ((g S1 s0.toNatClampNeg) - (g (B1 + 1) b2.toNatClampNeg)) 360)), x6], [.int b2, .ref (B1 + 1), .int b4], aa_H g) rfl r
      obtain ⟨hb58, n57, ln57, r⟩ := rn_ial rfl (tw_a1 hB1).1 (tw_a1 hB1).2 r
      have r : rn_s _ 80 (91, [some (.ref B0), some (.ref B1), some (.int b2), some (.int b3), some (.int b4), some (.int (fn_81 ((g S1 s0.toNatClampNeg) - (g (B1 + 1) b2.toNatClampNeg)) 360)), x6], [.int (g (B1 + 1) b2.toNatClampNeg), .int b4], aa_H g) v h := r
      obtain ⟨n59, ln59, r⟩ := rn_steps 1 (95, [some (.ref B0), some (.ref B1), some (.int b2), some (.int b3), some (.int b4), some (.int (fn_81 ((g S1 s0.toNatClampNeg) - (g (B1 + 1) b2.toNatClampNeg)) 360)), x6], [.int 360, .int (b4 - (g (B1 + 1) b2.toNatClampNeg))], aa_H g) rfl r
      obtain ⟨_, n60, v1, h1, -, ln60, rc, r⟩ := rn_call (m2 := 81) (as := [.int (b4 - (g (B1 + 1) b2.toNatClampNeg)), .int 360]) (rest := []) rfl rfl r
      obtain ⟨rfl, rfl⟩ := dn_81 rc
      have r : rn_s _ 80 (98, [some (.ref B0), some (.ref B1), some (.int b2), some (.int b3), some (.int b4), some (.int (fn_81 ((g S1 s0.toNatClampNeg) - (g (B1 + 1) b2.toNatClampNeg)) 360)), x6], [.int (fn_81 (b4 - (g (B1 + 1) b2.toNatClampNeg)) 360)], aa_H g) v h := r
      obtain ⟨n62, ln62, r⟩ := rn_steps 2 (102, [some (.ref B0), some (.ref B1), some (.int b2), some (.int b3), some (.int b4), some (.int (fn_81 ((g S1 s0.toNatClampNeg) - (g (B1 + 1) b2.toNatClampNeg)) 360)), some (.int (fn_81 (b4 - (g (B1 + 1) b2.toNatClampNeg)) 360))], [.ref B0, .ref B0], aa_H g) rfl r
      obtain ⟨n63, ln63, r⟩ := rn_gf rfl (sp_hk hB0) (sp_hl hB0) rfl r
      have r : rn_s _ 80 (105, [some (.ref B0), some (.ref B1), some (.int b2), some (.int b3), some (.int b4), some (.int (fn_81 ((g S1 s0.toNatClampNeg) - (g (B1 + 1) b2.toNatClampNeg)) 360)), some (.int (fn_81 (b4 - (g (B1 + 1) b2.toNatClampNeg)) 360))], [.int (g B0 6), .ref B0], aa_H g) v h := r
      obtain ⟨n64, ln64, r⟩ := rn_steps 0 (106, [some (.ref B0), some (.ref B1), some (.int b2), some (.int b3), some (.int b4), some (.int (fn_81 ((g S1 s0.toNatClampNeg) - (g (B1 + 1) b2.toNatClampNeg)) 360)), some (.int (fn_81 (b4 - (g (B1 + 1) b2.toNatClampNeg)) 360))], [.ref B1, .int (g B0 6), .ref B0], aa_H g) rfl r
      obtain ⟨n65, ln65, r⟩ := rn_gr rfl (tw_hk hB1) (tw_hl hB1) rfl r
      have r : rn_s _ 80 (109, [some (.ref B0), some (.ref B1), some (.int b2), some (.int b3), some (.int b4), some (.int (fn_81 ((g S1 s0.toNatClampNeg) - (g (B1 + 1) b2.toNatClampNeg)) 360)), some (.int (fn_81 (b4 - (g (B1 + 1) b2.toNatClampNeg)) 360))], [.ref (B1 + 2), .int (g B0 6), .ref B0], aa_H g) v h := r
      obtain ⟨n66, ln66, r⟩ := rn_steps 0 (110, [some (.ref B0), some (.ref B1), some (.int b2), some (.int b3), some (.int b4), some (.int (fn_81 ((g S1 s0.toNatClampNeg) - (g (B1 + 1) b2.toNatClampNeg)) 360)), some (.int (fn_81 (b4 - (g (B1 + 1) b2.toNatClampNeg)) 360))], [.int b3, .ref (B1 + 2), .int (g B0 6), .ref B0], aa_H g) rfl r
      obtain ⟨hb68, n67, ln67, r⟩ := rn_ial rfl (tw_a2 hB1).1 (tw_a2 hB1).2 r
      have r : rn_s _ 80 (111, [some (.ref B0), some (.ref B1), some (.int b2), some (.int b3), some (.int b4), some (.int (fn_81 ((g S1 s0.toNatClampNeg) - (g (B1 + 1) b2.toNatClampNeg)) 360)), some (.int (fn_81 (b4 - (g (B1 + 1) b2.toNatClampNeg)) 360))], [.int (g (B1 + 2) b3.toNatClampNeg), .int (g B0 6), .ref B0], aa_H g) v h := r
      obtain ⟨n69, ln69, r⟩ := rn_steps 0 (112, [some (.ref B0), some (.ref B1), some (.int b2), some (.int b3), some (.int b4), some (.int (fn_81 ((g S1 s0.toNatClampNeg) - (g (B1 + 1) b2.toNatClampNeg)) 360)), some (.int (fn_81 (b4 - (g (B1 + 1) b2.toNatClampNeg)) 360))], [.ref B0, .int (g (B1 + 2) b3.toNatClampNeg), .int (g B0 6), .ref B0], aa_H g) rfl r
      obtain ⟨n70, ln70, r⟩ := rn_gf rfl (sp_hk hB0) (sp_hl hB0) rfl r
      have r : rn_s _ 80 (115, [some (.ref B0), some (.ref B1), some (.int b2), some (.int b3), some (.int b4), some (.int (fn_81 ((g S1 s0.toNatClampNeg) - (g (B1 + 1) b2.toNatClampNeg)) 360)), some (.int (fn_81 (b4 - (g (B1 + 1) b2.toNatClampNeg)) 360))], [.int (g B0 6), .int (g (B1 + 2) b3.toNatClampNeg), .int (g B0 6), .ref B0], aa_H g) v h := r
      obtain ⟨n71, ln71, r⟩ := rn_steps 3 (121, [some (.ref B0), some (.ref B1), some (.int b2), some (.int b3), some (.int b4), some (.int (fn_81 ((g S1 s0.toNatClampNeg) - (g (B1 + 1) b2.toNatClampNeg)) 360)), some (.int (fn_81 (b4 - (g (B1 + 1) b2.toNatClampNeg)) 360))], [.int (fn_81 ((g S1 s0.toNatClampNeg) - (g (B1 + 1) b2.toNatClampNeg)) 360), .int (((g (B1 + 2) b3.toNatClampNeg) - (g B0 6)) * (fn_81 (b4 - (g (B1 + 1) b2.toNatClampNeg)) 360)), .int (g B0 6), .ref B0], aa_H g) rfl r
      obtain ⟨_, n72, v1, h1, -, ln72, rc, r⟩ := rn_call (m2 := 82) (as := [.int (((g (B1 + 2) b3.toNatClampNeg) - (g B0 6)) * (fn_81 (b4 - (g (B1 + 1) b2.toNatClampNeg)) 360)), .int (fn_81 ((g S1 s0.toNatClampNeg) - (g (B1 + 1) b2.toNatClampNeg)) 360)]) (rest := [.int (g B0 6), .ref B0]) rfl rfl r
      obtain ⟨rfl, rfl⟩ := dn_82 rc
      have r : rn_s _ 80 (124, [some (.ref B0), some (.ref B1), some (.int b2), some (.int b3), some (.int b4), some (.int (fn_81 ((g S1 s0.toNatClampNeg) - (g (B1 + 1) b2.toNatClampNeg)) 360)), some (.int (fn_81 (b4 - (g (B1 + 1) b2.toNatClampNeg)) 360))], [.int (fn_82 (((g (B1 + 2) b3.toNatClampNeg) - (g B0 6)) * (fn_81 (b4 - (g (B1 + 1) b2.toNatClampNeg)) 360)) (fn_81 ((g S1 s0.toNatClampNeg) - (g (B1 + 1) b2.toNatClampNeg)) 360)), .int (g B0 6), .ref B0], aa_H g) v h := r
      obtain ⟨n74, ln74, r⟩ := rn_steps 0 (125, [some (.ref B0), some (.ref B1), some (.int b2), some (.int b3), some (.int b4), some (.int (fn_81 ((g S1 s0.toNatClampNeg) - (g (B1 + 1) b2.toNatClampNeg)) 360)), some (.int (fn_81 (b4 - (g (B1 + 1) b2.toNatClampNeg)) 360))], [.int ((g B0 6) + (fn_82 (((g (B1 + 2) b3.toNatClampNeg) - (g B0 6)) * (fn_81 (b4 - (g (B1 + 1) b2.toNatClampNeg)) 360)) (fn_81 ((g S1 s0.toNatClampNeg) - (g (B1 + 1) b2.toNatClampNeg)) 360))), .ref B0], aa_H g) rfl r
      obtain ⟨n75, ln75, r⟩ := rn_pf rfl (sp_hk hB0) (sp_hl hB0) rfl r
      have r : rn_s _ 80 (128, [some (.ref B0), some (.ref B1), some (.int b2), some (.int b3), some (.int b4), some (.int (fn_81 ((g S1 s0.toNatClampNeg) - (g (B1 + 1) b2.toNatClampNeg)) 360)), some (.int (fn_81 (b4 - (g (B1 + 1) b2.toNatClampNeg)) 360))], [], aa_H (zz_w g B0 6 ((g B0 6) + (fn_82 (((g (B1 + 2) b3.toNatClampNeg) - (g B0 6)) * (fn_81 (b4 - (g (B1 + 1) b2.toNatClampNeg)) 360)) (fn_81 ((g S1 s0.toNatClampNeg) - (g (B1 + 1) b2.toNatClampNeg)) 360))))) v h := r
      obtain ⟨n76, ln76, r⟩ := rn_steps 1 (130, [some (.ref B0), some (.ref B1), some (.int b2), some (.int b3), some (.int b4), some (.int (fn_81 ((g S1 s0.toNatClampNeg) - (g (B1 + 1) b2.toNatClampNeg)) 360)), some (.int (fn_81 (b4 - (g (B1 + 1) b2.toNatClampNeg)) 360))], [.ref B0, .ref B0], aa_H (zz_w g B0 6 ((g B0 6) + (fn_82 (((g (B1 + 2) b3.toNatClampNeg) - (g B0 6)) * (fn_81 (b4 - (g (B1 + 1) b2.toNatClampNeg)) 360)) (fn_81 ((g S1 s0.toNatClampNeg) - (g (B1 + 1) b2.toNatClampNeg)) 360))))) rfl r
      exact dn_80_130 hB0 hB1 (some (.int b2)) (some (.int b4)) rn_ji rn_ji r
noncomputable def fn_80_45 (g : aa_G) (B0 : Nat) (B1 : Nat) (b2 : Int32) (b3 : Int32) (b4 : Int32) (s0 : Int32) (S1 : Nat) : aa_G := fn_80_54 (zz_w g B0 7 (g S1 s0.toNatClampNeg)) B0 B1 b2 b3 b4 b3 (B1 + 1)
theorem dn_80_45 {v : Option Value} {h : zz_H} {n : Nat} {g : aa_G} {B0 : Nat} {B1 : Nat} {b2 : Int32} {b3 : Int32} {b4 : Int32} {s0 : Int32} {S1 : Nat} (hB0 : sp_ok B0) (hB1 : ct_tw B1) (hS1 : ar_12 S1) (x5 x6 : Option Value) (jx5 : rn_jk x5) (jx6 : rn_jk x6) (r : rn_s n 80 (45, [some (.ref B0), some (.ref B1), some (.int b2), some (.int b3), some (.int b4), x5, x6], [.int s0, .ref S1, .ref B0], aa_H g) v h) : ig_s v h (fn_80_45 g B0 B1 b2 b3 b4 s0 S1) := by
  unfold fn_80_45
  obtain ⟨hb31, n30, ln30, r⟩ := rn_ial rfl hS1.1 hS1.2 r
  have r : rn_s _ 80 (46, [some (.ref B0), some (.ref B1), some (.int b2), some (.int b3), some (.int b4), x5, x6], [.int (g S1 s0.toNatClampNeg), .ref B0], aa_H g) v h := r
  obtain ⟨n32, ln32, r⟩ := rn_pf rfl (sp_hk hB0) (sp_hl hB0) rfl r
  have r : rn_s _ 80 (49, [some (.ref B0), some (.ref B1), some (.int b2), some (.int b3), some (.int b4), x5, x6], [], aa_H (zz_w g B0 7 (g S1 s0.toNatClampNeg))) v h := r
  obtain ⟨n33, ln33, r⟩ := rn_steps 0 (50, [some (.ref B0), some (.ref B1), some (.int b2), some (.int b3), some (.int b4), x5, x6], [.ref B1], aa_H (zz_w g B0 7 (g S1 s0.toNatClampNeg))) rfl r
  obtain ⟨n34, ln34, r⟩ := rn_gr rfl (tw_hk hB1) (tw_hl hB1) rfl r
  have r : rn_s _ 80 (53, [some (.ref B0), some (.ref B1), some (.int b2), some (.int b3), some (.int b4), x5, x6], [.ref (B1 + 1)], aa_H (zz_w g B0 7 (g S1 s0.toNatClampNeg))) v h := r
  obtain ⟨n35, ln35, r⟩ := rn_steps 0 (54, [some (.ref B0), some (.ref B1), some (.int b2), some (.int b3), some (.int b4), x5, x6], [.int b3, .ref (B1 + 1)], aa_H (zz_w g B0 7 (g S1 s0.toNatClampNeg))) rfl r
  exact dn_80_54 hB0 hB1 (tw_a1 hB1) x5 x6 jx5 jx6 r
noncomputable def fn_80_35 (g : aa_G) (B0 : Nat) (B1 : Nat) (b2 : Int32) (b3 : Int32) (b4 : Int32) (s0 : Int32) (S1 : Nat) : aa_G := fn_80_45 (zz_w g B0 6 (g S1 s0.toNatClampNeg)) B0 B1 b2 b3 b4 b2 (B1 + 3)
theorem dn_80_35 {v : Option Value} {h : zz_H} {n : Nat} {g : aa_G} {B0 : Nat} {B1 : Nat} {b2 : Int32} {b3 : Int32} {b4 : Int32} {s0 : Int32} {S1 : Nat} (hB0 : sp_ok B0) (hB1 : ct_tw B1) (hS1 : ar_12 S1) (x5 x6 : Option Value) (jx5 : rn_jk x5) (jx6 : rn_jk x6) (r : rn_s n 80 (35, [some (.ref B0), some (.ref B1), some (.int b2), some (.int b3), some (.int b4), x5, x6], [.int s0, .ref S1, .ref B0], aa_H g) v h) : ig_s v h (fn_80_35 g B0 B1 b2 b3 b4 s0 S1) := by
  unfold fn_80_35
  obtain ⟨hb25, n24, ln24, r⟩ := rn_ial rfl hS1.1 hS1.2 r
  have r : rn_s _ 80 (36, [some (.ref B0), some (.ref B1), some (.int b2), some (.int b3), some (.int b4), x5, x6], [.int (g S1 s0.toNatClampNeg), .ref B0], aa_H g) v h := r
  obtain ⟨n26, ln26, r⟩ := rn_pf rfl (sp_hk hB0) (sp_hl hB0) rfl r
  have r : rn_s _ 80 (39, [some (.ref B0), some (.ref B1), some (.int b2), some (.int b3), some (.int b4), x5, x6], [], aa_H (zz_w g B0 6 (g S1 s0.toNatClampNeg))) v h := r
  obtain ⟨n27, ln27, r⟩ := rn_steps 1 (41, [some (.ref B0), some (.ref B1), some (.int b2), some (.int b3), some (.int b4), x5, x6], [.ref B1, .ref B0], aa_H (zz_w g B0 6 (g S1 s0.toNatClampNeg))) rfl r
  obtain ⟨n28, ln28, r⟩ := rn_gr rfl (tw_hk hB1) (tw_hl hB1) rfl r
  have r : rn_s _ 80 (44, [some (.ref B0), some (.ref B1), some (.int b2), some (.int b3), some (.int b4), x5, x6], [.ref (B1 + 3), .ref B0], aa_H (zz_w g B0 6 (g S1 s0.toNatClampNeg))) v h := r
  obtain ⟨n29, ln29, r⟩ := rn_steps 0 (45, [some (.ref B0), some (.ref B1), some (.int b2), some (.int b3), some (.int b4), x5, x6], [.int b2, .ref (B1 + 3), .ref B0], aa_H (zz_w g B0 6 (g S1 s0.toNatClampNeg))) rfl r
  exact dn_80_45 hB0 hB1 (tw_a3 hB1) x5 x6 jx5 jx6 r
noncomputable def fn_80_26 (g : aa_G) (B0 : Nat) (B1 : Nat) (b2 : Int32) (b3 : Int32) (b4 : Int32) (s0 : Int32) : aa_G := fn_80_35 (zz_w g B0 5 s0) B0 B1 b2 b3 b4 b2 (B1 + 2)
theorem dn_80_26 {v : Option Value} {h : zz_H} {n : Nat} {g : aa_G} {B0 : Nat} {B1 : Nat} {b2 : Int32} {b3 : Int32} {b4 : Int32} {s0 : Int32} (hB0 : sp_ok B0) (hB1 : ct_tw B1) (x5 x6 : Option Value) (jx5 : rn_jk x5) (jx6 : rn_jk x6) (r : rn_s n 80 (26, [some (.ref B0), some (.ref B1), some (.int b2), some (.int b3), some (.int b4), x5, x6], [.int s0, .ref B0], aa_H g) v h) : ig_s v h (fn_80_26 g B0 B1 b2 b3 b4 s0) := by
  unfold fn_80_26
  obtain ⟨n20, ln20, r⟩ := rn_pf rfl (sp_hk hB0) (sp_hl hB0) rfl r
  have r : rn_s _ 80 (29, [some (.ref B0), some (.ref B1), some (.int b2), some (.int b3), some (.int b4), x5, x6], [], aa_H (zz_w g B0 5 s0)) v h := r
  obtain ⟨n21, ln21, r⟩ := rn_steps 1 (31, [some (.ref B0), some (.ref B1), some (.int b2), some (.int b3), some (.int b4), x5, x6], [.ref B1, .ref B0], aa_H (zz_w g B0 5 s0)) rfl r
  obtain ⟨n22, ln22, r⟩ := rn_gr rfl (tw_hk hB1) (tw_hl hB1) rfl r
  have r : rn_s _ 80 (34, [some (.ref B0), some (.ref B1), some (.int b2), some (.int b3), some (.int b4), x5, x6], [.ref (B1 + 2), .ref B0], aa_H (zz_w g B0 5 s0)) v h := r
  obtain ⟨n23, ln23, r⟩ := rn_steps 0 (35, [some (.ref B0), some (.ref B1), some (.int b2), some (.int b3), some (.int b4), x5, x6], [.int b2, .ref (B1 + 2), .ref B0], aa_H (zz_w g B0 5 s0)) rfl r
  exact dn_80_35 hB0 hB1 (tw_a2 hB1) x5 x6 jx5 jx6 r
noncomputable def fn_80 (g : aa_G) (P : Nat) (T : Nat) (a2 : Int32) (a3 : Int32) (a4 : Int32) : aa_G := if (g (T + 4) a2.toNatClampNeg) = (-1) then fn_80_26 g P T a2 a3 a4 (g (T + 4) a3.toNatClampNeg) else fn_80_26 g P T a2 a3 a4 (g (T + 4) a2.toNatClampNeg)
theorem dn_80 {v : Option Value} {h : zz_H} {n : Nat} {g : aa_G} {P : Nat} {T : Nat} {a2 : Int32} {a3 : Int32} {a4 : Int32} (hP : sp_ok P) (hT : ct_tw T) (r : rn_s n 80 (0, zz_in [.ref P, .ref T, .int a2, .int a3, .int a4] (zz_nl 80), [], aa_H g) v h) : ig_s v h (fn_80 g P T a2 a3 a4) := by
  have r : rn_s n 80 (0, [some (.ref P), some (.ref T), some (.int a2), some (.int a3), some (.int a4), none, none], [], aa_H g) v h := r
  unfold fn_80
  obtain ⟨n1, ln1, r⟩ := rn_steps 1 (2, [some (.ref P), some (.ref T), some (.int a2), some (.int a3), some (.int a4), none, none], [.ref T, .ref P], aa_H g) rfl r
  obtain ⟨n2, ln2, r⟩ := rn_gr rfl (tw_hk hT) (tw_hl hT) rfl r
  have r : rn_s _ 80 (5, [some (.ref P), some (.ref T), some (.int a2), some (.int a3), some (.int a4), none, none], [.ref (T + 4), .ref P], aa_H g) v h := r
  obtain ⟨n3, ln3, r⟩ := rn_steps 0 (6, [some (.ref P), some (.ref T), some (.int a2), some (.int a3), some (.int a4), none, none], [.int a2, .ref (T + 4), .ref P], aa_H g) rfl r
  obtain ⟨hb5, n4, ln4, r⟩ := rn_ial rfl (tw_a4 hT).1 (tw_a4 hT).2 r
  have r : rn_s _ 80 (7, [some (.ref P), some (.ref T), some (.int a2), some (.int a3), some (.int a4), none, none], [.int (g (T + 4) a2.toNatClampNeg), .ref P], aa_H g) v h := r
  obtain ⟨n6, ln6, r⟩ := rn_steps 0 (8, [some (.ref P), some (.ref T), some (.int a2), some (.int a3), some (.int a4), none, none], [.int (-1), .int (g (T + 4) a2.toNatClampNeg), .ref P], aa_H g) rfl r
  refine rn_ic (ig_s v h) rfl decide_eq_true_iff.symm r (fun c7 l8n l8 r => ?_) (fun c7 l8n l8 r => ?_)
  · obtain ⟨n9, ln9, r⟩ := rn_steps 0 (21, [some (.ref P), some (.ref T), some (.int a2), some (.int a3), some (.int a4), none, none], [.ref T, .ref P], aa_H g) rfl r
    obtain ⟨n10, ln10, r⟩ := rn_gr rfl (tw_hk hT) (tw_hl hT) rfl r
    have r : rn_s _ 80 (24, [some (.ref P), some (.ref T), some (.int a2), some (.int a3), some (.int a4), none, none], [.ref (T + 4), .ref P], aa_H g) v h := r
    obtain ⟨n11, ln11, r⟩ := rn_steps 0 (25, [some (.ref P), some (.ref T), some (.int a2), some (.int a3), some (.int a4), none, none], [.int a3, .ref (T + 4), .ref P], aa_H g) rfl r
    obtain ⟨hb13, n12, ln12, r⟩ := rn_ial rfl (tw_a4 hT).1 (tw_a4 hT).2 r
    have r : rn_s _ 80 (26, [some (.ref P), some (.ref T), some (.int a2), some (.int a3), some (.int a4), none, none], [.int (g (T + 4) a3.toNatClampNeg), .ref P], aa_H g) v h := r
    exact dn_80_26 hP hT none none rn_jn rn_jn r
  · obtain ⟨n14, ln14, r⟩ := rn_steps 0 (12, [some (.ref P), some (.ref T), some (.int a2), some (.int a3), some (.int a4), none, none], [.ref T, .ref P], aa_H g) rfl r
    obtain ⟨n15, ln15, r⟩ := rn_gr rfl (tw_hk hT) (tw_hl hT) rfl r
    have r : rn_s _ 80 (15, [some (.ref P), some (.ref T), some (.int a2), some (.int a3), some (.int a4), none, none], [.ref (T + 4), .ref P], aa_H g) v h := r
    obtain ⟨n16, ln16, r⟩ := rn_steps 0 (16, [some (.ref P), some (.ref T), some (.int a2), some (.int a3), some (.int a4), none, none], [.int a2, .ref (T + 4), .ref P], aa_H g) rfl r
    obtain ⟨hb18, n17, ln17, r⟩ := rn_ial rfl (tw_a4 hT).1 (tw_a4 hT).2 r
    have r : rn_s _ 80 (17, [some (.ref P), some (.ref T), some (.int a2), some (.int a3), some (.int a4), none, none], [.int (g (T + 4) a2.toNatClampNeg), .ref P], aa_H g) v h := r
    obtain ⟨n19, ln19, r⟩ := rn_steps 0 (26, [some (.ref P), some (.ref T), some (.int a2), some (.int a3), some (.int a4), none, none], [.int (g (T + 4) a2.toNatClampNeg), .ref P], aa_H g) rfl r
    exact dn_80_26 hP hT none none rn_jn rn_jn r
-- 14: UnequalHours within
noncomputable def fn_14 (a0 : Int32) (a1 : Int32) (a2 : Int32) : Int32 := if a0 < a1 then 0 else if a2 < a0 then 0 else 1
theorem dn_14 {v : Option Value} {h : zz_H} {n : Nat} {g : aa_G} {a0 : Int32} {a1 : Int32} {a2 : Int32}  (r : rn_s n 14 (0, zz_in [.int a0, .int a1, .int a2] (zz_nl 14), [], aa_H g) v h) : ir_s g v h (fn_14 a0 a1 a2) := by
  have r : rn_s n 14 (0, [some (.int a0), some (.int a1), some (.int a2)], [], aa_H g) v h := r
  unfold fn_14
  obtain ⟨n1, ln1, r⟩ := rn_steps 1 (2, [some (.int a0), some (.int a1), some (.int a2)], [.int a1, .int a0], aa_H g) rfl r
  refine rn_ic (ir_s g v h) rfl decide_eq_true_iff.symm r (fun c2 l3n l3 r => ?_) (fun c2 l3n l3 r => ?_)
  · obtain ⟨n4, ln4, r⟩ := rn_steps 0 (15, [some (.int a0), some (.int a1), some (.int a2)], [.int 0], aa_H g) rfl r
    exact rn_ire rfl r
  · obtain ⟨n5, ln5, r⟩ := rn_steps 1 (7, [some (.int a0), some (.int a1), some (.int a2)], [.int a2, .int a0], aa_H g) rfl r
    refine rn_ic (ir_s g v h) rfl decide_eq_true_iff.symm r (fun c6 l7n l7 r => ?_) (fun c6 l7n l7 r => ?_)
    · obtain ⟨n8, ln8, r⟩ := rn_steps 0 (15, [some (.int a0), some (.int a1), some (.int a2)], [.int 0], aa_H g) rfl r
      exact rn_ire rfl r
    · obtain ⟨n9, ln9, r⟩ := rn_steps 1 (15, [some (.int a0), some (.int a1), some (.int a2)], [.int 1], aa_H g) rfl r
      exact rn_ire rfl r
-- 79: UnequalHours Span readTable
noncomputable def fn_79_99 (g : aa_G) (b2 : Int32) (s0 : Int32) (s1 : Int32) (S2 : Nat) (S3 : Nat) : aa_G := fn_80 g S3 S2 s1 s0 b2
theorem dn_79_99 {v : Option Value} {h : zz_H} {n : Nat} {g : aa_G} {b2 : Int32} {s0 : Int32} {s1 : Int32} {S2 : Nat} {S3 : Nat} (hS2 : ct_tw S2) (hS3 : sp_ok S3) (x0 x1 x3 x4 : Option Value) (jx0 : rn_jk x0) (jx1 : rn_jk x1) (jx3 : rn_jk x3) (jx4 : rn_jk x4) (r : rn_s n 79 (99, [x0, x1, some (.int b2), x3, x4], [.int s0, .int s1, .ref S2, .ref S3], aa_H g) v h) : ig_s v h (fn_79_99 g b2 s0 s1 S2 S3) := by
  unfold fn_79_99
  obtain ⟨n44, ln44, r⟩ := rn_steps 0 (100, [x0, x1, some (.int b2), x3, x4], [.int b2, .int s0, .int s1, .ref S2, .ref S3], aa_H g) rfl r
  obtain ⟨_, n45, v1, h1, -, ln45, rc, r⟩ := rn_cv (k := S3) (as := [.ref S2, .int s1, .int s0, .int b2]) (rest := []) rfl (sp_hk hS3) (sp_hl hS3) rfl rfl r
  obtain ⟨rfl, rfl⟩ := dn_80 hS3 hS2 rc
  have r : rn_s _ 79 (103, [x0, x1, some (.int b2), x3, x4], [], aa_H (fn_80 g S3 S2 s1 s0 b2)) v h := r
  exact rn_ret 1 rfl r
noncomputable def fn_79_78 (g : aa_G) (B0 : Nat) (B1 : Nat) (b2 : Int32) (b3 : Int32) (s0 : Int32) : aa_G := if (g (B1 + 1) b3.toNatClampNeg) ≠ b2 then fn_79_99 g b2 s0 b3 B1 B0 else fn_79_99 g b2 b3 b3 B1 B0
theorem dn_79_78 {v : Option Value} {h : zz_H} {n : Nat} {g : aa_G} {B0 : Nat} {B1 : Nat} {b2 : Int32} {b3 : Int32} {s0 : Int32} (hB0 : sp_ok B0) (hB1 : ct_tw B1) (x4 : Option Value) (jx4 : rn_jk x4) (r : rn_s n 79 (78, [some (.ref B0), some (.ref B1), some (.int b2), some (.int b3), x4], [.int s0], aa_H g) v h) : ig_s v h (fn_79_78 g B0 B1 b2 b3 s0) := by
  unfold fn_79_78
  obtain ⟨n34, ln34, r⟩ := rn_steps 4 (84, [some (.ref B0), some (.ref B1), some (.int b2), some (.int b3), some (.int s0)], [.ref B1, .int b3, .ref B1, .ref B0], aa_H g) rfl r
  obtain ⟨n35, ln35, r⟩ := rn_gr rfl (tw_hk hB1) (tw_hl hB1) rfl r
  have r : rn_s _ 79 (87, [some (.ref B0), some (.ref B1), some (.int b2), some (.int b3), some (.int s0)], [.ref (B1 + 1), .int b3, .ref B1, .ref B0], aa_H g) v h := r
  obtain ⟨n36, ln36, r⟩ := rn_steps 0 (88, [some (.ref B0), some (.ref B1), some (.int b2), some (.int b3), some (.int s0)], [.int b3, .ref (B1 + 1), .int b3, .ref B1, .ref B0], aa_H g) rfl r
  obtain ⟨hb38, n37, ln37, r⟩ := rn_ial rfl (tw_a1 hB1).1 (tw_a1 hB1).2 r
  have r : rn_s _ 79 (89, [some (.ref B0), some (.ref B1), some (.int b2), some (.int b3), some (.int s0)], [.int (g (B1 + 1) b3.toNatClampNeg), .int b3, .ref B1, .ref B0], aa_H g) v h := r
  obtain ⟨n39, ln39, r⟩ := rn_steps 0 (90, [some (.ref B0), some (.ref B1), some (.int b2), some (.int b3), some (.int s0)], [.int b2, .int (g (B1 + 1) b3.toNatClampNeg), .int b3, .ref B1, .ref B0], aa_H g) rfl r
  refine rn_ic (ig_s v h) rfl decide_eq_true_iff.symm r (fun c40 l41n l41 r => ?_) (fun c40 l41n l41 r => ?_)
  · obtain ⟨n42, ln42, r⟩ := rn_steps 0 (99, [some (.ref B0), some (.ref B1), some (.int b2), some (.int b3), some (.int s0)], [.int s0, .int b3, .ref B1, .ref B0], aa_H g) rfl r
    exact dn_79_99 hB1 hB0 (some (.ref B0)) (some (.ref B1)) (some (.int b3)) (some (.int s0)) rn_jr rn_jr rn_ji rn_ji r
  · obtain ⟨n43, ln43, r⟩ := rn_steps 1 (99, [some (.ref B0), some (.ref B1), some (.int b2), some (.int b3), some (.int s0)], [.int b3, .int b3, .ref B1, .ref B0], aa_H g) rfl r
    exact dn_79_99 hB1 hB0 (some (.ref B0)) (some (.ref B1)) (some (.int b3)) (some (.int s0)) rn_jr rn_jr rn_ji rn_ji r
noncomputable def fn_79_51 (g : aa_G) (B0 : Nat) (B1 : Nat) (b2 : Int32) (b3 : Int32) : aa_G := if (fn_14 b3 0 11) = 0 then g else if ((g B1 1) - 1) ≤ b3 then fn_79_78 g B0 B1 b2 b3 0 else fn_79_78 g B0 B1 b2 b3 (b3 + 1)
theorem dn_79_51 {v : Option Value} {h : zz_H} {n : Nat} {g : aa_G} {B0 : Nat} {B1 : Nat} {b2 : Int32} {b3 : Int32} (hB0 : sp_ok B0) (hB1 : ct_tw B1) (x4 : Option Value) (jx4 : rn_jk x4) (r : rn_s n 79 (51, [some (.ref B0), some (.ref B1), some (.int b2), some (.int b3), x4], [], aa_H g) v h) : ig_s v h (fn_79_51 g B0 B1 b2 b3) := by
  unfold fn_79_51
  obtain ⟨n22, ln22, r⟩ := rn_steps 2 (55, [some (.ref B0), some (.ref B1), some (.int b2), some (.int b3), x4], [.int 11, .int 0, .int b3], aa_H g) rfl r
  obtain ⟨_, n23, v1, h1, -, ln23, rc, r⟩ := rn_call (m2 := 14) (as := [.int b3, .int 0, .int 11]) (rest := []) rfl rfl r
  obtain ⟨rfl, rfl⟩ := dn_14 rc
  have r : rn_s _ 79 (58, [some (.ref B0), some (.ref B1), some (.int b2), some (.int b3), x4], [.int (fn_14 b3 0 11)], aa_H g) v h := r
  refine rn_if (ig_s v h) rfl decide_eq_true_iff.symm r (fun c25 l26n l26 r => ?_) (fun c25 l26n l26 r => ?_)
  · exact rn_ret 1 rfl r
  · obtain ⟨n27, ln27, r⟩ := rn_steps 1 (63, [some (.ref B0), some (.ref B1), some (.int b2), some (.int b3), x4], [.ref B1, .int b3], aa_H g) rfl r
    obtain ⟨n28, ln28, r⟩ := rn_gf rfl (tw_hk hB1) (tw_hl hB1) rfl r
    have r : rn_s _ 79 (66, [some (.ref B0), some (.ref B1), some (.int b2), some (.int b3), x4], [.int (g B1 1), .int b3], aa_H g) v h := r
    obtain ⟨n29, ln29, r⟩ := rn_steps 1 (68, [some (.ref B0), some (.ref B1), some (.int b2), some (.int b3), x4], [.int ((g B1 1) - 1), .int b3], aa_H g) rfl r
    refine rn_ic (ig_s v h) rfl decide_eq_true_iff.symm r (fun c30 l31n l31 r => ?_) (fun c30 l31n l31 r => ?_)
    · obtain ⟨n32, ln32, r⟩ := rn_steps 0 (78, [some (.ref B0), some (.ref B1), some (.int b2), some (.int b3), x4], [.int 0], aa_H g) rfl r
      exact dn_79_78 hB0 hB1 x4 jx4 r
    · obtain ⟨n33, ln33, r⟩ := rn_steps 3 (78, [some (.ref B0), some (.ref B1), some (.int b2), some (.int b3), x4], [.int (b3 + 1)], aa_H g) rfl r
      exact dn_79_78 hB0 hB1 x4 jx4 r
noncomputable def fn_79_15b (g : aa_G) (B0 : Nat) (B1 : Nat) (b2 : Int32) (b3 : Int32) (b4 : Int32) : (Int32 × Int32) ⊕ aa_G := if (g B1 1) ≤ b4 then .inr (fn_79_51 g B0 B1 b2 b3) else if 12 ≤ b4 then .inr (fn_79_51 g B0 B1 b2 b3) else if b2 < (g (B1 + 1) b4.toNatClampNeg) then .inr (fn_79_51 g B0 B1 b2 b3) else .inl (b4, b4 + 1)
noncomputable def fn_79_15 (g : aa_G) (B0 : Nat) (B1 : Nat) (b2 : Int32) (b3 : Int32) (b4 : Int32) : aa_G := lp_f g (fun z : (Int32 × Int32) => fn_79_15b g B0 B1 b2 z.1 z.2) (b3, b4)
theorem dn_79_15l {v : Option Value} {h : zz_H} {N : Nat} {g : aa_G} {B0 : Nat} {B1 : Nat} {b2 : Int32} (hB0 : sp_ok B0) (hB1 : ct_tw B1) {d : aa_G} : ∀ (n : Nat), n ≤ N → ∀ (b3 : Int32) (b4 : Int32), rn_s n 79 (15, [some (.ref B0), some (.ref B1), some (.int b2), some (.int b3), some (.int b4)], [], aa_H g) v h → (ig_s v h) (lp_f d (fun z : (Int32 × Int32) => fn_79_15b g B0 B1 b2 z.1 z.2) (b3, b4)) := by
  generalize hf : (fun z : (Int32 × Int32) => fn_79_15b g B0 B1 b2 z.1 z.2) = f
  intro n
  induction n using Nat.strongRecOn with
  | _ n ih =>
    intro hN b3 b4  r
    refine lp_go ?_
    rw [← congrFun hf (b3, b4)]
    show lp_q (ig_s v h) d f (fn_79_15b g B0 B1 b2 b3 b4)
    unfold fn_79_15b
    obtain ⟨n6, ln6, r⟩ := rn_steps 1 (18, [some (.ref B0), some (.ref B1), some (.int b2), some (.int b3), some (.int b4)], [.ref B1, .int b4], aa_H g) rfl r
    obtain ⟨n7, ln7, r⟩ := rn_gf rfl (tw_hk hB1) (tw_hl hB1) rfl r
    have r : rn_s _ 79 (21, [some (.ref B0), some (.ref B1), some (.int b2), some (.int b3), some (.int b4)], [.int (g B1 1), .int b4], aa_H g) v h := r
    refine rn_ic (lp_q (ig_s v h) d f) rfl decide_eq_true_iff.symm r (fun c8 l9n l9 r => ?_) (fun c8 l9n l9 r => ?_)
    · exact dn_79_51 hB0 hB1 (some (.int b4)) rn_ji r
    · obtain ⟨n10, ln10, r⟩ := rn_steps 1 (28, [some (.ref B0), some (.ref B1), some (.int b2), some (.int b3), some (.int b4)], [.int 12, .int b4], aa_H g) rfl r
      refine rn_ic (lp_q (ig_s v h) d f) rfl decide_eq_true_iff.symm r (fun c11 l12n l12 r => ?_) (fun c11 l12n l12 r => ?_)
      · exact dn_79_51 hB0 hB1 (some (.int b4)) rn_ji r
      · obtain ⟨n13, ln13, r⟩ := rn_steps 0 (32, [some (.ref B0), some (.ref B1), some (.int b2), some (.int b3), some (.int b4)], [.ref B1], aa_H g) rfl r
        obtain ⟨n14, ln14, r⟩ := rn_gr rfl (tw_hk hB1) (tw_hl hB1) rfl r
        have r : rn_s _ 79 (35, [some (.ref B0), some (.ref B1), some (.int b2), some (.int b3), some (.int b4)], [.ref (B1 + 1)], aa_H g) v h := r
        obtain ⟨n15, ln15, r⟩ := rn_steps 0 (37, [some (.ref B0), some (.ref B1), some (.int b2), some (.int b3), some (.int b4)], [.int b4, .ref (B1 + 1)], aa_H g) rfl r
        obtain ⟨hb17, n16, ln16, r⟩ := rn_ial rfl (tw_a1 hB1).1 (tw_a1 hB1).2 r
        have r : rn_s _ 79 (38, [some (.ref B0), some (.ref B1), some (.int b2), some (.int b3), some (.int b4)], [.int (g (B1 + 1) b4.toNatClampNeg)], aa_H g) v h := r
        obtain ⟨n18, ln18, r⟩ := rn_steps 0 (39, [some (.ref B0), some (.ref B1), some (.int b2), some (.int b3), some (.int b4)], [.int b2, .int (g (B1 + 1) b4.toNatClampNeg)], aa_H g) rfl r
        refine rn_ic (lp_q (ig_s v h) d f) rfl decide_eq_true_iff.symm r (fun c19 l20n l20 r => ?_) (fun c19 l20n l20 r => ?_)
        · exact dn_79_51 hB0 hB1 (some (.int b4)) rn_ji r
        · obtain ⟨n21, ln21, r⟩ := rn_steps 3 (15, [some (.ref B0), some (.ref B1), some (.int b2), some (.int b4), some (.int (b4 + 1))], [], aa_H g) rfl r
          exact ih _ (by omega) (by omega) b4 (b4 + 1) r
theorem dn_79_15 {v : Option Value} {h : zz_H} {n : Nat} {g : aa_G} {B0 : Nat} {B1 : Nat} {b2 : Int32} {b3 : Int32} {b4 : Int32} (hB0 : sp_ok B0) (hB1 : ct_tw B1) (r : rn_s n 79 (15, [some (.ref B0), some (.ref B1), some (.int b2), some (.int b3), some (.int b4)], [], aa_H g) v h) : (ig_s v h) (fn_79_15 g B0 B1 b2 b3 b4) := dn_79_15l hB0 hB1 n (Nat.le_refl n) b3 b4 r
noncomputable def fn_79_6 (g : aa_G) (B0 : Nat) (B1 : Nat) (b2 : Int32) : aa_G := fn_79_15 g B0 B1 b2 ((g B1 1) - 1) 0
theorem dn_79_6 {v : Option Value} {h : zz_H} {n : Nat} {g : aa_G} {B0 : Nat} {B1 : Nat} {b2 : Int32} (hB0 : sp_ok B0) (hB1 : ct_tw B1) (x3 x4 : Option Value) (jx3 : rn_jk x3) (jx4 : rn_jk x4) (r : rn_s n 79 (6, [some (.ref B0), some (.ref B1), some (.int b2), x3, x4], [.ref B1], aa_H g) v h) : ig_s v h (fn_79_6 g B0 B1 b2) := by
  unfold fn_79_6
  obtain ⟨n4, ln4, r⟩ := rn_gf rfl (tw_hk hB1) (tw_hl hB1) rfl r
  have r : rn_s _ 79 (9, [some (.ref B0), some (.ref B1), some (.int b2), x3, x4], [.int (g B1 1)], aa_H g) v h := r
  obtain ⟨n5, ln5, r⟩ := rn_steps 4 (15, [some (.ref B0), some (.ref B1), some (.int b2), some (.int ((g B1 1) - 1)), some (.int 0)], [], aa_H g) rfl r
  exact dn_79_15 hB0 hB1 r
noncomputable def fn_79 (g : aa_G) (P : Nat) (T : Nat) (a2 : Int32) : aa_G := fn_79_6 (zz_w g P 5 0) P T a2
theorem dn_79 {v : Option Value} {h : zz_H} {n : Nat} {g : aa_G} {P : Nat} {T : Nat} {a2 : Int32} (hP : sp_ok P) (hT : ct_tw T) (r : rn_s n 79 (0, zz_in [.ref P, .ref T, .int a2] (zz_nl 79), [], aa_H g) v h) : ig_s v h (fn_79 g P T a2) := by
  have r : rn_s n 79 (0, [some (.ref P), some (.ref T), some (.int a2), none, none], [], aa_H g) v h := r
  unfold fn_79
  obtain ⟨n1, ln1, r⟩ := rn_steps 1 (2, [some (.ref P), some (.ref T), some (.int a2), none, none], [.int 0, .ref P], aa_H g) rfl r
  obtain ⟨n2, ln2, r⟩ := rn_pf rfl (sp_hk hP) (sp_hl hP) rfl r
  have r : rn_s _ 79 (5, [some (.ref P), some (.ref T), some (.int a2), none, none], [], aa_H (zz_w g P 5 0)) v h := r
  obtain ⟨n3, ln3, r⟩ := rn_steps 0 (6, [some (.ref P), some (.ref T), some (.int a2), none, none], [.ref T], aa_H (zz_w g P 5 0)) rfl r
  exact dn_79_6 hP hT none none rn_jn rn_jn r
-- 77: UnequalHours isDay
noncomputable def fn_77 (a0 : Int32) : Int32 := fn_14 a0 0 35999
theorem dn_77 {v : Option Value} {h : zz_H} {n : Nat} {g : aa_G} {a0 : Int32}  (r : rn_s n 77 (0, zz_in [.int a0] (zz_nl 77), [], aa_H g) v h) : ir_s g v h (fn_77 a0) := by
  have r : rn_s n 77 (0, [some (.int a0)], [], aa_H g) v h := r
  unfold fn_77
  obtain ⟨n1, ln1, r⟩ := rn_steps 2 (5, [some (.int a0)], [.int 35999, .int 0, .int a0], aa_H g) rfl r
  obtain ⟨_, n2, v1, h1, -, ln2, rc, r⟩ := rn_call (m2 := 14) (as := [.int a0, .int 0, .int 35999]) (rest := []) rfl rfl r
  obtain ⟨rfl, rfl⟩ := dn_14 rc
  have r : rn_s _ 77 (8, [some (.int a0)], [.int (fn_14 a0 0 35999)], aa_H g) v h := r
  exact rn_ire rfl r
-- 78: UnequalHours Span look
noncomputable def fn_78_149 (g : aa_G) (B0 : Nat) (b4 : Int32) (b5 : Int32) : aa_G := zz_w (zz_w (zz_w g B0 0 1) B0 3 b4) B0 4 (b5 - b4)
theorem dn_78_149 {v : Option Value} {h : zz_H} {n : Nat} {g : aa_G} {B0 : Nat} {b4 : Int32} {b5 : Int32} (hB0 : sp_ok B0) (x1 x2 x3 : Option Value) (jx1 : rn_jk x1) (jx2 : rn_jk x2) (jx3 : rn_jk x3) (r : rn_s n 78 (149, [some (.ref B0), x1, x2, x3, some (.int b4), some (.int b5)], [], aa_H g) v h) : ig_s v h (fn_78_149 g B0 b4 b5) := by
  unfold fn_78_149
  obtain ⟨n65, ln65, r⟩ := rn_steps 1 (151, [some (.ref B0), x1, x2, x3, some (.int b4), some (.int b5)], [.int 1, .ref B0], aa_H g) rfl r
  obtain ⟨n66, ln66, r⟩ := rn_pf rfl (sp_hk hB0) (sp_hl hB0) rfl r
  have r : rn_s _ 78 (154, [some (.ref B0), x1, x2, x3, some (.int b4), some (.int b5)], [], aa_H (zz_w g B0 0 1)) v h := r
  obtain ⟨n67, ln67, r⟩ := rn_steps 1 (157, [some (.ref B0), x1, x2, x3, some (.int b4), some (.int b5)], [.int b4, .ref B0], aa_H (zz_w g B0 0 1)) rfl r
  obtain ⟨n68, ln68, r⟩ := rn_pf rfl (sp_hk hB0) (sp_hl hB0) rfl r
  have r : rn_s _ 78 (160, [some (.ref B0), x1, x2, x3, some (.int b4), some (.int b5)], [], aa_H (zz_w (zz_w g B0 0 1) B0 3 b4)) v h := r
  obtain ⟨n69, ln69, r⟩ := rn_steps 3 (166, [some (.ref B0), x1, x2, x3, some (.int b4), some (.int b5)], [.int (b5 - b4), .ref B0], aa_H (zz_w (zz_w g B0 0 1) B0 3 b4)) rfl r
  obtain ⟨n70, ln70, r⟩ := rn_pf rfl (sp_hk hB0) (sp_hl hB0) rfl r
  have r : rn_s _ 78 (169, [some (.ref B0), x1, x2, x3, some (.int b4), some (.int b5)], [], aa_H (zz_w (zz_w (zz_w g B0 0 1) B0 3 b4) B0 4 (b5 - b4))) v h := r
  exact rn_ret 1 rfl r
noncomputable def fn_78_131 (g : aa_G) (B0 : Nat) (b4 : Int32) : aa_G := if (g B0 5) = (-1) then fn_78_149 g B0 b4 (86400 + (g B0 6)) else g
theorem dn_78_131 {v : Option Value} {h : zz_H} {n : Nat} {g : aa_G} {B0 : Nat} {b4 : Int32} (hB0 : sp_ok B0) (x1 x2 x3 x5 : Option Value) (jx1 : rn_jk x1) (jx2 : rn_jk x2) (jx3 : rn_jk x3) (jx5 : rn_jk x5) (r : rn_s n 78 (131, [some (.ref B0), x1, x2, x3, some (.int b4), x5], [], aa_H g) v h) : ig_s v h (fn_78_131 g B0 b4) := by
  unfold fn_78_131
  obtain ⟨n71, ln71, r⟩ := rn_steps 0 (132, [some (.ref B0), x1, x2, x3, some (.int b4), x5], [.ref B0], aa_H g) rfl r
  obtain ⟨n72, ln72, r⟩ := rn_gf rfl (sp_hk hB0) (sp_hl hB0) rfl r
  have r : rn_s _ 78 (135, [some (.ref B0), x1, x2, x3, some (.int b4), x5], [.int (g B0 5)], aa_H g) v h := r
  obtain ⟨n73, ln73, r⟩ := rn_steps 0 (136, [some (.ref B0), x1, x2, x3, some (.int b4), x5], [.int (-1), .int (g B0 5)], aa_H g) rfl r
  refine rn_ic (ig_s v h) rfl decide_eq_true_iff.symm r (fun c74 l75n l75 r => ?_) (fun c74 l75n l75 r => ?_)
  · obtain ⟨n76, ln76, r⟩ := rn_steps 1 (143, [some (.ref B0), x1, x2, x3, some (.int b4), x5], [.ref B0, .int 86400], aa_H g) rfl r
    obtain ⟨n77, ln77, r⟩ := rn_gf rfl (sp_hk hB0) (sp_hl hB0) rfl r
    have r : rn_s _ 78 (146, [some (.ref B0), x1, x2, x3, some (.int b4), x5], [.int (g B0 6), .int 86400], aa_H g) v h := r
    obtain ⟨n78, ln78, r⟩ := rn_steps 1 (149, [some (.ref B0), x1, x2, x3, some (.int b4), some (.int (86400 + (g B0 6)))], [], aa_H g) rfl r
    exact dn_78_149 hB0 x1 x2 x3 jx1 jx2 jx3 r
  · exact rn_ret 1 rfl r
noncomputable def fn_78_100 (g : aa_G) (B0 : Nat) (B1 : Nat) (s0 : Int32) : aa_G := if (g B0 2) ≠ 1 then fn_78_149 g B0 s0 (g B0 7) else fn_78_131 (fn_79 g B0 B1 (((g B0 1) + 1) - ((g B0 1) + 1) / 360 * 360)) B0 s0
theorem dn_78_100 {v : Option Value} {h : zz_H} {n : Nat} {g : aa_G} {B0 : Nat} {B1 : Nat} {s0 : Int32} (hB0 : sp_ok B0) (hB1 : ct_tw B1) (x2 x3 x4 x5 : Option Value) (jx2 : rn_jk x2) (jx3 : rn_jk x3) (jx4 : rn_jk x4) (jx5 : rn_jk x5) (r : rn_s n 78 (100, [some (.ref B0), some (.ref B1), x2, x3, x4, x5], [.int s0], aa_H g) v h) : ig_s v h (fn_78_100 g B0 B1 s0) := by
  unfold fn_78_100
  obtain ⟨n52, ln52, r⟩ := rn_isx (i := 4) rfl rfl jx3 rfl ⟨Nat.le_of_ble_eq_true rfl, Nat.le_of_ble_eq_true rfl⟩ r
  have r : rn_s _ 78 (102, [some (.ref B0), some (.ref B1), x2, x3, some (.int s0), x5], [], aa_H g) v h := r
  obtain ⟨n53, ln53, r⟩ := rn_steps 0 (103, [some (.ref B0), some (.ref B1), x2, x3, some (.int s0), x5], [.ref B0], aa_H g) rfl r
  obtain ⟨n54, ln54, r⟩ := rn_gf rfl (sp_hk hB0) (sp_hl hB0) rfl r
  have r : rn_s _ 78 (106, [some (.ref B0), some (.ref B1), x2, x3, some (.int s0), x5], [.int (g B0 7)], aa_H g) v h := r
  obtain ⟨n55, ln55, r⟩ := rn_steps 1 (109, [some (.ref B0), some (.ref B1), x2, x3, some (.int s0), some (.int (g B0 7))], [.ref B0], aa_H g) rfl r
  obtain ⟨n56, ln56, r⟩ := rn_gf rfl (sp_hk hB0) (sp_hl hB0) rfl r
  have r : rn_s _ 78 (112, [some (.ref B0), some (.ref B1), x2, x3, some (.int s0), some (.int (g B0 7))], [.int (g B0 2)], aa_H g) v h := r
  obtain ⟨n57, ln57, r⟩ := rn_steps 0 (113, [some (.ref B0), some (.ref B1), x2, x3, some (.int s0), some (.int (g B0 7))], [.int 1, .int (g B0 2)], aa_H g) rfl r
  refine rn_ic (ig_s v h) rfl decide_eq_true_iff.symm r (fun c58 l59n l59 r => ?_) (fun c58 l59n l59 r => ?_)
  · exact dn_78_149 hB0 (some (.ref B1)) x2 x3 rn_jr jx2 jx3 r
  · obtain ⟨n60, ln60, r⟩ := rn_steps 2 (119, [some (.ref B0), some (.ref B1), x2, x3, some (.int s0), some (.int (g B0 7))], [.ref B0, .ref B1, .ref B0], aa_H g) rfl r
    obtain ⟨n61, ln61, r⟩ := rn_gf rfl (sp_hk hB0) (sp_hl hB0) rfl r
    have r : rn_s _ 78 (122, [some (.ref B0), some (.ref B1), x2, x3, some (.int s0), some (.int (g B0 7))], [.int (g B0 1), .ref B1, .ref B0], aa_H g) v h := r
    obtain ⟨n62, ln62, r⟩ := rn_steps 3 (128, [some (.ref B0), some (.ref B1), x2, x3, some (.int s0), some (.int (g B0 7))], [.int (((g B0 1) + 1) - ((g B0 1) + 1) / 360 * 360), .ref B1, .ref B0], aa_H g) rfl r
    obtain ⟨_, n63, v1, h1, -, ln63, rc, r⟩ := rn_cv (k := B0) (as := [.ref B1, .int (((g B0 1) + 1) - ((g B0 1) + 1) / 360 * 360)]) (rest := []) rfl (sp_hk hB0) (sp_hl hB0) rfl rfl r
    obtain ⟨rfl, rfl⟩ := dn_79 hB0 hB1 rc
    have r : rn_s _ 78 (131, [some (.ref B0), some (.ref B1), x2, x3, some (.int s0), some (.int (g B0 7))], [], aa_H (fn_79 g B0 B1 (((g B0 1) + 1) - ((g B0 1) + 1) / 360 * 360))) v h := r
    exact dn_78_131 hB0 (some (.ref B1)) x2 x3 (some (.int (g B0 7))) rn_jr jx2 jx3 rn_ji r
noncomputable def fn_78_73 (g : aa_G) (B0 : Nat) (B1 : Nat) : aa_G := if (g B0 5) = (-1) then if (g B0 2) ≠ 0 then fn_78_100 g B0 B1 (g B0 7) else fn_78_100 g B0 B1 (g B0 6) else g
theorem dn_78_73 {v : Option Value} {h : zz_H} {n : Nat} {g : aa_G} {B0 : Nat} {B1 : Nat} (hB0 : sp_ok B0) (hB1 : ct_tw B1) (x2 x3 x4 x5 : Option Value) (jx2 : rn_jk x2) (jx3 : rn_jk x3) (jx4 : rn_jk x4) (jx5 : rn_jk x5) (r : rn_s n 78 (73, [some (.ref B0), some (.ref B1), x2, x3, x4, x5], [], aa_H g) v h) : ig_s v h (fn_78_73 g B0 B1) := by
  unfold fn_78_73
  obtain ⟨n38, ln38, r⟩ := rn_steps 0 (74, [some (.ref B0), some (.ref B1), x2, x3, x4, x5], [.ref B0], aa_H g) rfl r
  obtain ⟨n39, ln39, r⟩ := rn_gf rfl (sp_hk hB0) (sp_hl hB0) rfl r
  have r : rn_s _ 78 (77, [some (.ref B0), some (.ref B1), x2, x3, x4, x5], [.int (g B0 5)], aa_H g) v h := r
  obtain ⟨n40, ln40, r⟩ := rn_steps 0 (78, [some (.ref B0), some (.ref B1), x2, x3, x4, x5], [.int (-1), .int (g B0 5)], aa_H g) rfl r
  refine rn_ic (ig_s v h) rfl decide_eq_true_iff.symm r (fun c41 l42n l42 r => ?_) (fun c41 l42n l42 r => ?_)
  · obtain ⟨n43, ln43, r⟩ := rn_steps 0 (83, [some (.ref B0), some (.ref B1), x2, x3, x4, x5], [.ref B0], aa_H g) rfl r
    obtain ⟨n44, ln44, r⟩ := rn_gf rfl (sp_hk hB0) (sp_hl hB0) rfl r
    have r : rn_s _ 78 (86, [some (.ref B0), some (.ref B1), x2, x3, x4, x5], [.int (g B0 2)], aa_H g) v h := r
    refine rn_if (ig_s v h) rfl decide_eq_true_iff.symm r (fun c45 l46n l46 r => ?_) (fun c45 l46n l46 r => ?_)
    · obtain ⟨n47, ln47, r⟩ := rn_steps 0 (97, [some (.ref B0), some (.ref B1), x2, x3, x4, x5], [.ref B0], aa_H g) rfl r
      obtain ⟨n48, ln48, r⟩ := rn_gf rfl (sp_hk hB0) (sp_hl hB0) rfl r
      have r : rn_s _ 78 (100, [some (.ref B0), some (.ref B1), x2, x3, x4, x5], [.int (g B0 7)], aa_H g) v h := r
      exact dn_78_100 hB0 hB1 x2 x3 x4 x5 jx2 jx3 jx4 jx5 r
    · obtain ⟨n49, ln49, r⟩ := rn_steps 0 (90, [some (.ref B0), some (.ref B1), x2, x3, x4, x5], [.ref B0], aa_H g) rfl r
      obtain ⟨n50, ln50, r⟩ := rn_gf rfl (sp_hk hB0) (sp_hl hB0) rfl r
      have r : rn_s _ 78 (93, [some (.ref B0), some (.ref B1), x2, x3, x4, x5], [.int (g B0 6)], aa_H g) v h := r
      obtain ⟨n51, ln51, r⟩ := rn_steps 0 (100, [some (.ref B0), some (.ref B1), x2, x3, x4, x5], [.int (g B0 6)], aa_H g) rfl r
      exact dn_78_100 hB0 hB1 x2 x3 x4 x5 jx2 jx3 jx4 jx5 r
  · exact rn_ret 1 rfl r
noncomputable def fn_78_60 (g : aa_G) (B0 : Nat) (B1 : Nat) : aa_G := fn_78_73 (fn_79 g B0 B1 ((g B0 1) - (g B0 1) / 360 * 360)) B0 B1
theorem dn_78_60 {v : Option Value} {h : zz_H} {n : Nat} {g : aa_G} {B0 : Nat} {B1 : Nat} (hB0 : sp_ok B0) (hB1 : ct_tw B1) (x2 x3 x4 x5 : Option Value) (jx2 : rn_jk x2) (jx3 : rn_jk x3) (jx4 : rn_jk x4) (jx5 : rn_jk x5) (r : rn_s n 78 (60, [some (.ref B0), some (.ref B1), x2, x3, x4, x5], [], aa_H g) v h) : ig_s v h (fn_78_60 g B0 B1) := by
  unfold fn_78_60
  obtain ⟨n33, ln33, r⟩ := rn_steps 2 (63, [some (.ref B0), some (.ref B1), x2, x3, x4, x5], [.ref B0, .ref B1, .ref B0], aa_H g) rfl r
  obtain ⟨n34, ln34, r⟩ := rn_gf rfl (sp_hk hB0) (sp_hl hB0) rfl r
  have r : rn_s _ 78 (66, [some (.ref B0), some (.ref B1), x2, x3, x4, x5], [.int (g B0 1), .ref B1, .ref B0], aa_H g) v h := r
  obtain ⟨n35, ln35, r⟩ := rn_steps 1 (70, [some (.ref B0), some (.ref B1), x2, x3, x4, x5], [.int ((g B0 1) - (g B0 1) / 360 * 360), .ref B1, .ref B0], aa_H g) rfl r
  obtain ⟨_, n36, v1, h1, -, ln36, rc, r⟩ := rn_cv (k := B0) (as := [.ref B1, .int ((g B0 1) - (g B0 1) / 360 * 360)]) (rest := []) rfl (sp_hk hB0) (sp_hl hB0) rfl rfl r
  obtain ⟨rfl, rfl⟩ := dn_79 hB0 hB1 rc
  have r : rn_s _ 78 (73, [some (.ref B0), some (.ref B1), x2, x3, x4, x5], [], aa_H (fn_79 g B0 B1 ((g B0 1) - (g B0 1) / 360 * 360))) v h := r
  exact dn_78_73 hB0 hB1 x2 x3 x4 x5 jx2 jx3 jx4 jx5 r
noncomputable def fn_78_30 (g : aa_G) (B0 : Nat) (B1 : Nat) : aa_G := if (fn_77 (g B0 1)) = 0 then g else if (g B0 2) ≠ 1 then fn_78_60 g B0 B1 else if (fn_77 ((g B0 1) + 1)) ≠ 0 then fn_78_60 g B0 B1 else g
theorem dn_78_30 {v : Option Value} {h : zz_H} {n : Nat} {g : aa_G} {B0 : Nat} {B1 : Nat} (hB0 : sp_ok B0) (hB1 : ct_tw B1) (x2 x3 x4 x5 : Option Value) (jx2 : rn_jk x2) (jx3 : rn_jk x3) (jx4 : rn_jk x4) (jx5 : rn_jk x5) (r : rn_s n 78 (30, [some (.ref B0), some (.ref B1), x2, x3, x4, x5], [.ref B0], aa_H g) v h) : ig_s v h (fn_78_30 g B0 B1) := by
  unfold fn_78_30
  obtain ⟨n16, ln16, r⟩ := rn_gf rfl (sp_hk hB0) (sp_hl hB0) rfl r
  have r : rn_s _ 78 (33, [some (.ref B0), some (.ref B1), x2, x3, x4, x5], [.int (g B0 1)], aa_H g) v h := r
  obtain ⟨_, n17, v1, h1, -, ln17, rc, r⟩ := rn_call (m2 := 77) (as := [.int (g B0 1)]) (rest := []) rfl rfl r
  obtain ⟨rfl, rfl⟩ := dn_77 rc
  have r : rn_s _ 78 (36, [some (.ref B0), some (.ref B1), x2, x3, x4, x5], [.int (fn_77 (g B0 1))], aa_H g) v h := r
  refine rn_if (ig_s v h) rfl decide_eq_true_iff.symm r (fun c19 l20n l20 r => ?_) (fun c19 l20n l20 r => ?_)
  · exact rn_ret 1 rfl r
  · obtain ⟨n21, ln21, r⟩ := rn_steps 0 (40, [some (.ref B0), some (.ref B1), x2, x3, x4, x5], [.ref B0], aa_H g) rfl r
    obtain ⟨n22, ln22, r⟩ := rn_gf rfl (sp_hk hB0) (sp_hl hB0) rfl r
    have r : rn_s _ 78 (43, [some (.ref B0), some (.ref B1), x2, x3, x4, x5], [.int (g B0 2)], aa_H g) v h := r
    obtain ⟨n23, ln23, r⟩ := rn_steps 0 (44, [some (.ref B0), some (.ref B1), x2, x3, x4, x5], [.int 1, .int (g B0 2)], aa_H g) rfl r
    refine rn_ic (ig_s v h) rfl decide_eq_true_iff.symm r (fun c24 l25n l25 r => ?_) (fun c24 l25n l25 r => ?_)
    · exact dn_78_60 hB0 hB1 x2 x3 x4 x5 jx2 jx3 jx4 jx5 r
    · obtain ⟨n26, ln26, r⟩ := rn_steps 0 (48, [some (.ref B0), some (.ref B1), x2, x3, x4, x5], [.ref B0], aa_H g) rfl r
      obtain ⟨n27, ln27, r⟩ := rn_gf rfl (sp_hk hB0) (sp_hl hB0) rfl r
      have r : rn_s _ 78 (51, [some (.ref B0), some (.ref B1), x2, x3, x4, x5], [.int (g B0 1)], aa_H g) v h := r
      obtain ⟨n28, ln28, r⟩ := rn_steps 1 (53, [some (.ref B0), some (.ref B1), x2, x3, x4, x5], [.int ((g B0 1) + 1)], aa_H g) rfl r
      obtain ⟨_, n29, v1, h1, -, ln29, rc, r⟩ := rn_call (m2 := 77) (as := [.int ((g B0 1) + 1)]) (rest := []) rfl rfl r
      obtain ⟨rfl, rfl⟩ := dn_77 rc
      have r : rn_s _ 78 (56, [some (.ref B0), some (.ref B1), x2, x3, x4, x5], [.int (fn_77 ((g B0 1) + 1))], aa_H g) v h := r
      refine rn_if (ig_s v h) rfl decide_eq_true_iff.symm r (fun c31 l32n l32 r => ?_) (fun c31 l32n l32 r => ?_)
      · exact dn_78_60 hB0 hB1 x2 x3 x4 x5 jx2 jx3 jx4 jx5 r
      · exact rn_ret 1 rfl r
noncomputable def fn_78 (g : aa_G) (P : Nat) (T : Option Nat) (a2 : Int32) (a3 : Int32) : aa_G := (match T with | none => (zz_w (zz_w (zz_w (zz_w (zz_w g P 0 0) P 1 a2) P 2 a3) P 3 0) P 4 0) | some W12 => (fn_78_30 (zz_w (zz_w (zz_w (zz_w (zz_w g P 0 0) P 1 a2) P 2 a3) P 3 0) P 4 0) P W12))
theorem dn_78 {v : Option Value} {h : zz_H} {n : Nat} {g : aa_G} {P : Nat} {T : Option Nat} {a2 : Int32} {a3 : Int32} (hP : sp_ok P) (hT : ∀ W, T = some W → ct_tw W) (r : rn_s n 78 (0, zz_in [.ref P, zz_val T, .int a2, .int a3] (zz_nl 78), [], aa_H g) v h) : ig_s v h (fn_78 g P T a2 a3) := by
  have r : rn_s n 78 (0, [some (.ref P), some (zz_val T), some (.int a2), some (.int a3), none, none], [], aa_H g) v h := by cases T <;> exact r
  unfold fn_78
  obtain ⟨n1, ln1, r⟩ := rn_steps 1 (2, [some (.ref P), some (zz_val T), some (.int a2), some (.int a3), none, none], [.int 0, .ref P], aa_H g) rfl r
  obtain ⟨n2, ln2, r⟩ := rn_pf rfl (sp_hk hP) (sp_hl hP) rfl r
  have r : rn_s _ 78 (5, [some (.ref P), some (zz_val T), some (.int a2), some (.int a3), none, none], [], aa_H (zz_w g P 0 0)) v h := r
  obtain ⟨n3, ln3, r⟩ := rn_steps 1 (7, [some (.ref P), some (zz_val T), some (.int a2), some (.int a3), none, none], [.int a2, .ref P], aa_H (zz_w g P 0 0)) rfl r
  obtain ⟨n4, ln4, r⟩ := rn_pf rfl (sp_hk hP) (sp_hl hP) rfl r
  have r : rn_s _ 78 (10, [some (.ref P), some (zz_val T), some (.int a2), some (.int a3), none, none], [], aa_H (zz_w (zz_w g P 0 0) P 1 a2)) v h := r
  obtain ⟨n5, ln5, r⟩ := rn_steps 1 (12, [some (.ref P), some (zz_val T), some (.int a2), some (.int a3), none, none], [.int a3, .ref P], aa_H (zz_w (zz_w g P 0 0) P 1 a2)) rfl r
  obtain ⟨n6, ln6, r⟩ := rn_pf rfl (sp_hk hP) (sp_hl hP) rfl r
  have r : rn_s _ 78 (15, [some (.ref P), some (zz_val T), some (.int a2), some (.int a3), none, none], [], aa_H (zz_w (zz_w (zz_w g P 0 0) P 1 a2) P 2 a3)) v h := r
  obtain ⟨n7, ln7, r⟩ := rn_steps 1 (17, [some (.ref P), some (zz_val T), some (.int a2), some (.int a3), none, none], [.int 0, .ref P], aa_H (zz_w (zz_w (zz_w g P 0 0) P 1 a2) P 2 a3)) rfl r
  obtain ⟨n8, ln8, r⟩ := rn_pf rfl (sp_hk hP) (sp_hl hP) rfl r
  have r : rn_s _ 78 (20, [some (.ref P), some (zz_val T), some (.int a2), some (.int a3), none, none], [], aa_H (zz_w (zz_w (zz_w (zz_w g P 0 0) P 1 a2) P 2 a3) P 3 0)) v h := r
  obtain ⟨n9, ln9, r⟩ := rn_steps 1 (22, [some (.ref P), some (zz_val T), some (.int a2), some (.int a3), none, none], [.int 0, .ref P], aa_H (zz_w (zz_w (zz_w (zz_w g P 0 0) P 1 a2) P 2 a3) P 3 0)) rfl r
  obtain ⟨n10, ln10, r⟩ := rn_pf rfl (sp_hk hP) (sp_hl hP) rfl r
  have r : rn_s _ 78 (25, [some (.ref P), some (zz_val T), some (.int a2), some (.int a3), none, none], [], aa_H (zz_w (zz_w (zz_w (zz_w (zz_w g P 0 0) P 1 a2) P 2 a3) P 3 0) P 4 0)) v h := r
  cases e11 : T with
  | none =>
    rw [e11] at r
    have r : rn_s _ 78 (25, [some (.ref P), some (.null), some (.int a2), some (.int a3), none, none], [], aa_H (zz_w (zz_w (zz_w (zz_w (zz_w g P 0 0) P 1 a2) P 2 a3) P 3 0) P 4 0)) v h := r
    dsimp only
    obtain ⟨n14, ln14, r⟩ := rn_steps 1 (59, [some (.ref P), some (.null), some (.int a2), some (.int a3), none, none], [], aa_H (zz_w (zz_w (zz_w (zz_w (zz_w g P 0 0) P 1 a2) P 2 a3) P 3 0) P 4 0)) rfl r
    exact rn_ret 1 rfl r
  | some W12 =>
    rw [e11] at r
    have hw13 : ct_tw W12 := hT _ e11
    have r : rn_s _ 78 (25, [some (.ref P), some (.ref W12), some (.int a2), some (.int a3), none, none], [], aa_H (zz_w (zz_w (zz_w (zz_w (zz_w g P 0 0) P 1 a2) P 2 a3) P 3 0) P 4 0)) v h := r
    dsimp only
    obtain ⟨n15, ln15, r⟩ := rn_steps 2 (30, [some (.ref P), some (.ref W12), some (.int a2), some (.int a3), none, none], [.ref P], aa_H (zz_w (zz_w (zz_w (zz_w (zz_w g P 0 0) P 1 a2) P 2 a3) P 3 0) P 4 0)) rfl r
    exact dn_78_30 hP hw13 (some (.int a2)) (some (.int a3)) none none rn_ji rn_ji rn_jn rn_jn r
-- 86: UnequalHours Span find
noncomputable def fn_86_62 (g : aa_G) (S0 : Nat) : Int32 × aa_G := (g S0 0, g)
theorem dn_86_62 {v : Option Value} {h : zz_H} {n : Nat} {g : aa_G} {S0 : Nat} (hS0 : sp_ok S0) (x0 x1 x2 x3 : Option Value) (jx0 : rn_jk x0) (jx1 : rn_jk x1) (jx2 : rn_jk x2) (jx3 : rn_jk x3) (r : rn_s n 86 (62, [x0, x1, x2, x3], [.ref S0], aa_H g) v h) : iw_s v h (fn_86_62 g S0) := by
  unfold fn_86_62
  obtain ⟨n33, ln33, r⟩ := rn_gf rfl (sp_hk hS0) (sp_hl hS0) rfl r
  have r : rn_s _ 86 (65, [x0, x1, x2, x3], [.int (g S0 0)], aa_H g) v h := r
  exact rn_ire rfl r
noncomputable def fn_86_34 (g : aa_G) (B0 : Nat) (B1 : Nat) (b2 : Int32) (b3 : Int32) : Int32 × aa_G := if (g B0 0) = 0 then fn_86_62 g B0 else if b3 < ((g B0 3) + (g B0 4)) then fn_86_62 g B0 else fn_86_62 (fn_78 g B0 (some B1) b2 1) B0
theorem dn_86_34 {v : Option Value} {h : zz_H} {n : Nat} {g : aa_G} {B0 : Nat} {B1 : Nat} {b2 : Int32} {b3 : Int32} (hB0 : sp_ok B0) (hB1 : ct_tw B1) (r : rn_s n 86 (34, [some (.ref B0), some (.ref B1), some (.int b2), some (.int b3)], [], aa_H g) v h) : iw_s v h (fn_86_34 g B0 B1 b2 b3) := by
  unfold fn_86_34
  obtain ⟨n16, ln16, r⟩ := rn_steps 0 (35, [some (.ref B0), some (.ref B1), some (.int b2), some (.int b3)], [.ref B0], aa_H g) rfl r
  obtain ⟨n17, ln17, r⟩ := rn_gf rfl (sp_hk hB0) (sp_hl hB0) rfl r
  have r : rn_s _ 86 (38, [some (.ref B0), some (.ref B1), some (.int b2), some (.int b3)], [.int (g B0 0)], aa_H g) v h := r
  refine rn_if (iw_s v h) rfl decide_eq_true_iff.symm r (fun c18 l19n l19 r => ?_) (fun c18 l19n l19 r => ?_)
  · obtain ⟨n20, ln20, r⟩ := rn_steps 0 (62, [some (.ref B0), some (.ref B1), some (.int b2), some (.int b3)], [.ref B0], aa_H g) rfl r
    exact dn_86_62 hB0 (some (.ref B0)) (some (.ref B1)) (some (.int b2)) (some (.int b3)) rn_jr rn_jr rn_ji rn_ji r
  · obtain ⟨n21, ln21, r⟩ := rn_steps 1 (43, [some (.ref B0), some (.ref B1), some (.int b2), some (.int b3)], [.ref B0, .int b3], aa_H g) rfl r
    obtain ⟨n22, ln22, r⟩ := rn_gf rfl (sp_hk hB0) (sp_hl hB0) rfl r
    have r : rn_s _ 86 (46, [some (.ref B0), some (.ref B1), some (.int b2), some (.int b3)], [.int (g B0 3), .int b3], aa_H g) v h := r
    obtain ⟨n23, ln23, r⟩ := rn_steps 0 (47, [some (.ref B0), some (.ref B1), some (.int b2), some (.int b3)], [.ref B0, .int (g B0 3), .int b3], aa_H g) rfl r
    obtain ⟨n24, ln24, r⟩ := rn_gf rfl (sp_hk hB0) (sp_hl hB0) rfl r
    have r : rn_s _ 86 (50, [some (.ref B0), some (.ref B1), some (.int b2), some (.int b3)], [.int (g B0 4), .int (g B0 3), .int b3], aa_H g) v h := r
    obtain ⟨n25, ln25, r⟩ := rn_steps 0 (51, [some (.ref B0), some (.ref B1), some (.int b2), some (.int b3)], [.int ((g B0 3) + (g B0 4)), .int b3], aa_H g) rfl r
    refine rn_ic (iw_s v h) rfl decide_eq_true_iff.symm r (fun c26 l27n l27 r => ?_) (fun c26 l27n l27 r => ?_)
    · obtain ⟨n28, ln28, r⟩ := rn_steps 0 (62, [some (.ref B0), some (.ref B1), some (.int b2), some (.int b3)], [.ref B0], aa_H g) rfl r
      exact dn_86_62 hB0 (some (.ref B0)) (some (.ref B1)) (some (.int b2)) (some (.int b3)) rn_jr rn_jr rn_ji rn_ji r
    · obtain ⟨n29, ln29, r⟩ := rn_steps 3 (58, [some (.ref B0), some (.ref B1), some (.int b2), some (.int b3)], [.int 1, .int b2, .ref B1, .ref B0], aa_H g) rfl r
      obtain ⟨_, n30, v1, h1, -, ln30, rc, r⟩ := rn_cv (k := B0) (as := [.ref B1, .int b2, .int 1]) (rest := []) rfl (sp_hk hB0) (sp_hl hB0) rfl rfl r
      obtain ⟨rfl, rfl⟩ := dn_78 hB0 (rn_o1 hB1) rc
      have r : rn_s _ 86 (61, [some (.ref B0), some (.ref B1), some (.int b2), some (.int b3)], [], aa_H (fn_78 g B0 (some B1) b2 1)) v h := r
      obtain ⟨n32, ln32, r⟩ := rn_steps 0 (62, [some (.ref B0), some (.ref B1), some (.int b2), some (.int b3)], [.ref B0], aa_H (fn_78 g B0 (some B1) b2 1)) rfl r
      exact dn_86_62 hB0 (some (.ref B0)) (some (.ref B1)) (some (.int b2)) (some (.int b3)) rn_jr rn_jr rn_ji rn_ji r
noncomputable def fn_86_7 (g : aa_G) (B0 : Nat) (B1 : Nat) (b2 : Int32) (b3 : Int32) : Int32 × aa_G := if (g B0 0) = 0 then fn_86_34 g B0 B1 b2 b3 else if (g B0 3) ≤ b3 then fn_86_34 g B0 B1 b2 b3 else fn_86_62 (fn_78 g B0 (some B1) (b2 - 1) 1) B0
theorem dn_86_7 {v : Option Value} {h : zz_H} {n : Nat} {g : aa_G} {B0 : Nat} {B1 : Nat} {b2 : Int32} {b3 : Int32} (hB0 : sp_ok B0) (hB1 : ct_tw B1) (r : rn_s n 86 (7, [some (.ref B0), some (.ref B1), some (.int b2), some (.int b3)], [], aa_H g) v h) : iw_s v h (fn_86_7 g B0 B1 b2 b3) := by
  unfold fn_86_7
  obtain ⟨n4, ln4, r⟩ := rn_steps 0 (8, [some (.ref B0), some (.ref B1), some (.int b2), some (.int b3)], [.ref B0], aa_H g) rfl r
  obtain ⟨n5, ln5, r⟩ := rn_gf rfl (sp_hk hB0) (sp_hl hB0) rfl r
  have r : rn_s _ 86 (11, [some (.ref B0), some (.ref B1), some (.int b2), some (.int b3)], [.int (g B0 0)], aa_H g) v h := r
  refine rn_if (iw_s v h) rfl decide_eq_true_iff.symm r (fun c6 l7n l7 r => ?_) (fun c6 l7n l7 r => ?_)
  · exact dn_86_34 hB0 hB1 r
  · obtain ⟨n8, ln8, r⟩ := rn_steps 1 (16, [some (.ref B0), some (.ref B1), some (.int b2), some (.int b3)], [.ref B0, .int b3], aa_H g) rfl r
    obtain ⟨n9, ln9, r⟩ := rn_gf rfl (sp_hk hB0) (sp_hl hB0) rfl r
    have r : rn_s _ 86 (19, [some (.ref B0), some (.ref B1), some (.int b2), some (.int b3)], [.int (g B0 3), .int b3], aa_H g) v h := r
    refine rn_ic (iw_s v h) rfl decide_eq_true_iff.symm r (fun c10 l11n l11 r => ?_) (fun c10 l11n l11 r => ?_)
    · exact dn_86_34 hB0 hB1 r
    · obtain ⟨n12, ln12, r⟩ := rn_steps 5 (28, [some (.ref B0), some (.ref B1), some (.int b2), some (.int b3)], [.int 1, .int (b2 - 1), .ref B1, .ref B0], aa_H g) rfl r
      obtain ⟨_, n13, v1, h1, -, ln13, rc, r⟩ := rn_cv (k := B0) (as := [.ref B1, .int (b2 - 1), .int 1]) (rest := []) rfl (sp_hk hB0) (sp_hl hB0) rfl rfl r
      obtain ⟨rfl, rfl⟩ := dn_78 hB0 (rn_o1 hB1) rc
      have r : rn_s _ 86 (31, [some (.ref B0), some (.ref B1), some (.int b2), some (.int b3)], [], aa_H (fn_78 g B0 (some B1) (b2 - 1) 1)) v h := r
      obtain ⟨n15, ln15, r⟩ := rn_steps 1 (62, [some (.ref B0), some (.ref B1), some (.int b2), some (.int b3)], [.ref B0], aa_H (fn_78 g B0 (some B1) (b2 - 1) 1)) rfl r
      exact dn_86_62 hB0 (some (.ref B0)) (some (.ref B1)) (some (.int b2)) (some (.int b3)) rn_jr rn_jr rn_ji rn_ji r
noncomputable def fn_86 (g : aa_G) (P : Nat) (T : Nat) (a2 : Int32) (a3 : Int32) : Int32 × aa_G := fn_86_7 (fn_78 g P (some T) a2 0) P T a2 a3
theorem dn_86 {v : Option Value} {h : zz_H} {n : Nat} {g : aa_G} {P : Nat} {T : Nat} {a2 : Int32} {a3 : Int32} (hP : sp_ok P) (hT : ct_tw T) (r : rn_s n 86 (0, zz_in [.ref P, .ref T, .int a2, .int a3] (zz_nl 86), [], aa_H g) v h) : iw_s v h (fn_86 g P T a2 a3) := by
  have r : rn_s n 86 (0, [some (.ref P), some (.ref T), some (.int a2), some (.int a3)], [], aa_H g) v h := r
  unfold fn_86
  obtain ⟨n1, ln1, r⟩ := rn_steps 3 (4, [some (.ref P), some (.ref T), some (.int a2), some (.int a3)], [.int 0, .int a2, .ref T, .ref P], aa_H g) rfl r
  obtain ⟨_, n2, v1, h1, -, ln2, rc, r⟩ := rn_cv (k := P) (as := [.ref T, .int a2, .int 0]) (rest := []) rfl (sp_hk hP) (sp_hl hP) rfl rfl r
  obtain ⟨rfl, rfl⟩ := dn_78 hP (rn_o1 hT) rc
  have r : rn_s _ 86 (7, [some (.ref P), some (.ref T), some (.int a2), some (.int a3)], [], aa_H (fn_78 g P (some T) a2 0)) v h := r
  exact dn_86_7 hP hT r
-- 31: UnequalHours State townAt
noncomputable def fn_31 (g : aa_G) (a1 : Int32) : Option Nat := if (fn_14 a1 0 ((g 2 0) - 1)) = 0 then none else some (5 * a1.toNatClampNeg + 14)
theorem dn_31 {v : Option Value} {h : zz_H} {n : Nat} {g : aa_G} {a1 : Int32}  (r : rn_s n 31 (0, zz_in [.ref 2, .int a1] (zz_nl 31), [], aa_H g) v h) : io_s g v h (fn_31 g a1) := by
  have r : rn_s n 31 (0, [some (.ref 2), some (.int a1)], [], aa_H g) v h := r
  unfold fn_31
  obtain ⟨n1, ln1, r⟩ := rn_steps 5 (8, [some (.ref 2), some (.int a1)], [.int ((g 2 0) - 1), .int 0, .int a1], aa_H g) rfl r
  obtain ⟨_, n2, v1, h1, -, ln2, rc, r⟩ := rn_call (m2 := 14) (as := [.int a1, .int 0, .int ((g 2 0) - 1)]) (rest := []) rfl rfl r
  obtain ⟨rfl, rfl⟩ := dn_14 rc
  have r : rn_s _ 31 (11, [some (.ref 2), some (.int a1)], [.int (fn_14 a1 0 ((g 2 0) - 1))], aa_H g) v h := r
  refine rn_if (io_s g v h) rfl decide_eq_true_iff.symm r (fun c4 l5n l5 r => ?_) (fun c4 l5n l5 r => ?_)
  · obtain ⟨n6, ln6, r⟩ := rn_steps 0 (24, [some (.ref 2), some (.int a1)], [.null], aa_H g) rfl r
    exact rn_io0 (rn_ret 1 rfl r)
  · obtain ⟨n7, ln7, r⟩ := rn_steps 2 (19, [some (.ref 2), some (.int a1)], [.int a1, .ref 3], aa_H g) rfl r
    obtain ⟨hb9, n8, ln8, r⟩ := rn_aal (k := 3) (c := 5) (b := 14) (N := 4) rfl ⟨by decide, by decide⟩ rfl rfl (by decide) (by decide) r
    have ho10 : ct_tw (5 * a1.toNatClampNeg + 14) := rn_twat hb9
    have r : rn_s _ 31 (20, [some (.ref 2), some (.int a1)], [.ref (5 * a1.toNatClampNeg + 14)], aa_H g) v h := r
    obtain ⟨n11, ln11, r⟩ := rn_steps 0 (24, [some (.ref 2), some (.int a1)], [.ref (5 * a1.toNatClampNeg + 14)], aa_H g) rfl r
    exact rn_io1 ho10 (rn_ret 1 rfl r)
-- 133: UnequalHours firstOf
noncomputable def fn_133 (g : aa_G) (a1 : Int32) : Option Nat := if (fn_14 a1 0 15) = 0 then none else (match fn_31 g (a1 / 4) with | none => (none) | some W13 => (some W13))
theorem dn_133 {v : Option Value} {h : zz_H} {n : Nat} {g : aa_G} {a1 : Int32}  (r : rn_s n 133 (0, zz_in [.ref 1, .int a1] (zz_nl 133), [], aa_H g) v h) : io_s g v h (fn_133 g a1) := by
  have r : rn_s n 133 (0, [some (.ref 1), some (.int a1)], [], aa_H g) v h := r
  unfold fn_133
  obtain ⟨n1, ln1, r⟩ := rn_steps 2 (4, [some (.ref 1), some (.int a1)], [.int 15, .int 0, .int a1], aa_H g) rfl r
  obtain ⟨_, n2, v1, h1, -, ln2, rc, r⟩ := rn_call (m2 := 14) (as := [.int a1, .int 0, .int 15]) (rest := []) rfl rfl r
  obtain ⟨rfl, rfl⟩ := dn_14 rc
  have r : rn_s _ 133 (7, [some (.ref 1), some (.int a1)], [.int (fn_14 a1 0 15)], aa_H g) v h := r
  refine rn_if (io_s g v h) rfl decide_eq_true_iff.symm r (fun c4 l5n l5 r => ?_) (fun c4 l5n l5 r => ?_)
  · obtain ⟨n6, ln6, r⟩ := rn_steps 0 (24, [some (.ref 1), some (.int a1)], [.null], aa_H g) rfl r
    exact rn_io0 (rn_ret 1 rfl r)
  · obtain ⟨n7, ln7, r⟩ := rn_steps 4 (17, [some (.ref 1), some (.int a1)], [.int (a1 / 4), .ref 2], aa_H g) rfl r
    obtain ⟨_, n8, v1, h1, -, ln8, rc, r⟩ := rn_call (m2 := 31) (as := [.ref 2, .int (a1 / 4)]) (rest := []) rfl rfl r
    obtain ⟨rfl, rfl, ho10⟩ := dn_31 rc
    have r : rn_s _ 133 (20, [some (.ref 1), some (.int a1)], [zz_val (fn_31 g (a1 / 4))], aa_H g) v h := r
    obtain ⟨n11, ln11, r⟩ := rn_steps 0 (24, [some (.ref 1), some (.int a1)], [zz_val (fn_31 g (a1 / 4))], aa_H g) rfl r
    cases e12 : fn_31 g (a1 / 4) with
    | none =>
      rw [e12] at r
      have r : rn_s _ 133 (24, [some (.ref 1), some (.int a1)], [.null], aa_H g) v h := r
      dsimp only
      exact rn_io0 (rn_ret 1 rfl r)
    | some W13 =>
      rw [e12] at r
      have hw14 : ct_tw W13 := ho10 _ e12
      have r : rn_s _ 133 (24, [some (.ref 1), some (.int a1)], [.ref W13], aa_H g) v h := r
      dsimp only
      exact rn_io1 hw14 (rn_ret 1 rfl r)
-- 134: UnequalHours secondOf
noncomputable def fn_134 (g : aa_G) (a1 : Int32) : Option Nat := if (fn_14 a1 0 15) = 0 then none else (match fn_31 g (a1 - a1 / 4 * 4) with | none => (none) | some W13 => (some W13))
theorem dn_134 {v : Option Value} {h : zz_H} {n : Nat} {g : aa_G} {a1 : Int32}  (r : rn_s n 134 (0, zz_in [.ref 1, .int a1] (zz_nl 134), [], aa_H g) v h) : io_s g v h (fn_134 g a1) := by
  have r : rn_s n 134 (0, [some (.ref 1), some (.int a1)], [], aa_H g) v h := r
  unfold fn_134
  obtain ⟨n1, ln1, r⟩ := rn_steps 2 (4, [some (.ref 1), some (.int a1)], [.int 15, .int 0, .int a1], aa_H g) rfl r
  obtain ⟨_, n2, v1, h1, -, ln2, rc, r⟩ := rn_call (m2 := 14) (as := [.int a1, .int 0, .int 15]) (rest := []) rfl rfl r
  obtain ⟨rfl, rfl⟩ := dn_14 rc
  have r : rn_s _ 134 (7, [some (.ref 1), some (.int a1)], [.int (fn_14 a1 0 15)], aa_H g) v h := r
  refine rn_if (io_s g v h) rfl decide_eq_true_iff.symm r (fun c4 l5n l5 r => ?_) (fun c4 l5n l5 r => ?_)
  · obtain ⟨n6, ln6, r⟩ := rn_steps 0 (24, [some (.ref 1), some (.int a1)], [.null], aa_H g) rfl r
    exact rn_io0 (rn_ret 1 rfl r)
  · obtain ⟨n7, ln7, r⟩ := rn_steps 4 (17, [some (.ref 1), some (.int a1)], [.int (a1 - a1 / 4 * 4), .ref 2], aa_H g) rfl r
    obtain ⟨_, n8, v1, h1, -, ln8, rc, r⟩ := rn_call (m2 := 31) (as := [.ref 2, .int (a1 - a1 / 4 * 4)]) (rest := []) rfl rfl r
    obtain ⟨rfl, rfl, ho10⟩ := dn_31 rc
    have r : rn_s _ 134 (20, [some (.ref 1), some (.int a1)], [zz_val (fn_31 g (a1 - a1 / 4 * 4))], aa_H g) v h := r
    obtain ⟨n11, ln11, r⟩ := rn_steps 0 (24, [some (.ref 1), some (.int a1)], [zz_val (fn_31 g (a1 - a1 / 4 * 4))], aa_H g) rfl r
    cases e12 : fn_31 g (a1 - a1 / 4 * 4) with
    | none =>
      rw [e12] at r
      have r : rn_s _ 134 (24, [some (.ref 1), some (.int a1)], [.null], aa_H g) v h := r
      dsimp only
      exact rn_io0 (rn_ret 1 rfl r)
    | some W13 =>
      rw [e12] at r
      have hw14 : ct_tw W13 := ho10 _ e12
      have r : rn_s _ 134 (24, [some (.ref 1), some (.int a1)], [.ref W13], aa_H g) v h := r
      dsimp only
      exact rn_io1 hw14 (rn_ret 1 rfl r)
