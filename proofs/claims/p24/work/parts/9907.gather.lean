/-! METHODS READ (printed by wip/dc/dc.py) -/
-- 110: UnequalHours Rings put
noncomputable def fn_110_57 (g : aa_G) (B0 : Nat) (b1 : Int32) (b2 : Int32) (b3 : Int32) (s0 : Int32) (S1 : Nat) (s2 : Int32) (S3 : Nat) : (aa_G × Int32) ⊕ aa_G := .inl (zz_w g S3 s2.toNatClampNeg (g S1 s0.toNatClampNeg), b3 + (-1))
theorem dn_110_57 {v : Option Value} {h : zz_H} {n : Nat} {g : aa_G} {B0 : Nat} {b1 : Int32} {b2 : Int32} {b3 : Int32} {s0 : Int32} {S1 : Nat} {s2 : Int32} {S3 : Nat} (P : (aa_G × Int32) ⊕ aa_G → Prop) (hO0 : ∀ n2, n2 < n → ∀ (yg : aa_G) (yb3 : Int32), rn_s n2 110 (15, [some (.ref B0), some (.int b1), some (.int b2), some (.int yb3)], [], aa_H yg) v h → P (.inl (yg, yb3))) (hR : ∀ E, ig_s v h E → P (.inr E)) (hB0 : rg_ok B0) (hS1 : ar_16 S1) (hS3 : ar_16 S3) (r : rn_s n 110 (57, [some (.ref B0), some (.int b1), some (.int b2), some (.int b3)], [.int s0, .ref S1, .int s2, .ref S3], aa_H g) v h) : P (fn_110_57 g B0 b1 b2 b3 s0 S1 s2 S3) := by
  unfold fn_110_57
  obtain ⟨hb46, n45, ln45, r⟩ := rn_ial rfl hS1.1 hS1.2 r
  have r : rn_s _ 110 (58, [some (.ref B0), some (.int b1), some (.int b2), some (.int b3)], [.int (g S1 s0.toNatClampNeg), .int s2, .ref S3], aa_H g) v h := r
  obtain ⟨hb48, n47, ln47, r⟩ := rn_ias rfl hS3.1 hS3.2 r
  have r : rn_s _ 110 (59, [some (.ref B0), some (.int b1), some (.int b2), some (.int b3)], [], aa_H (zz_w g S3 s2.toNatClampNeg (g S1 s0.toNatClampNeg))) v h := r
  obtain ⟨n49, ln49, r⟩ := rn_steps 1 (15, [some (.ref B0), some (.int b1), some (.int b2), some (.int (b3 + (-1)))], [], aa_H (zz_w g S3 s2.toNatClampNeg (g S1 s0.toNatClampNeg))) rfl r
  exact hO0 _ (by omega) (zz_w g S3 s2.toNatClampNeg (g S1 s0.toNatClampNeg)) (b3 + (-1)) r
noncomputable def fn_110_81 (g : aa_G) (S0 : Nat) (S1 : Nat) : aa_G := zz_w g S1 0 ((g S0 0) + 1)
theorem dn_110_81 {v : Option Value} {h : zz_H} {n : Nat} {g : aa_G} {S0 : Nat} {S1 : Nat} (hS0 : rg_ok S0) (hS1 : rg_ok S1) (x0 x1 x2 x3 : Option Value) (jx0 : rn_jk x0) (jx1 : rn_jk x1) (jx2 : rn_jk x2) (jx3 : rn_jk x3) (r : rn_s n 110 (81, [x0, x1, x2, x3], [.ref S0, .ref S1], aa_H g) v h) : ig_s v h (fn_110_81 g S0 S1) := by
  unfold fn_110_81
  obtain ⟨n50, ln50, r⟩ := rn_gf rfl (rg_hk hS0) (rg_hl hS0) rfl r
  have r : rn_s _ 110 (84, [x0, x1, x2, x3], [.int (g S0 0), .ref S1], aa_H g) v h := r
  obtain ⟨n51, ln51, r⟩ := rn_steps 1 (86, [x0, x1, x2, x3], [.int ((g S0 0) + 1), .ref S1], aa_H g) rfl r
  obtain ⟨n52, ln52, r⟩ := rn_pf rfl (rg_hk hS1) (rg_hl hS1) rfl r
  have r : rn_s _ 110 (89, [x0, x1, x2, x3], [], aa_H (zz_w g S1 0 ((g S0 0) + 1))) v h := r
  exact rn_ret 1 rfl r
noncomputable def fn_110_65 (g : aa_G) (B0 : Nat) (b1 : Int32) (b2 : Int32) (b3 : Int32) : aa_G := fn_110_81 (zz_w (zz_w g (B0 + 1) b3.toNatClampNeg b1) (B0 + 2) b3.toNatClampNeg b2) B0 B0
theorem dn_110_65 {v : Option Value} {h : zz_H} {n : Nat} {g : aa_G} {B0 : Nat} {b1 : Int32} {b2 : Int32} {b3 : Int32} (hB0 : rg_ok B0) (r : rn_s n 110 (65, [some (.ref B0), some (.int b1), some (.int b2), some (.int b3)], [], aa_H g) v h) : ig_s v h (fn_110_65 g B0 b1 b2 b3) := by
  unfold fn_110_65
  obtain ⟨n34, ln34, r⟩ := rn_steps 0 (66, [some (.ref B0), some (.int b1), some (.int b2), some (.int b3)], [.ref B0], aa_H g) rfl r
  obtain ⟨n35, ln35, r⟩ := rn_gr rfl (rg_hk hB0) (rg_hl hB0) rfl r
  have r : rn_s _ 110 (69, [some (.ref B0), some (.int b1), some (.int b2), some (.int b3)], [.ref (B0 + 1)], aa_H g) v h := r
  obtain ⟨n36, ln36, r⟩ := rn_steps 1 (71, [some (.ref B0), some (.int b1), some (.int b2), some (.int b3)], [.int b1, .int b3, .ref (B0 + 1)], aa_H g) rfl r
  obtain ⟨hb38, n37, ln37, r⟩ := rn_ias rfl (rg_a1 hB0).1 (rg_a1 hB0).2 r
  have r : rn_s _ 110 (72, [some (.ref B0), some (.int b1), some (.int b2), some (.int b3)], [], aa_H (zz_w g (B0 + 1) b3.toNatClampNeg b1)) v h := r
  obtain ⟨n39, ln39, r⟩ := rn_steps 0 (73, [some (.ref B0), some (.int b1), some (.int b2), some (.int b3)], [.ref B0], aa_H (zz_w g (B0 + 1) b3.toNatClampNeg b1)) rfl r
  obtain ⟨n40, ln40, r⟩ := rn_gr rfl (rg_hk hB0) (rg_hl hB0) rfl r
  have r : rn_s _ 110 (76, [some (.ref B0), some (.int b1), some (.int b2), some (.int b3)], [.ref (B0 + 2)], aa_H (zz_w g (B0 + 1) b3.toNatClampNeg b1)) v h := r
  obtain ⟨n41, ln41, r⟩ := rn_steps 1 (78, [some (.ref B0), some (.int b1), some (.int b2), some (.int b3)], [.int b2, .int b3, .ref (B0 + 2)], aa_H (zz_w g (B0 + 1) b3.toNatClampNeg b1)) rfl r
  obtain ⟨hb43, n42, ln42, r⟩ := rn_ias rfl (rg_a2 hB0).1 (rg_a2 hB0).2 r
  have r : rn_s _ 110 (79, [some (.ref B0), some (.int b1), some (.int b2), some (.int b3)], [], aa_H (zz_w (zz_w g (B0 + 1) b3.toNatClampNeg b1) (B0 + 2) b3.toNatClampNeg b2)) v h := r
  obtain ⟨n44, ln44, r⟩ := rn_steps 1 (81, [some (.ref B0), some (.int b1), some (.int b2), some (.int b3)], [.ref B0, .ref B0], aa_H (zz_w (zz_w g (B0 + 1) b3.toNatClampNeg b1) (B0 + 2) b3.toNatClampNeg b2)) rfl r
  exact dn_110_81 hB0 hB0 (some (.ref B0)) (some (.int b1)) (some (.int b2)) (some (.int b3)) rn_jr rn_ji rn_ji rn_ji r
noncomputable def fn_110_15b (g : aa_G) (B0 : Nat) (b1 : Int32) (b2 : Int32) (b3 : Int32) : (aa_G × Int32) ⊕ aa_G := if b3 ≤ 0 then .inr (fn_110_65 g B0 b1 b2 b3) else if (g (B0 + 1) (b3 - 1).toNatClampNeg) ≤ b1 then .inr (fn_110_65 g B0 b1 b2 b3) else fn_110_57 (zz_w g (B0 + 1) b3.toNatClampNeg (g (B0 + 1) (b3 - 1).toNatClampNeg)) B0 b1 b2 b3 (b3 - 1) (B0 + 2) b3 (B0 + 2)
noncomputable def fn_110_15 (g : aa_G) (B0 : Nat) (b1 : Int32) (b2 : Int32) (b3 : Int32) : aa_G := lp_f g (fun z : (aa_G × Int32) => fn_110_15b z.1 B0 b1 b2 z.2) (g, b3)
theorem dn_110_15l {v : Option Value} {h : zz_H} {N : Nat} {B0 : Nat} {b1 : Int32} {b2 : Int32} (hB0 : rg_ok B0) {d : aa_G} : ∀ (n : Nat), n ≤ N → ∀ (g : aa_G) (b3 : Int32), rn_s n 110 (15, [some (.ref B0), some (.int b1), some (.int b2), some (.int b3)], [], aa_H g) v h → (ig_s v h) (lp_f d (fun z : (aa_G × Int32) => fn_110_15b z.1 B0 b1 b2 z.2) (g, b3)) := by
  generalize hf : (fun z : (aa_G × Int32) => fn_110_15b z.1 B0 b1 b2 z.2) = f
  intro n
  induction n using Nat.strongRecOn with
  | _ n ih =>
    intro hN g b3  r
    refine lp_go ?_
    rw [← congrFun hf (g, b3)]
    show lp_q (ig_s v h) d f (fn_110_15b g B0 b1 b2 b3)
    unfold fn_110_15b
    obtain ⟨n9, ln9, r⟩ := rn_steps 0 (16, [some (.ref B0), some (.int b1), some (.int b2), some (.int b3)], [.int b3], aa_H g) rfl r
    refine rn_if (lp_q (ig_s v h) d f) rfl decide_eq_true_iff.symm r (fun c10 l11n l11 r => ?_) (fun c10 l11n l11 r => ?_)
    · exact dn_110_65 hB0 r
    · obtain ⟨n12, ln12, r⟩ := rn_steps 0 (20, [some (.ref B0), some (.int b1), some (.int b2), some (.int b3)], [.ref B0], aa_H g) rfl r
      obtain ⟨n13, ln13, r⟩ := rn_gr rfl (rg_hk hB0) (rg_hl hB0) rfl r
      have r : rn_s _ 110 (23, [some (.ref B0), some (.int b1), some (.int b2), some (.int b3)], [.ref (B0 + 1)], aa_H g) v h := r
      obtain ⟨n14, ln14, r⟩ := rn_steps 2 (26, [some (.ref B0), some (.int b1), some (.int b2), some (.int b3)], [.int (b3 - 1), .ref (B0 + 1)], aa_H g) rfl r
      obtain ⟨hb16, n15, ln15, r⟩ := rn_ial rfl (rg_a1 hB0).1 (rg_a1 hB0).2 r
      have r : rn_s _ 110 (27, [some (.ref B0), some (.int b1), some (.int b2), some (.int b3)], [.int (g (B0 + 1) (b3 - 1).toNatClampNeg)], aa_H g) v h := r
      obtain ⟨n17, ln17, r⟩ := rn_steps 0 (28, [some (.ref B0), some (.int b1), some (.int b2), some (.int b3)], [.int b1, .int (g (B0 + 1) (b3 - 1).toNatClampNeg)], aa_H g) rfl r
      refine rn_ic (lp_q (ig_s v h) d f) rfl decide_eq_true_iff.symm r (fun c18 l19n l19 r => ?_) (fun c18 l19n l19 r => ?_)
      · exact dn_110_65 hB0 r
      · obtain ⟨n20, ln20, r⟩ := rn_steps 0 (32, [some (.ref B0), some (.int b1), some (.int b2), some (.int b3)], [.ref B0], aa_H g) rfl r
        obtain ⟨n21, ln21, r⟩ := rn_gr rfl (rg_hk hB0) (rg_hl hB0) rfl r
        have r : rn_s _ 110 (35, [some (.ref B0), some (.int b1), some (.int b2), some (.int b3)], [.ref (B0 + 1)], aa_H g) v h := r
        obtain ⟨n22, ln22, r⟩ := rn_steps 1 (37, [some (.ref B0), some (.int b1), some (.int b2), some (.int b3)], [.ref B0, .int b3, .ref (B0 + 1)], aa_H g) rfl r
        obtain ⟨n23, ln23, r⟩ := rn_gr rfl (rg_hk hB0) (rg_hl hB0) rfl r
        have r : rn_s _ 110 (40, [some (.ref B0), some (.int b1), some (.int b2), some (.int b3)], [.ref (B0 + 1), .int b3, .ref (B0 + 1)], aa_H g) v h := r
        obtain ⟨n24, ln24, r⟩ := rn_steps 2 (43, [some (.ref B0), some (.int b1), some (.int b2), some (.int b3)], [.int (b3 - 1), .ref (B0 + 1), .int b3, .ref (B0 + 1)], aa_H g) rfl r
        obtain ⟨hb26, n25, ln25, r⟩ := rn_ial rfl (rg_a1 hB0).1 (rg_a1 hB0).2 r
        have r : rn_s _ 110 (44, [some (.ref B0), some (.int b1), some (.int b2), some (.int b3)], [.int (g (B0 + 1) (b3 - 1).toNatClampNeg), .int b3, .ref (B0 + 1)], aa_H g) v h := r
        obtain ⟨hb28, n27, ln27, r⟩ := rn_ias rfl (rg_a1 hB0).1 (rg_a1 hB0).2 r
        have r : rn_s _ 110 (45, [some (.ref B0), some (.int b1), some (.int b2), some (.int b3)], [], aa_H (zz_w g (B0 + 1) b3.toNatClampNeg (g (B0 + 1) (b3 - 1).toNatClampNeg))) v h := r
        obtain ⟨n29, ln29, r⟩ := rn_steps 0 (46, [some (.ref B0), some (.int b1), some (.int b2), some (.int b3)], [.ref B0], aa_H (zz_w g (B0 + 1) b3.toNatClampNeg (g (B0 + 1) (b3 - 1).toNatClampNeg))) rfl r
        obtain ⟨n30, ln30, r⟩ := rn_gr rfl (rg_hk hB0) (rg_hl hB0) rfl r
        have r : rn_s _ 110 (49, [some (.ref B0), some (.int b1), some (.int b2), some (.int b3)], [.ref (B0 + 2)], aa_H (zz_w g (B0 + 1) b3.toNatClampNeg (g (B0 + 1) (b3 - 1).toNatClampNeg))) v h := r
        obtain ⟨n31, ln31, r⟩ := rn_steps 1 (51, [some (.ref B0), some (.int b1), some (.int b2), some (.int b3)], [.ref B0, .int b3, .ref (B0 + 2)], aa_H (zz_w g (B0 + 1) b3.toNatClampNeg (g (B0 + 1) (b3 - 1).toNatClampNeg))) rfl r
        obtain ⟨n32, ln32, r⟩ := rn_gr rfl (rg_hk hB0) (rg_hl hB0) rfl r
        have r : rn_s _ 110 (54, [some (.ref B0), some (.int b1), some (.int b2), some (.int b3)], [.ref (B0 + 2), .int b3, .ref (B0 + 2)], aa_H (zz_w g (B0 + 1) b3.toNatClampNeg (g (B0 + 1) (b3 - 1).toNatClampNeg))) v h := r
        obtain ⟨n33, ln33, r⟩ := rn_steps 2 (57, [some (.ref B0), some (.int b1), some (.int b2), some (.int b3)], [.int (b3 - 1), .ref (B0 + 2), .int b3, .ref (B0 + 2)], aa_H (zz_w g (B0 + 1) b3.toNatClampNeg (g (B0 + 1) (b3 - 1).toNatClampNeg))) rfl r
        exact dn_110_57 (lp_q (ig_s v h) d f) (fun n2 l2 => ih n2 (by omega) (by omega)) (fun z hz => hz) hB0 (rg_a2 hB0) (rg_a2 hB0) r
theorem dn_110_15 {v : Option Value} {h : zz_H} {n : Nat} {g : aa_G} {B0 : Nat} {b1 : Int32} {b2 : Int32} {b3 : Int32} (hB0 : rg_ok B0) (r : rn_s n 110 (15, [some (.ref B0), some (.int b1), some (.int b2), some (.int b3)], [], aa_H g) v h) : (ig_s v h) (fn_110_15 g B0 b1 b2 b3) := dn_110_15l hB0 n (Nat.le_refl n) g b3 r
noncomputable def fn_110 (g : aa_G) (Q : Nat) (a1 : Int32) (a2 : Int32) : aa_G := if (g Q 0) < 16 then fn_110_15 g Q a1 a2 (g Q 0) else g
theorem dn_110 {v : Option Value} {h : zz_H} {n : Nat} {g : aa_G} {Q : Nat} {a1 : Int32} {a2 : Int32} (hQ : rg_ok Q) (r : rn_s n 110 (0, zz_in [.ref Q, .int a1, .int a2] (zz_nl 110), [], aa_H g) v h) : ig_s v h (fn_110 g Q a1 a2) := by
  have r : rn_s n 110 (0, [some (.ref Q), some (.int a1), some (.int a2), none], [], aa_H g) v h := r
  unfold fn_110
  obtain ⟨n1, ln1, r⟩ := rn_steps 0 (1, [some (.ref Q), some (.int a1), some (.int a2), none], [.ref Q], aa_H g) rfl r
  obtain ⟨n2, ln2, r⟩ := rn_gf rfl (rg_hk hQ) (rg_hl hQ) rfl r
  have r : rn_s _ 110 (4, [some (.ref Q), some (.int a1), some (.int a2), none], [.int (g Q 0)], aa_H g) v h := r
  obtain ⟨n3, ln3, r⟩ := rn_steps 0 (6, [some (.ref Q), some (.int a1), some (.int a2), none], [.int 16, .int (g Q 0)], aa_H g) rfl r
  refine rn_ic (ig_s v h) rfl decide_eq_true_iff.symm r (fun c4 l5n l5 r => ?_) (fun c4 l5n l5 r => ?_)
  · obtain ⟨n6, ln6, r⟩ := rn_steps 0 (11, [some (.ref Q), some (.int a1), some (.int a2), none], [.ref Q], aa_H g) rfl r
    obtain ⟨n7, ln7, r⟩ := rn_gf rfl (rg_hk hQ) (rg_hl hQ) rfl r
    have r : rn_s _ 110 (14, [some (.ref Q), some (.int a1), some (.int a2), none], [.int (g Q 0)], aa_H g) v h := r
    obtain ⟨n8, ln8, r⟩ := rn_steps 0 (15, [some (.ref Q), some (.int a1), some (.int a2), some (.int (g Q 0))], [], aa_H g) rfl r
    exact dn_110_15 hQ r
  · exact rn_ret 1 rfl r
-- 109: UnequalHours Bells compares
noncomputable def fn_109 (a0 : Int32) (a1 : Int32) (a2 : Int32) : Int32 := if a1 ≠ 60 then if a1 ≠ 62 then if a0 ≠ a2 then 0 else 1 else if a0 ≤ a2 then 0 else 1 else if a2 ≤ a0 then 0 else 1
theorem dn_109 {v : Option Value} {h : zz_H} {n : Nat} {g : aa_G} {a0 : Int32} {a1 : Int32} {a2 : Int32}  (r : rn_s n 109 (0, zz_in [.int a0, .int a1, .int a2] (zz_nl 109), [], aa_H g) v h) : ir_s g v h (fn_109 a0 a1 a2) := by
  have r : rn_s n 109 (0, [some (.int a0), some (.int a1), some (.int a2)], [], aa_H g) v h := r
  unfold fn_109
  obtain ⟨n1, ln1, r⟩ := rn_steps 1 (3, [some (.int a0), some (.int a1), some (.int a2)], [.int 60, .int a1], aa_H g) rfl r
  refine rn_ic (ir_s g v h) rfl decide_eq_true_iff.symm r (fun c2 l3n l3 r => ?_) (fun c2 l3n l3 r => ?_)
  · obtain ⟨n4, ln4, r⟩ := rn_steps 1 (20, [some (.int a0), some (.int a1), some (.int a2)], [.int 62, .int a1], aa_H g) rfl r
    refine rn_ic (ir_s g v h) rfl decide_eq_true_iff.symm r (fun c5 l6n l6 r => ?_) (fun c5 l6n l6 r => ?_)
    · obtain ⟨n7, ln7, r⟩ := rn_steps 1 (38, [some (.int a0), some (.int a1), some (.int a2)], [.int a2, .int a0], aa_H g) rfl r
      refine rn_ic (ir_s g v h) rfl decide_eq_true_iff.symm r (fun c8 l9n l9 r => ?_) (fun c8 l9n l9 r => ?_)
      · obtain ⟨n10, ln10, r⟩ := rn_steps 0 (46, [some (.int a0), some (.int a1), some (.int a2)], [.int 0], aa_H g) rfl r
        exact rn_ire rfl r
      · obtain ⟨n11, ln11, r⟩ := rn_steps 1 (46, [some (.int a0), some (.int a1), some (.int a2)], [.int 1], aa_H g) rfl r
        exact rn_ire rfl r
    · obtain ⟨n12, ln12, r⟩ := rn_steps 1 (25, [some (.int a0), some (.int a1), some (.int a2)], [.int a2, .int a0], aa_H g) rfl r
      refine rn_ic (ir_s g v h) rfl decide_eq_true_iff.symm r (fun c13 l14n l14 r => ?_) (fun c13 l14n l14 r => ?_)
      · obtain ⟨n15, ln15, r⟩ := rn_steps 1 (46, [some (.int a0), some (.int a1), some (.int a2)], [.int 0], aa_H g) rfl r
        exact rn_ire rfl r
      · obtain ⟨n16, ln16, r⟩ := rn_steps 1 (46, [some (.int a0), some (.int a1), some (.int a2)], [.int 1], aa_H g) rfl r
        exact rn_ire rfl r
  · obtain ⟨n17, ln17, r⟩ := rn_steps 1 (8, [some (.int a0), some (.int a1), some (.int a2)], [.int a2, .int a0], aa_H g) rfl r
    refine rn_ic (ir_s g v h) rfl decide_eq_true_iff.symm r (fun c18 l19n l19 r => ?_) (fun c18 l19n l19 r => ?_)
    · obtain ⟨n20, ln20, r⟩ := rn_steps 0 (16, [some (.int a0), some (.int a1), some (.int a2)], [.int 0], aa_H g) rfl r
      exact rn_ire rfl r
    · obtain ⟨n21, ln21, r⟩ := rn_steps 1 (16, [some (.int a0), some (.int a1), some (.int a2)], [.int 1], aa_H g) rfl r
      exact rn_ire rfl r
-- 108: UnequalHours Bells worth
noncomputable def fn_108 (g : aa_G) (a1 : Int32) (a2 : Int32) (P : Nat) : Int32 := if (g 12 a1.toNatClampNeg).toInt = 108 then g P 4 else if (g 12 a1.toNatClampNeg).toInt = 109 then g 13 a1.toNatClampNeg else if (g 12 a1.toNatClampNeg).toInt = 110 then g 13 a1.toNatClampNeg else if (g 12 a1.toNatClampNeg).toInt = 111 then g 13 a1.toNatClampNeg else if (g 12 a1.toNatClampNeg).toInt = 112 then g 13 a1.toNatClampNeg else if (g 12 a1.toNatClampNeg).toInt = 113 then g 13 a1.toNatClampNeg else if (g 12 a1.toNatClampNeg).toInt = 114 then g 13 a1.toNatClampNeg else if (g 12 a1.toNatClampNeg).toInt = 115 then g 13 a1.toNatClampNeg else if (g 12 a1.toNatClampNeg).toInt = 116 then a2 else if (g 12 a1.toNatClampNeg).toInt = 117 then g 13 a1.toNatClampNeg else if (g 12 a1.toNatClampNeg).toInt = 118 then g 13 a1.toNatClampNeg else if (g 12 a1.toNatClampNeg).toInt = 119 then (g P 1) - (g P 1) / 7 * 7 else if (g 12 a1.toNatClampNeg).toInt = 120 then g 13 a1.toNatClampNeg else if (g 12 a1.toNatClampNeg).toInt = 121 then (g P 1) - (g P 1) / 360 * 360 else if (g 12 a1.toNatClampNeg).toInt = 122 then g P 1 else g 13 a1.toNatClampNeg
theorem dn_108 {v : Option Value} {h : zz_H} {n : Nat} {g : aa_G} {a1 : Int32} {a2 : Int32} {P : Nat} (hP : sp_ok P) (r : rn_s n 108 (0, zz_in [.ref 4, .int a1, .int a2, .ref P] (zz_nl 108), [], aa_H g) v h) : ir_s g v h (fn_108 g a1 a2 P) := by
  have r : rn_s n 108 (0, [some (.ref 4), some (.int a1), some (.int a2), some (.ref P)], [], aa_H g) v h := r
  unfold fn_108
  obtain ⟨n1, ln1, r⟩ := rn_steps 2 (5, [some (.ref 4), some (.int a1), some (.int a2), some (.ref P)], [.int a1, .ref 12], aa_H g) rfl r
  obtain ⟨hb3, n2, ln2, r⟩ := rn_ial (k := 12) rfl ⟨by decide, by decide⟩ rfl r
  have r : rn_s _ 108 (6, [some (.ref 4), some (.int a1), some (.int a2), some (.ref P)], [.int (g 12 a1.toNatClampNeg)], aa_H g) v h := r
  obtain ⟨n4, ln4, r⟩ := rn_swi rfl r
  refine rn_sw1 (ir_s g v h) r (fun c5 r => ?_) (fun c5 r => ?_)
  · have r : rn_s _ 108 (97, [some (.ref 4), some (.int a1), some (.int a2), some (.ref P)], [], aa_H g) v h := r
    obtain ⟨n6, ln6, r⟩ := rn_steps 0 (98, [some (.ref 4), some (.int a1), some (.int a2), some (.ref P)], [.ref P], aa_H g) rfl r
    obtain ⟨n7, ln7, r⟩ := rn_gf rfl (sp_hk hP) (sp_hl hP) rfl r
    have r : rn_s _ 108 (101, [some (.ref 4), some (.int a1), some (.int a2), some (.ref P)], [.int (g P 4)], aa_H g) v h := r
    exact rn_ire rfl r
  · refine rn_sw1 (ir_s g v h) r (fun c8 r => ?_) (fun c8 r => ?_)
    · have r : rn_s _ 108 (109, [some (.ref 4), some (.int a1), some (.int a2), some (.ref P)], [], aa_H g) v h := r
      obtain ⟨n9, ln9, r⟩ := rn_steps 2 (114, [some (.ref 4), some (.int a1), some (.int a2), some (.ref P)], [.int a1, .ref 13], aa_H g) rfl r
      obtain ⟨hb11, n10, ln10, r⟩ := rn_ial (k := 13) rfl ⟨by decide, by decide⟩ rfl r
      have r : rn_s _ 108 (115, [some (.ref 4), some (.int a1), some (.int a2), some (.ref P)], [.int (g 13 a1.toNatClampNeg)], aa_H g) v h := r
      exact rn_ire rfl r
    · refine rn_sw1 (ir_s g v h) r (fun c12 r => ?_) (fun c12 r => ?_)
      · have r : rn_s _ 108 (109, [some (.ref 4), some (.int a1), some (.int a2), some (.ref P)], [], aa_H g) v h := r
        obtain ⟨n13, ln13, r⟩ := rn_steps 2 (114, [some (.ref 4), some (.int a1), some (.int a2), some (.ref P)], [.int a1, .ref 13], aa_H g) rfl r
        obtain ⟨hb15, n14, ln14, r⟩ := rn_ial (k := 13) rfl ⟨by decide, by decide⟩ rfl r
        have r : rn_s _ 108 (115, [some (.ref 4), some (.int a1), some (.int a2), some (.ref P)], [.int (g 13 a1.toNatClampNeg)], aa_H g) v h := r
        exact rn_ire rfl r
      · refine rn_sw1 (ir_s g v h) r (fun c16 r => ?_) (fun c16 r => ?_)
        · have r : rn_s _ 108 (109, [some (.ref 4), some (.int a1), some (.int a2), some (.ref P)], [], aa_H g) v h := r
          obtain ⟨n17, ln17, r⟩ := rn_steps 2 (114, [some (.ref 4), some (.int a1), some (.int a2), some (.ref P)], [.int a1, .ref 13], aa_H g) rfl r
          obtain ⟨hb19, n18, ln18, r⟩ := rn_ial (k := 13) rfl ⟨by decide, by decide⟩ rfl r
          have r : rn_s _ 108 (115, [some (.ref 4), some (.int a1), some (.int a2), some (.ref P)], [.int (g 13 a1.toNatClampNeg)], aa_H g) v h := r
          exact rn_ire rfl r
        · refine rn_sw1 (ir_s g v h) r (fun c20 r => ?_) (fun c20 r => ?_)
          · have r : rn_s _ 108 (109, [some (.ref 4), some (.int a1), some (.int a2), some (.ref P)], [], aa_H g) v h := r
            obtain ⟨n21, ln21, r⟩ := rn_steps 2 (114, [some (.ref 4), some (.int a1), some (.int a2), some (.ref P)], [.int a1, .ref 13], aa_H g) rfl r
            obtain ⟨hb23, n22, ln22, r⟩ := rn_ial (k := 13) rfl ⟨by decide, by decide⟩ rfl r
            have r : rn_s _ 108 (115, [some (.ref 4), some (.int a1), some (.int a2), some (.ref P)], [.int (g 13 a1.toNatClampNeg)], aa_H g) v h := r
            exact rn_ire rfl r
          · refine rn_sw1 (ir_s g v h) r (fun c24 r => ?_) (fun c24 r => ?_)
            · have r : rn_s _ 108 (109, [some (.ref 4), some (.int a1), some (.int a2), some (.ref P)], [], aa_H g) v h := r
              obtain ⟨n25, ln25, r⟩ := rn_steps 2 (114, [some (.ref 4), some (.int a1), some (.int a2), some (.ref P)], [.int a1, .ref 13], aa_H g) rfl r
              obtain ⟨hb27, n26, ln26, r⟩ := rn_ial (k := 13) rfl ⟨by decide, by decide⟩ rfl r
              have r : rn_s _ 108 (115, [some (.ref 4), some (.int a1), some (.int a2), some (.ref P)], [.int (g 13 a1.toNatClampNeg)], aa_H g) v h := r
              exact rn_ire rfl r
            · refine rn_sw1 (ir_s g v h) r (fun c28 r => ?_) (fun c28 r => ?_)
              · have r : rn_s _ 108 (109, [some (.ref 4), some (.int a1), some (.int a2), some (.ref P)], [], aa_H g) v h := r
                obtain ⟨n29, ln29, r⟩ := rn_steps 2 (114, [some (.ref 4), some (.int a1), some (.int a2), some (.ref P)], [.int a1, .ref 13], aa_H g) rfl r
                obtain ⟨hb31, n30, ln30, r⟩ := rn_ial (k := 13) rfl ⟨by decide, by decide⟩ rfl r
                have r : rn_s _ 108 (115, [some (.ref 4), some (.int a1), some (.int a2), some (.ref P)], [.int (g 13 a1.toNatClampNeg)], aa_H g) v h := r
                exact rn_ire rfl r
              · refine rn_sw1 (ir_s g v h) r (fun c32 r => ?_) (fun c32 r => ?_)
                · have r : rn_s _ 108 (109, [some (.ref 4), some (.int a1), some (.int a2), some (.ref P)], [], aa_H g) v h := r
                  obtain ⟨n33, ln33, r⟩ := rn_steps 2 (114, [some (.ref 4), some (.int a1), some (.int a2), some (.ref P)], [.int a1, .ref 13], aa_H g) rfl r
                  obtain ⟨hb35, n34, ln34, r⟩ := rn_ial (k := 13) rfl ⟨by decide, by decide⟩ rfl r
                  have r : rn_s _ 108 (115, [some (.ref 4), some (.int a1), some (.int a2), some (.ref P)], [.int (g 13 a1.toNatClampNeg)], aa_H g) v h := r
                  exact rn_ire rfl r
                · refine rn_sw1 (ir_s g v h) r (fun c36 r => ?_) (fun c36 r => ?_)
                  · have r : rn_s _ 108 (102, [some (.ref 4), some (.int a1), some (.int a2), some (.ref P)], [], aa_H g) v h := r
                    obtain ⟨n37, ln37, r⟩ := rn_steps 0 (103, [some (.ref 4), some (.int a1), some (.int a2), some (.ref P)], [.int a2], aa_H g) rfl r
                    exact rn_ire rfl r
                  · refine rn_sw1 (ir_s g v h) r (fun c38 r => ?_) (fun c38 r => ?_)
                    · have r : rn_s _ 108 (109, [some (.ref 4), some (.int a1), some (.int a2), some (.ref P)], [], aa_H g) v h := r
                      obtain ⟨n39, ln39, r⟩ := rn_steps 2 (114, [some (.ref 4), some (.int a1), some (.int a2), some (.ref P)], [.int a1, .ref 13], aa_H g) rfl r
                      obtain ⟨hb41, n40, ln40, r⟩ := rn_ial (k := 13) rfl ⟨by decide, by decide⟩ rfl r
                      have r : rn_s _ 108 (115, [some (.ref 4), some (.int a1), some (.int a2), some (.ref P)], [.int (g 13 a1.toNatClampNeg)], aa_H g) v h := r
                      exact rn_ire rfl r
                    · refine rn_sw1 (ir_s g v h) r (fun c42 r => ?_) (fun c42 r => ?_)
                      · have r : rn_s _ 108 (109, [some (.ref 4), some (.int a1), some (.int a2), some (.ref P)], [], aa_H g) v h := r
                        obtain ⟨n43, ln43, r⟩ := rn_steps 2 (114, [some (.ref 4), some (.int a1), some (.int a2), some (.ref P)], [.int a1, .ref 13], aa_H g) rfl r
                        obtain ⟨hb45, n44, ln44, r⟩ := rn_ial (k := 13) rfl ⟨by decide, by decide⟩ rfl r
                        have r : rn_s _ 108 (115, [some (.ref 4), some (.int a1), some (.int a2), some (.ref P)], [.int (g 13 a1.toNatClampNeg)], aa_H g) v h := r
                        exact rn_ire rfl r
                      · refine rn_sw1 (ir_s g v h) r (fun c46 r => ?_) (fun c46 r => ?_)
                        · have r : rn_s _ 108 (80, [some (.ref 4), some (.int a1), some (.int a2), some (.ref P)], [], aa_H g) v h := r
                          obtain ⟨n47, ln47, r⟩ := rn_steps 0 (81, [some (.ref 4), some (.int a1), some (.int a2), some (.ref P)], [.ref P], aa_H g) rfl r
                          obtain ⟨n48, ln48, r⟩ := rn_gf rfl (sp_hk hP) (sp_hl hP) rfl r
                          have r : rn_s _ 108 (84, [some (.ref 4), some (.int a1), some (.int a2), some (.ref P)], [.int (g P 1)], aa_H g) v h := r
                          obtain ⟨n49, ln49, r⟩ := rn_steps 1 (87, [some (.ref 4), some (.int a1), some (.int a2), some (.ref P)], [.int ((g P 1) - (g P 1) / 7 * 7)], aa_H g) rfl r
                          exact rn_ire rfl r
                        · refine rn_sw1 (ir_s g v h) r (fun c50 r => ?_) (fun c50 r => ?_)
                          · have r : rn_s _ 108 (109, [some (.ref 4), some (.int a1), some (.int a2), some (.ref P)], [], aa_H g) v h := r
                            obtain ⟨n51, ln51, r⟩ := rn_steps 2 (114, [some (.ref 4), some (.int a1), some (.int a2), some (.ref P)], [.int a1, .ref 13], aa_H g) rfl r
                            obtain ⟨hb53, n52, ln52, r⟩ := rn_ial (k := 13) rfl ⟨by decide, by decide⟩ rfl r
                            have r : rn_s _ 108 (115, [some (.ref 4), some (.int a1), some (.int a2), some (.ref P)], [.int (g 13 a1.toNatClampNeg)], aa_H g) v h := r
                            exact rn_ire rfl r
                          · refine rn_sw1 (ir_s g v h) r (fun c54 r => ?_) (fun c54 r => ?_)
                            · have r : rn_s _ 108 (88, [some (.ref 4), some (.int a1), some (.int a2), some (.ref P)], [], aa_H g) v h := r
                              obtain ⟨n55, ln55, r⟩ := rn_steps 0 (89, [some (.ref 4), some (.int a1), some (.int a2), some (.ref P)], [.ref P], aa_H g) rfl r
                              obtain ⟨n56, ln56, r⟩ := rn_gf rfl (sp_hk hP) (sp_hl hP) rfl r
                              have r : rn_s _ 108 (92, [some (.ref 4), some (.int a1), some (.int a2), some (.ref P)], [.int (g P 1)], aa_H g) v h := r
                              obtain ⟨n57, ln57, r⟩ := rn_steps 1 (96, [some (.ref 4), some (.int a1), some (.int a2), some (.ref P)], [.int ((g P 1) - (g P 1) / 360 * 360)], aa_H g) rfl r
                              exact rn_ire rfl r
                            · refine rn_sw1 (ir_s g v h) r (fun c58 r => ?_) (fun c58 r => ?_)
                              · have r : rn_s _ 108 (104, [some (.ref 4), some (.int a1), some (.int a2), some (.ref P)], [], aa_H g) v h := r
                                obtain ⟨n59, ln59, r⟩ := rn_steps 0 (105, [some (.ref 4), some (.int a1), some (.int a2), some (.ref P)], [.ref P], aa_H g) rfl r
                                obtain ⟨n60, ln60, r⟩ := rn_gf rfl (sp_hk hP) (sp_hl hP) rfl r
                                have r : rn_s _ 108 (108, [some (.ref 4), some (.int a1), some (.int a2), some (.ref P)], [.int (g P 1)], aa_H g) v h := r
                                exact rn_ire rfl r
                              · have r : rn_s _ 108 (109, [some (.ref 4), some (.int a1), some (.int a2), some (.ref P)], [], aa_H g) v h := r
                                obtain ⟨n61, ln61, r⟩ := rn_steps 2 (114, [some (.ref 4), some (.int a1), some (.int a2), some (.ref P)], [.int a1, .ref 13], aa_H g) rfl r
                                obtain ⟨hb63, n62, ln62, r⟩ := rn_ial (k := 13) rfl ⟨by decide, by decide⟩ rfl r
                                have r : rn_s _ 108 (115, [some (.ref 4), some (.int a1), some (.int a2), some (.ref P)], [.int (g 13 a1.toNatClampNeg)], aa_H g) v h := r
                                exact rn_ire rfl r
-- 52: UnequalHours Bells joinsFactors
noncomputable def fn_52 (a0 : Int32) : Int32 := if a0 = 42 then 1 else if a0 ≠ 47 then 0 else 1
theorem dn_52 {v : Option Value} {h : zz_H} {n : Nat} {g : aa_G} {a0 : Int32}  (r : rn_s n 52 (0, zz_in [.int a0] (zz_nl 52), [], aa_H g) v h) : ir_s g v h (fn_52 a0) := by
  have r : rn_s n 52 (0, [some (.int a0)], [], aa_H g) v h := r
  unfold fn_52
  obtain ⟨n1, ln1, r⟩ := rn_steps 1 (3, [some (.int a0)], [.int 42, .int a0], aa_H g) rfl r
  refine rn_ic (ir_s g v h) rfl decide_eq_true_iff.symm r (fun c2 l3n l3 r => ?_) (fun c2 l3n l3 r => ?_)
  · obtain ⟨n4, ln4, r⟩ := rn_steps 1 (17, [some (.int a0)], [.int 1], aa_H g) rfl r
    exact rn_ire rfl r
  · obtain ⟨n5, ln5, r⟩ := rn_steps 1 (9, [some (.int a0)], [.int 47, .int a0], aa_H g) rfl r
    refine rn_ic (ir_s g v h) rfl decide_eq_true_iff.symm r (fun c6 l7n l7 r => ?_) (fun c6 l7n l7 r => ?_)
    · obtain ⟨n8, ln8, r⟩ := rn_steps 0 (17, [some (.int a0)], [.int 0], aa_H g) rfl r
      exact rn_ire rfl r
    · obtain ⟨n9, ln9, r⟩ := rn_steps 1 (17, [some (.int a0)], [.int 1], aa_H g) rfl r
      exact rn_ire rfl r
-- 107: UnequalHours Bells product
noncomputable def fn_107_83 (g : aa_G) (b2 : Int32) (b3 : Int32) (B4 : Nat) (b5 : Int32) (b6 : Int32) : (Int32 × Int32) ⊕ Int32 := .inl (b5, b6 + 1)
theorem dn_107_83 {v : Option Value} {h : zz_H} {n : Nat} {g : aa_G} {b2 : Int32} {b3 : Int32} {B4 : Nat} {b5 : Int32} {b6 : Int32} (P : (Int32 × Int32) ⊕ Int32 → Prop) (hO0 : ∀ n2, n2 < n → ∀ (yb5 : Int32) (yb6 : Int32) (yx1 yx7 : Option Value) (_ : rn_jk yx1) (_ : rn_jk yx7), rn_s n2 107 (15, [some (.ref 4), yx1, some (.int b2), some (.int b3), some (.ref B4), some (.int yb5), some (.int yb6), yx7], [], aa_H g) v h → P (.inl (yb5, yb6))) (hR : ∀ E, ir_s g v h E → P (.inr E)) (hB4 : sp_ok B4) (x1 x7 : Option Value) (jx1 : rn_jk x1) (jx7 : rn_jk x7) (r : rn_s n 107 (83, [some (.ref 4), x1, some (.int b2), some (.int b3), some (.ref B4), some (.int b5), some (.int b6), x7], [], aa_H g) v h) : P (fn_107_83 g b2 b3 B4 b5 b6) := by
  unfold fn_107_83
  obtain ⟨n35, ln35, r⟩ := rn_steps 1 (15, [some (.ref 4), x1, some (.int b2), some (.int b3), some (.ref B4), some (.int b5), some (.int (b6 + 1)), x7], [], aa_H g) rfl r
  exact hO0 _ (by omega) b5 (b6 + 1) x1 x7 jx1 jx7 r
noncomputable def fn_107_81 (g : aa_G) (b2 : Int32) (b3 : Int32) (B4 : Nat) (b6 : Int32) (s0 : Int32) : (Int32 × Int32) ⊕ Int32 := fn_107_83 g b2 b3 B4 s0 b6
theorem dn_107_81 {v : Option Value} {h : zz_H} {n : Nat} {g : aa_G} {b2 : Int32} {b3 : Int32} {B4 : Nat} {b6 : Int32} {s0 : Int32} (P : (Int32 × Int32) ⊕ Int32 → Prop) (hO0 : ∀ n2, n2 < n → ∀ (yb5 : Int32) (yb6 : Int32) (yx1 yx7 : Option Value) (_ : rn_jk yx1) (_ : rn_jk yx7), rn_s n2 107 (15, [some (.ref 4), yx1, some (.int b2), some (.int b3), some (.ref B4), some (.int yb5), some (.int yb6), yx7], [], aa_H g) v h → P (.inl (yb5, yb6))) (hR : ∀ E, ir_s g v h E → P (.inr E)) (hB4 : sp_ok B4) (x1 x5 x7 : Option Value) (jx1 : rn_jk x1) (jx5 : rn_jk x5) (jx7 : rn_jk x7) (r : rn_s n 107 (81, [some (.ref 4), x1, some (.int b2), some (.int b3), some (.ref B4), x5, some (.int b6), x7], [.int s0], aa_H g) v h) : P (fn_107_81 g b2 b3 B4 b6 s0) := by
  unfold fn_107_81
  obtain ⟨n34, ln34, r⟩ := rn_steps 0 (83, [some (.ref 4), x1, some (.int b2), some (.int b3), some (.ref B4), some (.int s0), some (.int b6), x7], [], aa_H g) rfl r
  exact dn_107_83 (P) (fun n2 l2 => hO0 n2 (by omega)) (fun z hz => hR _ hz) hB4 x1 x7 jx1 jx7 r
noncomputable def fn_107_15b (g : aa_G) (b2 : Int32) (b3 : Int32) (B4 : Nat) (b5 : Int32) (b6 : Int32) : (Int32 × Int32) ⊕ Int32 := if b2 ≤ b6 then .inr b5 else if (fn_52 (g 11 b6.toNatClampNeg)) = 0 then .inr b5 else if (g 11 b6.toNatClampNeg) ≠ 42 then if (fn_108 g b6 b3 B4) ≠ 0 then fn_107_81 g b2 b3 B4 b6 (b5 / (fn_108 g b6 b3 B4)) else fn_107_81 g b2 b3 B4 b6 0 else fn_107_83 g b2 b3 B4 (b5 * (fn_108 g b6 b3 B4)) b6
noncomputable def fn_107_15 (g : aa_G) (b2 : Int32) (b3 : Int32) (B4 : Nat) (b5 : Int32) (b6 : Int32) : Int32 := lp_f 0 (fun z : (Int32 × Int32) => fn_107_15b g b2 b3 B4 z.1 z.2) (b5, b6)
theorem dn_107_15l {v : Option Value} {h : zz_H} {N : Nat} {g : aa_G} {b2 : Int32} {b3 : Int32} {B4 : Nat} (hB4 : sp_ok B4) {d : Int32} : ∀ (n : Nat), n ≤ N → ∀ (b5 : Int32) (b6 : Int32) (x1 x7 : Option Value) (jx1 : rn_jk x1) (jx7 : rn_jk x7), rn_s n 107 (15, [some (.ref 4), x1, some (.int b2), some (.int b3), some (.ref B4), some (.int b5), some (.int b6), x7], [], aa_H g) v h → (ir_s g v h) (lp_f d (fun z : (Int32 × Int32) => fn_107_15b g b2 b3 B4 z.1 z.2) (b5, b6)) := by
  generalize hf : (fun z : (Int32 × Int32) => fn_107_15b g b2 b3 B4 z.1 z.2) = f
  intro n
  induction n using Nat.strongRecOn with
  | _ n ih =>
    intro hN b5 b6 x1 x7 jx1 jx7 r
    refine lp_go ?_
    rw [← congrFun hf (b5, b6)]
    show lp_q (ir_s g v h) d f (fn_107_15b g b2 b3 B4 b5 b6)
    unfold fn_107_15b
    obtain ⟨n5, ln5, r⟩ := rn_steps 1 (18, [some (.ref 4), x1, some (.int b2), some (.int b3), some (.ref B4), some (.int b5), some (.int b6), x7], [.int b2, .int b6], aa_H g) rfl r
    refine rn_ic (lp_q (ir_s g v h) d f) rfl decide_eq_true_iff.symm r (fun c6 l7n l7 r => ?_) (fun c6 l7n l7 r => ?_)
    · obtain ⟨n8, ln8, r⟩ := rn_steps 0 (91, [some (.ref 4), x1, some (.int b2), some (.int b3), some (.ref B4), some (.int b5), some (.int b6), x7], [.int b5], aa_H g) rfl r
      exact rn_ire rfl r
    · obtain ⟨n9, ln9, r⟩ := rn_steps 2 (27, [some (.ref 4), x1, some (.int b2), some (.int b3), some (.ref B4), some (.int b5), some (.int b6), x7], [.int b6, .ref 11], aa_H g) rfl r
      obtain ⟨hb11, n10, ln10, r⟩ := rn_ial (k := 11) rfl ⟨by decide, by decide⟩ rfl r
      have r : rn_s _ 107 (28, [some (.ref 4), x1, some (.int b2), some (.int b3), some (.ref B4), some (.int b5), some (.int b6), x7], [.int (g 11 b6.toNatClampNeg)], aa_H g) v h := r
      obtain ⟨_, n12, v1, h1, -, ln12, rc, r⟩ := rn_call (m2 := 52) (as := [.int (g 11 b6.toNatClampNeg)]) (rest := []) rfl rfl r
      obtain ⟨rfl, rfl⟩ := dn_52 rc
      have r : rn_s _ 107 (31, [some (.ref 4), x1, some (.int b2), some (.int b3), some (.ref B4), some (.int b5), some (.int b6), x7], [.int (fn_52 (g 11 b6.toNatClampNeg))], aa_H g) v h := r
      refine rn_if (lp_q (ir_s g v h) d f) rfl decide_eq_true_iff.symm r (fun c14 l15n l15 r => ?_) (fun c14 l15n l15 r => ?_)
      · obtain ⟨n16, ln16, r⟩ := rn_steps 0 (91, [some (.ref 4), x1, some (.int b2), some (.int b3), some (.ref B4), some (.int b5), some (.int b6), x7], [.int b5], aa_H g) rfl r
        exact rn_ire rfl r
      · obtain ⟨n17, ln17, r⟩ := rn_steps 3 (40, [some (.ref 4), x1, some (.int b2), some (.int b3), some (.ref B4), some (.int b5), some (.int b6), x7], [.ref B4, .int b3, .int b6, .ref 4], aa_H g) rfl r
        obtain ⟨_, n18, v1, h1, -, ln18, rc, r⟩ := rn_call (m2 := 108) (as := [.ref 4, .int b6, .int b3, .ref B4]) (rest := []) rfl rfl r
        obtain ⟨rfl, rfl⟩ := dn_108 hB4 rc
        have r : rn_s _ 107 (43, [some (.ref 4), x1, some (.int b2), some (.int b3), some (.ref B4), some (.int b5), some (.int b6), x7], [.int (fn_108 g b6 b3 B4)], aa_H g) v h := r
        obtain ⟨n20, ln20, r⟩ := rn_steps 3 (51, [some (.ref 4), x1, some (.int b2), some (.int b3), some (.ref B4), some (.int b5), some (.int b6), some (.int (fn_108 g b6 b3 B4))], [.int b6, .ref 11], aa_H g) rfl r
        obtain ⟨hb22, n21, ln21, r⟩ := rn_ial (k := 11) rfl ⟨by decide, by decide⟩ rfl r
        have r : rn_s _ 107 (52, [some (.ref 4), x1, some (.int b2), some (.int b3), some (.ref B4), some (.int b5), some (.int b6), some (.int (fn_108 g b6 b3 B4))], [.int (g 11 b6.toNatClampNeg)], aa_H g) v h := r
        obtain ⟨n23, ln23, r⟩ := rn_steps 0 (54, [some (.ref 4), x1, some (.int b2), some (.int b3), some (.ref B4), some (.int b5), some (.int b6), some (.int (fn_108 g b6 b3 B4))], [.int 42, .int (g 11 b6.toNatClampNeg)], aa_H g) rfl r
        refine rn_ic (lp_q (ir_s g v h) d f) rfl decide_eq_true_iff.symm r (fun c24 l25n l25 r => ?_) (fun c24 l25n l25 r => ?_)
        · obtain ⟨n26, ln26, r⟩ := rn_steps 0 (69, [some (.ref 4), x1, some (.int b2), some (.int b3), some (.ref B4), some (.int b5), some (.int b6), some (.int (fn_108 g b6 b3 B4))], [.int (fn_108 g b6 b3 B4)], aa_H g) rfl r
          refine rn_if (lp_q (ir_s g v h) d f) rfl decide_eq_true_iff.symm r (fun c27 l28n l28 r => ?_) (fun c27 l28n l28 r => ?_)
          · obtain ⟨n29, ln29, r⟩ := rn_steps 1 (80, [some (.ref 4), x1, some (.int b2), some (.int b3), some (.ref B4), some (.int b5), some (.int b6), some (.int (fn_108 g b6 b3 B4))], [.int (fn_108 g b6 b3 B4), .int b5], aa_H g) rfl r
            obtain ⟨hd31, n30, ln30, r⟩ := rn_div rfl r
            have r : rn_s _ 107 (81, [some (.ref 4), x1, some (.int b2), some (.int b3), some (.ref B4), some (.int b5), some (.int b6), some (.int (fn_108 g b6 b3 B4))], [.int (b5 / (fn_108 g b6 b3 B4))], aa_H g) v h := r
            exact dn_107_81 (lp_q (ir_s g v h) d f) (fun n2 l2 => ih n2 (by omega) (by omega)) (fun z hz => hz) hB4 x1 (some (.int b5)) (some (.int (fn_108 g b6 b3 B4))) jx1 rn_ji rn_ji r
          · obtain ⟨n32, ln32, r⟩ := rn_steps 1 (81, [some (.ref 4), x1, some (.int b2), some (.int b3), some (.ref B4), some (.int b5), some (.int b6), some (.int (fn_108 g b6 b3 B4))], [.int 0], aa_H g) rfl r
            exact dn_107_81 (lp_q (ir_s g v h) d f) (fun n2 l2 => ih n2 (by omega) (by omega)) (fun z hz => hz) hB4 x1 (some (.int b5)) (some (.int (fn_108 g b6 b3 B4))) jx1 rn_ji rn_ji r
        · obtain ⟨n33, ln33, r⟩ := rn_steps 4 (83, [some (.ref 4), x1, some (.int b2), some (.int b3), some (.ref B4), some (.int (b5 * (fn_108 g b6 b3 B4))), some (.int b6), some (.int (fn_108 g b6 b3 B4))], [], aa_H g) rfl r
          exact dn_107_83 (lp_q (ir_s g v h) d f) (fun n2 l2 => ih n2 (by omega) (by omega)) (fun z hz => hz) hB4 x1 (some (.int (fn_108 g b6 b3 B4))) jx1 rn_ji r
theorem dn_107_15 {v : Option Value} {h : zz_H} {n : Nat} {g : aa_G} {b2 : Int32} {b3 : Int32} {B4 : Nat} {b5 : Int32} {b6 : Int32} (hB4 : sp_ok B4) (x1 x7 : Option Value) (jx1 : rn_jk x1) (jx7 : rn_jk x7) (r : rn_s n 107 (15, [some (.ref 4), x1, some (.int b2), some (.int b3), some (.ref B4), some (.int b5), some (.int b6), x7], [], aa_H g) v h) : (ir_s g v h) (fn_107_15 g b2 b3 B4 b5 b6) := dn_107_15l hB4 n (Nat.le_refl n) b5 b6 x1 x7 jx1 jx7 r
noncomputable def fn_107 (g : aa_G) (a1 : Int32) (a2 : Int32) (a3 : Int32) (P : Nat) : Int32 := fn_107_15 g a2 a3 P (fn_108 g a1 a3 P) (a1 + 1)
theorem dn_107 {v : Option Value} {h : zz_H} {n : Nat} {g : aa_G} {a1 : Int32} {a2 : Int32} {a3 : Int32} {P : Nat} (hP : sp_ok P) (r : rn_s n 107 (0, zz_in [.ref 4, .int a1, .int a2, .int a3, .ref P] (zz_nl 107), [], aa_H g) v h) : ir_s g v h (fn_107 g a1 a2 a3 P) := by
  have r : rn_s n 107 (0, [some (.ref 4), some (.int a1), some (.int a2), some (.int a3), some (.ref P), none, none, none], [], aa_H g) v h := r
  unfold fn_107
  obtain ⟨n1, ln1, r⟩ := rn_steps 3 (5, [some (.ref 4), some (.int a1), some (.int a2), some (.int a3), some (.ref P), none, none, none], [.ref P, .int a3, .int a1, .ref 4], aa_H g) rfl r
  obtain ⟨_, n2, v1, h1, -, ln2, rc, r⟩ := rn_call (m2 := 108) (as := [.ref 4, .int a1, .int a3, .ref P]) (rest := []) rfl rfl r
  obtain ⟨rfl, rfl⟩ := dn_108 hP rc
  have r : rn_s _ 107 (8, [some (.ref 4), some (.int a1), some (.int a2), some (.int a3), some (.ref P), none, none, none], [.int (fn_108 g a1 a3 P)], aa_H g) v h := r
  obtain ⟨n4, ln4, r⟩ := rn_steps 4 (15, [some (.ref 4), some (.int a1), some (.int a2), some (.int a3), some (.ref P), some (.int (fn_108 g a1 a3 P)), some (.int (a1 + 1)), none], [], aa_H g) rfl r
  exact dn_107_15 hP (some (.int a1)) none rn_ji rn_jn r
-- 51: UnequalHours Bells joinsThings
noncomputable def fn_51 (a0 : Int32) : Int32 := if a0 = 43 then 1 else if a0 = 45 then 1 else if (fn_52 a0) = 0 then 0 else 1
theorem dn_51 {v : Option Value} {h : zz_H} {n : Nat} {g : aa_G} {a0 : Int32}  (r : rn_s n 51 (0, zz_in [.int a0] (zz_nl 51), [], aa_H g) v h) : ir_s g v h (fn_51 a0) := by
  have r : rn_s n 51 (0, [some (.int a0)], [], aa_H g) v h := r
  unfold fn_51
  obtain ⟨n1, ln1, r⟩ := rn_steps 1 (3, [some (.int a0)], [.int 43, .int a0], aa_H g) rfl r
  refine rn_ic (ir_s g v h) rfl decide_eq_true_iff.symm r (fun c2 l3n l3 r => ?_) (fun c2 l3n l3 r => ?_)
  · obtain ⟨n4, ln4, r⟩ := rn_steps 1 (24, [some (.int a0)], [.int 1], aa_H g) rfl r
    exact rn_ire rfl r
  · obtain ⟨n5, ln5, r⟩ := rn_steps 1 (9, [some (.int a0)], [.int 45, .int a0], aa_H g) rfl r
    refine rn_ic (ir_s g v h) rfl decide_eq_true_iff.symm r (fun c6 l7n l7 r => ?_) (fun c6 l7n l7 r => ?_)
    · obtain ⟨n8, ln8, r⟩ := rn_steps 1 (24, [some (.int a0)], [.int 1], aa_H g) rfl r
      exact rn_ire rfl r
    · obtain ⟨n9, ln9, r⟩ := rn_steps 0 (13, [some (.int a0)], [.int a0], aa_H g) rfl r
      obtain ⟨_, n10, v1, h1, -, ln10, rc, r⟩ := rn_call (m2 := 52) (as := [.int a0]) (rest := []) rfl rfl r
      obtain ⟨rfl, rfl⟩ := dn_52 rc
      have r : rn_s _ 51 (16, [some (.int a0)], [.int (fn_52 a0)], aa_H g) v h := r
      refine rn_if (ir_s g v h) rfl decide_eq_true_iff.symm r (fun c12 l13n l13 r => ?_) (fun c12 l13n l13 r => ?_)
      · obtain ⟨n14, ln14, r⟩ := rn_steps 0 (24, [some (.int a0)], [.int 0], aa_H g) rfl r
        exact rn_ire rfl r
      · obtain ⟨n15, ln15, r⟩ := rn_steps 1 (24, [some (.int a0)], [.int 1], aa_H g) rfl r
        exact rn_ire rfl r
-- 106: UnequalHours Bells sum
noncomputable def fn_106_83 (g : aa_G) (b1 : Int32) (b2 : Int32) (b3 : Int32) (B4 : Nat) (b5 : Int32) (b6 : Int32) : (Int32 × Int32) ⊕ Int32 := .inl (b5, b6 + 1)
theorem dn_106_83 {v : Option Value} {h : zz_H} {n : Nat} {g : aa_G} {b1 : Int32} {b2 : Int32} {b3 : Int32} {B4 : Nat} {b5 : Int32} {b6 : Int32} (P : (Int32 × Int32) ⊕ Int32 → Prop) (hO0 : ∀ n2, n2 < n → ∀ (yb5 : Int32) (yb6 : Int32) (yx7 : Option Value) (_ : rn_jk yx7), rn_s n2 106 (6, [some (.ref 4), some (.int b1), some (.int b2), some (.int b3), some (.ref B4), some (.int yb5), some (.int yb6), yx7], [], aa_H g) v h → P (.inl (yb5, yb6))) (hR : ∀ E, ir_s g v h E → P (.inr E)) (hB4 : sp_ok B4) (x7 : Option Value) (jx7 : rn_jk x7) (r : rn_s n 106 (83, [some (.ref 4), some (.int b1), some (.int b2), some (.int b3), some (.ref B4), some (.int b5), some (.int b6), x7], [], aa_H g) v h) : P (fn_106_83 g b1 b2 b3 B4 b5 b6) := by
  unfold fn_106_83
  obtain ⟨n35, ln35, r⟩ := rn_steps 1 (6, [some (.ref 4), some (.int b1), some (.int b2), some (.int b3), some (.ref B4), some (.int b5), some (.int (b6 + 1)), x7], [], aa_H g) rfl r
  exact hO0 _ (by omega) b5 (b6 + 1) x7 jx7 r
noncomputable def fn_106_81 (g : aa_G) (b1 : Int32) (b2 : Int32) (b3 : Int32) (B4 : Nat) (b6 : Int32) (s0 : Int32) : (Int32 × Int32) ⊕ Int32 := fn_106_83 g b1 b2 b3 B4 s0 b6
theorem dn_106_81 {v : Option Value} {h : zz_H} {n : Nat} {g : aa_G} {b1 : Int32} {b2 : Int32} {b3 : Int32} {B4 : Nat} {b6 : Int32} {s0 : Int32} (P : (Int32 × Int32) ⊕ Int32 → Prop) (hO0 : ∀ n2, n2 < n → ∀ (yb5 : Int32) (yb6 : Int32) (yx7 : Option Value) (_ : rn_jk yx7), rn_s n2 106 (6, [some (.ref 4), some (.int b1), some (.int b2), some (.int b3), some (.ref B4), some (.int yb5), some (.int yb6), yx7], [], aa_H g) v h → P (.inl (yb5, yb6))) (hR : ∀ E, ir_s g v h E → P (.inr E)) (hB4 : sp_ok B4) (x5 x7 : Option Value) (jx5 : rn_jk x5) (jx7 : rn_jk x7) (r : rn_s n 106 (81, [some (.ref 4), some (.int b1), some (.int b2), some (.int b3), some (.ref B4), x5, some (.int b6), x7], [.int s0], aa_H g) v h) : P (fn_106_81 g b1 b2 b3 B4 b6 s0) := by
  unfold fn_106_81
  obtain ⟨n36, ln36, r⟩ := rn_steps 0 (83, [some (.ref 4), some (.int b1), some (.int b2), some (.int b3), some (.ref B4), some (.int s0), some (.int b6), x7], [], aa_H g) rfl r
  exact dn_106_83 (P) (fun n2 l2 => hO0 n2 (by omega)) (fun z hz => hR _ hz) hB4 x7 jx7 r
noncomputable def fn_106_31 (g : aa_G) (b1 : Int32) (b2 : Int32) (b3 : Int32) (B4 : Nat) (b5 : Int32) (b6 : Int32) : (Int32 × Int32) ⊕ Int32 := if (fn_52 (g 11 b6.toNatClampNeg)) ≠ 0 then fn_106_83 g b1 b2 b3 B4 b5 b6 else if (g 11 b6.toNatClampNeg) ≠ 45 then fn_106_81 g b1 b2 b3 B4 b6 (b5 + (fn_107 g b6 b2 b3 B4)) else fn_106_81 g b1 b2 b3 B4 b6 (b5 - (fn_107 g b6 b2 b3 B4))
theorem dn_106_31 {v : Option Value} {h : zz_H} {n : Nat} {g : aa_G} {b1 : Int32} {b2 : Int32} {b3 : Int32} {B4 : Nat} {b5 : Int32} {b6 : Int32} (P : (Int32 × Int32) ⊕ Int32 → Prop) (hO0 : ∀ n2, n2 < n → ∀ (yb5 : Int32) (yb6 : Int32) (yx7 : Option Value) (_ : rn_jk yx7), rn_s n2 106 (6, [some (.ref 4), some (.int b1), some (.int b2), some (.int b3), some (.ref B4), some (.int yb5), some (.int yb6), yx7], [], aa_H g) v h → P (.inl (yb5, yb6))) (hR : ∀ E, ir_s g v h E → P (.inr E)) (hB4 : sp_ok B4) (x7 : Option Value) (jx7 : rn_jk x7) (r : rn_s n 106 (31, [some (.ref 4), some (.int b1), some (.int b2), some (.int b3), some (.ref B4), some (.int b5), some (.int b6), x7], [], aa_H g) v h) : P (fn_106_31 g b1 b2 b3 B4 b5 b6) := by
  unfold fn_106_31
  obtain ⟨n17, ln17, r⟩ := rn_steps 2 (37, [some (.ref 4), some (.int b1), some (.int b2), some (.int b3), some (.ref B4), some (.int b5), some (.int b6), x7], [.int b6, .ref 11], aa_H g) rfl r
  obtain ⟨hb19, n18, ln18, r⟩ := rn_ial (k := 11) rfl ⟨by decide, by decide⟩ rfl r
  have r : rn_s _ 106 (38, [some (.ref 4), some (.int b1), some (.int b2), some (.int b3), some (.ref B4), some (.int b5), some (.int b6), x7], [.int (g 11 b6.toNatClampNeg)], aa_H g) v h := r
  obtain ⟨_, n20, v1, h1, -, ln20, rc, r⟩ := rn_call (m2 := 52) (as := [.int (g 11 b6.toNatClampNeg)]) (rest := []) rfl rfl r
  obtain ⟨rfl, rfl⟩ := dn_52 rc
  have r : rn_s _ 106 (41, [some (.ref 4), some (.int b1), some (.int b2), some (.int b3), some (.ref B4), some (.int b5), some (.int b6), x7], [.int (fn_52 (g 11 b6.toNatClampNeg))], aa_H g) v h := r
  refine rn_if (P) rfl decide_eq_true_iff.symm r (fun c22 l23n l23 r => ?_) (fun c22 l23n l23 r => ?_)
  · exact dn_106_83 (P) (fun n2 l2 => hO0 n2 (by omega)) (fun z hz => hR _ hz) hB4 x7 jx7 r
  · obtain ⟨n24, ln24, r⟩ := rn_steps 4 (51, [some (.ref 4), some (.int b1), some (.int b2), some (.int b3), some (.ref B4), some (.int b5), some (.int b6), x7], [.ref B4, .int b3, .int b2, .int b6, .ref 4], aa_H g) rfl r
    obtain ⟨_, n25, v1, h1, -, ln25, rc, r⟩ := rn_call (m2 := 107) (as := [.ref 4, .int b6, .int b2, .int b3, .ref B4]) (rest := []) rfl rfl r
    obtain ⟨rfl, rfl⟩ := dn_107 hB4 rc
    have r : rn_s _ 106 (54, [some (.ref 4), some (.int b1), some (.int b2), some (.int b3), some (.ref B4), some (.int b5), some (.int b6), x7], [.int (fn_107 g b6 b2 b3 B4)], aa_H g) v h := r
    obtain ⟨n27, ln27, r⟩ := rn_steps 3 (62, [some (.ref 4), some (.int b1), some (.int b2), some (.int b3), some (.ref B4), some (.int b5), some (.int b6), some (.int (fn_107 g b6 b2 b3 B4))], [.int b6, .ref 11], aa_H g) rfl r
    obtain ⟨hb29, n28, ln28, r⟩ := rn_ial (k := 11) rfl ⟨by decide, by decide⟩ rfl r
    have r : rn_s _ 106 (63, [some (.ref 4), some (.int b1), some (.int b2), some (.int b3), some (.ref B4), some (.int b5), some (.int b6), some (.int (fn_107 g b6 b2 b3 B4))], [.int (g 11 b6.toNatClampNeg)], aa_H g) v h := r
    obtain ⟨n30, ln30, r⟩ := rn_steps 0 (65, [some (.ref 4), some (.int b1), some (.int b2), some (.int b3), some (.ref B4), some (.int b5), some (.int b6), some (.int (fn_107 g b6 b2 b3 B4))], [.int 45, .int (g 11 b6.toNatClampNeg)], aa_H g) rfl r
    refine rn_ic (P) rfl decide_eq_true_iff.symm r (fun c31 l32n l32 r => ?_) (fun c31 l32n l32 r => ?_)
    · obtain ⟨n33, ln33, r⟩ := rn_steps 2 (81, [some (.ref 4), some (.int b1), some (.int b2), some (.int b3), some (.ref B4), some (.int b5), some (.int b6), some (.int (fn_107 g b6 b2 b3 B4))], [.int (b5 + (fn_107 g b6 b2 b3 B4))], aa_H g) rfl r
      exact dn_106_81 (P) (fun n2 l2 => hO0 n2 (by omega)) (fun z hz => hR _ hz) hB4 (some (.int b5)) (some (.int (fn_107 g b6 b2 b3 B4))) rn_ji rn_ji r
    · obtain ⟨n34, ln34, r⟩ := rn_steps 3 (81, [some (.ref 4), some (.int b1), some (.int b2), some (.int b3), some (.ref B4), some (.int b5), some (.int b6), some (.int (fn_107 g b6 b2 b3 B4))], [.int (b5 - (fn_107 g b6 b2 b3 B4))], aa_H g) rfl r
      exact dn_106_81 (P) (fun n2 l2 => hO0 n2 (by omega)) (fun z hz => hR _ hz) hB4 (some (.int b5)) (some (.int (fn_107 g b6 b2 b3 B4))) rn_ji rn_ji r
noncomputable def fn_106_6b (g : aa_G) (b1 : Int32) (b2 : Int32) (b3 : Int32) (B4 : Nat) (b5 : Int32) (b6 : Int32) : (Int32 × Int32) ⊕ Int32 := if b2 ≤ b6 then .inr b5 else if b6 = b1 then fn_106_31 g b1 b2 b3 B4 b5 b6 else if (fn_51 (g 11 b6.toNatClampNeg)) = 0 then .inr b5 else fn_106_31 g b1 b2 b3 B4 b5 b6
noncomputable def fn_106_6 (g : aa_G) (b1 : Int32) (b2 : Int32) (b3 : Int32) (B4 : Nat) (b5 : Int32) (b6 : Int32) : Int32 := lp_f 0 (fun z : (Int32 × Int32) => fn_106_6b g b1 b2 b3 B4 z.1 z.2) (b5, b6)
theorem dn_106_6l {v : Option Value} {h : zz_H} {N : Nat} {g : aa_G} {b1 : Int32} {b2 : Int32} {b3 : Int32} {B4 : Nat} (hB4 : sp_ok B4) {d : Int32} : ∀ (n : Nat), n ≤ N → ∀ (b5 : Int32) (b6 : Int32) (x7 : Option Value) (jx7 : rn_jk x7), rn_s n 106 (6, [some (.ref 4), some (.int b1), some (.int b2), some (.int b3), some (.ref B4), some (.int b5), some (.int b6), x7], [], aa_H g) v h → (ir_s g v h) (lp_f d (fun z : (Int32 × Int32) => fn_106_6b g b1 b2 b3 B4 z.1 z.2) (b5, b6)) := by
  generalize hf : (fun z : (Int32 × Int32) => fn_106_6b g b1 b2 b3 B4 z.1 z.2) = f
  intro n
  induction n using Nat.strongRecOn with
  | _ n ih =>
    intro hN b5 b6 x7 jx7 r
    refine lp_go ?_
    rw [← congrFun hf (b5, b6)]
    show lp_q (ir_s g v h) d f (fn_106_6b g b1 b2 b3 B4 b5 b6)
    unfold fn_106_6b
    obtain ⟨n2, ln2, r⟩ := rn_steps 1 (9, [some (.ref 4), some (.int b1), some (.int b2), some (.int b3), some (.ref B4), some (.int b5), some (.int b6), x7], [.int b2, .int b6], aa_H g) rfl r
    refine rn_ic (lp_q (ir_s g v h) d f) rfl decide_eq_true_iff.symm r (fun c3 l4n l4 r => ?_) (fun c3 l4n l4 r => ?_)
    · obtain ⟨n5, ln5, r⟩ := rn_steps 0 (91, [some (.ref 4), some (.int b1), some (.int b2), some (.int b3), some (.ref B4), some (.int b5), some (.int b6), x7], [.int b5], aa_H g) rfl r
      exact rn_ire rfl r
    · obtain ⟨n6, ln6, r⟩ := rn_steps 1 (15, [some (.ref 4), some (.int b1), some (.int b2), some (.int b3), some (.ref B4), some (.int b5), some (.int b6), x7], [.int b1, .int b6], aa_H g) rfl r
      refine rn_ic (lp_q (ir_s g v h) d f) rfl decide_eq_true_iff.symm r (fun c7 l8n l8 r => ?_) (fun c7 l8n l8 r => ?_)
      · exact dn_106_31 (lp_q (ir_s g v h) d f) (fun n2 l2 => ih n2 (by omega) (by omega)) (fun z hz => hz) hB4 x7 jx7 r
      · obtain ⟨n9, ln9, r⟩ := rn_steps 2 (24, [some (.ref 4), some (.int b1), some (.int b2), some (.int b3), some (.ref B4), some (.int b5), some (.int b6), x7], [.int b6, .ref 11], aa_H g) rfl r
        obtain ⟨hb11, n10, ln10, r⟩ := rn_ial (k := 11) rfl ⟨by decide, by decide⟩ rfl r
        have r : rn_s _ 106 (25, [some (.ref 4), some (.int b1), some (.int b2), some (.int b3), some (.ref B4), some (.int b5), some (.int b6), x7], [.int (g 11 b6.toNatClampNeg)], aa_H g) v h := r
        obtain ⟨_, n12, v1, h1, -, ln12, rc, r⟩ := rn_call (m2 := 51) (as := [.int (g 11 b6.toNatClampNeg)]) (rest := []) rfl rfl r
        obtain ⟨rfl, rfl⟩ := dn_51 rc
        have r : rn_s _ 106 (28, [some (.ref 4), some (.int b1), some (.int b2), some (.int b3), some (.ref B4), some (.int b5), some (.int b6), x7], [.int (fn_51 (g 11 b6.toNatClampNeg))], aa_H g) v h := r
        refine rn_if (lp_q (ir_s g v h) d f) rfl decide_eq_true_iff.symm r (fun c14 l15n l15 r => ?_) (fun c14 l15n l15 r => ?_)
        · obtain ⟨n16, ln16, r⟩ := rn_steps 0 (91, [some (.ref 4), some (.int b1), some (.int b2), some (.int b3), some (.ref B4), some (.int b5), some (.int b6), x7], [.int b5], aa_H g) rfl r
          exact rn_ire rfl r
        · exact dn_106_31 (lp_q (ir_s g v h) d f) (fun n2 l2 => ih n2 (by omega) (by omega)) (fun z hz => hz) hB4 x7 jx7 r
theorem dn_106_6 {v : Option Value} {h : zz_H} {n : Nat} {g : aa_G} {b1 : Int32} {b2 : Int32} {b3 : Int32} {B4 : Nat} {b5 : Int32} {b6 : Int32} (hB4 : sp_ok B4) (x7 : Option Value) (jx7 : rn_jk x7) (r : rn_s n 106 (6, [some (.ref 4), some (.int b1), some (.int b2), some (.int b3), some (.ref B4), some (.int b5), some (.int b6), x7], [], aa_H g) v h) : (ir_s g v h) (fn_106_6 g b1 b2 b3 B4 b5 b6) := dn_106_6l hB4 n (Nat.le_refl n) b5 b6 x7 jx7 r
noncomputable def fn_106 (g : aa_G) (a1 : Int32) (a2 : Int32) (a3 : Int32) (P : Nat) : Int32 := fn_106_6 g a1 a2 a3 P 0 a1
theorem dn_106 {v : Option Value} {h : zz_H} {n : Nat} {g : aa_G} {a1 : Int32} {a2 : Int32} {a3 : Int32} {P : Nat} (hP : sp_ok P) (r : rn_s n 106 (0, zz_in [.ref 4, .int a1, .int a2, .int a3, .ref P] (zz_nl 106), [], aa_H g) v h) : ir_s g v h (fn_106 g a1 a2 a3 P) := by
  have r : rn_s n 106 (0, [some (.ref 4), some (.int a1), some (.int a2), some (.int a3), some (.ref P), none, none, none], [], aa_H g) v h := r
  unfold fn_106
  obtain ⟨n1, ln1, r⟩ := rn_steps 3 (6, [some (.ref 4), some (.int a1), some (.int a2), some (.int a3), some (.ref P), some (.int 0), some (.int a1), none], [], aa_H g) rfl r
  exact dn_106_6 hP none rn_jn r
-- 49: UnequalHours Bells isTest
noncomputable def fn_49 (a0 : Int32) : Int32 := if a0 = 60 then 1 else if a0 = 62 then 1 else if a0 ≠ 61 then 0 else 1
theorem dn_49 {v : Option Value} {h : zz_H} {n : Nat} {g : aa_G} {a0 : Int32}  (r : rn_s n 49 (0, zz_in [.int a0] (zz_nl 49), [], aa_H g) v h) : ir_s g v h (fn_49 a0) := by
  have r : rn_s n 49 (0, [some (.int a0)], [], aa_H g) v h := r
  unfold fn_49
  obtain ⟨n1, ln1, r⟩ := rn_steps 1 (3, [some (.int a0)], [.int 60, .int a0], aa_H g) rfl r
  refine rn_ic (ir_s g v h) rfl decide_eq_true_iff.symm r (fun c2 l3n l3 r => ?_) (fun c2 l3n l3 r => ?_)
  · obtain ⟨n4, ln4, r⟩ := rn_steps 1 (23, [some (.int a0)], [.int 1], aa_H g) rfl r
    exact rn_ire rfl r
  · obtain ⟨n5, ln5, r⟩ := rn_steps 1 (9, [some (.int a0)], [.int 62, .int a0], aa_H g) rfl r
    refine rn_ic (ir_s g v h) rfl decide_eq_true_iff.symm r (fun c6 l7n l7 r => ?_) (fun c6 l7n l7 r => ?_)
    · obtain ⟨n8, ln8, r⟩ := rn_steps 1 (23, [some (.int a0)], [.int 1], aa_H g) rfl r
      exact rn_ire rfl r
    · obtain ⟨n9, ln9, r⟩ := rn_steps 1 (15, [some (.int a0)], [.int 61, .int a0], aa_H g) rfl r
      refine rn_ic (ir_s g v h) rfl decide_eq_true_iff.symm r (fun c10 l11n l11 r => ?_) (fun c10 l11n l11 r => ?_)
      · obtain ⟨n12, ln12, r⟩ := rn_steps 0 (23, [some (.int a0)], [.int 0], aa_H g) rfl r
        exact rn_ire rfl r
      · obtain ⟨n13, ln13, r⟩ := rn_steps 1 (23, [some (.int a0)], [.int 1], aa_H g) rfl r
        exact rn_ire rfl r
-- 50: UnequalHours Bells joinsTests
noncomputable def fn_50 (a0 : Int32) : Int32 := if a0 = 38 then 1 else if a0 ≠ 124 then 0 else 1
theorem dn_50 {v : Option Value} {h : zz_H} {n : Nat} {g : aa_G} {a0 : Int32}  (r : rn_s n 50 (0, zz_in [.int a0] (zz_nl 50), [], aa_H g) v h) : ir_s g v h (fn_50 a0) := by
  have r : rn_s n 50 (0, [some (.int a0)], [], aa_H g) v h := r
  unfold fn_50
  obtain ⟨n1, ln1, r⟩ := rn_steps 1 (3, [some (.int a0)], [.int 38, .int a0], aa_H g) rfl r
  refine rn_ic (ir_s g v h) rfl decide_eq_true_iff.symm r (fun c2 l3n l3 r => ?_) (fun c2 l3n l3 r => ?_)
  · obtain ⟨n4, ln4, r⟩ := rn_steps 1 (17, [some (.int a0)], [.int 1], aa_H g) rfl r
    exact rn_ire rfl r
  · obtain ⟨n5, ln5, r⟩ := rn_steps 1 (9, [some (.int a0)], [.int 124, .int a0], aa_H g) rfl r
    refine rn_ic (ir_s g v h) rfl decide_eq_true_iff.symm r (fun c6 l7n l7 r => ?_) (fun c6 l7n l7 r => ?_)
    · obtain ⟨n8, ln8, r⟩ := rn_steps 0 (17, [some (.int a0)], [.int 0], aa_H g) rfl r
      exact rn_ire rfl r
    · obtain ⟨n9, ln9, r⟩ := rn_steps 1 (17, [some (.int a0)], [.int 1], aa_H g) rfl r
      exact rn_ire rfl r
-- 105: UnequalHours Bells holds
noncomputable def fn_105_148 (g : aa_G) (b2 : Int32) (B3 : Nat) (b4 : Int32) (b5 : Int32) (b6 : Int32) (b7 : Int32) : (Int32 × Int32 × Int32) ⊕ Int32 := .inl (b4, b5, b7 + 1)
theorem dn_105_148 {v : Option Value} {h : zz_H} {n : Nat} {g : aa_G} {b2 : Int32} {B3 : Nat} {b4 : Int32} {b5 : Int32} {b6 : Int32} {b7 : Int32} (P : (Int32 × Int32 × Int32) ⊕ Int32 → Prop) (hO0 : ∀ n2, n2 < n → ∀ (yb4 : Int32) (yb5 : Int32) (yb7 : Int32) (yx1 yx8 : Option Value) (_ : rn_jk yx1) (_ : rn_jk yx8), rn_s n2 105 (55, [some (.ref 4), yx1, some (.int b2), some (.ref B3), some (.int yb4), some (.int yb5), some (.int b6), some (.int yb7), yx8], [], aa_H g) v h → P (.inl (yb4, yb5, yb7))) (hR : ∀ E, ir_s g v h E → P (.inr E)) (hB3 : sp_ok B3) (x1 x8 : Option Value) (jx1 : rn_jk x1) (jx8 : rn_jk x8) (r : rn_s n 105 (148, [some (.ref 4), x1, some (.int b2), some (.ref B3), some (.int b4), some (.int b5), some (.int b6), some (.int b7), x8], [], aa_H g) v h) : P (fn_105_148 g b2 B3 b4 b5 b6 b7) := by
  unfold fn_105_148
  obtain ⟨n61, ln61, r⟩ := rn_steps 1 (55, [some (.ref 4), x1, some (.int b2), some (.ref B3), some (.int b4), some (.int b5), some (.int b6), some (.int (b7 + 1)), x8], [], aa_H g) rfl r
  exact hO0 _ (by omega) b4 b5 (b7 + 1) x1 x8 jx1 jx8 r
noncomputable def fn_105_146 (g : aa_G) (b2 : Int32) (B3 : Nat) (b5 : Int32) (b6 : Int32) (b7 : Int32) (s0 : Int32) : (Int32 × Int32 × Int32) ⊕ Int32 := fn_105_148 g b2 B3 s0 b5 b6 b7
theorem dn_105_146 {v : Option Value} {h : zz_H} {n : Nat} {g : aa_G} {b2 : Int32} {B3 : Nat} {b5 : Int32} {b6 : Int32} {b7 : Int32} {s0 : Int32} (P : (Int32 × Int32 × Int32) ⊕ Int32 → Prop) (hO0 : ∀ n2, n2 < n → ∀ (yb4 : Int32) (yb5 : Int32) (yb7 : Int32) (yx1 yx8 : Option Value) (_ : rn_jk yx1) (_ : rn_jk yx8), rn_s n2 105 (55, [some (.ref 4), yx1, some (.int b2), some (.ref B3), some (.int yb4), some (.int yb5), some (.int b6), some (.int yb7), yx8], [], aa_H g) v h → P (.inl (yb4, yb5, yb7))) (hR : ∀ E, ir_s g v h E → P (.inr E)) (hB3 : sp_ok B3) (x1 x4 x8 : Option Value) (jx1 : rn_jk x1) (jx4 : rn_jk x4) (jx8 : rn_jk x8) (r : rn_s n 105 (146, [some (.ref 4), x1, some (.int b2), some (.ref B3), x4, some (.int b5), some (.int b6), some (.int b7), x8], [.int s0], aa_H g) v h) : P (fn_105_146 g b2 B3 b5 b6 b7 s0) := by
  unfold fn_105_146
  obtain ⟨n63, ln63, r⟩ := rn_steps 0 (148, [some (.ref 4), x1, some (.int b2), some (.ref B3), some (.int s0), some (.int b5), some (.int b6), some (.int b7), x8], [], aa_H g) rfl r
  exact dn_105_148 (P) (fun n2 l2 => hO0 n2 (by omega)) (fun z hz => hR _ hz) hB3 x1 x8 jx1 jx8 r
noncomputable def fn_105_145 (g : aa_G) (b2 : Int32) (B3 : Nat) (b5 : Int32) (b6 : Int32) (b7 : Int32) : (Int32 × Int32 × Int32) ⊕ Int32 := fn_105_146 g b2 B3 b5 b6 b7 0
theorem dn_105_145 {v : Option Value} {h : zz_H} {n : Nat} {g : aa_G} {b2 : Int32} {B3 : Nat} {b5 : Int32} {b6 : Int32} {b7 : Int32} (P : (Int32 × Int32 × Int32) ⊕ Int32 → Prop) (hO0 : ∀ n2, n2 < n → ∀ (yb4 : Int32) (yb5 : Int32) (yb7 : Int32) (yx1 yx8 : Option Value) (_ : rn_jk yx1) (_ : rn_jk yx8), rn_s n2 105 (55, [some (.ref 4), yx1, some (.int b2), some (.ref B3), some (.int yb4), some (.int yb5), some (.int b6), some (.int yb7), yx8], [], aa_H g) v h → P (.inl (yb4, yb5, yb7))) (hR : ∀ E, ir_s g v h E → P (.inr E)) (hB3 : sp_ok B3) (x1 x4 x8 : Option Value) (jx1 : rn_jk x1) (jx4 : rn_jk x4) (jx8 : rn_jk x8) (r : rn_s n 105 (145, [some (.ref 4), x1, some (.int b2), some (.ref B3), x4, some (.int b5), some (.int b6), some (.int b7), x8], [], aa_H g) v h) : P (fn_105_145 g b2 B3 b5 b6 b7) := by
  unfold fn_105_145
  obtain ⟨n62, ln62, r⟩ := rn_steps 0 (146, [some (.ref 4), x1, some (.int b2), some (.ref B3), x4, some (.int b5), some (.int b6), some (.int b7), x8], [.int 0], aa_H g) rfl r
  exact dn_105_146 (P) (fun n2 l2 => hO0 n2 (by omega)) (fun z hz => hR _ hz) hB3 x1 x4 x8 jx1 jx4 jx8 r
noncomputable def fn_105_100 (g : aa_G) (b2 : Int32) (B3 : Nat) (b4 : Int32) (b5 : Int32) (b6 : Int32) (b7 : Int32) (b8 : Int32) : (Int32 × Int32 × Int32) ⊕ Int32 := if (fn_49 b8) = 0 then fn_105_148 g b2 B3 b4 b5 b6 b7 else if b4 = 0 then fn_105_145 g b2 B3 b5 b6 b7 else if (fn_109 (fn_106 g b5 b6 b2 B3) b8 (fn_106 g b7 b6 b2 B3)) = 0 then fn_105_145 g b2 B3 b5 b6 b7 else fn_105_146 g b2 B3 b5 b6 b7 1
theorem dn_105_100 {v : Option Value} {h : zz_H} {n : Nat} {g : aa_G} {b2 : Int32} {B3 : Nat} {b4 : Int32} {b5 : Int32} {b6 : Int32} {b7 : Int32} {b8 : Int32} (P : (Int32 × Int32 × Int32) ⊕ Int32 → Prop) (hO0 : ∀ n2, n2 < n → ∀ (yb4 : Int32) (yb5 : Int32) (yb7 : Int32) (yx1 yx8 : Option Value) (_ : rn_jk yx1) (_ : rn_jk yx8), rn_s n2 105 (55, [some (.ref 4), yx1, some (.int b2), some (.ref B3), some (.int yb4), some (.int yb5), some (.int b6), some (.int yb7), yx8], [], aa_H g) v h → P (.inl (yb4, yb5, yb7))) (hR : ∀ E, ir_s g v h E → P (.inr E)) (hB3 : sp_ok B3) (x1 : Option Value) (jx1 : rn_jk x1) (r : rn_s n 105 (100, [some (.ref 4), x1, some (.int b2), some (.ref B3), some (.int b4), some (.int b5), some (.int b6), some (.int b7), some (.int b8)], [], aa_H g) v h) : P (fn_105_100 g b2 B3 b4 b5 b6 b7 b8) := by
  unfold fn_105_100
  obtain ⟨n42, ln42, r⟩ := rn_steps 0 (102, [some (.ref 4), x1, some (.int b2), some (.ref B3), some (.int b4), some (.int b5), some (.int b6), some (.int b7), some (.int b8)], [.int b8], aa_H g) rfl r
  obtain ⟨_, n43, v1, h1, -, ln43, rc, r⟩ := rn_call (m2 := 49) (as := [.int b8]) (rest := []) rfl rfl r
  obtain ⟨rfl, rfl⟩ := dn_49 rc
  have r : rn_s _ 105 (105, [some (.ref 4), x1, some (.int b2), some (.ref B3), some (.int b4), some (.int b5), some (.int b6), some (.int b7), some (.int b8)], [.int (fn_49 b8)], aa_H g) v h := r
  refine rn_if (P) rfl decide_eq_true_iff.symm r (fun c45 l46n l46 r => ?_) (fun c45 l46n l46 r => ?_)
  · exact dn_105_148 (P) (fun n2 l2 => hO0 n2 (by omega)) (fun z hz => hR _ hz) hB3 x1 (some (.int b8)) jx1 rn_ji r
  · obtain ⟨n47, ln47, r⟩ := rn_steps 0 (110, [some (.ref 4), x1, some (.int b2), some (.ref B3), some (.int b4), some (.int b5), some (.int b6), some (.int b7), some (.int b8)], [.int b4], aa_H g) rfl r
    refine rn_if (P) rfl decide_eq_true_iff.symm r (fun c48 l49n l49 r => ?_) (fun c48 l49n l49 r => ?_)
    · exact dn_105_145 (P) (fun n2 l2 => hO0 n2 (by omega)) (fun z hz => hR _ hz) hB3 x1 (some (.int b4)) (some (.int b8)) jx1 rn_ji rn_ji r
    · obtain ⟨n50, ln50, r⟩ := rn_steps 4 (120, [some (.ref 4), x1, some (.int b2), some (.ref B3), some (.int b4), some (.int b5), some (.int b6), some (.int b7), some (.int b8)], [.ref B3, .int b2, .int b6, .int b5, .ref 4], aa_H g) rfl r
      obtain ⟨_, n51, v1, h1, -, ln51, rc, r⟩ := rn_call (m2 := 106) (as := [.ref 4, .int b5, .int b6, .int b2, .ref B3]) (rest := []) rfl rfl r
      obtain ⟨rfl, rfl⟩ := dn_106 hB3 rc
      have r : rn_s _ 105 (123, [some (.ref 4), x1, some (.int b2), some (.ref B3), some (.int b4), some (.int b5), some (.int b6), some (.int b7), some (.int b8)], [.int (fn_106 g b5 b6 b2 B3)], aa_H g) v h := r
      obtain ⟨n53, ln53, r⟩ := rn_steps 5 (132, [some (.ref 4), x1, some (.int b2), some (.ref B3), some (.int b4), some (.int b5), some (.int b6), some (.int b7), some (.int b8)], [.ref B3, .int b2, .int b6, .int b7, .ref 4, .int b8, .int (fn_106 g b5 b6 b2 B3)], aa_H g) rfl r
      obtain ⟨_, n54, v1, h1, -, ln54, rc, r⟩ := rn_call (m2 := 106) (as := [.ref 4, .int b7, .int b6, .int b2, .ref B3]) (rest := [.int b8, .int (fn_106 g b5 b6 b2 B3)]) rfl rfl r
      obtain ⟨rfl, rfl⟩ := dn_106 hB3 rc
      have r : rn_s _ 105 (135, [some (.ref 4), x1, some (.int b2), some (.ref B3), some (.int b4), some (.int b5), some (.int b6), some (.int b7), some (.int b8)], [.int (fn_106 g b7 b6 b2 B3), .int b8, .int (fn_106 g b5 b6 b2 B3)], aa_H g) v h := r
      obtain ⟨_, n56, v1, h1, -, ln56, rc, r⟩ := rn_call (m2 := 109) (as := [.int (fn_106 g b5 b6 b2 B3), .int b8, .int (fn_106 g b7 b6 b2 B3)]) (rest := []) rfl rfl r
      obtain ⟨rfl, rfl⟩ := dn_109 rc
      have r : rn_s _ 105 (138, [some (.ref 4), x1, some (.int b2), some (.ref B3), some (.int b4), some (.int b5), some (.int b6), some (.int b7), some (.int b8)], [.int (fn_109 (fn_106 g b5 b6 b2 B3) b8 (fn_106 g b7 b6 b2 B3))], aa_H g) v h := r
      refine rn_if (P) rfl decide_eq_true_iff.symm r (fun c58 l59n l59 r => ?_) (fun c58 l59n l59 r => ?_)
      · exact dn_105_145 (P) (fun n2 l2 => hO0 n2 (by omega)) (fun z hz => hR _ hz) hB3 x1 (some (.int b4)) (some (.int b8)) jx1 rn_ji rn_ji r
      · obtain ⟨n60, ln60, r⟩ := rn_steps 1 (146, [some (.ref 4), x1, some (.int b2), some (.ref B3), some (.int b4), some (.int b5), some (.int b6), some (.int b7), some (.int b8)], [.int 1], aa_H g) rfl r
        exact dn_105_146 (P) (fun n2 l2 => hO0 n2 (by omega)) (fun z hz => hR _ hz) hB3 x1 (some (.int b4)) (some (.int b8)) jx1 rn_ji rn_ji r
noncomputable def fn_105_88 (g : aa_G) (b2 : Int32) (B3 : Nat) (b4 : Int32) (b5 : Int32) (b6 : Int32) (b7 : Int32) (b8 : Int32) : (Int32 × Int32 × Int32) ⊕ Int32 := if (fn_50 b8) = 0 then fn_105_100 g b2 B3 b4 b5 b6 b7 b8 else fn_105_100 g b2 B3 b4 b7 b6 b7 b8
theorem dn_105_88 {v : Option Value} {h : zz_H} {n : Nat} {g : aa_G} {b2 : Int32} {B3 : Nat} {b4 : Int32} {b5 : Int32} {b6 : Int32} {b7 : Int32} {b8 : Int32} (P : (Int32 × Int32 × Int32) ⊕ Int32 → Prop) (hO0 : ∀ n2, n2 < n → ∀ (yb4 : Int32) (yb5 : Int32) (yb7 : Int32) (yx1 yx8 : Option Value) (_ : rn_jk yx1) (_ : rn_jk yx8), rn_s n2 105 (55, [some (.ref 4), yx1, some (.int b2), some (.ref B3), some (.int yb4), some (.int yb5), some (.int b6), some (.int yb7), yx8], [], aa_H g) v h → P (.inl (yb4, yb5, yb7))) (hR : ∀ E, ir_s g v h E → P (.inr E)) (hB3 : sp_ok B3) (x1 : Option Value) (jx1 : rn_jk x1) (r : rn_s n 105 (88, [some (.ref 4), x1, some (.int b2), some (.ref B3), some (.int b4), some (.int b5), some (.int b6), some (.int b7), some (.int b8)], [], aa_H g) v h) : P (fn_105_88 g b2 B3 b4 b5 b6 b7 b8) := by
  unfold fn_105_88
  obtain ⟨n36, ln36, r⟩ := rn_steps 0 (90, [some (.ref 4), x1, some (.int b2), some (.ref B3), some (.int b4), some (.int b5), some (.int b6), some (.int b7), some (.int b8)], [.int b8], aa_H g) rfl r
  obtain ⟨_, n37, v1, h1, -, ln37, rc, r⟩ := rn_call (m2 := 50) (as := [.int b8]) (rest := []) rfl rfl r
  obtain ⟨rfl, rfl⟩ := dn_50 rc
  have r : rn_s _ 105 (93, [some (.ref 4), x1, some (.int b2), some (.ref B3), some (.int b4), some (.int b5), some (.int b6), some (.int b7), some (.int b8)], [.int (fn_50 b8)], aa_H g) v h := r
  refine rn_if (P) rfl decide_eq_true_iff.symm r (fun c39 l40n l40 r => ?_) (fun c39 l40n l40 r => ?_)
  · exact dn_105_100 (P) (fun n2 l2 => hO0 n2 (by omega)) (fun z hz => hR _ hz) hB3 x1 jx1 r
  · obtain ⟨n41, ln41, r⟩ := rn_steps 1 (100, [some (.ref 4), x1, some (.int b2), some (.ref B3), some (.int b4), some (.int b7), some (.int b6), some (.int b7), some (.int b8)], [], aa_H g) rfl r
    exact dn_105_100 (P) (fun n2 l2 => hO0 n2 (by omega)) (fun z hz => hR _ hz) hB3 x1 jx1 r
noncomputable def fn_105_55b (g : aa_G) (b2 : Int32) (B3 : Nat) (b4 : Int32) (b5 : Int32) (b6 : Int32) (b7 : Int32) : (Int32 × Int32 × Int32) ⊕ Int32 := if b6 ≤ b7 then .inr b4 else if (g 11 b7.toNatClampNeg) ≠ 124 then fn_105_88 g b2 B3 b4 b5 b6 b7 (g 11 b7.toNatClampNeg) else if b4 = 0 then fn_105_88 g b2 B3 1 b5 b6 b7 (g 11 b7.toNatClampNeg) else .inr 1
noncomputable def fn_105_55 (g : aa_G) (b2 : Int32) (B3 : Nat) (b4 : Int32) (b5 : Int32) (b6 : Int32) (b7 : Int32) : Int32 := lp_f 0 (fun z : (Int32 × Int32 × Int32) => fn_105_55b g b2 B3 z.1 z.2.1 b6 z.2.2) (b4, b5, b7)
theorem dn_105_55l {v : Option Value} {h : zz_H} {N : Nat} {g : aa_G} {b2 : Int32} {B3 : Nat} {b6 : Int32} (hB3 : sp_ok B3) {d : Int32} : ∀ (n : Nat), n ≤ N → ∀ (b4 : Int32) (b5 : Int32) (b7 : Int32) (x1 x8 : Option Value) (jx1 : rn_jk x1) (jx8 : rn_jk x8), rn_s n 105 (55, [some (.ref 4), x1, some (.int b2), some (.ref B3), some (.int b4), some (.int b5), some (.int b6), some (.int b7), x8], [], aa_H g) v h → (ir_s g v h) (lp_f d (fun z : (Int32 × Int32 × Int32) => fn_105_55b g b2 B3 z.1 z.2.1 b6 z.2.2) (b4, b5, b7)) := by
  generalize hf : (fun z : (Int32 × Int32 × Int32) => fn_105_55b g b2 B3 z.1 z.2.1 b6 z.2.2) = f
  intro n
  induction n using Nat.strongRecOn with
  | _ n ih =>
    intro hN b4 b5 b7 x1 x8 jx1 jx8 r
    refine lp_go ?_
    rw [← congrFun hf (b4, b5, b7)]
    show lp_q (ir_s g v h) d f (fn_105_55b g b2 B3 b4 b5 b6 b7)
    unfold fn_105_55b
    obtain ⟨n21, ln21, r⟩ := rn_steps 1 (59, [some (.ref 4), x1, some (.int b2), some (.ref B3), some (.int b4), some (.int b5), some (.int b6), some (.int b7), x8], [.int b6, .int b7], aa_H g) rfl r
    refine rn_ic (lp_q (ir_s g v h) d f) rfl decide_eq_true_iff.symm r (fun c22 l23n l23 r => ?_) (fun c22 l23n l23 r => ?_)
    · obtain ⟨n24, ln24, r⟩ := rn_steps 0 (156, [some (.ref 4), x1, some (.int b2), some (.ref B3), some (.int b4), some (.int b5), some (.int b6), some (.int b7), x8], [.int b4], aa_H g) rfl r
      exact rn_ire rfl r
    · obtain ⟨n25, ln25, r⟩ := rn_steps 2 (68, [some (.ref 4), x1, some (.int b2), some (.ref B3), some (.int b4), some (.int b5), some (.int b6), some (.int b7), x8], [.int b7, .ref 11], aa_H g) rfl r
      obtain ⟨hb27, n26, ln26, r⟩ := rn_ial (k := 11) rfl ⟨by decide, by decide⟩ rfl r
      have r : rn_s _ 105 (69, [some (.ref 4), x1, some (.int b2), some (.ref B3), some (.int b4), some (.int b5), some (.int b6), some (.int b7), x8], [.int (g 11 b7.toNatClampNeg)], aa_H g) v h := r
      obtain ⟨n28, ln28, r⟩ := rn_steps 2 (75, [some (.ref 4), x1, some (.int b2), some (.ref B3), some (.int b4), some (.int b5), some (.int b6), some (.int b7), some (.int (g 11 b7.toNatClampNeg))], [.int 124, .int (g 11 b7.toNatClampNeg)], aa_H g) rfl r
      refine rn_ic (lp_q (ir_s g v h) d f) rfl decide_eq_true_iff.symm r (fun c29 l30n l30 r => ?_) (fun c29 l30n l30 r => ?_)
      · exact dn_105_88 (lp_q (ir_s g v h) d f) (fun n2 l2 => ih n2 (by omega) (by omega)) (fun z hz => hz) hB3 x1 jx1 r
      · obtain ⟨n31, ln31, r⟩ := rn_steps 0 (80, [some (.ref 4), x1, some (.int b2), some (.ref B3), some (.int b4), some (.int b5), some (.int b6), some (.int b7), some (.int (g 11 b7.toNatClampNeg))], [.int b4], aa_H g) rfl r
        refine rn_if (lp_q (ir_s g v h) d f) rfl decide_eq_true_iff.symm r (fun c32 l33n l33 r => ?_) (fun c32 l33n l33 r => ?_)
        · obtain ⟨n34, ln34, r⟩ := rn_steps 1 (88, [some (.ref 4), x1, some (.int b2), some (.ref B3), some (.int 1), some (.int b5), some (.int b6), some (.int b7), some (.int (g 11 b7.toNatClampNeg))], [], aa_H g) rfl r
          exact dn_105_88 (lp_q (ir_s g v h) d f) (fun n2 l2 => ih n2 (by omega) (by omega)) (fun z hz => hz) hB3 x1 jx1 r
        · obtain ⟨n35, ln35, r⟩ := rn_steps 0 (84, [some (.ref 4), x1, some (.int b2), some (.ref B3), some (.int b4), some (.int b5), some (.int b6), some (.int b7), some (.int (g 11 b7.toNatClampNeg))], [.int 1], aa_H g) rfl r
          exact rn_ire rfl r
theorem dn_105_55 {v : Option Value} {h : zz_H} {n : Nat} {g : aa_G} {b2 : Int32} {B3 : Nat} {b4 : Int32} {b5 : Int32} {b6 : Int32} {b7 : Int32} (hB3 : sp_ok B3) (x1 x8 : Option Value) (jx1 : rn_jk x1) (jx8 : rn_jk x8) (r : rn_s n 105 (55, [some (.ref 4), x1, some (.int b2), some (.ref B3), some (.int b4), some (.int b5), some (.int b6), some (.int b7), x8], [], aa_H g) v h) : (ir_s g v h) (fn_105_55 g b2 B3 b4 b5 b6 b7) := dn_105_55l hB3 n (Nat.le_refl n) b4 b5 b7 x1 x8 jx1 jx8 r
noncomputable def fn_105_47 (g : aa_G) (b1 : Int32) (b2 : Int32) (B3 : Nat) (b4 : Int32) (b5 : Int32) (b6 : Int32) : Int32 := fn_105_55 g b2 B3 b4 b5 b6 (g 9 b1.toNatClampNeg)
theorem dn_105_47 {v : Option Value} {h : zz_H} {n : Nat} {g : aa_G} {b1 : Int32} {b2 : Int32} {B3 : Nat} {b4 : Int32} {b5 : Int32} {b6 : Int32} (hB3 : sp_ok B3) (x7 x8 : Option Value) (jx7 : rn_jk x7) (jx8 : rn_jk x8) (r : rn_s n 105 (47, [some (.ref 4), some (.int b1), some (.int b2), some (.ref B3), some (.int b4), some (.int b5), some (.int b6), x7, x8], [], aa_H g) v h) : ir_s g v h (fn_105_47 g b1 b2 B3 b4 b5 b6) := by
  unfold fn_105_47
  obtain ⟨n17, ln17, r⟩ := rn_steps 2 (52, [some (.ref 4), some (.int b1), some (.int b2), some (.ref B3), some (.int b4), some (.int b5), some (.int b6), x7, x8], [.int b1, .ref 9], aa_H g) rfl r
  obtain ⟨hb19, n18, ln18, r⟩ := rn_ial (k := 9) rfl ⟨by decide, by decide⟩ rfl r
  have r : rn_s _ 105 (53, [some (.ref 4), some (.int b1), some (.int b2), some (.ref B3), some (.int b4), some (.int b5), some (.int b6), x7, x8], [.int (g 9 b1.toNatClampNeg)], aa_H g) v h := r
  obtain ⟨n20, ln20, r⟩ := rn_steps 0 (55, [some (.ref 4), some (.int b1), some (.int b2), some (.ref B3), some (.int b4), some (.int b5), some (.int b6), some (.int (g 9 b1.toNatClampNeg)), x8], [], aa_H g) rfl r
  exact dn_105_55 hB3 (some (.int b1)) x8 rn_ji jx8 r
noncomputable def fn_105 (g : aa_G) (a1 : Int32) (a2 : Int32) (P : Nat) : Int32 := if (fn_14 a1 0 ((g 4 0) - 1)) ≠ 0 then fn_105_47 g a1 a2 P 1 (g 9 a1.toNatClampNeg) (if 40 < ((g 9 a1.toNatClampNeg) + (g 10 a1.toNatClampNeg)) then 40 else ((g 9 a1.toNatClampNeg) + (g 10 a1.toNatClampNeg))) else 0
theorem dn_105 {v : Option Value} {h : zz_H} {n : Nat} {g : aa_G} {a1 : Int32} {a2 : Int32} {P : Nat} (hP : sp_ok P) (r : rn_s n 105 (0, zz_in [.ref 4, .int a1, .int a2, .ref P] (zz_nl 105), [], aa_H g) v h) : ir_s g v h (fn_105 g a1 a2 P) := by
  have r : rn_s n 105 (0, [some (.ref 4), some (.int a1), some (.int a2), some (.ref P), none, none, none, none, none], [], aa_H g) v h := r
  unfold fn_105
  obtain ⟨n1, ln1, r⟩ := rn_steps 5 (8, [some (.ref 4), some (.int a1), some (.int a2), some (.ref P), none, none, none, none, none], [.int ((g 4 0) - 1), .int 0, .int a1], aa_H g) rfl r
  obtain ⟨_, n2, v1, h1, -, ln2, rc, r⟩ := rn_call (m2 := 14) (as := [.int a1, .int 0, .int ((g 4 0) - 1)]) (rest := []) rfl rfl r
  obtain ⟨rfl, rfl⟩ := dn_14 rc
  have r : rn_s _ 105 (11, [some (.ref 4), some (.int a1), some (.int a2), some (.ref P), none, none, none, none, none], [.int (fn_14 a1 0 ((g 4 0) - 1))], aa_H g) v h := r
  refine rn_if (ir_s g v h) rfl decide_eq_true_iff.symm r (fun c4 l5n l5 r => ?_) (fun c4 l5n l5 r => ?_)
  · obtain ⟨n6, ln6, r⟩ := rn_steps 4 (24, [some (.ref 4), some (.int a1), some (.int a2), some (.ref P), some (.int 1), none, none, none, none], [.int a1, .ref 9], aa_H g) rfl r
    obtain ⟨hb8, n7, ln7, r⟩ := rn_ial (k := 9) rfl ⟨by decide, by decide⟩ rfl r
    have r : rn_s _ 105 (25, [some (.ref 4), some (.int a1), some (.int a2), some (.ref P), some (.int 1), none, none, none, none], [.int (g 9 a1.toNatClampNeg)], aa_H g) v h := r
    obtain ⟨n9, ln9, r⟩ := rn_steps 3 (32, [some (.ref 4), some (.int a1), some (.int a2), some (.ref P), some (.int 1), some (.int (g 9 a1.toNatClampNeg)), none, none, none], [.int a1, .ref 9], aa_H g) rfl r
    obtain ⟨hb11, n10, ln10, r⟩ := rn_ial (k := 9) rfl ⟨by decide, by decide⟩ rfl r
    have r : rn_s _ 105 (33, [some (.ref 4), some (.int a1), some (.int a2), some (.ref P), some (.int 1), some (.int (g 9 a1.toNatClampNeg)), none, none, none], [.int (g 9 a1.toNatClampNeg)], aa_H g) v h := r
    obtain ⟨n12, ln12, r⟩ := rn_steps 2 (38, [some (.ref 4), some (.int a1), some (.int a2), some (.ref P), some (.int 1), some (.int (g 9 a1.toNatClampNeg)), none, none, none], [.int a1, .ref 10, .int (g 9 a1.toNatClampNeg)], aa_H g) rfl r
    obtain ⟨hb14, n13, ln13, r⟩ := rn_ial (k := 10) rfl ⟨by decide, by decide⟩ rfl r
    have r : rn_s _ 105 (39, [some (.ref 4), some (.int a1), some (.int a2), some (.ref P), some (.int 1), some (.int (g 9 a1.toNatClampNeg)), none, none, none], [.int (g 10 a1.toNatClampNeg), .int (g 9 a1.toNatClampNeg)], aa_H g) v h := r
    obtain ⟨n15, ln15, r⟩ := rn_steps 3 (47, [some (.ref 4), some (.int a1), some (.int a2), some (.ref P), some (.int 1), some (.int (g 9 a1.toNatClampNeg)), some (.int (if 40 < ((g 9 a1.toNatClampNeg) + (g 10 a1.toNatClampNeg)) then 40 else ((g 9 a1.toNatClampNeg) + (g 10 a1.toNatClampNeg)))), none, none], [], aa_H g) rfl r
    exact dn_105_47 hP none none rn_jn rn_jn r
  · obtain ⟨n16, ln16, r⟩ := rn_steps 0 (15, [some (.ref 4), some (.int a1), some (.int a2), some (.ref P), none, none, none, none, none], [.int 0], aa_H g) rfl r
    exact rn_ire rfl r
-- 104: UnequalHours Rings ringIn
noncomputable def fn_104 (g : aa_G) (Q : Nat) (P : Nat) (a3 : Int32) (a4 : Int32) (a5 : Int32) : aa_G := if (g P 0) = 0 then g else if (g 2 1) ≤ (g 7 a4.toNatClampNeg) then g else if (fn_105 g a4 a3 P) ≠ 0 then if (fn_92 g P (((g 6 a4.toNatClampNeg) * (g 2 1)) + (g 7 a4.toNatClampNeg)) (g 2 1)) = (-2) then g else if (fn_14 ((fn_92 g P (((g 6 a4.toNatClampNeg) * (g 2 1)) + (g 7 a4.toNatClampNeg)) (g 2 1)) - a5) 0 86399) = 0 then g else fn_110 g Q ((fn_92 g P (((g 6 a4.toNatClampNeg) * (g 2 1)) + (g 7 a4.toNatClampNeg)) (g 2 1)) - a5) a4 else g
theorem dn_104 {v : Option Value} {h : zz_H} {n : Nat} {g : aa_G} {Q : Nat} {P : Nat} {a3 : Int32} {a4 : Int32} {a5 : Int32} (hQ : rg_ok Q) (hP : sp_ok P) (r : rn_s n 104 (0, zz_in [.ref Q, .ref P, .ref 2, .int a3, .int a4, .int a5] (zz_nl 104), [], aa_H g) v h) : ig_s v h (fn_104 g Q P a3 a4 a5) := by
  have r : rn_s n 104 (0, [some (.ref Q), some (.ref P), some (.ref 2), some (.int a3), some (.int a4), some (.int a5), none, none], [], aa_H g) v h := r
  unfold fn_104
  obtain ⟨n1, ln1, r⟩ := rn_steps 3 (9, [some (.ref Q), some (.ref P), some (.ref 2), some (.int a3), some (.int a4), some (.int a5), none, none], [.int a4, .ref 7], aa_H g) rfl r
  obtain ⟨hb3, n2, ln2, r⟩ := rn_ial (k := 7) rfl ⟨by decide, by decide⟩ rfl r
  have r : rn_s _ 104 (10, [some (.ref Q), some (.ref P), some (.ref 2), some (.int a3), some (.int a4), some (.int a5), none, none], [.int (g 7 a4.toNatClampNeg)], aa_H g) v h := r
  obtain ⟨n4, ln4, r⟩ := rn_steps 1 (13, [some (.ref Q), some (.ref P), some (.ref 2), some (.int a3), some (.int a4), some (.int a5), some (.int (g 7 a4.toNatClampNeg)), none], [.ref P], aa_H g) rfl r
  obtain ⟨n5, ln5, r⟩ := rn_gf rfl (sp_hk hP) (sp_hl hP) rfl r
  have r : rn_s _ 104 (16, [some (.ref Q), some (.ref P), some (.ref 2), some (.int a3), some (.int a4), some (.int a5), some (.int (g 7 a4.toNatClampNeg)), none], [.int (g P 0)], aa_H g) v h := r
  refine rn_if (ig_s v h) rfl decide_eq_true_iff.symm r (fun c6 l7n l7 r => ?_) (fun c6 l7n l7 r => ?_)
  · exact rn_ret 1 rfl r
  · obtain ⟨n8, ln8, r⟩ := rn_steps 2 (25, [some (.ref Q), some (.ref P), some (.ref 2), some (.int a3), some (.int a4), some (.int a5), some (.int (g 7 a4.toNatClampNeg)), none], [.int (g 2 1), .int (g 7 a4.toNatClampNeg)], aa_H g) rfl r
    refine rn_ic (ig_s v h) rfl decide_eq_true_iff.symm r (fun c9 l10n l10 r => ?_) (fun c9 l10n l10 r => ?_)
    · exact rn_ret 1 rfl r
    · obtain ⟨n11, ln11, r⟩ := rn_steps 4 (36, [some (.ref Q), some (.ref P), some (.ref 2), some (.int a3), some (.int a4), some (.int a5), some (.int (g 7 a4.toNatClampNeg)), none], [.ref P, .int a3, .int a4, .ref 4], aa_H g) rfl r
      obtain ⟨_, n12, v1, h1, -, ln12, rc, r⟩ := rn_call (m2 := 105) (as := [.ref 4, .int a4, .int a3, .ref P]) (rest := []) rfl rfl r
      obtain ⟨rfl, rfl⟩ := dn_105 hP rc
      have r : rn_s _ 104 (39, [some (.ref Q), some (.ref P), some (.ref 2), some (.int a3), some (.int a4), some (.int a5), some (.int (g 7 a4.toNatClampNeg)), none], [.int (fn_105 g a4 a3 P)], aa_H g) v h := r
      refine rn_if (ig_s v h) rfl decide_eq_true_iff.symm r (fun c14 l15n l15 r => ?_) (fun c14 l15n l15 r => ?_)
      · obtain ⟨n16, ln16, r⟩ := rn_steps 4 (53, [some (.ref Q), some (.ref P), some (.ref 2), some (.int a3), some (.int a4), some (.int a5), some (.int (g 7 a4.toNatClampNeg)), none], [.int a4, .ref 6, .ref P], aa_H g) rfl r
        obtain ⟨hb18, n17, ln17, r⟩ := rn_ial (k := 6) rfl ⟨by decide, by decide⟩ rfl r
        have r : rn_s _ 104 (54, [some (.ref Q), some (.ref P), some (.ref 2), some (.int a3), some (.int a4), some (.int a5), some (.int (g 7 a4.toNatClampNeg)), none], [.int (g 6 a4.toNatClampNeg), .ref P], aa_H g) v h := r
        obtain ⟨n19, ln19, r⟩ := rn_steps 6 (66, [some (.ref Q), some (.ref P), some (.ref 2), some (.int a3), some (.int a4), some (.int a5), some (.int (g 7 a4.toNatClampNeg)), none], [.int (g 2 1), .int (((g 6 a4.toNatClampNeg) * (g 2 1)) + (g 7 a4.toNatClampNeg)), .ref P], aa_H g) rfl r
        obtain ⟨_, n20, v1, h1, -, ln20, rc, r⟩ := rn_cv (k := P) (as := [.int (((g 6 a4.toNatClampNeg) * (g 2 1)) + (g 7 a4.toNatClampNeg)), .int (g 2 1)]) (rest := []) rfl (sp_hk hP) (sp_hl hP) rfl rfl r
        obtain ⟨rfl, rfl⟩ := dn_92 hP rc
        have r : rn_s _ 104 (69, [some (.ref Q), some (.ref P), some (.ref 2), some (.int a3), some (.int a4), some (.int a5), some (.int (g 7 a4.toNatClampNeg)), none], [.int (fn_92 g P (((g 6 a4.toNatClampNeg) * (g 2 1)) + (g 7 a4.toNatClampNeg)) (g 2 1))], aa_H g) v h := r
        obtain ⟨n22, ln22, r⟩ := rn_steps 2 (75, [some (.ref Q), some (.ref P), some (.ref 2), some (.int a3), some (.int a4), some (.int a5), some (.int (g 7 a4.toNatClampNeg)), some (.int (fn_92 g P (((g 6 a4.toNatClampNeg) * (g 2 1)) + (g 7 a4.toNatClampNeg)) (g 2 1)))], [.int (-2), .int (fn_92 g P (((g 6 a4.toNatClampNeg) * (g 2 1)) + (g 7 a4.toNatClampNeg)) (g 2 1))], aa_H g) rfl r
        refine rn_ic (ig_s v h) rfl decide_eq_true_iff.symm r (fun c23 l24n l24 r => ?_) (fun c23 l24n l24 r => ?_)
        · exact rn_ret 1 rfl r
        · obtain ⟨n25, ln25, r⟩ := rn_steps 4 (86, [some (.ref Q), some (.ref P), some (.ref 2), some (.int a3), some (.int a4), some (.int a5), some (.int (g 7 a4.toNatClampNeg)), some (.int (fn_92 g P (((g 6 a4.toNatClampNeg) * (g 2 1)) + (g 7 a4.toNatClampNeg)) (g 2 1)))], [.int 86399, .int 0, .int ((fn_92 g P (((g 6 a4.toNatClampNeg) * (g 2 1)) + (g 7 a4.toNatClampNeg)) (g 2 1)) - a5)], aa_H g) rfl r
          obtain ⟨_, n26, v1, h1, -, ln26, rc, r⟩ := rn_call (m2 := 14) (as := [.int ((fn_92 g P (((g 6 a4.toNatClampNeg) * (g 2 1)) + (g 7 a4.toNatClampNeg)) (g 2 1)) - a5), .int 0, .int 86399]) (rest := []) rfl rfl r
          obtain ⟨rfl, rfl⟩ := dn_14 rc
          have r : rn_s _ 104 (89, [some (.ref Q), some (.ref P), some (.ref 2), some (.int a3), some (.int a4), some (.int a5), some (.int (g 7 a4.toNatClampNeg)), some (.int (fn_92 g P (((g 6 a4.toNatClampNeg) * (g 2 1)) + (g 7 a4.toNatClampNeg)) (g 2 1)))], [.int (fn_14 ((fn_92 g P (((g 6 a4.toNatClampNeg) * (g 2 1)) + (g 7 a4.toNatClampNeg)) (g 2 1)) - a5) 0 86399)], aa_H g) v h := r
          refine rn_if (ig_s v h) rfl decide_eq_true_iff.symm r (fun c28 l29n l29 r => ?_) (fun c28 l29n l29 r => ?_)
          · exact rn_ret 1 rfl r
          · obtain ⟨n30, ln30, r⟩ := rn_steps 4 (100, [some (.ref Q), some (.ref P), some (.ref 2), some (.int a3), some (.int a4), some (.int a5), some (.int (g 7 a4.toNatClampNeg)), some (.int (fn_92 g P (((g 6 a4.toNatClampNeg) * (g 2 1)) + (g 7 a4.toNatClampNeg)) (g 2 1)))], [.int a4, .int ((fn_92 g P (((g 6 a4.toNatClampNeg) * (g 2 1)) + (g 7 a4.toNatClampNeg)) (g 2 1)) - a5), .ref Q], aa_H g) rfl r
            obtain ⟨_, n31, v1, h1, -, ln31, rc, r⟩ := rn_cv (k := Q) (as := [.int ((fn_92 g P (((g 6 a4.toNatClampNeg) * (g 2 1)) + (g 7 a4.toNatClampNeg)) (g 2 1)) - a5), .int a4]) (rest := []) rfl (rg_hk hQ) (rg_hl hQ) rfl rfl r
            obtain ⟨rfl, rfl⟩ := dn_110 hQ rc
            have r : rn_s _ 104 (103, [some (.ref Q), some (.ref P), some (.ref 2), some (.int a3), some (.int a4), some (.int a5), some (.int (g 7 a4.toNatClampNeg)), some (.int (fn_92 g P (((g 6 a4.toNatClampNeg) * (g 2 1)) + (g 7 a4.toNatClampNeg)) (g 2 1)))], [], aa_H (fn_110 g Q ((fn_92 g P (((g 6 a4.toNatClampNeg) * (g 2 1)) + (g 7 a4.toNatClampNeg)) (g 2 1)) - a5) a4)) v h := r
            exact rn_ret 1 rfl r
      · exact rn_ret 1 rfl r
-- 103: UnequalHours Rings gather
noncomputable def fn_103_135 (g : aa_G) (B0 : Nat) (b2 : Int32) (b4 : Int32) : (aa_G × Int32) ⊕ aa_G := .inl (g, b4 + 1)
theorem dn_103_135 {v : Option Value} {h : zz_H} {n : Nat} {g : aa_G} {B0 : Nat} {b2 : Int32} {b4 : Int32} (P : (aa_G × Int32) ⊕ aa_G → Prop) (hO0 : ∀ n2, n2 < n → ∀ (yg : aa_G) (yb4 : Int32) (yx3 : Option Value) (_ : rn_jk yx3), rn_s n2 103 (60, [some (.ref B0), some (.ref 2), some (.int b2), yx3, some (.int yb4)], [], aa_H yg) v h → P (.inl (yg, yb4))) (hR : ∀ E, ig_s v h E → P (.inr E)) (hB0 : rg_ok B0) (x3 : Option Value) (jx3 : rn_jk x3) (r : rn_s n 103 (135, [some (.ref B0), some (.ref 2), some (.int b2), x3, some (.int b4)], [], aa_H g) v h) : P (fn_103_135 g B0 b2 b4) := by
  unfold fn_103_135
  obtain ⟨n64, ln64, r⟩ := rn_iin (i := 4) rfl rfl jx3 rfl rfl ⟨Nat.le_of_ble_eq_true rfl, Nat.le_of_ble_eq_true rfl⟩ r
  have r : rn_s _ 103 (138, [some (.ref B0), some (.ref 2), some (.int b2), x3, some (.int (b4 + 1))], [], aa_H g) v h := r
  obtain ⟨n65, ln65, r⟩ := rn_steps 0 (60, [some (.ref B0), some (.ref 2), some (.int b2), x3, some (.int (b4 + 1))], [], aa_H g) rfl r
  exact hO0 _ (by omega) g (b4 + 1) x3 jx3 r
noncomputable def fn_103_105 (g : aa_G) (B0 : Nat) (b2 : Int32) (b4 : Int32) : (aa_G × Int32) ⊕ aa_G := fn_103_135 g B0 b2 b4
theorem dn_103_105 {v : Option Value} {h : zz_H} {n : Nat} {g : aa_G} {B0 : Nat} {b2 : Int32} {b4 : Int32} (P : (aa_G × Int32) ⊕ aa_G → Prop) (hO0 : ∀ n2, n2 < n → ∀ (yg : aa_G) (yb4 : Int32) (yx3 : Option Value) (_ : rn_jk yx3), rn_s n2 103 (60, [some (.ref B0), some (.ref 2), some (.int b2), yx3, some (.int yb4)], [], aa_H yg) v h → P (.inl (yg, yb4))) (hR : ∀ E, ig_s v h E → P (.inr E)) (hB0 : rg_ok B0) (x3 : Option Value) (jx3 : rn_jk x3) (r : rn_s n 103 (105, [some (.ref B0), some (.ref 2), some (.int b2), x3, some (.int b4)], [], aa_H g) v h) : P (fn_103_105 g B0 b2 b4) := by
  unfold fn_103_105
  obtain ⟨n63, ln63, r⟩ := rn_steps 0 (135, [some (.ref B0), some (.ref 2), some (.int b2), x3, some (.int b4)], [], aa_H g) rfl r
  exact dn_103_135 (P) (fun n2 l2 => hO0 n2 (by omega)) (fun z hz => hR _ hz) hB0 x3 jx3 r
noncomputable def fn_103_122 (g : aa_G) (B0 : Nat) (b2 : Int32) (b4 : Int32) : (aa_G × Int32) ⊕ aa_G := fn_103_135 (fn_104 g B0 (B0 + 5) b2 b4 0) B0 b2 b4
theorem dn_103_122 {v : Option Value} {h : zz_H} {n : Nat} {g : aa_G} {B0 : Nat} {b2 : Int32} {b4 : Int32} (P : (aa_G × Int32) ⊕ aa_G → Prop) (hO0 : ∀ n2, n2 < n → ∀ (yg : aa_G) (yb4 : Int32) (yx3 : Option Value) (_ : rn_jk yx3), rn_s n2 103 (60, [some (.ref B0), some (.ref 2), some (.int b2), yx3, some (.int yb4)], [], aa_H yg) v h → P (.inl (yg, yb4))) (hR : ∀ E, ig_s v h E → P (.inr E)) (hB0 : rg_ok B0) (x3 : Option Value) (jx3 : rn_jk x3) (r : rn_s n 103 (122, [some (.ref B0), some (.ref 2), some (.int b2), x3, some (.int b4)], [], aa_H g) v h) : P (fn_103_122 g B0 b2 b4) := by
  unfold fn_103_122
  obtain ⟨n58, ln58, r⟩ := rn_steps 1 (124, [some (.ref B0), some (.ref 2), some (.int b2), x3, some (.int b4)], [.ref B0, .ref B0], aa_H g) rfl r
  obtain ⟨n59, ln59, r⟩ := rn_gr rfl (rg_hk hB0) (rg_hl hB0) rfl r
  have r : rn_s _ 103 (127, [some (.ref B0), some (.ref 2), some (.int b2), x3, some (.int b4)], [.ref (B0 + 5), .ref B0], aa_H g) v h := r
  obtain ⟨n60, ln60, r⟩ := rn_steps 3 (132, [some (.ref B0), some (.ref 2), some (.int b2), x3, some (.int b4)], [.int 0, .int b4, .int b2, .ref 2, .ref (B0 + 5), .ref B0], aa_H g) rfl r
  obtain ⟨_, n61, v1, h1, -, ln61, rc, r⟩ := rn_cv (k := B0) (as := [.ref (B0 + 5), .ref 2, .int b2, .int b4, .int 0]) (rest := []) rfl (rg_hk hB0) (rg_hl hB0) rfl rfl r
  obtain ⟨rfl, rfl⟩ := dn_104 hB0 (rg_s5 hB0) rc
  have r : rn_s _ 103 (135, [some (.ref B0), some (.ref 2), some (.int b2), x3, some (.int b4)], [], aa_H (fn_104 g B0 (B0 + 5) b2 b4 0)) v h := r
  exact dn_103_135 (P) (fun n2 l2 => hO0 n2 (by omega)) (fun z hz => hR _ hz) hB0 x3 jx3 r
noncomputable def fn_103_60b (g : aa_G) (B0 : Nat) (b2 : Int32) (b4 : Int32) : (aa_G × Int32) ⊕ aa_G := if (g 4 0) ≤ b4 then .inr g else if 8 ≤ b4 then .inr g else if (g 5 b4.toNatClampNeg) ≠ 0 then fn_103_122 (fn_104 g B0 (B0 + 3) b2 b4 86400) B0 b2 b4 else fn_103_105 (fn_104 g B0 (B0 + 4) b2 b4 0) B0 b2 b4
noncomputable def fn_103_60 (g : aa_G) (B0 : Nat) (b2 : Int32) (b4 : Int32) : aa_G := lp_f g (fun z : (aa_G × Int32) => fn_103_60b z.1 B0 b2 z.2) (g, b4)
theorem dn_103_60l {v : Option Value} {h : zz_H} {N : Nat} {B0 : Nat} {b2 : Int32} (hB0 : rg_ok B0) {d : aa_G} : ∀ (n : Nat), n ≤ N → ∀ (g : aa_G) (b4 : Int32) (x3 : Option Value) (jx3 : rn_jk x3), rn_s n 103 (60, [some (.ref B0), some (.ref 2), some (.int b2), x3, some (.int b4)], [], aa_H g) v h → (ig_s v h) (lp_f d (fun z : (aa_G × Int32) => fn_103_60b z.1 B0 b2 z.2) (g, b4)) := by
  generalize hf : (fun z : (aa_G × Int32) => fn_103_60b z.1 B0 b2 z.2) = f
  intro n
  induction n using Nat.strongRecOn with
  | _ n ih =>
    intro hN g b4 x3 jx3 r
    refine lp_go ?_
    rw [← congrFun hf (g, b4)]
    show lp_q (ig_s v h) d f (fn_103_60b g B0 b2 b4)
    unfold fn_103_60b
    obtain ⟨n37, ln37, r⟩ := rn_steps 3 (69, [some (.ref B0), some (.ref 2), some (.int b2), x3, some (.int b4)], [.int (g 4 0), .int b4], aa_H g) rfl r
    refine rn_ic (lp_q (ig_s v h) d f) rfl decide_eq_true_iff.symm r (fun c38 l39n l39 r => ?_) (fun c38 l39n l39 r => ?_)
    · exact rn_ret 1 rfl r
    · obtain ⟨n40, ln40, r⟩ := rn_steps 1 (76, [some (.ref B0), some (.ref 2), some (.int b2), x3, some (.int b4)], [.int 8, .int b4], aa_H g) rfl r
      refine rn_ic (lp_q (ig_s v h) d f) rfl decide_eq_true_iff.symm r (fun c41 l42n l42 r => ?_) (fun c41 l42n l42 r => ?_)
      · exact rn_ret 1 rfl r
      · obtain ⟨n43, ln43, r⟩ := rn_steps 3 (88, [some (.ref B0), some (.ref 2), some (.int b2), x3, some (.int b4)], [.int b4, .ref 5], aa_H g) rfl r
        obtain ⟨hb45, n44, ln44, r⟩ := rn_ial (k := 5) rfl ⟨by decide, by decide⟩ rfl r
        have r : rn_s _ 103 (89, [some (.ref B0), some (.ref 2), some (.int b2), x3, some (.int b4)], [.int (g 5 b4.toNatClampNeg)], aa_H g) v h := r
        refine rn_if (lp_q (ig_s v h) d f) rfl decide_eq_true_iff.symm r (fun c46 l47n l47 r => ?_) (fun c46 l47n l47 r => ?_)
        · obtain ⟨n48, ln48, r⟩ := rn_steps 1 (110, [some (.ref B0), some (.ref 2), some (.int b2), x3, some (.int b4)], [.ref B0, .ref B0], aa_H g) rfl r
          obtain ⟨n49, ln49, r⟩ := rn_gr rfl (rg_hk hB0) (rg_hl hB0) rfl r
          have r : rn_s _ 103 (113, [some (.ref B0), some (.ref 2), some (.int b2), x3, some (.int b4)], [.ref (B0 + 3), .ref B0], aa_H g) v h := r
          obtain ⟨n50, ln50, r⟩ := rn_steps 3 (119, [some (.ref B0), some (.ref 2), some (.int b2), x3, some (.int b4)], [.int 86400, .int b4, .int b2, .ref 2, .ref (B0 + 3), .ref B0], aa_H g) rfl r
          obtain ⟨_, n51, v1, h1, -, ln51, rc, r⟩ := rn_cv (k := B0) (as := [.ref (B0 + 3), .ref 2, .int b2, .int b4, .int 86400]) (rest := []) rfl (rg_hk hB0) (rg_hl hB0) rfl rfl r
          obtain ⟨rfl, rfl⟩ := dn_104 hB0 (rg_s3 hB0) rc
          have r : rn_s _ 103 (122, [some (.ref B0), some (.ref 2), some (.int b2), x3, some (.int b4)], [], aa_H (fn_104 g B0 (B0 + 3) b2 b4 86400)) v h := r
          exact dn_103_122 (lp_q (ig_s v h) d f) (fun n2 l2 => ih n2 (by omega) (by omega)) (fun z hz => hz) hB0 x3 jx3 r
        · obtain ⟨n53, ln53, r⟩ := rn_steps 1 (94, [some (.ref B0), some (.ref 2), some (.int b2), x3, some (.int b4)], [.ref B0, .ref B0], aa_H g) rfl r
          obtain ⟨n54, ln54, r⟩ := rn_gr rfl (rg_hk hB0) (rg_hl hB0) rfl r
          have r : rn_s _ 103 (97, [some (.ref B0), some (.ref 2), some (.int b2), x3, some (.int b4)], [.ref (B0 + 4), .ref B0], aa_H g) v h := r
          obtain ⟨n55, ln55, r⟩ := rn_steps 3 (102, [some (.ref B0), some (.ref 2), some (.int b2), x3, some (.int b4)], [.int 0, .int b4, .int b2, .ref 2, .ref (B0 + 4), .ref B0], aa_H g) rfl r
          obtain ⟨_, n56, v1, h1, -, ln56, rc, r⟩ := rn_cv (k := B0) (as := [.ref (B0 + 4), .ref 2, .int b2, .int b4, .int 0]) (rest := []) rfl (rg_hk hB0) (rg_hl hB0) rfl rfl r
          obtain ⟨rfl, rfl⟩ := dn_104 hB0 (rg_s4 hB0) rc
          have r : rn_s _ 103 (105, [some (.ref B0), some (.ref 2), some (.int b2), x3, some (.int b4)], [], aa_H (fn_104 g B0 (B0 + 4) b2 b4 0)) v h := r
          exact dn_103_105 (lp_q (ig_s v h) d f) (fun n2 l2 => ih n2 (by omega) (by omega)) (fun z hz => hz) hB0 x3 jx3 r
theorem dn_103_60 {v : Option Value} {h : zz_H} {n : Nat} {g : aa_G} {B0 : Nat} {b2 : Int32} {b4 : Int32} (hB0 : rg_ok B0) (x3 : Option Value) (jx3 : rn_jk x3) (r : rn_s n 103 (60, [some (.ref B0), some (.ref 2), some (.int b2), x3, some (.int b4)], [], aa_H g) v h) : (ig_s v h) (fn_103_60 g B0 b2 b4) := dn_103_60l hB0 n (Nat.le_refl n) g b4 x3 jx3 r
noncomputable def fn_103_57 (g : aa_G) (B0 : Nat) (b2 : Int32) : aa_G := fn_103_60 g B0 b2 0
theorem dn_103_57 {v : Option Value} {h : zz_H} {n : Nat} {g : aa_G} {B0 : Nat} {b2 : Int32} (hB0 : rg_ok B0) (x3 x4 : Option Value) (jx3 : rn_jk x3) (jx4 : rn_jk x4) (r : rn_s n 103 (57, [some (.ref B0), some (.ref 2), some (.int b2), x3, x4], [], aa_H g) v h) : ig_s v h (fn_103_57 g B0 b2) := by
  unfold fn_103_57
  obtain ⟨n35, ln35, r⟩ := rn_steps 0 (58, [some (.ref B0), some (.ref 2), some (.int b2), x3, x4], [.int 0], aa_H g) rfl r
  obtain ⟨n36, ln36, r⟩ := rn_isx (i := 4) rfl rfl jx3 rfl ⟨Nat.le_of_ble_eq_true rfl, Nat.le_of_ble_eq_true rfl⟩ r
  have r : rn_s _ 103 (60, [some (.ref B0), some (.ref 2), some (.int b2), x3, some (.int 0)], [], aa_H g) v h := r
  exact dn_103_60 hB0 x3 jx3 r
noncomputable def fn_103_43 (g : aa_G) (B0 : Nat) (b2 : Int32) (b3 : Int32) : aa_G := fn_103_57 (fn_78 g (B0 + 5) (fn_31 g b2) b3 1) B0 b2
theorem dn_103_43 {v : Option Value} {h : zz_H} {n : Nat} {g : aa_G} {B0 : Nat} {b2 : Int32} {b3 : Int32} (hB0 : rg_ok B0) (x4 : Option Value) (jx4 : rn_jk x4) (r : rn_s n 103 (43, [some (.ref B0), some (.ref 2), some (.int b2), some (.int b3), x4], [], aa_H g) v h) : ig_s v h (fn_103_43 g B0 b2 b3) := by
  unfold fn_103_43
  obtain ⟨n26, ln26, r⟩ := rn_steps 0 (44, [some (.ref B0), some (.ref 2), some (.int b2), some (.int b3), x4], [.ref B0], aa_H g) rfl r
  obtain ⟨n27, ln27, r⟩ := rn_gr rfl (rg_hk hB0) (rg_hl hB0) rfl r
  have r : rn_s _ 103 (47, [some (.ref B0), some (.ref 2), some (.int b2), some (.int b3), x4], [.ref (B0 + 5)], aa_H g) v h := r
  obtain ⟨n28, ln28, r⟩ := rn_steps 1 (49, [some (.ref B0), some (.ref 2), some (.int b2), some (.int b3), x4], [.int b2, .ref 2, .ref (B0 + 5)], aa_H g) rfl r
  obtain ⟨_, n29, v1, h1, -, ln29, rc, r⟩ := rn_call (m2 := 31) (as := [.ref 2, .int b2]) (rest := [.ref (B0 + 5)]) rfl rfl r
  obtain ⟨rfl, rfl, ho31⟩ := dn_31 rc
  have r : rn_s _ 103 (52, [some (.ref B0), some (.ref 2), some (.int b2), some (.int b3), x4], [zz_val (fn_31 g b2), .ref (B0 + 5)], aa_H g) v h := r
  obtain ⟨n32, ln32, r⟩ := rn_steps 1 (54, [some (.ref B0), some (.ref 2), some (.int b2), some (.int b3), x4], [.int 1, .int b3, zz_val (fn_31 g b2), .ref (B0 + 5)], aa_H g) rfl r
  obtain ⟨_, n33, v1, h1, -, ln33, rc, r⟩ := rn_cv (k := B0 + 5) (as := [zz_val (fn_31 g b2), .int b3, .int 1]) (rest := []) rfl (sp_hk (rg_s5 hB0)) (sp_hl (rg_s5 hB0)) rfl rfl r
  obtain ⟨rfl, rfl⟩ := dn_78 (rg_s5 hB0) (fun W e => ho31 _ e) rc
  have r : rn_s _ 103 (57, [some (.ref B0), some (.ref 2), some (.int b2), some (.int b3), x4], [], aa_H (fn_78 g (B0 + 5) (fn_31 g b2) b3 1)) v h := r
  exact dn_103_57 hB0 (some (.int b3)) x4 rn_ji jx4 r
noncomputable def fn_103_29 (g : aa_G) (B0 : Nat) (b2 : Int32) (b3 : Int32) : aa_G := fn_103_43 (fn_78 g (B0 + 4) (fn_31 g b2) b3 0) B0 b2 b3
theorem dn_103_29 {v : Option Value} {h : zz_H} {n : Nat} {g : aa_G} {B0 : Nat} {b2 : Int32} {b3 : Int32} (hB0 : rg_ok B0) (x4 : Option Value) (jx4 : rn_jk x4) (r : rn_s n 103 (29, [some (.ref B0), some (.ref 2), some (.int b2), some (.int b3), x4], [], aa_H g) v h) : ig_s v h (fn_103_29 g B0 b2 b3) := by
  unfold fn_103_29
  obtain ⟨n17, ln17, r⟩ := rn_steps 0 (30, [some (.ref B0), some (.ref 2), some (.int b2), some (.int b3), x4], [.ref B0], aa_H g) rfl r
  obtain ⟨n18, ln18, r⟩ := rn_gr rfl (rg_hk hB0) (rg_hl hB0) rfl r
  have r : rn_s _ 103 (33, [some (.ref B0), some (.ref 2), some (.int b2), some (.int b3), x4], [.ref (B0 + 4)], aa_H g) v h := r
  obtain ⟨n19, ln19, r⟩ := rn_steps 1 (35, [some (.ref B0), some (.ref 2), some (.int b2), some (.int b3), x4], [.int b2, .ref 2, .ref (B0 + 4)], aa_H g) rfl r
  obtain ⟨_, n20, v1, h1, -, ln20, rc, r⟩ := rn_call (m2 := 31) (as := [.ref 2, .int b2]) (rest := [.ref (B0 + 4)]) rfl rfl r
  obtain ⟨rfl, rfl, ho22⟩ := dn_31 rc
  have r : rn_s _ 103 (38, [some (.ref B0), some (.ref 2), some (.int b2), some (.int b3), x4], [zz_val (fn_31 g b2), .ref (B0 + 4)], aa_H g) v h := r
  obtain ⟨n23, ln23, r⟩ := rn_steps 1 (40, [some (.ref B0), some (.ref 2), some (.int b2), some (.int b3), x4], [.int 0, .int b3, zz_val (fn_31 g b2), .ref (B0 + 4)], aa_H g) rfl r
  obtain ⟨_, n24, v1, h1, -, ln24, rc, r⟩ := rn_cv (k := B0 + 4) (as := [zz_val (fn_31 g b2), .int b3, .int 0]) (rest := []) rfl (sp_hk (rg_s4 hB0)) (sp_hl (rg_s4 hB0)) rfl rfl r
  obtain ⟨rfl, rfl⟩ := dn_78 (rg_s4 hB0) (fun W e => ho22 _ e) rc
  have r : rn_s _ 103 (43, [some (.ref B0), some (.ref 2), some (.int b2), some (.int b3), x4], [], aa_H (fn_78 g (B0 + 4) (fn_31 g b2) b3 0)) v h := r
  exact dn_103_43 hB0 x4 jx4 r
noncomputable def fn_103 (g : aa_G) (Q : Nat) (a2 : Int32) (a3 : Int32) : aa_G := if (fn_77 a3) ≠ 0 then fn_103_29 (fn_78 (zz_w g Q 0 0) (Q + 3) (fn_31 (zz_w g Q 0 0) a2) (a3 - 1) 1) Q a2 a3 else zz_w g Q 0 0
theorem dn_103 {v : Option Value} {h : zz_H} {n : Nat} {g : aa_G} {Q : Nat} {a2 : Int32} {a3 : Int32} (hQ : rg_ok Q) (r : rn_s n 103 (0, zz_in [.ref Q, .ref 2, .int a2, .int a3] (zz_nl 103), [], aa_H g) v h) : ig_s v h (fn_103 g Q a2 a3) := by
  have r : rn_s n 103 (0, [some (.ref Q), some (.ref 2), some (.int a2), some (.int a3), none], [], aa_H g) v h := r
  unfold fn_103
  obtain ⟨n1, ln1, r⟩ := rn_steps 1 (2, [some (.ref Q), some (.ref 2), some (.int a2), some (.int a3), none], [.int 0, .ref Q], aa_H g) rfl r
  obtain ⟨n2, ln2, r⟩ := rn_pf rfl (rg_hk hQ) (rg_hl hQ) rfl r
  have r : rn_s _ 103 (5, [some (.ref Q), some (.ref 2), some (.int a2), some (.int a3), none], [], aa_H (zz_w g Q 0 0)) v h := r
  obtain ⟨n3, ln3, r⟩ := rn_steps 0 (6, [some (.ref Q), some (.ref 2), some (.int a2), some (.int a3), none], [.int a3], aa_H (zz_w g Q 0 0)) rfl r
  obtain ⟨_, n4, v1, h1, -, ln4, rc, r⟩ := rn_call (m2 := 77) (as := [.int a3]) (rest := []) rfl rfl r
  obtain ⟨rfl, rfl⟩ := dn_77 rc
  have r : rn_s _ 103 (9, [some (.ref Q), some (.ref 2), some (.int a2), some (.int a3), none], [.int (fn_77 a3)], aa_H (zz_w g Q 0 0)) v h := r
  refine rn_if (ig_s v h) rfl decide_eq_true_iff.symm r (fun c6 l7n l7 r => ?_) (fun c6 l7n l7 r => ?_)
  · obtain ⟨n8, ln8, r⟩ := rn_steps 0 (14, [some (.ref Q), some (.ref 2), some (.int a2), some (.int a3), none], [.ref Q], aa_H (zz_w g Q 0 0)) rfl r
    obtain ⟨n9, ln9, r⟩ := rn_gr rfl (rg_hk hQ) (rg_hl hQ) rfl r
    have r : rn_s _ 103 (17, [some (.ref Q), some (.ref 2), some (.int a2), some (.int a3), none], [.ref (Q + 3)], aa_H (zz_w g Q 0 0)) v h := r
    obtain ⟨n10, ln10, r⟩ := rn_steps 1 (19, [some (.ref Q), some (.ref 2), some (.int a2), some (.int a3), none], [.int a2, .ref 2, .ref (Q + 3)], aa_H (zz_w g Q 0 0)) rfl r
    obtain ⟨_, n11, v1, h1, -, ln11, rc, r⟩ := rn_call (m2 := 31) (as := [.ref 2, .int a2]) (rest := [.ref (Q + 3)]) rfl rfl r
    obtain ⟨rfl, rfl, ho13⟩ := dn_31 rc
    have r : rn_s _ 103 (22, [some (.ref Q), some (.ref 2), some (.int a2), some (.int a3), none], [zz_val (fn_31 (zz_w g Q 0 0) a2), .ref (Q + 3)], aa_H (zz_w g Q 0 0)) v h := r
    obtain ⟨n14, ln14, r⟩ := rn_steps 3 (26, [some (.ref Q), some (.ref 2), some (.int a2), some (.int a3), none], [.int 1, .int (a3 - 1), zz_val (fn_31 (zz_w g Q 0 0) a2), .ref (Q + 3)], aa_H (zz_w g Q 0 0)) rfl r
    obtain ⟨_, n15, v1, h1, -, ln15, rc, r⟩ := rn_cv (k := Q + 3) (as := [zz_val (fn_31 (zz_w g Q 0 0) a2), .int (a3 - 1), .int 1]) (rest := []) rfl (sp_hk (rg_s3 hQ)) (sp_hl (rg_s3 hQ)) rfl rfl r
    obtain ⟨rfl, rfl⟩ := dn_78 (rg_s3 hQ) (fun W e => ho13 _ e) rc
    have r : rn_s _ 103 (29, [some (.ref Q), some (.ref 2), some (.int a2), some (.int a3), none], [], aa_H (fn_78 (zz_w g Q 0 0) (Q + 3) (fn_31 (zz_w g Q 0 0) a2) (a3 - 1) 1)) v h := r
    exact dn_103_29 hQ none rn_jn r
  · exact rn_ret 1 rfl r
-- 84: UnequalHours Bells told
noncomputable def fn_84 (g : aa_G) (a1 : Int32) (a2 : Int32) : Int32 := if (fn_14 a1 0 ((g 4 0) - 1)) ≠ 0 then if a2.toInt = 0 then g 5 a1.toNatClampNeg else if a2.toInt = 1 then g 6 a1.toNatClampNeg else if a2.toInt = 2 then g 7 a1.toNatClampNeg else if a2.toInt = 3 then g 8 a1.toNatClampNeg else if a2.toInt = 4 then g 10 a1.toNatClampNeg else -1 else -1
theorem dn_84 {v : Option Value} {h : zz_H} {n : Nat} {g : aa_G} {a1 : Int32} {a2 : Int32}  (r : rn_s n 84 (0, zz_in [.ref 4, .int a1, .int a2] (zz_nl 84), [], aa_H g) v h) : ir_s g v h (fn_84 g a1 a2) := by
  have r : rn_s n 84 (0, [some (.ref 4), some (.int a1), some (.int a2)], [], aa_H g) v h := r
  unfold fn_84
  obtain ⟨n1, ln1, r⟩ := rn_steps 5 (8, [some (.ref 4), some (.int a1), some (.int a2)], [.int ((g 4 0) - 1), .int 0, .int a1], aa_H g) rfl r
  obtain ⟨_, n2, v1, h1, -, ln2, rc, r⟩ := rn_call (m2 := 14) (as := [.int a1, .int 0, .int ((g 4 0) - 1)]) (rest := []) rfl rfl r
  obtain ⟨rfl, rfl⟩ := dn_14 rc
  have r : rn_s _ 84 (11, [some (.ref 4), some (.int a1), some (.int a2)], [.int (fn_14 a1 0 ((g 4 0) - 1))], aa_H g) v h := r
  refine rn_if (ir_s g v h) rfl decide_eq_true_iff.symm r (fun c4 l5n l5 r => ?_) (fun c4 l5n l5 r => ?_)
  · obtain ⟨n6, ln6, r⟩ := rn_steps 0 (17, [some (.ref 4), some (.int a1), some (.int a2)], [.int a2], aa_H g) rfl r
    obtain ⟨n7, ln7, r⟩ := rn_swi rfl r
    refine rn_sw1 (ir_s g v h) r (fun c8 r => ?_) (fun c8 r => ?_)
    · have r : rn_s _ 84 (52, [some (.ref 4), some (.int a1), some (.int a2)], [], aa_H g) v h := r
      obtain ⟨n9, ln9, r⟩ := rn_steps 2 (57, [some (.ref 4), some (.int a1), some (.int a2)], [.int a1, .ref 5], aa_H g) rfl r
      obtain ⟨hb11, n10, ln10, r⟩ := rn_ial (k := 5) rfl ⟨by decide, by decide⟩ rfl r
      have r : rn_s _ 84 (58, [some (.ref 4), some (.int a1), some (.int a2)], [.int (g 5 a1.toNatClampNeg)], aa_H g) v h := r
      exact rn_ire rfl r
    · refine rn_sw1 (ir_s g v h) r (fun c12 r => ?_) (fun c12 r => ?_)
      · have r : rn_s _ 84 (59, [some (.ref 4), some (.int a1), some (.int a2)], [], aa_H g) v h := r
        obtain ⟨n13, ln13, r⟩ := rn_steps 2 (64, [some (.ref 4), some (.int a1), some (.int a2)], [.int a1, .ref 6], aa_H g) rfl r
        obtain ⟨hb15, n14, ln14, r⟩ := rn_ial (k := 6) rfl ⟨by decide, by decide⟩ rfl r
        have r : rn_s _ 84 (65, [some (.ref 4), some (.int a1), some (.int a2)], [.int (g 6 a1.toNatClampNeg)], aa_H g) v h := r
        exact rn_ire rfl r
      · refine rn_sw1 (ir_s g v h) r (fun c16 r => ?_) (fun c16 r => ?_)
        · have r : rn_s _ 84 (66, [some (.ref 4), some (.int a1), some (.int a2)], [], aa_H g) v h := r
          obtain ⟨n17, ln17, r⟩ := rn_steps 2 (71, [some (.ref 4), some (.int a1), some (.int a2)], [.int a1, .ref 7], aa_H g) rfl r
          obtain ⟨hb19, n18, ln18, r⟩ := rn_ial (k := 7) rfl ⟨by decide, by decide⟩ rfl r
          have r : rn_s _ 84 (72, [some (.ref 4), some (.int a1), some (.int a2)], [.int (g 7 a1.toNatClampNeg)], aa_H g) v h := r
          exact rn_ire rfl r
        · refine rn_sw1 (ir_s g v h) r (fun c20 r => ?_) (fun c20 r => ?_)
          · have r : rn_s _ 84 (73, [some (.ref 4), some (.int a1), some (.int a2)], [], aa_H g) v h := r
            obtain ⟨n21, ln21, r⟩ := rn_steps 2 (78, [some (.ref 4), some (.int a1), some (.int a2)], [.int a1, .ref 8], aa_H g) rfl r
            obtain ⟨hb23, n22, ln22, r⟩ := rn_ial (k := 8) rfl ⟨by decide, by decide⟩ rfl r
            have r : rn_s _ 84 (79, [some (.ref 4), some (.int a1), some (.int a2)], [.int (g 8 a1.toNatClampNeg)], aa_H g) v h := r
            exact rn_ire rfl r
          · refine rn_sw1 (ir_s g v h) r (fun c24 r => ?_) (fun c24 r => ?_)
            · have r : rn_s _ 84 (80, [some (.ref 4), some (.int a1), some (.int a2)], [], aa_H g) v h := r
              obtain ⟨n25, ln25, r⟩ := rn_steps 2 (85, [some (.ref 4), some (.int a1), some (.int a2)], [.int a1, .ref 10], aa_H g) rfl r
              obtain ⟨hb27, n26, ln26, r⟩ := rn_ial (k := 10) rfl ⟨by decide, by decide⟩ rfl r
              have r : rn_s _ 84 (86, [some (.ref 4), some (.int a1), some (.int a2)], [.int (g 10 a1.toNatClampNeg)], aa_H g) v h := r
              exact rn_ire rfl r
            · have r : rn_s _ 84 (87, [some (.ref 4), some (.int a1), some (.int a2)], [], aa_H g) v h := r
              obtain ⟨n28, ln28, r⟩ := rn_steps 0 (88, [some (.ref 4), some (.int a1), some (.int a2)], [.int (-1)], aa_H g) rfl r
              exact rn_ire rfl r
  · obtain ⟨n29, ln29, r⟩ := rn_steps 0 (15, [some (.ref 4), some (.int a1), some (.int a2)], [.int (-1)], aa_H g) rfl r
    exact rn_ire rfl r
-- 83: UnequalHours bell
noncomputable def fn_83 (g : aa_G) (a1 : Int32) (a2 : Int32) : Int32 := fn_84 g a1 a2
theorem dn_83 {v : Option Value} {h : zz_H} {n : Nat} {g : aa_G} {a1 : Int32} {a2 : Int32}  (r : rn_s n 83 (0, zz_in [.ref 1, .int a1, .int a2] (zz_nl 83), [], aa_H g) v h) : ir_s g v h (fn_83 g a1 a2) := by
  have r : rn_s n 83 (0, [some (.ref 1), some (.int a1), some (.int a2)], [], aa_H g) v h := r
  unfold fn_83
  obtain ⟨n1, ln1, r⟩ := rn_steps 4 (9, [some (.ref 1), some (.int a1), some (.int a2)], [.int a2, .int a1, .ref 4], aa_H g) rfl r
  obtain ⟨_, n2, v1, h1, -, ln2, rc, r⟩ := rn_call (m2 := 84) (as := [.ref 4, .int a1, .int a2]) (rest := []) rfl rfl r
  obtain ⟨rfl, rfl⟩ := dn_84 rc
  have r : rn_s _ 83 (12, [some (.ref 1), some (.int a1), some (.int a2)], [.int (fn_84 g a1 a2)], aa_H g) v h := r
  exact rn_ire rfl r
-- 73: UnequalHours Town polarPoints
noncomputable def fn_73_25 (g : aa_G) (B0 : Nat) (b1 : Int32) (b2 : Int32) : (Int32 × Int32) ⊕ Int32 := .inl (b1, b2 + 1)
theorem dn_73_25 {v : Option Value} {h : zz_H} {n : Nat} {g : aa_G} {B0 : Nat} {b1 : Int32} {b2 : Int32} (P : (Int32 × Int32) ⊕ Int32 → Prop) (hO0 : ∀ n2, n2 < n → ∀ (yb1 : Int32) (yb2 : Int32), rn_s n2 73 (4, [some (.ref B0), some (.int yb1), some (.int yb2)], [], aa_H g) v h → P (.inl (yb1, yb2))) (hR : ∀ E, ir_s g v h E → P (.inr E)) (hB0 : ct_tw B0) (r : rn_s n 73 (25, [some (.ref B0), some (.int b1), some (.int b2)], [], aa_H g) v h) : P (fn_73_25 g B0 b1 b2) := by
  unfold fn_73_25
  obtain ⟨n16, ln16, r⟩ := rn_steps 1 (4, [some (.ref B0), some (.int b1), some (.int (b2 + 1))], [], aa_H g) rfl r
  exact hO0 _ (by omega) b1 (b2 + 1) r
noncomputable def fn_73_4b (g : aa_G) (B0 : Nat) (b1 : Int32) (b2 : Int32) : (Int32 × Int32) ⊕ Int32 := if (g B0 1) ≤ b2 then .inr b1 else if (g (B0 + 4) b2.toNatClampNeg) = (-1) then fn_73_25 g B0 b1 b2 else fn_73_25 g B0 (b1 + 1) b2
noncomputable def fn_73_4 (g : aa_G) (B0 : Nat) (b1 : Int32) (b2 : Int32) : Int32 := lp_f 0 (fun z : (Int32 × Int32) => fn_73_4b g B0 z.1 z.2) (b1, b2)
theorem dn_73_4l {v : Option Value} {h : zz_H} {N : Nat} {g : aa_G} {B0 : Nat} (hB0 : ct_tw B0) {d : Int32} : ∀ (n : Nat), n ≤ N → ∀ (b1 : Int32) (b2 : Int32), rn_s n 73 (4, [some (.ref B0), some (.int b1), some (.int b2)], [], aa_H g) v h → (ir_s g v h) (lp_f d (fun z : (Int32 × Int32) => fn_73_4b g B0 z.1 z.2) (b1, b2)) := by
  generalize hf : (fun z : (Int32 × Int32) => fn_73_4b g B0 z.1 z.2) = f
  intro n
  induction n using Nat.strongRecOn with
  | _ n ih =>
    intro hN b1 b2  r
    refine lp_go ?_
    rw [← congrFun hf (b1, b2)]
    show lp_q (ir_s g v h) d f (fn_73_4b g B0 b1 b2)
    unfold fn_73_4b
    obtain ⟨n2, ln2, r⟩ := rn_steps 1 (6, [some (.ref B0), some (.int b1), some (.int b2)], [.ref B0, .int b2], aa_H g) rfl r
    obtain ⟨n3, ln3, r⟩ := rn_gf rfl (tw_hk hB0) (tw_hl hB0) rfl r
    have r : rn_s _ 73 (9, [some (.ref B0), some (.int b1), some (.int b2)], [.int (g B0 1), .int b2], aa_H g) v h := r
    refine rn_ic (lp_q (ir_s g v h) d f) rfl decide_eq_true_iff.symm r (fun c4 l5n l5 r => ?_) (fun c4 l5n l5 r => ?_)
    · obtain ⟨n6, ln6, r⟩ := rn_steps 0 (32, [some (.ref B0), some (.int b1), some (.int b2)], [.int b1], aa_H g) rfl r
      exact rn_ire rfl r
    · obtain ⟨n7, ln7, r⟩ := rn_steps 0 (13, [some (.ref B0), some (.int b1), some (.int b2)], [.ref B0], aa_H g) rfl r
      obtain ⟨n8, ln8, r⟩ := rn_gr rfl (tw_hk hB0) (tw_hl hB0) rfl r
      have r : rn_s _ 73 (16, [some (.ref B0), some (.int b1), some (.int b2)], [.ref (B0 + 4)], aa_H g) v h := r
      obtain ⟨n9, ln9, r⟩ := rn_steps 0 (17, [some (.ref B0), some (.int b1), some (.int b2)], [.int b2, .ref (B0 + 4)], aa_H g) rfl r
      obtain ⟨hb11, n10, ln10, r⟩ := rn_ial rfl (tw_a4 hB0).1 (tw_a4 hB0).2 r
      have r : rn_s _ 73 (18, [some (.ref B0), some (.int b1), some (.int b2)], [.int (g (B0 + 4) b2.toNatClampNeg)], aa_H g) v h := r
      obtain ⟨n12, ln12, r⟩ := rn_steps 0 (19, [some (.ref B0), some (.int b1), some (.int b2)], [.int (-1), .int (g (B0 + 4) b2.toNatClampNeg)], aa_H g) rfl r
      refine rn_ic (lp_q (ir_s g v h) d f) rfl decide_eq_true_iff.symm r (fun c13 l14n l14 r => ?_) (fun c13 l14n l14 r => ?_)
      · exact dn_73_25 (lp_q (ir_s g v h) d f) (fun n2 l2 => ih n2 (by omega) (by omega)) (fun z hz => hz) hB0 r
      · obtain ⟨n15, ln15, r⟩ := rn_steps 0 (25, [some (.ref B0), some (.int (b1 + 1)), some (.int b2)], [], aa_H g) rfl r
        exact dn_73_25 (lp_q (ir_s g v h) d f) (fun n2 l2 => ih n2 (by omega) (by omega)) (fun z hz => hz) hB0 r
theorem dn_73_4 {v : Option Value} {h : zz_H} {n : Nat} {g : aa_G} {B0 : Nat} {b1 : Int32} {b2 : Int32} (hB0 : ct_tw B0) (r : rn_s n 73 (4, [some (.ref B0), some (.int b1), some (.int b2)], [], aa_H g) v h) : (ir_s g v h) (fn_73_4 g B0 b1 b2) := dn_73_4l hB0 n (Nat.le_refl n) b1 b2 r
noncomputable def fn_73 (g : aa_G) (T : Nat) : Int32 := fn_73_4 g T 0 0
theorem dn_73 {v : Option Value} {h : zz_H} {n : Nat} {g : aa_G} {T : Nat} (hT : ct_tw T) (r : rn_s n 73 (0, zz_in [.ref T] (zz_nl 73), [], aa_H g) v h) : ir_s g v h (fn_73 g T) := by
  have r : rn_s n 73 (0, [some (.ref T), none, none], [], aa_H g) v h := r
  unfold fn_73
  obtain ⟨n1, ln1, r⟩ := rn_steps 3 (4, [some (.ref T), some (.int 0), some (.int 0)], [], aa_H g) rfl r
  exact dn_73_4 hT r
-- 72: UnequalHours State points
noncomputable def fn_72_38 (g : aa_G) (b1 : Int32) (b3 : Int32) (s0 : Int32) (s1 : Int32) : (Int32 × Int32) ⊕ Int32 := .inl (s1 + s0, b3 + 1)
theorem dn_72_38 {v : Option Value} {h : zz_H} {n : Nat} {g : aa_G} {b1 : Int32} {b3 : Int32} {s0 : Int32} {s1 : Int32} (P : (Int32 × Int32) ⊕ Int32 → Prop) (hO0 : ∀ n2, n2 < n → ∀ (yb2 : Int32) (yb3 : Int32), rn_s n2 72 (4, [some (.ref 2), some (.int b1), some (.int yb2), some (.int yb3)], [], aa_H g) v h → P (.inl (yb2, yb3))) (hR : ∀ E, ir_s g v h E → P (.inr E))  (x2 : Option Value) (jx2 : rn_jk x2) (r : rn_s n 72 (38, [some (.ref 2), some (.int b1), x2, some (.int b3)], [.int s0, .int s1], aa_H g) v h) : P (fn_72_38 g b1 b3 s0 s1) := by
  unfold fn_72_38
  obtain ⟨n21, ln21, r⟩ := rn_steps 3 (4, [some (.ref 2), some (.int b1), some (.int (s1 + s0)), some (.int (b3 + 1))], [], aa_H g) rfl r
  exact hO0 _ (by omega) (s1 + s0) (b3 + 1) r
noncomputable def fn_72_4b (g : aa_G) (b1 : Int32) (b2 : Int32) (b3 : Int32) : (Int32 × Int32) ⊕ Int32 := if (g 2 0) ≤ b3 then .inr b2 else if b1 = 0 then fn_72_38 g b1 b3 (g (5 * b3.toNatClampNeg + 14) 1) b2 else fn_72_38 g b1 b3 (fn_73 g (5 * b3.toNatClampNeg + 14)) b2
noncomputable def fn_72_4 (g : aa_G) (b1 : Int32) (b2 : Int32) (b3 : Int32) : Int32 := lp_f 0 (fun z : (Int32 × Int32) => fn_72_4b g b1 z.1 z.2) (b2, b3)
theorem dn_72_4l {v : Option Value} {h : zz_H} {N : Nat} {g : aa_G} {b1 : Int32} {d : Int32} : ∀ (n : Nat), n ≤ N → ∀ (b2 : Int32) (b3 : Int32), rn_s n 72 (4, [some (.ref 2), some (.int b1), some (.int b2), some (.int b3)], [], aa_H g) v h → (ir_s g v h) (lp_f d (fun z : (Int32 × Int32) => fn_72_4b g b1 z.1 z.2) (b2, b3)) := by
  generalize hf : (fun z : (Int32 × Int32) => fn_72_4b g b1 z.1 z.2) = f
  intro n
  induction n using Nat.strongRecOn with
  | _ n ih =>
    intro hN b2 b3  r
    refine lp_go ?_
    rw [← congrFun hf (b2, b3)]
    show lp_q (ir_s g v h) d f (fn_72_4b g b1 b2 b3)
    unfold fn_72_4b
    obtain ⟨n2, ln2, r⟩ := rn_steps 2 (9, [some (.ref 2), some (.int b1), some (.int b2), some (.int b3)], [.int (g 2 0), .int b3], aa_H g) rfl r
    refine rn_ic (lp_q (ir_s g v h) d f) rfl decide_eq_true_iff.symm r (fun c3 l4n l4 r => ?_) (fun c3 l4n l4 r => ?_)
    · obtain ⟨n5, ln5, r⟩ := rn_steps 0 (47, [some (.ref 2), some (.int b1), some (.int b2), some (.int b3)], [.int b2], aa_H g) rfl r
      exact rn_ire rfl r
    · obtain ⟨n6, ln6, r⟩ := rn_steps 1 (14, [some (.ref 2), some (.int b1), some (.int b2), some (.int b3)], [.int b1, .int b2], aa_H g) rfl r
      refine rn_if (lp_q (ir_s g v h) d f) rfl decide_eq_true_iff.symm r (fun c7 l8n l8 r => ?_) (fun c7 l8n l8 r => ?_)
      · obtain ⟨n9, ln9, r⟩ := rn_steps 2 (34, [some (.ref 2), some (.int b1), some (.int b2), some (.int b3)], [.int b3, .ref 3, .int b2], aa_H g) rfl r
        obtain ⟨hb11, n10, ln10, r⟩ := rn_aal (k := 3) (c := 5) (b := 14) (N := 4) rfl ⟨by decide, by decide⟩ rfl rfl (by decide) (by decide) r
        have ho12 : ct_tw (5 * b3.toNatClampNeg + 14) := rn_twat hb11
        have r : rn_s _ 72 (35, [some (.ref 2), some (.int b1), some (.int b2), some (.int b3)], [.ref (5 * b3.toNatClampNeg + 14), .int b2], aa_H g) v h := r
        obtain ⟨n13, ln13, r⟩ := rn_gf rfl (tw_hk ho12) (tw_hl ho12) rfl r
        have r : rn_s _ 72 (38, [some (.ref 2), some (.int b1), some (.int b2), some (.int b3)], [.int (g (5 * b3.toNatClampNeg + 14) 1), .int b2], aa_H g) v h := r
        exact dn_72_38 (lp_q (ir_s g v h) d f) (fun n2 l2 => ih n2 (by omega) (by omega)) (fun z hz => hz) (some (.int b2)) rn_ji r
      · obtain ⟨n14, ln14, r⟩ := rn_steps 2 (22, [some (.ref 2), some (.int b1), some (.int b2), some (.int b3)], [.int b3, .ref 3, .int b2], aa_H g) rfl r
        obtain ⟨hb16, n15, ln15, r⟩ := rn_aal (k := 3) (c := 5) (b := 14) (N := 4) rfl ⟨by decide, by decide⟩ rfl rfl (by decide) (by decide) r
        have ho17 : ct_tw (5 * b3.toNatClampNeg + 14) := rn_twat hb16
        have r : rn_s _ 72 (23, [some (.ref 2), some (.int b1), some (.int b2), some (.int b3)], [.ref (5 * b3.toNatClampNeg + 14), .int b2], aa_H g) v h := r
        obtain ⟨_, n18, v1, h1, -, ln18, rc, r⟩ := rn_cv (k := 5 * b3.toNatClampNeg + 14) (as := []) (rest := [.int b2]) rfl (tw_hk ho17) (tw_hl ho17) rfl rfl r
        obtain ⟨rfl, rfl⟩ := dn_73 ho17 rc
        have r : rn_s _ 72 (26, [some (.ref 2), some (.int b1), some (.int b2), some (.int b3)], [.int (fn_73 g (5 * b3.toNatClampNeg + 14)), .int b2], aa_H g) v h := r
        obtain ⟨n20, ln20, r⟩ := rn_steps 0 (38, [some (.ref 2), some (.int b1), some (.int b2), some (.int b3)], [.int (fn_73 g (5 * b3.toNatClampNeg + 14)), .int b2], aa_H g) rfl r
        exact dn_72_38 (lp_q (ir_s g v h) d f) (fun n2 l2 => ih n2 (by omega) (by omega)) (fun z hz => hz) (some (.int b2)) rn_ji r
theorem dn_72_4 {v : Option Value} {h : zz_H} {n : Nat} {g : aa_G} {b1 : Int32} {b2 : Int32} {b3 : Int32}  (r : rn_s n 72 (4, [some (.ref 2), some (.int b1), some (.int b2), some (.int b3)], [], aa_H g) v h) : (ir_s g v h) (fn_72_4 g b1 b2 b3) := dn_72_4l  n (Nat.le_refl n) b2 b3 r
noncomputable def fn_72 (g : aa_G) (a1 : Int32) : Int32 := fn_72_4 g a1 0 0
theorem dn_72 {v : Option Value} {h : zz_H} {n : Nat} {g : aa_G} {a1 : Int32}  (r : rn_s n 72 (0, zz_in [.ref 2, .int a1] (zz_nl 72), [], aa_H g) v h) : ir_s g v h (fn_72 g a1) := by
  have r : rn_s n 72 (0, [some (.ref 2), some (.int a1), none, none], [], aa_H g) v h := r
  unfold fn_72
  obtain ⟨n1, ln1, r⟩ := rn_steps 3 (4, [some (.ref 2), some (.int a1), some (.int 0), some (.int 0)], [], aa_H g) rfl r
  exact dn_72_4 r
-- 71: UnequalHours is
noncomputable def fn_71 (g : aa_G) (a1 : Int32) : Int32 := if a1.toInt = 0 then g 2 0 else if a1.toInt = 1 then g 2 1 else if a1.toInt = 2 then g 4 0 else if a1.toInt = 3 then g 66 0 else if a1.toInt = 4 then g 454 0 else if a1.toInt = 5 then fn_72 g 0 else if a1.toInt = 6 then fn_72 g 1 else -1
theorem dn_71 {v : Option Value} {h : zz_H} {n : Nat} {g : aa_G} {a1 : Int32}  (r : rn_s n 71 (0, zz_in [.ref 1, .int a1] (zz_nl 71), [], aa_H g) v h) : ir_s g v h (fn_71 g a1) := by
  have r : rn_s n 71 (0, [some (.ref 1), some (.int a1)], [], aa_H g) v h := r
  unfold fn_71
  obtain ⟨n1, ln1, r⟩ := rn_steps 0 (1, [some (.ref 1), some (.int a1)], [.int a1], aa_H g) rfl r
  obtain ⟨n2, ln2, r⟩ := rn_swi rfl r
  refine rn_sw1 (ir_s g v h) r (fun c3 r => ?_) (fun c3 r => ?_)
  · have r : rn_s _ 71 (44, [some (.ref 1), some (.int a1)], [], aa_H g) v h := r
    obtain ⟨n4, ln4, r⟩ := rn_steps 2 (51, [some (.ref 1), some (.int a1)], [.int (g 2 0)], aa_H g) rfl r
    exact rn_ire rfl r
  · refine rn_sw1 (ir_s g v h) r (fun c5 r => ?_) (fun c5 r => ?_)
    · have r : rn_s _ 71 (52, [some (.ref 1), some (.int a1)], [], aa_H g) v h := r
      obtain ⟨n6, ln6, r⟩ := rn_steps 2 (59, [some (.ref 1), some (.int a1)], [.int (g 2 1)], aa_H g) rfl r
      exact rn_ire rfl r
    · refine rn_sw1 (ir_s g v h) r (fun c7 r => ?_) (fun c7 r => ?_)
      · have r : rn_s _ 71 (60, [some (.ref 1), some (.int a1)], [], aa_H g) v h := r
        obtain ⟨n8, ln8, r⟩ := rn_steps 3 (70, [some (.ref 1), some (.int a1)], [.int (g 4 0)], aa_H g) rfl r
        exact rn_ire rfl r
      · refine rn_sw1 (ir_s g v h) r (fun c9 r => ?_) (fun c9 r => ?_)
        · have r : rn_s _ 71 (71, [some (.ref 1), some (.int a1)], [], aa_H g) v h := r
          obtain ⟨n10, ln10, r⟩ := rn_steps 2 (78, [some (.ref 1), some (.int a1)], [.int (g 66 0)], aa_H g) rfl r
          exact rn_ire rfl r
        · refine rn_sw1 (ir_s g v h) r (fun c11 r => ?_) (fun c11 r => ?_)
          · have r : rn_s _ 71 (79, [some (.ref 1), some (.int a1)], [], aa_H g) v h := r
            obtain ⟨n12, ln12, r⟩ := rn_steps 2 (86, [some (.ref 1), some (.int a1)], [.int (g 454 0)], aa_H g) rfl r
            exact rn_ire rfl r
          · refine rn_sw1 (ir_s g v h) r (fun c13 r => ?_) (fun c13 r => ?_)
            · have r : rn_s _ 71 (87, [some (.ref 1), some (.int a1)], [], aa_H g) v h := r
              obtain ⟨n14, ln14, r⟩ := rn_steps 2 (92, [some (.ref 1), some (.int a1)], [.int 0, .ref 2], aa_H g) rfl r
              obtain ⟨_, n15, v1, h1, -, ln15, rc, r⟩ := rn_call (m2 := 72) (as := [.ref 2, .int 0]) (rest := []) rfl rfl r
              obtain ⟨rfl, rfl⟩ := dn_72 rc
              have r : rn_s _ 71 (95, [some (.ref 1), some (.int a1)], [.int (fn_72 g 0)], aa_H g) v h := r
              exact rn_ire rfl r
            · refine rn_sw1 (ir_s g v h) r (fun c17 r => ?_) (fun c17 r => ?_)
              · have r : rn_s _ 71 (96, [some (.ref 1), some (.int a1)], [], aa_H g) v h := r
                obtain ⟨n18, ln18, r⟩ := rn_steps 2 (101, [some (.ref 1), some (.int a1)], [.int 1, .ref 2], aa_H g) rfl r
                obtain ⟨_, n19, v1, h1, -, ln19, rc, r⟩ := rn_call (m2 := 72) (as := [.ref 2, .int 1]) (rest := []) rfl rfl r
                obtain ⟨rfl, rfl⟩ := dn_72 rc
                have r : rn_s _ 71 (104, [some (.ref 1), some (.int a1)], [.int (fn_72 g 1)], aa_H g) v h := r
                exact rn_ire rfl r
              · have r : rn_s _ 71 (105, [some (.ref 1), some (.int a1)], [], aa_H g) v h := r
                obtain ⟨n21, ln21, r⟩ := rn_steps 0 (106, [some (.ref 1), some (.int a1)], [.int (-1)], aa_H g) rfl r
                exact rn_ire rfl r
-- 75: UnequalHours Town told
noncomputable def fn_75 (g : aa_G) (T : Nat) (a1 : Int32) (a2 : Int32) : Int32 := if (fn_14 a1 0 ((g T 1) - 1)) ≠ 0 then if a2.toInt = 0 then g (T + 1) a1.toNatClampNeg else if a2.toInt = 1 then g (T + 2) a1.toNatClampNeg else if a2.toInt = 2 then g (T + 3) a1.toNatClampNeg else g (T + 4) a1.toNatClampNeg else -1000000
theorem dn_75 {v : Option Value} {h : zz_H} {n : Nat} {g : aa_G} {T : Nat} {a1 : Int32} {a2 : Int32} (hT : ct_tw T) (r : rn_s n 75 (0, zz_in [.ref T, .int a1, .int a2] (zz_nl 75), [], aa_H g) v h) : ir_s g v h (fn_75 g T a1 a2) := by
  have r : rn_s n 75 (0, [some (.ref T), some (.int a1), some (.int a2)], [], aa_H g) v h := r
  unfold fn_75
  obtain ⟨n1, ln1, r⟩ := rn_steps 2 (3, [some (.ref T), some (.int a1), some (.int a2)], [.ref T, .int 0, .int a1], aa_H g) rfl r
  obtain ⟨n2, ln2, r⟩ := rn_gf rfl (tw_hk hT) (tw_hl hT) rfl r
  have r : rn_s _ 75 (6, [some (.ref T), some (.int a1), some (.int a2)], [.int (g T 1), .int 0, .int a1], aa_H g) v h := r
  obtain ⟨n3, ln3, r⟩ := rn_steps 1 (8, [some (.ref T), some (.int a1), some (.int a2)], [.int ((g T 1) - 1), .int 0, .int a1], aa_H g) rfl r
  obtain ⟨_, n4, v1, h1, -, ln4, rc, r⟩ := rn_call (m2 := 14) (as := [.int a1, .int 0, .int ((g T 1) - 1)]) (rest := []) rfl rfl r
  obtain ⟨rfl, rfl⟩ := dn_14 rc
  have r : rn_s _ 75 (11, [some (.ref T), some (.int a1), some (.int a2)], [.int (fn_14 a1 0 ((g T 1) - 1))], aa_H g) v h := r
  refine rn_if (ir_s g v h) rfl decide_eq_true_iff.symm r (fun c6 l7n l7 r => ?_) (fun c6 l7n l7 r => ?_)
  · obtain ⟨n8, ln8, r⟩ := rn_steps 0 (18, [some (.ref T), some (.int a1), some (.int a2)], [.int a2], aa_H g) rfl r
    obtain ⟨n9, ln9, r⟩ := rn_swi rfl r
    refine rn_sw1 (ir_s g v h) r (fun c10 r => ?_) (fun c10 r => ?_)
    · have r : rn_s _ 75 (44, [some (.ref T), some (.int a1), some (.int a2)], [], aa_H g) v h := r
      obtain ⟨n11, ln11, r⟩ := rn_steps 0 (45, [some (.ref T), some (.int a1), some (.int a2)], [.ref T], aa_H g) rfl r
      obtain ⟨n12, ln12, r⟩ := rn_gr rfl (tw_hk hT) (tw_hl hT) rfl r
      have r : rn_s _ 75 (48, [some (.ref T), some (.int a1), some (.int a2)], [.ref (T + 1)], aa_H g) v h := r
      obtain ⟨n13, ln13, r⟩ := rn_steps 0 (49, [some (.ref T), some (.int a1), some (.int a2)], [.int a1, .ref (T + 1)], aa_H g) rfl r
      obtain ⟨hb15, n14, ln14, r⟩ := rn_ial rfl (tw_a1 hT).1 (tw_a1 hT).2 r
      have r : rn_s _ 75 (50, [some (.ref T), some (.int a1), some (.int a2)], [.int (g (T + 1) a1.toNatClampNeg)], aa_H g) v h := r
      exact rn_ire rfl r
    · refine rn_sw1 (ir_s g v h) r (fun c16 r => ?_) (fun c16 r => ?_)
      · have r : rn_s _ 75 (51, [some (.ref T), some (.int a1), some (.int a2)], [], aa_H g) v h := r
        obtain ⟨n17, ln17, r⟩ := rn_steps 0 (52, [some (.ref T), some (.int a1), some (.int a2)], [.ref T], aa_H g) rfl r
        obtain ⟨n18, ln18, r⟩ := rn_gr rfl (tw_hk hT) (tw_hl hT) rfl r
        have r : rn_s _ 75 (55, [some (.ref T), some (.int a1), some (.int a2)], [.ref (T + 2)], aa_H g) v h := r
        obtain ⟨n19, ln19, r⟩ := rn_steps 0 (56, [some (.ref T), some (.int a1), some (.int a2)], [.int a1, .ref (T + 2)], aa_H g) rfl r
        obtain ⟨hb21, n20, ln20, r⟩ := rn_ial rfl (tw_a2 hT).1 (tw_a2 hT).2 r
        have r : rn_s _ 75 (57, [some (.ref T), some (.int a1), some (.int a2)], [.int (g (T + 2) a1.toNatClampNeg)], aa_H g) v h := r
        exact rn_ire rfl r
      · refine rn_sw1 (ir_s g v h) r (fun c22 r => ?_) (fun c22 r => ?_)
        · have r : rn_s _ 75 (58, [some (.ref T), some (.int a1), some (.int a2)], [], aa_H g) v h := r
          obtain ⟨n23, ln23, r⟩ := rn_steps 0 (59, [some (.ref T), some (.int a1), some (.int a2)], [.ref T], aa_H g) rfl r
          obtain ⟨n24, ln24, r⟩ := rn_gr rfl (tw_hk hT) (tw_hl hT) rfl r
          have r : rn_s _ 75 (62, [some (.ref T), some (.int a1), some (.int a2)], [.ref (T + 3)], aa_H g) v h := r
          obtain ⟨n25, ln25, r⟩ := rn_steps 0 (63, [some (.ref T), some (.int a1), some (.int a2)], [.int a1, .ref (T + 3)], aa_H g) rfl r
          obtain ⟨hb27, n26, ln26, r⟩ := rn_ial rfl (tw_a3 hT).1 (tw_a3 hT).2 r
          have r : rn_s _ 75 (64, [some (.ref T), some (.int a1), some (.int a2)], [.int (g (T + 3) a1.toNatClampNeg)], aa_H g) v h := r
          exact rn_ire rfl r
        · have r : rn_s _ 75 (65, [some (.ref T), some (.int a1), some (.int a2)], [], aa_H g) v h := r
          obtain ⟨n28, ln28, r⟩ := rn_steps 0 (66, [some (.ref T), some (.int a1), some (.int a2)], [.ref T], aa_H g) rfl r
          obtain ⟨n29, ln29, r⟩ := rn_gr rfl (tw_hk hT) (tw_hl hT) rfl r
          have r : rn_s _ 75 (69, [some (.ref T), some (.int a1), some (.int a2)], [.ref (T + 4)], aa_H g) v h := r
          obtain ⟨n30, ln30, r⟩ := rn_steps 0 (70, [some (.ref T), some (.int a1), some (.int a2)], [.int a1, .ref (T + 4)], aa_H g) rfl r
          obtain ⟨hb32, n31, ln31, r⟩ := rn_ial rfl (tw_a4 hT).1 (tw_a4 hT).2 r
          have r : rn_s _ 75 (71, [some (.ref T), some (.int a1), some (.int a2)], [.int (g (T + 4) a1.toNatClampNeg)], aa_H g) v h := r
          exact rn_ire rfl r
  · obtain ⟨n33, ln33, r⟩ := rn_steps 0 (16, [some (.ref T), some (.int a1), some (.int a2)], [.int (-1000000)], aa_H g) rfl r
    exact rn_ire rfl r
-- 74: UnequalHours town
noncomputable def fn_74 (g : aa_G) (a1 : Int32) (a2 : Int32) : Int32 := (match fn_31 g a1 with | none => (-1000000) | some W6 => (if a2 ≠ 0 then if a2 ≠ 1 then if 10 ≤ a2 then fn_75 g W6 ((a2 - 10) / 4) ((a2 - 10) - (a2 - 10) / 4 * 4) else -1000000 else g W6 1 else g W6 0))
theorem dn_74 {v : Option Value} {h : zz_H} {n : Nat} {g : aa_G} {a1 : Int32} {a2 : Int32}  (r : rn_s n 74 (0, zz_in [.ref 1, .int a1, .int a2] (zz_nl 74), [], aa_H g) v h) : ir_s g v h (fn_74 g a1 a2) := by
  have r : rn_s n 74 (0, [some (.ref 1), some (.int a1), some (.int a2), none], [], aa_H g) v h := r
  unfold fn_74
  obtain ⟨n1, ln1, r⟩ := rn_steps 2 (5, [some (.ref 1), some (.int a1), some (.int a2), none], [.int a1, .ref 2], aa_H g) rfl r
  obtain ⟨_, n2, v1, h1, -, ln2, rc, r⟩ := rn_call (m2 := 31) (as := [.ref 2, .int a1]) (rest := []) rfl rfl r
  obtain ⟨rfl, rfl, ho4⟩ := dn_31 rc
  have r : rn_s _ 74 (8, [some (.ref 1), some (.int a1), some (.int a2), none], [zz_val (fn_31 g a1)], aa_H g) v h := r
  cases e5 : fn_31 g a1 with
  | none =>
    rw [e5] at r
    have r : rn_s _ 74 (8, [some (.ref 1), some (.int a1), some (.int a2), none], [.null], aa_H g) v h := r
    dsimp only
    obtain ⟨n8, ln8, r⟩ := rn_steps 3 (15, [some (.ref 1), some (.int a1), some (.int a2), some (.null)], [.int (-1000000)], aa_H g) rfl r
    exact rn_ire rfl r
  | some W6 =>
    rw [e5] at r
    have hw7 : ct_tw W6 := ho4 _ e5
    have r : rn_s _ 74 (8, [some (.ref 1), some (.int a1), some (.int a2), none], [.ref W6], aa_H g) v h := r
    dsimp only
    obtain ⟨n9, ln9, r⟩ := rn_steps 3 (17, [some (.ref 1), some (.int a1), some (.int a2), some (.ref W6)], [.int a2], aa_H g) rfl r
    refine rn_if (ir_s g v h) rfl decide_eq_true_iff.symm r (fun c10 l11n l11 r => ?_) (fun c10 l11n l11 r => ?_)
    · obtain ⟨n12, ln12, r⟩ := rn_steps 1 (27, [some (.ref 1), some (.int a1), some (.int a2), some (.ref W6)], [.int 1, .int a2], aa_H g) rfl r
      refine rn_ic (ir_s g v h) rfl decide_eq_true_iff.symm r (fun c13 l14n l14 r => ?_) (fun c13 l14n l14 r => ?_)
      · obtain ⟨n15, ln15, r⟩ := rn_steps 1 (38, [some (.ref 1), some (.int a1), some (.int a2), some (.ref W6)], [.int 10, .int a2], aa_H g) rfl r
        refine rn_ic (ir_s g v h) rfl decide_eq_true_iff.symm r (fun c16 l17n l17 r => ?_) (fun c16 l17n l17 r => ?_)
        · obtain ⟨n18, ln18, r⟩ := rn_steps 10 (59, [some (.ref 1), some (.int a1), some (.int a2), some (.ref W6)], [.int ((a2 - 10) - (a2 - 10) / 4 * 4), .int ((a2 - 10) / 4), .ref W6], aa_H g) rfl r
          obtain ⟨_, n19, v1, h1, -, ln19, rc, r⟩ := rn_cv (k := W6) (as := [.int ((a2 - 10) / 4), .int ((a2 - 10) - (a2 - 10) / 4 * 4)]) (rest := []) rfl (tw_hk hw7) (tw_hl hw7) rfl rfl r
          obtain ⟨rfl, rfl⟩ := dn_75 hw7 rc
          have r : rn_s _ 74 (62, [some (.ref 1), some (.int a1), some (.int a2), some (.ref W6)], [.int (fn_75 g W6 ((a2 - 10) / 4) ((a2 - 10) - (a2 - 10) / 4 * 4))], aa_H g) v h := r
          exact rn_ire rfl r
        · obtain ⟨n21, ln21, r⟩ := rn_steps 1 (62, [some (.ref 1), some (.int a1), some (.int a2), some (.ref W6)], [.int (-1000000)], aa_H g) rfl r
          exact rn_ire rfl r
      · obtain ⟨n22, ln22, r⟩ := rn_steps 0 (31, [some (.ref 1), some (.int a1), some (.int a2), some (.ref W6)], [.ref W6], aa_H g) rfl r
        obtain ⟨n23, ln23, r⟩ := rn_gf rfl (tw_hk hw7) (tw_hl hw7) rfl r
        have r : rn_s _ 74 (34, [some (.ref 1), some (.int a1), some (.int a2), some (.ref W6)], [.int (g W6 1)], aa_H g) v h := r
        exact rn_ire rfl r
    · obtain ⟨n24, ln24, r⟩ := rn_steps 0 (21, [some (.ref 1), some (.int a1), some (.int a2), some (.ref W6)], [.ref W6], aa_H g) rfl r
      obtain ⟨n25, ln25, r⟩ := rn_gf rfl (tw_hk hw7) (tw_hl hw7) rfl r
      have r : rn_s _ 74 (24, [some (.ref 1), some (.int a1), some (.int a2), some (.ref W6)], [.int (g W6 0)], aa_H g) v h := r
      exact rn_ire rfl r
-- 111: UnequalHours Bells strokesOf
noncomputable def fn_111 (g : aa_G) (a1 : Int32) : Int32 := if (fn_14 a1 0 ((g 4 0) - 1)) = 0 then 0 else g 8 a1.toNatClampNeg
theorem dn_111 {v : Option Value} {h : zz_H} {n : Nat} {g : aa_G} {a1 : Int32}  (r : rn_s n 111 (0, zz_in [.ref 4, .int a1] (zz_nl 111), [], aa_H g) v h) : ir_s g v h (fn_111 g a1) := by
  have r : rn_s n 111 (0, [some (.ref 4), some (.int a1)], [], aa_H g) v h := r
  unfold fn_111
  obtain ⟨n1, ln1, r⟩ := rn_steps 5 (8, [some (.ref 4), some (.int a1)], [.int ((g 4 0) - 1), .int 0, .int a1], aa_H g) rfl r
  obtain ⟨_, n2, v1, h1, -, ln2, rc, r⟩ := rn_call (m2 := 14) (as := [.int a1, .int 0, .int ((g 4 0) - 1)]) (rest := []) rfl rfl r
  obtain ⟨rfl, rfl⟩ := dn_14 rc
  have r : rn_s _ 111 (11, [some (.ref 4), some (.int a1)], [.int (fn_14 a1 0 ((g 4 0) - 1))], aa_H g) v h := r
  refine rn_if (ir_s g v h) rfl decide_eq_true_iff.symm r (fun c4 l5n l5 r => ?_) (fun c4 l5n l5 r => ?_)
  · obtain ⟨n6, ln6, r⟩ := rn_steps 0 (24, [some (.ref 4), some (.int a1)], [.int 0], aa_H g) rfl r
    exact rn_ire rfl r
  · obtain ⟨n7, ln7, r⟩ := rn_steps 2 (19, [some (.ref 4), some (.int a1)], [.int a1, .ref 8], aa_H g) rfl r
    obtain ⟨hb9, n8, ln8, r⟩ := rn_ial (k := 8) rfl ⟨by decide, by decide⟩ rfl r
    have r : rn_s _ 111 (20, [some (.ref 4), some (.int a1)], [.int (g 8 a1.toNatClampNeg)], aa_H g) v h := r
    obtain ⟨n10, ln10, r⟩ := rn_steps 0 (24, [some (.ref 4), some (.int a1)], [.int (g 8 a1.toNatClampNeg)], aa_H g) rfl r
    exact rn_ire rfl r
-- 113: UnequalHours Rings strokesBy
noncomputable def fn_113_4b (g : aa_G) (B0 : Nat) (b2 : Int32) (b3 : Int32) : (Int32 × Int32) ⊕ Int32 := if (g B0 0) ≤ b3 then .inr b2 else .inl (b2 + (fn_111 g (g (B0 + 2) b3.toNatClampNeg)), b3 + 1)
noncomputable def fn_113_4 (g : aa_G) (B0 : Nat) (b2 : Int32) (b3 : Int32) : Int32 := lp_f 0 (fun z : (Int32 × Int32) => fn_113_4b g B0 z.1 z.2) (b2, b3)
theorem dn_113_4l {v : Option Value} {h : zz_H} {N : Nat} {g : aa_G} {B0 : Nat} (hB0 : rg_ok B0) {d : Int32} : ∀ (n : Nat), n ≤ N → ∀ (b2 : Int32) (b3 : Int32), rn_s n 113 (4, [some (.ref B0), some (.ref 4), some (.int b2), some (.int b3)], [], aa_H g) v h → (ir_s g v h) (lp_f d (fun z : (Int32 × Int32) => fn_113_4b g B0 z.1 z.2) (b2, b3)) := by
  generalize hf : (fun z : (Int32 × Int32) => fn_113_4b g B0 z.1 z.2) = f
  intro n
  induction n using Nat.strongRecOn with
  | _ n ih =>
    intro hN b2 b3  r
    refine lp_go ?_
    rw [← congrFun hf (b2, b3)]
    show lp_q (ir_s g v h) d f (fn_113_4b g B0 b2 b3)
    unfold fn_113_4b
    obtain ⟨n2, ln2, r⟩ := rn_steps 1 (6, [some (.ref B0), some (.ref 4), some (.int b2), some (.int b3)], [.ref B0, .int b3], aa_H g) rfl r
    obtain ⟨n3, ln3, r⟩ := rn_gf rfl (rg_hk hB0) (rg_hl hB0) rfl r
    have r : rn_s _ 113 (9, [some (.ref B0), some (.ref 4), some (.int b2), some (.int b3)], [.int (g B0 0), .int b3], aa_H g) v h := r
    refine rn_ic (lp_q (ir_s g v h) d f) rfl decide_eq_true_iff.symm r (fun c4 l5n l5 r => ?_) (fun c4 l5n l5 r => ?_)
    · obtain ⟨n6, ln6, r⟩ := rn_steps 0 (32, [some (.ref B0), some (.ref 4), some (.int b2), some (.int b3)], [.int b2], aa_H g) rfl r
      exact rn_ire rfl r
    · obtain ⟨n7, ln7, r⟩ := rn_steps 2 (15, [some (.ref B0), some (.ref 4), some (.int b2), some (.int b3)], [.ref B0, .ref 4, .int b2], aa_H g) rfl r
      obtain ⟨n8, ln8, r⟩ := rn_gr rfl (rg_hk hB0) (rg_hl hB0) rfl r
      have r : rn_s _ 113 (18, [some (.ref B0), some (.ref 4), some (.int b2), some (.int b3)], [.ref (B0 + 2), .ref 4, .int b2], aa_H g) v h := r
      obtain ⟨n9, ln9, r⟩ := rn_steps 0 (19, [some (.ref B0), some (.ref 4), some (.int b2), some (.int b3)], [.int b3, .ref (B0 + 2), .ref 4, .int b2], aa_H g) rfl r
      obtain ⟨hb11, n10, ln10, r⟩ := rn_ial rfl (rg_a2 hB0).1 (rg_a2 hB0).2 r
      have r : rn_s _ 113 (20, [some (.ref B0), some (.ref 4), some (.int b2), some (.int b3)], [.int (g (B0 + 2) b3.toNatClampNeg), .ref 4, .int b2], aa_H g) v h := r
      obtain ⟨_, n12, v1, h1, -, ln12, rc, r⟩ := rn_call (m2 := 111) (as := [.ref 4, .int (g (B0 + 2) b3.toNatClampNeg)]) (rest := [.int b2]) rfl rfl r
      obtain ⟨rfl, rfl⟩ := dn_111 rc
      have r : rn_s _ 113 (23, [some (.ref B0), some (.ref 4), some (.int b2), some (.int b3)], [.int (fn_111 g (g (B0 + 2) b3.toNatClampNeg)), .int b2], aa_H g) v h := r
      obtain ⟨n14, ln14, r⟩ := rn_steps 3 (4, [some (.ref B0), some (.ref 4), some (.int (b2 + (fn_111 g (g (B0 + 2) b3.toNatClampNeg)))), some (.int (b3 + 1))], [], aa_H g) rfl r
      exact ih _ (by omega) (by omega) (b2 + (fn_111 g (g (B0 + 2) b3.toNatClampNeg))) (b3 + 1) r
theorem dn_113_4 {v : Option Value} {h : zz_H} {n : Nat} {g : aa_G} {B0 : Nat} {b2 : Int32} {b3 : Int32} (hB0 : rg_ok B0) (r : rn_s n 113 (4, [some (.ref B0), some (.ref 4), some (.int b2), some (.int b3)], [], aa_H g) v h) : (ir_s g v h) (fn_113_4 g B0 b2 b3) := dn_113_4l hB0 n (Nat.le_refl n) b2 b3 r
noncomputable def fn_113 (g : aa_G) (Q : Nat) : Int32 := fn_113_4 g Q 0 0
theorem dn_113 {v : Option Value} {h : zz_H} {n : Nat} {g : aa_G} {Q : Nat} (hQ : rg_ok Q) (r : rn_s n 113 (0, zz_in [.ref Q, .ref 4] (zz_nl 113), [], aa_H g) v h) : ir_s g v h (fn_113 g Q) := by
  have r : rn_s n 113 (0, [some (.ref Q), some (.ref 4), none, none], [], aa_H g) v h := r
  unfold fn_113
  obtain ⟨n1, ln1, r⟩ := rn_steps 3 (4, [some (.ref Q), some (.ref 4), some (.int 0), some (.int 0)], [], aa_H g) rfl r
  exact dn_113_4 hQ r
-- 118: UnequalHours Rings countInto
noncomputable def fn_118_39 (g : aa_G) (B0 : Nat) (b2 : Int32) : (aa_G × Int32) ⊕ aa_G := .inl (g, b2 + 1)
theorem dn_118_39 {v : Option Value} {h : zz_H} {n : Nat} {g : aa_G} {B0 : Nat} {b2 : Int32} (P : (aa_G × Int32) ⊕ aa_G → Prop) (hO0 : ∀ n2, n2 < n → ∀ (yg : aa_G) (yb2 : Int32), rn_s n2 118 (2, [some (.ref B0), some (.ref 475), some (.int yb2)], [], aa_H yg) v h → P (.inl (yg, yb2))) (hR : ∀ E, ig_s v h E → P (.inr E)) (hB0 : rg_ok B0) (r : rn_s n 118 (39, [some (.ref B0), some (.ref 475), some (.int b2)], [], aa_H g) v h) : P (fn_118_39 g B0 b2) := by
  unfold fn_118_39
  obtain ⟨n27, ln27, r⟩ := rn_steps 1 (2, [some (.ref B0), some (.ref 475), some (.int (b2 + 1))], [], aa_H g) rfl r
  exact hO0 _ (by omega) g (b2 + 1) r
noncomputable def fn_118_2b (g : aa_G) (B0 : Nat) (b2 : Int32) : (aa_G × Int32) ⊕ aa_G := if (g B0 0) ≤ b2 then .inr g else if (fn_14 (g (B0 + 2) b2.toNatClampNeg) 0 (8 - 1)) = 0 then fn_118_39 g B0 b2 else fn_118_39 (zz_w g 475 (g (B0 + 2) b2.toNatClampNeg).toNatClampNeg ((g 475 (g (B0 + 2) b2.toNatClampNeg).toNatClampNeg) + 1)) B0 b2
noncomputable def fn_118_2 (g : aa_G) (B0 : Nat) (b2 : Int32) : aa_G := lp_f g (fun z : (aa_G × Int32) => fn_118_2b z.1 B0 z.2) (g, b2)
theorem dn_118_2l {v : Option Value} {h : zz_H} {N : Nat} {B0 : Nat} (hB0 : rg_ok B0) {d : aa_G} : ∀ (n : Nat), n ≤ N → ∀ (g : aa_G) (b2 : Int32), rn_s n 118 (2, [some (.ref B0), some (.ref 475), some (.int b2)], [], aa_H g) v h → (ig_s v h) (lp_f d (fun z : (aa_G × Int32) => fn_118_2b z.1 B0 z.2) (g, b2)) := by
  generalize hf : (fun z : (aa_G × Int32) => fn_118_2b z.1 B0 z.2) = f
  intro n
  induction n using Nat.strongRecOn with
  | _ n ih =>
    intro hN g b2  r
    refine lp_go ?_
    rw [← congrFun hf (g, b2)]
    show lp_q (ig_s v h) d f (fn_118_2b g B0 b2)
    unfold fn_118_2b
    obtain ⟨n2, ln2, r⟩ := rn_steps 1 (4, [some (.ref B0), some (.ref 475), some (.int b2)], [.ref B0, .int b2], aa_H g) rfl r
    obtain ⟨n3, ln3, r⟩ := rn_gf rfl (rg_hk hB0) (rg_hl hB0) rfl r
    have r : rn_s _ 118 (7, [some (.ref B0), some (.ref 475), some (.int b2)], [.int (g B0 0), .int b2], aa_H g) v h := r
    refine rn_ic (lp_q (ig_s v h) d f) rfl decide_eq_true_iff.symm r (fun c4 l5n l5 r => ?_) (fun c4 l5n l5 r => ?_)
    · exact rn_ret 1 rfl r
    · obtain ⟨n6, ln6, r⟩ := rn_steps 0 (11, [some (.ref B0), some (.ref 475), some (.int b2)], [.ref B0], aa_H g) rfl r
      obtain ⟨n7, ln7, r⟩ := rn_gr rfl (rg_hk hB0) (rg_hl hB0) rfl r
      have r : rn_s _ 118 (14, [some (.ref B0), some (.ref 475), some (.int b2)], [.ref (B0 + 2)], aa_H g) v h := r
      obtain ⟨n8, ln8, r⟩ := rn_steps 0 (15, [some (.ref B0), some (.ref 475), some (.int b2)], [.int b2, .ref (B0 + 2)], aa_H g) rfl r
      obtain ⟨hb10, n9, ln9, r⟩ := rn_ial rfl (rg_a2 hB0).1 (rg_a2 hB0).2 r
      have r : rn_s _ 118 (16, [some (.ref B0), some (.ref 475), some (.int b2)], [.int (g (B0 + 2) b2.toNatClampNeg)], aa_H g) v h := r
      obtain ⟨n11, ln11, r⟩ := rn_steps 4 (21, [some (.ref B0), some (.ref 475), some (.int b2)], [.int (8 - 1), .int 0, .int (g (B0 + 2) b2.toNatClampNeg)], aa_H g) rfl r
      obtain ⟨_, n12, v1, h1, -, ln12, rc, r⟩ := rn_call (m2 := 14) (as := [.int (g (B0 + 2) b2.toNatClampNeg), .int 0, .int (8 - 1)]) (rest := []) rfl rfl r
      obtain ⟨rfl, rfl⟩ := dn_14 rc
      have r : rn_s _ 118 (24, [some (.ref B0), some (.ref 475), some (.int b2)], [.int (fn_14 (g (B0 + 2) b2.toNatClampNeg) 0 (8 - 1))], aa_H g) v h := r
      refine rn_if (lp_q (ig_s v h) d f) rfl decide_eq_true_iff.symm r (fun c14 l15n l15 r => ?_) (fun c14 l15n l15 r => ?_)
      · exact dn_118_39 (lp_q (ig_s v h) d f) (fun n2 l2 => ih n2 (by omega) (by omega)) (fun z hz => hz) hB0 r
      · obtain ⟨n16, ln16, r⟩ := rn_steps 1 (29, [some (.ref B0), some (.ref 475), some (.int b2)], [.ref B0, .ref 475], aa_H g) rfl r
        obtain ⟨n17, ln17, r⟩ := rn_gr rfl (rg_hk hB0) (rg_hl hB0) rfl r
        have r : rn_s _ 118 (32, [some (.ref B0), some (.ref 475), some (.int b2)], [.ref (B0 + 2), .ref 475], aa_H g) v h := r
        obtain ⟨n18, ln18, r⟩ := rn_steps 0 (33, [some (.ref B0), some (.ref 475), some (.int b2)], [.int b2, .ref (B0 + 2), .ref 475], aa_H g) rfl r
        obtain ⟨hb20, n19, ln19, r⟩ := rn_ial rfl (rg_a2 hB0).1 (rg_a2 hB0).2 r
        have r : rn_s _ 118 (34, [some (.ref B0), some (.ref 475), some (.int b2)], [.int (g (B0 + 2) b2.toNatClampNeg), .ref 475], aa_H g) v h := r
        obtain ⟨n21, ln21, r⟩ := rn_steps 0 (35, [some (.ref B0), some (.ref 475), some (.int b2)], [.int (g (B0 + 2) b2.toNatClampNeg), .ref 475, .int (g (B0 + 2) b2.toNatClampNeg), .ref 475], aa_H g) rfl r
        obtain ⟨hb23, n22, ln22, r⟩ := rn_ial (k := 475) rfl ⟨by decide, by decide⟩ rfl r
        have r : rn_s _ 118 (36, [some (.ref B0), some (.ref 475), some (.int b2)], [.int (g 475 (g (B0 + 2) b2.toNatClampNeg).toNatClampNeg), .int (g (B0 + 2) b2.toNatClampNeg), .ref 475], aa_H g) v h := r
        obtain ⟨n24, ln24, r⟩ := rn_steps 1 (38, [some (.ref B0), some (.ref 475), some (.int b2)], [.int ((g 475 (g (B0 + 2) b2.toNatClampNeg).toNatClampNeg) + 1), .int (g (B0 + 2) b2.toNatClampNeg), .ref 475], aa_H g) rfl r
        obtain ⟨hb26, n25, ln25, r⟩ := rn_ias (k := 475) rfl ⟨by decide, by decide⟩ rfl r
        have r : rn_s _ 118 (39, [some (.ref B0), some (.ref 475), some (.int b2)], [], aa_H (zz_w g 475 (g (B0 + 2) b2.toNatClampNeg).toNatClampNeg ((g 475 (g (B0 + 2) b2.toNatClampNeg).toNatClampNeg) + 1))) v h := r
        exact dn_118_39 (lp_q (ig_s v h) d f) (fun n2 l2 => ih n2 (by omega) (by omega)) (fun z hz => hz) hB0 r
theorem dn_118_2 {v : Option Value} {h : zz_H} {n : Nat} {g : aa_G} {B0 : Nat} {b2 : Int32} (hB0 : rg_ok B0) (r : rn_s n 118 (2, [some (.ref B0), some (.ref 475), some (.int b2)], [], aa_H g) v h) : (ig_s v h) (fn_118_2 g B0 b2) := dn_118_2l hB0 n (Nat.le_refl n) g b2 r
noncomputable def fn_118 (g : aa_G) (Q : Nat) : aa_G := fn_118_2 g Q 0
theorem dn_118 {v : Option Value} {h : zz_H} {n : Nat} {g : aa_G} {Q : Nat} (hQ : rg_ok Q) (r : rn_s n 118 (0, zz_in [.ref Q, .ref 475] (zz_nl 118), [], aa_H g) v h) : ig_s v h (fn_118 g Q) := by
  have r : rn_s n 118 (0, [some (.ref Q), some (.ref 475), none], [], aa_H g) v h := r
  unfold fn_118
  obtain ⟨n1, ln1, r⟩ := rn_steps 1 (2, [some (.ref Q), some (.ref 475), some (.int 0)], [], aa_H g) rfl r
  exact dn_118_2 hQ r
-- 139: UnequalHours Rings hasOneAt
noncomputable def fn_139_2b (g : aa_G) (B0 : Nat) (b1 : Int32) (b2 : Int32) : Int32 ⊕ Int32 := if (g B0 0) ≤ b2 then .inr 0 else if (g (B0 + 1) b2.toNatClampNeg) ≠ b1 then .inl (b2 + 1) else .inr 1
noncomputable def fn_139_2 (g : aa_G) (B0 : Nat) (b1 : Int32) (b2 : Int32) : Int32 := lp_f 0 (fun z : Int32 => fn_139_2b g B0 b1 z) b2
theorem dn_139_2l {v : Option Value} {h : zz_H} {N : Nat} {g : aa_G} {B0 : Nat} {b1 : Int32} (hB0 : rg_ok B0) {d : Int32} : ∀ (n : Nat), n ≤ N → ∀ (b2 : Int32), rn_s n 139 (2, [some (.ref B0), some (.int b1), some (.int b2)], [], aa_H g) v h → (ir_s g v h) (lp_f d (fun z : Int32 => fn_139_2b g B0 b1 z) b2) := by
  generalize hf : (fun z : Int32 => fn_139_2b g B0 b1 z) = f
  intro n
  induction n using Nat.strongRecOn with
  | _ n ih =>
    intro hN b2  r
    refine lp_go ?_
    rw [← congrFun hf b2]
    show lp_q (ir_s g v h) d f (fn_139_2b g B0 b1 b2)
    unfold fn_139_2b
    obtain ⟨n2, ln2, r⟩ := rn_steps 1 (4, [some (.ref B0), some (.int b1), some (.int b2)], [.ref B0, .int b2], aa_H g) rfl r
    obtain ⟨n3, ln3, r⟩ := rn_gf rfl (rg_hk hB0) (rg_hl hB0) rfl r
    have r : rn_s _ 139 (7, [some (.ref B0), some (.int b1), some (.int b2)], [.int (g B0 0), .int b2], aa_H g) v h := r
    refine rn_ic (lp_q (ir_s g v h) d f) rfl decide_eq_true_iff.symm r (fun c4 l5n l5 r => ?_) (fun c4 l5n l5 r => ?_)
    · obtain ⟨n6, ln6, r⟩ := rn_steps 0 (29, [some (.ref B0), some (.int b1), some (.int b2)], [.int 0], aa_H g) rfl r
      exact rn_ire rfl r
    · obtain ⟨n7, ln7, r⟩ := rn_steps 0 (11, [some (.ref B0), some (.int b1), some (.int b2)], [.ref B0], aa_H g) rfl r
      obtain ⟨n8, ln8, r⟩ := rn_gr rfl (rg_hk hB0) (rg_hl hB0) rfl r
      have r : rn_s _ 139 (14, [some (.ref B0), some (.int b1), some (.int b2)], [.ref (B0 + 1)], aa_H g) v h := r
      obtain ⟨n9, ln9, r⟩ := rn_steps 0 (15, [some (.ref B0), some (.int b1), some (.int b2)], [.int b2, .ref (B0 + 1)], aa_H g) rfl r
      obtain ⟨hb11, n10, ln10, r⟩ := rn_ial rfl (rg_a1 hB0).1 (rg_a1 hB0).2 r
      have r : rn_s _ 139 (16, [some (.ref B0), some (.int b1), some (.int b2)], [.int (g (B0 + 1) b2.toNatClampNeg)], aa_H g) v h := r
      obtain ⟨n12, ln12, r⟩ := rn_steps 0 (17, [some (.ref B0), some (.int b1), some (.int b2)], [.int b1, .int (g (B0 + 1) b2.toNatClampNeg)], aa_H g) rfl r
      refine rn_ic (lp_q (ir_s g v h) d f) rfl decide_eq_true_iff.symm r (fun c13 l14n l14 r => ?_) (fun c13 l14n l14 r => ?_)
      · obtain ⟨n15, ln15, r⟩ := rn_steps 1 (2, [some (.ref B0), some (.int b1), some (.int (b2 + 1))], [], aa_H g) rfl r
        exact ih _ (by omega) (by omega) (b2 + 1) r
      · obtain ⟨n16, ln16, r⟩ := rn_steps 0 (21, [some (.ref B0), some (.int b1), some (.int b2)], [.int 1], aa_H g) rfl r
        exact rn_ire rfl r
theorem dn_139_2 {v : Option Value} {h : zz_H} {n : Nat} {g : aa_G} {B0 : Nat} {b1 : Int32} {b2 : Int32} (hB0 : rg_ok B0) (r : rn_s n 139 (2, [some (.ref B0), some (.int b1), some (.int b2)], [], aa_H g) v h) : (ir_s g v h) (fn_139_2 g B0 b1 b2) := dn_139_2l hB0 n (Nat.le_refl n) b2 r
noncomputable def fn_139 (g : aa_G) (Q : Nat) (a1 : Int32) : Int32 := fn_139_2 g Q a1 0
theorem dn_139 {v : Option Value} {h : zz_H} {n : Nat} {g : aa_G} {Q : Nat} {a1 : Int32} (hQ : rg_ok Q) (r : rn_s n 139 (0, zz_in [.ref Q, .int a1] (zz_nl 139), [], aa_H g) v h) : ir_s g v h (fn_139 g Q a1) := by
  have r : rn_s n 139 (0, [some (.ref Q), some (.int a1), none], [], aa_H g) v h := r
  unfold fn_139
  obtain ⟨n1, ln1, r⟩ := rn_steps 1 (2, [some (.ref Q), some (.int a1), some (.int 0)], [], aa_H g) rfl r
  exact dn_139_2 hQ r
