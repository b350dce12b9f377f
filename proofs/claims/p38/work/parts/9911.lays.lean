/-! METHODS READ (printed by wip/dc/dc.py) -/
-- 197: UnequalHoursModel between
noncomputable def fn_197 (a0 : Int32) (a1 : Int32) (a2 : Int32) (a3 : Int32) : Int32 := if a3 ≠ 0 then if 0 ≤ ((a1 - a0) * a2) then a0 + (((a1 - a0) * a2) / a3) else a0 + (-(((a3 - 1) - ((a1 - a0) * a2)) / a3)) else a0
theorem dn_197 {v : Option Value} {h : zz_H} {n : Nat} {g : aa_G} {a0 : Int32} {a1 : Int32} {a2 : Int32} {a3 : Int32}  (r : rn_s n 197 (0, zz_in [.int a0, .int a1, .int a2, .int a3] (zz_nl 197), [], aa_H g) v h) : ir_s g v h (fn_197 a0 a1 a2 a3) := by
  have r : rn_s n 197 (0, [some (.int a0), some (.int a1), some (.int a2), some (.int a3), none], [], aa_H g) v h := r
  unfold fn_197
  obtain ⟨n1, ln1, r⟩ := rn_steps 0 (1, [some (.int a0), some (.int a1), some (.int a2), some (.int a3), none], [.int a3], aa_H g) rfl r
  refine rn_if (ir_s g v h) rfl decide_eq_true_iff.symm r (fun c2 l3n l3 r => ?_) (fun c2 l3n l3 r => ?_)
  · obtain ⟨n4, ln4, r⟩ := rn_steps 7 (16, [some (.int a0), some (.int a1), some (.int a2), some (.int a3), some (.int ((a1 - a0) * a2))], [.int ((a1 - a0) * a2), .int a0], aa_H g) rfl r
    refine rn_if (ir_s g v h) rfl decide_eq_true_iff.symm r (fun c5 l6n l6 r => ?_) (fun c5 l6n l6 r => ?_)
    · obtain ⟨n7, ln7, r⟩ := rn_steps 1 (34, [some (.int a0), some (.int a1), some (.int a2), some (.int a3), some (.int ((a1 - a0) * a2))], [.int a3, .int ((a1 - a0) * a2), .int a0], aa_H g) rfl r
      obtain ⟨hd9, n8, ln8, r⟩ := rn_div rfl r
      have r : rn_s _ 197 (35, [some (.int a0), some (.int a1), some (.int a2), some (.int a3), some (.int ((a1 - a0) * a2))], [.int (((a1 - a0) * a2) / a3), .int a0], aa_H g) v h := r
      obtain ⟨n10, ln10, r⟩ := rn_steps 0 (36, [some (.int a0), some (.int a1), some (.int a2), some (.int a3), some (.int ((a1 - a0) * a2))], [.int (a0 + (((a1 - a0) * a2) / a3))], aa_H g) rfl r
      exact rn_ire rfl r
    · obtain ⟨n11, ln11, r⟩ := rn_steps 5 (26, [some (.int a0), some (.int a1), some (.int a2), some (.int a3), some (.int ((a1 - a0) * a2))], [.int a3, .int ((a3 - 1) - ((a1 - a0) * a2)), .int a0], aa_H g) rfl r
      obtain ⟨hd13, n12, ln12, r⟩ := rn_div rfl r
      have r : rn_s _ 197 (27, [some (.int a0), some (.int a1), some (.int a2), some (.int a3), some (.int ((a1 - a0) * a2))], [.int (((a3 - 1) - ((a1 - a0) * a2)) / a3), .int a0], aa_H g) v h := r
      obtain ⟨n14, ln14, r⟩ := rn_steps 2 (36, [some (.int a0), some (.int a1), some (.int a2), some (.int a3), some (.int ((a1 - a0) * a2))], [.int (a0 + (-(((a3 - 1) - ((a1 - a0) * a2)) / a3)))], aa_H g) rfl r
      exact rn_ire rfl r
  · obtain ⟨n15, ln15, r⟩ := rn_steps 0 (5, [some (.int a0), some (.int a1), some (.int a2), some (.int a3), none], [.int a0], aa_H g) rfl r
    exact rn_ire rfl r
-- 196: UnequalHoursModel layBetween
noncomputable def fn_196_81 (g : aa_G) (b2 : Int32) (b3 : Int32) (b4 : Int32) (s0 : Int32) : Int32 × aa_G := (1, zz_w g 540 15 (fn_197 (g 541 s0.toNatClampNeg) (g 541 (b2 + 2).toNatClampNeg) b3 (b3 + b4)))
theorem dn_196_81 {v : Option Value} {h : zz_H} {n : Nat} {g : aa_G} {b2 : Int32} {b3 : Int32} {b4 : Int32} {s0 : Int32}  (x1 : Option Value) (jx1 : rn_jk x1) (r : rn_s n 196 (81, [some (.ref 540), x1, some (.int b2), some (.int b3), some (.int b4)], [.int s0, .ref 541, .ref 540], aa_H g) v h) : iw_s v h (fn_196_81 g b2 b3 b4 s0) := by
  unfold fn_196_81
  obtain ⟨hb29, n28, ln28, r⟩ := rn_ial (k := 541) rfl ⟨by decide, by decide⟩ rfl r
  have r : rn_s _ 196 (82, [some (.ref 540), x1, some (.int b2), some (.int b3), some (.int b4)], [.int (g 541 s0.toNatClampNeg), .ref 540], aa_H g) v h := r
  obtain ⟨n30, ln30, r⟩ := rn_steps 4 (89, [some (.ref 540), x1, some (.int b2), some (.int b3), some (.int b4)], [.int (b2 + 2), .ref 541, .int (g 541 s0.toNatClampNeg), .ref 540], aa_H g) rfl r
  obtain ⟨hb32, n31, ln31, r⟩ := rn_ial (k := 541) rfl ⟨by decide, by decide⟩ rfl r
  have r : rn_s _ 196 (90, [some (.ref 540), x1, some (.int b2), some (.int b3), some (.int b4)], [.int (g 541 (b2 + 2).toNatClampNeg), .int (g 541 s0.toNatClampNeg), .ref 540], aa_H g) v h := r
  obtain ⟨n33, ln33, r⟩ := rn_steps 3 (95, [some (.ref 540), x1, some (.int b2), some (.int b3), some (.int b4)], [.int (b3 + b4), .int b3, .int (g 541 (b2 + 2).toNatClampNeg), .int (g 541 s0.toNatClampNeg), .ref 540], aa_H g) rfl r
  obtain ⟨_, n34, v1, h1, -, ln34, rc, r⟩ := rn_call (m2 := 197) (as := [.int (g 541 s0.toNatClampNeg), .int (g 541 (b2 + 2).toNatClampNeg), .int b3, .int (b3 + b4)]) (rest := [.ref 540]) rfl rfl r
  obtain ⟨rfl, rfl⟩ := dn_197 rc
  have r : rn_s _ 196 (98, [some (.ref 540), x1, some (.int b2), some (.int b3), some (.int b4)], [.int (fn_197 (g 541 s0.toNatClampNeg) (g 541 (b2 + 2).toNatClampNeg) b3 (b3 + b4)), .ref 540], aa_H g) v h := r
  obtain ⟨n36, ln36, r⟩ := rn_steps 1 (102, [some (.ref 540), x1, some (.int b2), some (.int b3), some (.int b4)], [.int 1], aa_H (zz_w g 540 15 (fn_197 (g 541 s0.toNatClampNeg) (g 541 (b2 + 2).toNatClampNeg) b3 (b3 + b4)))) rfl r
  exact rn_ire rfl r
noncomputable def fn_196_53 (g : aa_G) (b1 : Int32) (b2 : Int32) (b3 : Int32) (b4 : Int32) (s0 : Int32) : Int32 × aa_G := fn_196_81 (zz_w g 540 14 (fn_197 (g 541 s0.toNatClampNeg) (g 541 (b2 + 1).toNatClampNeg) b3 (b3 + b4))) b2 b3 b4 (b1 + 2)
theorem dn_196_53 {v : Option Value} {h : zz_H} {n : Nat} {g : aa_G} {b1 : Int32} {b2 : Int32} {b3 : Int32} {b4 : Int32} {s0 : Int32}  (r : rn_s n 196 (53, [some (.ref 540), some (.int b1), some (.int b2), some (.int b3), some (.int b4)], [.int s0, .ref 541, .ref 540], aa_H g) v h) : iw_s v h (fn_196_53 g b1 b2 b3 b4 s0) := by
  unfold fn_196_53
  obtain ⟨hb20, n19, ln19, r⟩ := rn_ial (k := 541) rfl ⟨by decide, by decide⟩ rfl r
  have r : rn_s _ 196 (54, [some (.ref 540), some (.int b1), some (.int b2), some (.int b3), some (.int b4)], [.int (g 541 s0.toNatClampNeg), .ref 540], aa_H g) v h := r
  obtain ⟨n21, ln21, r⟩ := rn_steps 4 (61, [some (.ref 540), some (.int b1), some (.int b2), some (.int b3), some (.int b4)], [.int (b2 + 1), .ref 541, .int (g 541 s0.toNatClampNeg), .ref 540], aa_H g) rfl r
  obtain ⟨hb23, n22, ln22, r⟩ := rn_ial (k := 541) rfl ⟨by decide, by decide⟩ rfl r
  have r : rn_s _ 196 (62, [some (.ref 540), some (.int b1), some (.int b2), some (.int b3), some (.int b4)], [.int (g 541 (b2 + 1).toNatClampNeg), .int (g 541 s0.toNatClampNeg), .ref 540], aa_H g) v h := r
  obtain ⟨n24, ln24, r⟩ := rn_steps 3 (67, [some (.ref 540), some (.int b1), some (.int b2), some (.int b3), some (.int b4)], [.int (b3 + b4), .int b3, .int (g 541 (b2 + 1).toNatClampNeg), .int (g 541 s0.toNatClampNeg), .ref 540], aa_H g) rfl r
  obtain ⟨_, n25, v1, h1, -, ln25, rc, r⟩ := rn_call (m2 := 197) (as := [.int (g 541 s0.toNatClampNeg), .int (g 541 (b2 + 1).toNatClampNeg), .int b3, .int (b3 + b4)]) (rest := [.ref 540]) rfl rfl r
  obtain ⟨rfl, rfl⟩ := dn_197 rc
  have r : rn_s _ 196 (70, [some (.ref 540), some (.int b1), some (.int b2), some (.int b3), some (.int b4)], [.int (fn_197 (g 541 s0.toNatClampNeg) (g 541 (b2 + 1).toNatClampNeg) b3 (b3 + b4)), .ref 540], aa_H g) v h := r
  obtain ⟨n27, ln27, r⟩ := rn_steps 6 (81, [some (.ref 540), some (.int b1), some (.int b2), some (.int b3), some (.int b4)], [.int (b1 + 2), .ref 541, .ref 540], aa_H (zz_w g 540 14 (fn_197 (g 541 s0.toNatClampNeg) (g 541 (b2 + 1).toNatClampNeg) b3 (b3 + b4)))) rfl r
  exact dn_196_81 (some (.int b1)) rn_ji r
noncomputable def fn_196_32 (g : aa_G) (b1 : Int32) (b2 : Int32) (b3 : Int32) (b4 : Int32) (s0 : Int32) : Int32 × aa_G := if s0 = (-1) then fn_196_53 (zz_w g 540 13 s0) b1 b2 b3 b4 (b1 + 1) else (0, zz_w g 540 13 s0)
theorem dn_196_32 {v : Option Value} {h : zz_H} {n : Nat} {g : aa_G} {b1 : Int32} {b2 : Int32} {b3 : Int32} {b4 : Int32} {s0 : Int32}  (r : rn_s n 196 (32, [some (.ref 540), some (.int b1), some (.int b2), some (.int b3), some (.int b4)], [.int s0, .ref 540], aa_H g) v h) : iw_s v h (fn_196_32 g b1 b2 b3 b4 s0) := by
  unfold fn_196_32
  obtain ⟨n14, ln14, r⟩ := rn_steps 3 (40, [some (.ref 540), some (.int b1), some (.int b2), some (.int b3), some (.int b4)], [.int (-1), .int s0], aa_H (zz_w g 540 13 s0)) rfl r
  refine rn_ic (iw_s v h) rfl decide_eq_true_iff.symm r (fun c15 l16n l16 r => ?_) (fun c15 l16n l16 r => ?_)
  · obtain ⟨n17, ln17, r⟩ := rn_steps 5 (53, [some (.ref 540), some (.int b1), some (.int b2), some (.int b3), some (.int b4)], [.int (b1 + 1), .ref 541, .ref 540], aa_H (zz_w g 540 13 s0)) rfl r
    exact dn_196_53 r
  · obtain ⟨n18, ln18, r⟩ := rn_steps 0 (44, [some (.ref 540), some (.int b1), some (.int b2), some (.int b3), some (.int b4)], [.int 0], aa_H (zz_w g 540 13 s0)) rfl r
    exact rn_ire rfl r
noncomputable def fn_196 (g : aa_G) (a1 : Int32) (a2 : Int32) (a3 : Int32) (a4 : Int32) : Int32 × aa_G := if (g 541 (a1 + 3).toNatClampNeg) = (-1) then fn_196_32 g a1 a2 a3 a4 (g 541 (a2 + 3).toNatClampNeg) else fn_196_32 g a1 a2 a3 a4 (g 541 (a1 + 3).toNatClampNeg)
theorem dn_196 {v : Option Value} {h : zz_H} {n : Nat} {g : aa_G} {a1 : Int32} {a2 : Int32} {a3 : Int32} {a4 : Int32}  (r : rn_s n 196 (0, zz_in [.ref 540, .int a1, .int a2, .int a3, .int a4] (zz_nl 196), [], aa_H g) v h) : iw_s v h (fn_196 g a1 a2 a3 a4) := by
  have r : rn_s n 196 (0, [some (.ref 540), some (.int a1), some (.int a2), some (.int a3), some (.int a4)], [], aa_H g) v h := r
  unfold fn_196
  obtain ⟨n1, ln1, r⟩ := rn_steps 5 (8, [some (.ref 540), some (.int a1), some (.int a2), some (.int a3), some (.int a4)], [.int (a1 + 3), .ref 541, .ref 540], aa_H g) rfl r
  obtain ⟨hb3, n2, ln2, r⟩ := rn_ial (k := 541) rfl ⟨by decide, by decide⟩ rfl r
  have r : rn_s _ 196 (9, [some (.ref 540), some (.int a1), some (.int a2), some (.int a3), some (.int a4)], [.int (g 541 (a1 + 3).toNatClampNeg), .ref 540], aa_H g) v h := r
  obtain ⟨n4, ln4, r⟩ := rn_steps 0 (10, [some (.ref 540), some (.int a1), some (.int a2), some (.int a3), some (.int a4)], [.int (-1), .int (g 541 (a1 + 3).toNatClampNeg), .ref 540], aa_H g) rfl r
  refine rn_ic (iw_s v h) rfl decide_eq_true_iff.symm r (fun c5 l6n l6 r => ?_) (fun c5 l6n l6 r => ?_)
  · obtain ⟨n7, ln7, r⟩ := rn_steps 4 (31, [some (.ref 540), some (.int a1), some (.int a2), some (.int a3), some (.int a4)], [.int (a2 + 3), .ref 541, .ref 540], aa_H g) rfl r
    obtain ⟨hb9, n8, ln8, r⟩ := rn_ial (k := 541) rfl ⟨by decide, by decide⟩ rfl r
    have r : rn_s _ 196 (32, [some (.ref 540), some (.int a1), some (.int a2), some (.int a3), some (.int a4)], [.int (g 541 (a2 + 3).toNatClampNeg), .ref 540], aa_H g) v h := r
    exact dn_196_32 r
  · obtain ⟨n10, ln10, r⟩ := rn_steps 4 (20, [some (.ref 540), some (.int a1), some (.int a2), some (.int a3), some (.int a4)], [.int (a1 + 3), .ref 541, .ref 540], aa_H g) rfl r
    obtain ⟨hb12, n11, ln11, r⟩ := rn_ial (k := 541) rfl ⟨by decide, by decide⟩ rfl r
    have r : rn_s _ 196 (21, [some (.ref 540), some (.int a1), some (.int a2), some (.int a3), some (.int a4)], [.int (g 541 (a1 + 3).toNatClampNeg), .ref 540], aa_H g) v h := r
    obtain ⟨n13, ln13, r⟩ := rn_steps 0 (32, [some (.ref 540), some (.int a1), some (.int a2), some (.int a3), some (.int a4)], [.int (g 541 (a1 + 3).toNatClampNeg), .ref 540], aa_H g) rfl r
    exact dn_196_32 r
-- 175: UnequalHoursModel pointAt
noncomputable def fn_175 (a0 : Int32) (a1 : Int32) : Int32 := ((3 + (50 * a0)) + 2) + (4 * a1)
theorem dn_175 {v : Option Value} {h : zz_H} {n : Nat} {g : aa_G} {a0 : Int32} {a1 : Int32}  (r : rn_s n 175 (0, zz_in [.int a0, .int a1] (zz_nl 175), [], aa_H g) v h) : ir_s g v h (fn_175 a0 a1) := by
  have r : rn_s n 175 (0, [some (.int a0), some (.int a1)], [], aa_H g) v h := r
  unfold fn_175
  obtain ⟨n1, ln1, r⟩ := rn_steps 10 (12, [some (.int a0), some (.int a1)], [.int (((3 + (50 * a0)) + 2) + (4 * a1))], aa_H g) rfl r
  exact rn_ire rfl r
-- 164: UnequalHoursModel townAt
noncomputable def fn_164 (a0 : Int32) : Int32 := 3 + (50 * a0)
theorem dn_164 {v : Option Value} {h : zz_H} {n : Nat} {g : aa_G} {a0 : Int32}  (r : rn_s n 164 (0, zz_in [.int a0] (zz_nl 164), [], aa_H g) v h) : ir_s g v h (fn_164 a0) := by
  have r : rn_s n 164 (0, [some (.int a0)], [], aa_H g) v h := r
  unfold fn_164
  obtain ⟨n1, ln1, r⟩ := rn_steps 4 (6, [some (.int a0)], [.int (3 + (50 * a0))], aa_H g) rfl r
  exact rn_ire rfl r
-- 195: UnequalHoursModel lay
noncomputable def fn_195_117 (g : aa_G) (b1 : Int32) (b3 : Int32) (b4 : Int32) (b5 : Int32) (b6 : Int32) (b7 : Int32) (b8 : Int32) : (Int32 × Int32 × Int32 × Int32 × Int32) ⊕ (Int32 × aa_G) := .inl (b4, b5, b6, b7, b8 + 1)
theorem dn_195_117 {v : Option Value} {h : zz_H} {n : Nat} {g : aa_G} {b1 : Int32} {b3 : Int32} {b4 : Int32} {b5 : Int32} {b6 : Int32} {b7 : Int32} {b8 : Int32} (P : (Int32 × Int32 × Int32 × Int32 × Int32) ⊕ (Int32 × aa_G) → Prop) (hO0 : ∀ n2, n2 < n → ∀ (yb4 : Int32) (yb5 : Int32) (yb6 : Int32) (yb7 : Int32) (yb8 : Int32) (yx2 yx9 : Option Value) (_ : rn_jk yx2) (_ : rn_jk yx9), rn_s n2 195 (21, [some (.ref 540), some (.int b1), yx2, some (.int b3), some (.int yb4), some (.int yb5), some (.int yb6), some (.int yb7), some (.int yb8), yx9], [], aa_H g) v h → P (.inl (yb4, yb5, yb6, yb7, yb8))) (hR : ∀ E, iw_s v h E → P (.inr E))  (x2 x9 : Option Value) (jx2 : rn_jk x2) (jx9 : rn_jk x9) (r : rn_s n 195 (117, [some (.ref 540), some (.int b1), x2, some (.int b3), some (.int b4), some (.int b5), some (.int b6), some (.int b7), some (.int b8), x9], [], aa_H g) v h) : P (fn_195_117 g b1 b3 b4 b5 b6 b7 b8) := by
  unfold fn_195_117
  obtain ⟨n47, ln47, r⟩ := rn_steps 1 (21, [some (.ref 540), some (.int b1), x2, some (.int b3), some (.int b4), some (.int b5), some (.int b6), some (.int b7), some (.int (b8 + 1)), x9], [], aa_H g) rfl r
  exact hO0 _ (by omega) b4 b5 b6 b7 (b8 + 1) x2 x9 jx2 jx9 r
noncomputable def fn_195_115 (g : aa_G) (b1 : Int32) (b3 : Int32) (b4 : Int32) (b6 : Int32) (b7 : Int32) (b8 : Int32) (s0 : Int32) : (Int32 × Int32 × Int32 × Int32 × Int32) ⊕ (Int32 × aa_G) := fn_195_117 g b1 b3 b4 s0 b6 b7 b8
theorem dn_195_115 {v : Option Value} {h : zz_H} {n : Nat} {g : aa_G} {b1 : Int32} {b3 : Int32} {b4 : Int32} {b6 : Int32} {b7 : Int32} {b8 : Int32} {s0 : Int32} (P : (Int32 × Int32 × Int32 × Int32 × Int32) ⊕ (Int32 × aa_G) → Prop) (hO0 : ∀ n2, n2 < n → ∀ (yb4 : Int32) (yb5 : Int32) (yb6 : Int32) (yb7 : Int32) (yb8 : Int32) (yx2 yx9 : Option Value) (_ : rn_jk yx2) (_ : rn_jk yx9), rn_s n2 195 (21, [some (.ref 540), some (.int b1), yx2, some (.int b3), some (.int yb4), some (.int yb5), some (.int yb6), some (.int yb7), some (.int yb8), yx9], [], aa_H g) v h → P (.inl (yb4, yb5, yb6, yb7, yb8))) (hR : ∀ E, iw_s v h E → P (.inr E))  (x2 x5 x9 : Option Value) (jx2 : rn_jk x2) (jx5 : rn_jk x5) (jx9 : rn_jk x9) (r : rn_s n 195 (115, [some (.ref 540), some (.int b1), x2, some (.int b3), some (.int b4), x5, some (.int b6), some (.int b7), some (.int b8), x9], [.int s0], aa_H g) v h) : P (fn_195_115 g b1 b3 b4 b6 b7 b8 s0) := by
  unfold fn_195_115
  obtain ⟨n70, ln70, r⟩ := rn_steps 0 (117, [some (.ref 540), some (.int b1), x2, some (.int b3), some (.int b4), some (.int s0), some (.int b6), some (.int b7), some (.int b8), x9], [], aa_H g) rfl r
  exact dn_195_117 (P) (fun n2 l2 => hO0 n2 (by omega)) (fun z hz => hR _ hz) x2 x9 jx2 jx9 r
noncomputable def fn_195_113 (g : aa_G) (b1 : Int32) (b3 : Int32) (b4 : Int32) (b5 : Int32) (b6 : Int32) (b7 : Int32) (b8 : Int32) : (Int32 × Int32 × Int32 × Int32 × Int32) ⊕ (Int32 × aa_G) := fn_195_115 g b1 b3 b4 b6 b7 b8 b5
theorem dn_195_113 {v : Option Value} {h : zz_H} {n : Nat} {g : aa_G} {b1 : Int32} {b3 : Int32} {b4 : Int32} {b5 : Int32} {b6 : Int32} {b7 : Int32} {b8 : Int32} (P : (Int32 × Int32 × Int32 × Int32 × Int32) ⊕ (Int32 × aa_G) → Prop) (hO0 : ∀ n2, n2 < n → ∀ (yb4 : Int32) (yb5 : Int32) (yb6 : Int32) (yb7 : Int32) (yb8 : Int32) (yx2 yx9 : Option Value) (_ : rn_jk yx2) (_ : rn_jk yx9), rn_s n2 195 (21, [some (.ref 540), some (.int b1), yx2, some (.int b3), some (.int yb4), some (.int yb5), some (.int yb6), some (.int yb7), some (.int yb8), yx9], [], aa_H g) v h → P (.inl (yb4, yb5, yb6, yb7, yb8))) (hR : ∀ E, iw_s v h E → P (.inr E))  (x2 x9 : Option Value) (jx2 : rn_jk x2) (jx9 : rn_jk x9) (r : rn_s n 195 (113, [some (.ref 540), some (.int b1), x2, some (.int b3), some (.int b4), some (.int b5), some (.int b6), some (.int b7), some (.int b8), x9], [], aa_H g) v h) : P (fn_195_113 g b1 b3 b4 b5 b6 b7 b8) := by
  unfold fn_195_113
  obtain ⟨n69, ln69, r⟩ := rn_steps 0 (115, [some (.ref 540), some (.int b1), x2, some (.int b3), some (.int b4), some (.int b5), some (.int b6), some (.int b7), some (.int b8), x9], [.int b5], aa_H g) rfl r
  exact dn_195_115 (P) (fun n2 l2 => hO0 n2 (by omega)) (fun z hz => hR _ hz) x2 (some (.int b5)) x9 jx2 rn_ji jx9 r
noncomputable def fn_195_94 (g : aa_G) (b1 : Int32) (b3 : Int32) (b5 : Int32) (b6 : Int32) (b7 : Int32) (b8 : Int32) (b9 : Int32) (s0 : Int32) : (Int32 × Int32 × Int32 × Int32 × Int32) ⊕ (Int32 × aa_G) := if b9 < b3 then fn_195_113 g b1 b3 s0 b5 b6 b7 b8 else if b5 ≠ (-1) then fn_195_113 g b1 b3 s0 b5 b6 b7 b8 else fn_195_115 g b1 b3 s0 b6 b7 b8 b8
theorem dn_195_94 {v : Option Value} {h : zz_H} {n : Nat} {g : aa_G} {b1 : Int32} {b3 : Int32} {b5 : Int32} {b6 : Int32} {b7 : Int32} {b8 : Int32} {b9 : Int32} {s0 : Int32} (P : (Int32 × Int32 × Int32 × Int32 × Int32) ⊕ (Int32 × aa_G) → Prop) (hO0 : ∀ n2, n2 < n → ∀ (yb4 : Int32) (yb5 : Int32) (yb6 : Int32) (yb7 : Int32) (yb8 : Int32) (yx2 yx9 : Option Value) (_ : rn_jk yx2) (_ : rn_jk yx9), rn_s n2 195 (21, [some (.ref 540), some (.int b1), yx2, some (.int b3), some (.int yb4), some (.int yb5), some (.int yb6), some (.int yb7), some (.int yb8), yx9], [], aa_H g) v h → P (.inl (yb4, yb5, yb6, yb7, yb8))) (hR : ∀ E, iw_s v h E → P (.inr E))  (x2 x4 : Option Value) (jx2 : rn_jk x2) (jx4 : rn_jk x4) (r : rn_s n 195 (94, [some (.ref 540), some (.int b1), x2, some (.int b3), x4, some (.int b5), some (.int b6), some (.int b7), some (.int b8), some (.int b9)], [.int s0], aa_H g) v h) : P (fn_195_94 g b1 b3 b5 b6 b7 b8 b9 s0) := by
  unfold fn_195_94
  obtain ⟨n53, ln53, r⟩ := rn_steps 2 (99, [some (.ref 540), some (.int b1), x2, some (.int b3), some (.int s0), some (.int b5), some (.int b6), some (.int b7), some (.int b8), some (.int b9)], [.int b3, .int b9], aa_H g) rfl r
  refine rn_ic (P) rfl decide_eq_true_iff.symm r (fun c54 l55n l55 r => ?_) (fun c54 l55n l55 r => ?_)
  · exact dn_195_113 (P) (fun n2 l2 => hO0 n2 (by omega)) (fun z hz => hR _ hz) x2 (some (.int b9)) jx2 rn_ji r
  · obtain ⟨n56, ln56, r⟩ := rn_steps 1 (105, [some (.ref 540), some (.int b1), x2, some (.int b3), some (.int s0), some (.int b5), some (.int b6), some (.int b7), some (.int b8), some (.int b9)], [.int (-1), .int b5], aa_H g) rfl r
    refine rn_ic (P) rfl decide_eq_true_iff.symm r (fun c57 l58n l58 r => ?_) (fun c57 l58n l58 r => ?_)
    · exact dn_195_113 (P) (fun n2 l2 => hO0 n2 (by omega)) (fun z hz => hR _ hz) x2 (some (.int b9)) jx2 rn_ji r
    · obtain ⟨n59, ln59, r⟩ := rn_steps 1 (115, [some (.ref 540), some (.int b1), x2, some (.int b3), some (.int s0), some (.int b5), some (.int b6), some (.int b7), some (.int b8), some (.int b9)], [.int b8], aa_H g) rfl r
      exact dn_195_115 (P) (fun n2 l2 => hO0 n2 (by omega)) (fun z hz => hR _ hz) x2 (some (.int b5)) (some (.int b9)) jx2 rn_ji rn_ji r
noncomputable def fn_195_75 (g : aa_G) (b1 : Int32) (b3 : Int32) (b4 : Int32) (b5 : Int32) (b8 : Int32) (b9 : Int32) (s0 : Int32) : (Int32 × Int32 × Int32 × Int32 × Int32) ⊕ (Int32 × aa_G) := if b3 < b9 then fn_195_94 g b1 b3 b5 s0 b8 b8 b9 b4 else fn_195_94 g b1 b3 b5 s0 b8 b8 b9 b8
theorem dn_195_75 {v : Option Value} {h : zz_H} {n : Nat} {g : aa_G} {b1 : Int32} {b3 : Int32} {b4 : Int32} {b5 : Int32} {b8 : Int32} {b9 : Int32} {s0 : Int32} (P : (Int32 × Int32 × Int32 × Int32 × Int32) ⊕ (Int32 × aa_G) → Prop) (hO0 : ∀ n2, n2 < n → ∀ (yb4 : Int32) (yb5 : Int32) (yb6 : Int32) (yb7 : Int32) (yb8 : Int32) (yx2 yx9 : Option Value) (_ : rn_jk yx2) (_ : rn_jk yx9), rn_s n2 195 (21, [some (.ref 540), some (.int b1), yx2, some (.int b3), some (.int yb4), some (.int yb5), some (.int yb6), some (.int yb7), some (.int yb8), yx9], [], aa_H g) v h → P (.inl (yb4, yb5, yb6, yb7, yb8))) (hR : ∀ E, iw_s v h E → P (.inr E))  (x2 x6 x7 : Option Value) (jx2 : rn_jk x2) (jx6 : rn_jk x6) (jx7 : rn_jk x7) (r : rn_s n 195 (75, [some (.ref 540), some (.int b1), x2, some (.int b3), some (.int b4), some (.int b5), x6, x7, some (.int b8), some (.int b9)], [.int s0], aa_H g) v h) : P (fn_195_75 g b1 b3 b4 b5 b8 b9 s0) := by
  unfold fn_195_75
  obtain ⟨n42, ln42, r⟩ := rn_steps 4 (84, [some (.ref 540), some (.int b1), x2, some (.int b3), some (.int b4), some (.int b5), some (.int s0), some (.int b8), some (.int b8), some (.int b9)], [.int b3, .int b9], aa_H g) rfl r
  refine rn_ic (P) rfl decide_eq_true_iff.symm r (fun c43 l44n l44 r => ?_) (fun c43 l44n l44 r => ?_)
  · obtain ⟨n45, ln45, r⟩ := rn_steps 0 (94, [some (.ref 540), some (.int b1), x2, some (.int b3), some (.int b4), some (.int b5), some (.int s0), some (.int b8), some (.int b8), some (.int b9)], [.int b4], aa_H g) rfl r
    exact dn_195_94 (P) (fun n2 l2 => hO0 n2 (by omega)) (fun z hz => hR _ hz) x2 (some (.int b4)) jx2 rn_ji r
  · obtain ⟨n46, ln46, r⟩ := rn_steps 1 (94, [some (.ref 540), some (.int b1), x2, some (.int b3), some (.int b4), some (.int b5), some (.int s0), some (.int b8), some (.int b8), some (.int b9)], [.int b8], aa_H g) rfl r
    exact dn_195_94 (P) (fun n2 l2 => hO0 n2 (by omega)) (fun z hz => hR _ hz) x2 (some (.int b4)) jx2 rn_ji r
noncomputable def fn_195_263 (g : aa_G) (s0 : Int32) (s1 : Int32) (s2 : Int32) (s3 : Int32) : Int32 × aa_G := ((fn_196 g s3 s2 s1 s0).1, (fn_196 g s3 s2 s1 s0).2)
theorem dn_195_263 {v : Option Value} {h : zz_H} {n : Nat} {g : aa_G} {s0 : Int32} {s1 : Int32} {s2 : Int32} {s3 : Int32}  (x0 x1 x2 x3 x4 x5 x6 x7 x8 x9 : Option Value) (jx0 : rn_jk x0) (jx1 : rn_jk x1) (jx2 : rn_jk x2) (jx3 : rn_jk x3) (jx4 : rn_jk x4) (jx5 : rn_jk x5) (jx6 : rn_jk x6) (jx7 : rn_jk x7) (jx8 : rn_jk x8) (jx9 : rn_jk x9) (r : rn_s n 195 (263, [x0, x1, x2, x3, x4, x5, x6, x7, x8, x9], [.int s0, .int s1, .int s2, .int s3, .ref 540], aa_H g) v h) : iw_s v h (fn_195_263 g s0 s1 s2 s3) := by
  unfold fn_195_263
  obtain ⟨_, n87, v1, h1, -, ln87, rc, r⟩ := rn_call (m2 := 196) (as := [.ref 540, .int s3, .int s2, .int s1, .int s0]) (rest := []) rfl rfl r
  obtain ⟨rfl, rfl⟩ := dn_196 rc
  have r : rn_s _ 195 (266, [x0, x1, x2, x3, x4, x5, x6, x7, x8, x9], [.int ((fn_196 g s3 s2 s1 s0).1)], aa_H ((fn_196 g s3 s2 s1 s0).2)) v h := r
  exact rn_ire rfl r
noncomputable def fn_195_247 (g : aa_G) (b9 : Int32) (s0 : Int32) (s1 : Int32) (s2 : Int32) : Int32 × aa_G := if 0 ≤ b9 then fn_195_263 g b9 s0 s1 s2 else fn_195_263 g (b9 + 360) s0 s1 s2
theorem dn_195_247 {v : Option Value} {h : zz_H} {n : Nat} {g : aa_G} {b9 : Int32} {s0 : Int32} {s1 : Int32} {s2 : Int32}  (x0 x1 x2 x3 x4 x5 x6 x7 x8 : Option Value) (jx0 : rn_jk x0) (jx1 : rn_jk x1) (jx2 : rn_jk x2) (jx3 : rn_jk x3) (jx4 : rn_jk x4) (jx5 : rn_jk x5) (jx6 : rn_jk x6) (jx7 : rn_jk x7) (jx8 : rn_jk x8) (r : rn_s n 195 (247, [x0, x1, x2, x3, x4, x5, x6, x7, x8, some (.int b9)], [.int s0, .int s1, .int s2, .ref 540], aa_H g) v h) : iw_s v h (fn_195_247 g b9 s0 s1 s2) := by
  unfold fn_195_247
  obtain ⟨n82, ln82, r⟩ := rn_steps 0 (249, [x0, x1, x2, x3, x4, x5, x6, x7, x8, some (.int b9)], [.int b9, .int s0, .int s1, .int s2, .ref 540], aa_H g) rfl r
  refine rn_if (iw_s v h) rfl decide_eq_true_iff.symm r (fun c83 l84n l84 r => ?_) (fun c83 l84n l84 r => ?_)
  · obtain ⟨n85, ln85, r⟩ := rn_steps 0 (263, [x0, x1, x2, x3, x4, x5, x6, x7, x8, some (.int b9)], [.int b9, .int s0, .int s1, .int s2, .ref 540], aa_H g) rfl r
    exact dn_195_263 x0 x1 x2 x3 x4 x5 x6 x7 x8 (some (.int b9)) jx0 jx1 jx2 jx3 jx4 jx5 jx6 jx7 jx8 rn_ji r
  · obtain ⟨n86, ln86, r⟩ := rn_steps 3 (263, [x0, x1, x2, x3, x4, x5, x6, x7, x8, some (.int b9)], [.int (b9 + 360), .int s0, .int s1, .int s2, .ref 540], aa_H g) rfl r
    exact dn_195_263 x0 x1 x2 x3 x4 x5 x6 x7 x8 (some (.int b9)) jx0 jx1 jx2 jx3 jx4 jx5 jx6 jx7 jx8 rn_ji r
noncomputable def fn_195_216 (g : aa_G) (b1 : Int32) (b4 : Int32) (b8 : Int32) (b9 : Int32) (s0 : Int32) : Int32 × aa_G := if 0 ≤ b8 then fn_195_247 g b9 b8 (fn_175 b1 s0) (fn_175 b1 b4) else fn_195_247 g b9 (b8 + 360) (fn_175 b1 s0) (fn_175 b1 b4)
theorem dn_195_216 {v : Option Value} {h : zz_H} {n : Nat} {g : aa_G} {b1 : Int32} {b4 : Int32} {b8 : Int32} {b9 : Int32} {s0 : Int32}  (x2 x3 x5 x6 x7 : Option Value) (jx2 : rn_jk x2) (jx3 : rn_jk x3) (jx5 : rn_jk x5) (jx6 : rn_jk x6) (jx7 : rn_jk x7) (r : rn_s n 195 (216, [some (.ref 540), some (.int b1), x2, x3, some (.int b4), x5, x6, x7, some (.int b8), some (.int b9)], [.int s0], aa_H g) v h) : iw_s v h (fn_195_216 g b1 b4 b8 b9 s0) := by
  unfold fn_195_216
  obtain ⟨n71, ln71, r⟩ := rn_steps 3 (222, [some (.ref 540), some (.int b1), x2, x3, some (.int b4), some (.int s0), x6, x7, some (.int b8), some (.int b9)], [.int b4, .int b1, .ref 540], aa_H g) rfl r
  obtain ⟨_, n72, v1, h1, -, ln72, rc, r⟩ := rn_call (m2 := 175) (as := [.int b1, .int b4]) (rest := [.ref 540]) rfl rfl r
  obtain ⟨rfl, rfl⟩ := dn_175 rc
  have r : rn_s _ 195 (225, [some (.ref 540), some (.int b1), x2, x3, some (.int b4), some (.int s0), x6, x7, some (.int b8), some (.int b9)], [.int (fn_175 b1 b4), .ref 540], aa_H g) v h := r
  obtain ⟨n74, ln74, r⟩ := rn_steps 1 (228, [some (.ref 540), some (.int b1), x2, x3, some (.int b4), some (.int s0), x6, x7, some (.int b8), some (.int b9)], [.int s0, .int b1, .int (fn_175 b1 b4), .ref 540], aa_H g) rfl r
  obtain ⟨_, n75, v1, h1, -, ln75, rc, r⟩ := rn_call (m2 := 175) (as := [.int b1, .int s0]) (rest := [.int (fn_175 b1 b4), .ref 540]) rfl rfl r
  obtain ⟨rfl, rfl⟩ := dn_175 rc
  have r : rn_s _ 195 (231, [some (.ref 540), some (.int b1), x2, x3, some (.int b4), some (.int s0), x6, x7, some (.int b8), some (.int b9)], [.int (fn_175 b1 s0), .int (fn_175 b1 b4), .ref 540], aa_H g) v h := r
  obtain ⟨n77, ln77, r⟩ := rn_steps 0 (233, [some (.ref 540), some (.int b1), x2, x3, some (.int b4), some (.int s0), x6, x7, some (.int b8), some (.int b9)], [.int b8, .int (fn_175 b1 s0), .int (fn_175 b1 b4), .ref 540], aa_H g) rfl r
  refine rn_if (iw_s v h) rfl decide_eq_true_iff.symm r (fun c78 l79n l79 r => ?_) (fun c78 l79n l79 r => ?_)
  · obtain ⟨n80, ln80, r⟩ := rn_steps 0 (247, [some (.ref 540), some (.int b1), x2, x3, some (.int b4), some (.int s0), x6, x7, some (.int b8), some (.int b9)], [.int b8, .int (fn_175 b1 s0), .int (fn_175 b1 b4), .ref 540], aa_H g) rfl r
    exact dn_195_247 (some (.ref 540)) (some (.int b1)) x2 x3 (some (.int b4)) (some (.int s0)) x6 x7 (some (.int b8)) rn_jr rn_ji jx2 jx3 rn_ji rn_ji jx6 jx7 rn_ji r
  · obtain ⟨n81, ln81, r⟩ := rn_steps 3 (247, [some (.ref 540), some (.int b1), x2, x3, some (.int b4), some (.int s0), x6, x7, some (.int b8), some (.int b9)], [.int (b8 + 360), .int (fn_175 b1 s0), .int (fn_175 b1 b4), .ref 540], aa_H g) rfl r
    exact dn_195_247 (some (.ref 540)) (some (.int b1)) x2 x3 (some (.int b4)) (some (.int s0)) x6 x7 (some (.int b8)) rn_jr rn_ji jx2 jx3 rn_ji rn_ji jx6 jx7 rn_ji r
noncomputable def fn_195_195 (g : aa_G) (b1 : Int32) (b3 : Int32) (b4 : Int32) (b5 : Int32) (b6 : Int32) (b8 : Int32) (s0 : Int32) (s1 : Int32) : Int32 × aa_G := if b5 ≠ (-1) then fn_195_216 g b1 b4 b8 ((g 541 (fn_175 s1 s0).toNatClampNeg) - b3) b5 else fn_195_216 g b1 b4 b8 ((g 541 (fn_175 s1 s0).toNatClampNeg) - b3) b6
theorem dn_195_195 {v : Option Value} {h : zz_H} {n : Nat} {g : aa_G} {b1 : Int32} {b3 : Int32} {b4 : Int32} {b5 : Int32} {b6 : Int32} {b8 : Int32} {s0 : Int32} {s1 : Int32}  (x2 x7 x9 : Option Value) (jx2 : rn_jk x2) (jx7 : rn_jk x7) (jx9 : rn_jk x9) (r : rn_s n 195 (195, [some (.ref 540), some (.int b1), x2, some (.int b3), some (.int b4), some (.int b5), some (.int b6), x7, some (.int b8), x9], [.int s0, .int s1, .ref 541], aa_H g) v h) : iw_s v h (fn_195_195 g b1 b3 b4 b5 b6 b8 s0 s1) := by
  unfold fn_195_195
  obtain ⟨_, n60, v1, h1, -, ln60, rc, r⟩ := rn_call (m2 := 175) (as := [.int s1, .int s0]) (rest := [.ref 541]) rfl rfl r
  obtain ⟨rfl, rfl⟩ := dn_175 rc
  have r : rn_s _ 195 (198, [some (.ref 540), some (.int b1), x2, some (.int b3), some (.int b4), some (.int b5), some (.int b6), x7, some (.int b8), x9], [.int (fn_175 s1 s0), .ref 541], aa_H g) v h := r
  obtain ⟨hb63, n62, ln62, r⟩ := rn_ial (k := 541) rfl ⟨by decide, by decide⟩ rfl r
  have r : rn_s _ 195 (199, [some (.ref 540), some (.int b1), x2, some (.int b3), some (.int b4), some (.int b5), some (.int b6), x7, some (.int b8), x9], [.int (g 541 (fn_175 s1 s0).toNatClampNeg)], aa_H g) v h := r
  obtain ⟨n64, ln64, r⟩ := rn_steps 4 (206, [some (.ref 540), some (.int b1), x2, some (.int b3), some (.int b4), some (.int b5), some (.int b6), x7, some (.int b8), some (.int ((g 541 (fn_175 s1 s0).toNatClampNeg) - b3))], [.int (-1), .int b5], aa_H g) rfl r
  refine rn_ic (iw_s v h) rfl decide_eq_true_iff.symm r (fun c65 l66n l66 r => ?_) (fun c65 l66n l66 r => ?_)
  · obtain ⟨n67, ln67, r⟩ := rn_steps 0 (216, [some (.ref 540), some (.int b1), x2, some (.int b3), some (.int b4), some (.int b5), some (.int b6), x7, some (.int b8), some (.int ((g 541 (fn_175 s1 s0).toNatClampNeg) - b3))], [.int b5], aa_H g) rfl r
    exact dn_195_216 x2 (some (.int b3)) (some (.int b5)) (some (.int b6)) x7 jx2 rn_ji rn_ji rn_ji jx7 r
  · obtain ⟨n68, ln68, r⟩ := rn_steps 1 (216, [some (.ref 540), some (.int b1), x2, some (.int b3), some (.int b4), some (.int b5), some (.int b6), x7, some (.int b8), some (.int ((g 541 (fn_175 s1 s0).toNatClampNeg) - b3))], [.int b6], aa_H g) rfl r
    exact dn_195_216 x2 (some (.int b3)) (some (.int b5)) (some (.int b6)) x7 jx2 rn_ji rn_ji rn_ji jx7 r
noncomputable def fn_195_175 (g : aa_G) (b1 : Int32) (b3 : Int32) (b5 : Int32) (b6 : Int32) (b8 : Int32) (s0 : Int32) : Int32 × aa_G := if b5 ≠ (-1) then fn_195_195 g b1 b3 s0 b5 b6 b8 b5 b1 else fn_195_195 g b1 b3 s0 b5 b6 b8 b6 b1
theorem dn_195_175 {v : Option Value} {h : zz_H} {n : Nat} {g : aa_G} {b1 : Int32} {b3 : Int32} {b5 : Int32} {b6 : Int32} {b8 : Int32} {s0 : Int32}  (x2 x4 x7 x9 : Option Value) (jx2 : rn_jk x2) (jx4 : rn_jk x4) (jx7 : rn_jk x7) (jx9 : rn_jk x9) (r : rn_s n 195 (175, [some (.ref 540), some (.int b1), x2, some (.int b3), x4, some (.int b5), some (.int b6), x7, some (.int b8), x9], [.int s0], aa_H g) v h) : iw_s v h (fn_195_175 g b1 b3 b5 b6 b8 s0) := by
  unfold fn_195_175
  obtain ⟨n48, ln48, r⟩ := rn_steps 5 (185, [some (.ref 540), some (.int b1), x2, some (.int b3), some (.int s0), some (.int b5), some (.int b6), x7, some (.int b8), x9], [.int (-1), .int b5, .int b1, .ref 541], aa_H g) rfl r
  refine rn_ic (iw_s v h) rfl decide_eq_true_iff.symm r (fun c49 l50n l50 r => ?_) (fun c49 l50n l50 r => ?_)
  · obtain ⟨n51, ln51, r⟩ := rn_steps 0 (195, [some (.ref 540), some (.int b1), x2, some (.int b3), some (.int s0), some (.int b5), some (.int b6), x7, some (.int b8), x9], [.int b5, .int b1, .ref 541], aa_H g) rfl r
    exact dn_195_195 x2 x7 x9 jx2 jx7 jx9 r
  · obtain ⟨n52, ln52, r⟩ := rn_steps 1 (195, [some (.ref 540), some (.int b1), x2, some (.int b3), some (.int s0), some (.int b5), some (.int b6), x7, some (.int b8), x9], [.int b6, .int b1, .ref 541], aa_H g) rfl r
    exact dn_195_195 x2 x7 x9 jx2 jx7 jx9 r
noncomputable def fn_195_155 (g : aa_G) (b1 : Int32) (b3 : Int32) (b4 : Int32) (b5 : Int32) (b6 : Int32) (b7 : Int32) (s0 : Int32) (s1 : Int32) (s3 : Int32) : Int32 × aa_G := if b4 ≠ (-1) then fn_195_175 g b1 b3 b5 b6 (s3 - (g 541 (fn_175 s1 s0).toNatClampNeg)) b4 else fn_195_175 g b1 b3 b5 b6 (s3 - (g 541 (fn_175 s1 s0).toNatClampNeg)) b7
theorem dn_195_155 {v : Option Value} {h : zz_H} {n : Nat} {g : aa_G} {b1 : Int32} {b3 : Int32} {b4 : Int32} {b5 : Int32} {b6 : Int32} {b7 : Int32} {s0 : Int32} {s1 : Int32} {s3 : Int32}  (x2 x8 x9 : Option Value) (jx2 : rn_jk x2) (jx8 : rn_jk x8) (jx9 : rn_jk x9) (r : rn_s n 195 (155, [some (.ref 540), some (.int b1), x2, some (.int b3), some (.int b4), some (.int b5), some (.int b6), some (.int b7), x8, x9], [.int s0, .int s1, .ref 541, .int s3], aa_H g) v h) : iw_s v h (fn_195_155 g b1 b3 b4 b5 b6 b7 s0 s1 s3) := by
  unfold fn_195_155
  obtain ⟨_, n33, v1, h1, -, ln33, rc, r⟩ := rn_call (m2 := 175) (as := [.int s1, .int s0]) (rest := [.ref 541, .int s3]) rfl rfl r
  obtain ⟨rfl, rfl⟩ := dn_175 rc
  have r : rn_s _ 195 (158, [some (.ref 540), some (.int b1), x2, some (.int b3), some (.int b4), some (.int b5), some (.int b6), some (.int b7), x8, x9], [.int (fn_175 s1 s0), .ref 541, .int s3], aa_H g) v h := r
  obtain ⟨hb36, n35, ln35, r⟩ := rn_ial (k := 541) rfl ⟨by decide, by decide⟩ rfl r
  have r : rn_s _ 195 (159, [some (.ref 540), some (.int b1), x2, some (.int b3), some (.int b4), some (.int b5), some (.int b6), some (.int b7), x8, x9], [.int (g 541 (fn_175 s1 s0).toNatClampNeg), .int s3], aa_H g) v h := r
  obtain ⟨n37, ln37, r⟩ := rn_steps 3 (165, [some (.ref 540), some (.int b1), x2, some (.int b3), some (.int b4), some (.int b5), some (.int b6), some (.int b7), some (.int (s3 - (g 541 (fn_175 s1 s0).toNatClampNeg))), x9], [.int (-1), .int b4], aa_H g) rfl r
  refine rn_ic (iw_s v h) rfl decide_eq_true_iff.symm r (fun c38 l39n l39 r => ?_) (fun c38 l39n l39 r => ?_)
  · obtain ⟨n40, ln40, r⟩ := rn_steps 0 (175, [some (.ref 540), some (.int b1), x2, some (.int b3), some (.int b4), some (.int b5), some (.int b6), some (.int b7), some (.int (s3 - (g 541 (fn_175 s1 s0).toNatClampNeg))), x9], [.int b4], aa_H g) rfl r
    exact dn_195_175 x2 (some (.int b4)) (some (.int b7)) x9 jx2 rn_ji rn_ji jx9 r
  · obtain ⟨n41, ln41, r⟩ := rn_steps 1 (175, [some (.ref 540), some (.int b1), x2, some (.int b3), some (.int b4), some (.int b5), some (.int b6), some (.int b7), some (.int (s3 - (g 541 (fn_175 s1 s0).toNatClampNeg))), x9], [.int b7], aa_H g) rfl r
    exact dn_195_175 x2 (some (.int b4)) (some (.int b7)) x9 jx2 rn_ji rn_ji jx9 r
noncomputable def fn_195_21b (g : aa_G) (b1 : Int32) (b3 : Int32) (b4 : Int32) (b5 : Int32) (b6 : Int32) (b7 : Int32) (b8 : Int32) : (Int32 × Int32 × Int32 × Int32 × Int32) ⊕ (Int32 × aa_G) := if (g 541 ((fn_164 b1) + 1).toNatClampNeg) ≤ b8 then if b6 ≠ (-1) then if b4 ≠ (-1) then .inr (fn_195_155 (zz_w g 540 13 0) b1 b3 b4 b5 b6 b7 b4 b1 b3) else .inr (fn_195_155 (zz_w g 540 13 0) b1 b3 b4 b5 b6 b7 b7 b1 b3) else .inr (0, zz_w g 540 13 0) else if b8 ≠ (g 540 16) then if b6 ≠ (-1) then fn_195_75 g b1 b3 b4 b5 b8 (g 541 (fn_175 b1 b8).toNatClampNeg) b6 else fn_195_75 g b1 b3 b4 b5 b8 (g 541 (fn_175 b1 b8).toNatClampNeg) b8 else fn_195_117 g b1 b3 b4 b5 b6 b7 b8
noncomputable def fn_195_21 (g : aa_G) (b1 : Int32) (b3 : Int32) (b4 : Int32) (b5 : Int32) (b6 : Int32) (b7 : Int32) (b8 : Int32) : Int32 × aa_G := lp_f (0, g) (fun z : (Int32 × Int32 × Int32 × Int32 × Int32) => fn_195_21b g b1 b3 z.1 z.2.1 z.2.2.1 z.2.2.2.1 z.2.2.2.2) (b4, b5, b6, b7, b8)
theorem dn_195_21l {v : Option Value} {h : zz_H} {N : Nat} {g : aa_G} {b1 : Int32} {b3 : Int32} {d : Int32 × aa_G} : ∀ (n : Nat), n ≤ N → ∀ (b4 : Int32) (b5 : Int32) (b6 : Int32) (b7 : Int32) (b8 : Int32) (x2 x9 : Option Value) (jx2 : rn_jk x2) (jx9 : rn_jk x9), rn_s n 195 (21, [some (.ref 540), some (.int b1), x2, some (.int b3), some (.int b4), some (.int b5), some (.int b6), some (.int b7), some (.int b8), x9], [], aa_H g) v h → (iw_s v h) (lp_f d (fun z : (Int32 × Int32 × Int32 × Int32 × Int32) => fn_195_21b g b1 b3 z.1 z.2.1 z.2.2.1 z.2.2.2.1 z.2.2.2.2) (b4, b5, b6, b7, b8)) := by
  generalize hf : (fun z : (Int32 × Int32 × Int32 × Int32 × Int32) => fn_195_21b g b1 b3 z.1 z.2.1 z.2.2.1 z.2.2.2.1 z.2.2.2.2) = f
  intro n
  induction n using Nat.strongRecOn with
  | _ n ih =>
    intro hN b4 b5 b6 b7 b8 x2 x9 jx2 jx9 r
    refine lp_go ?_
    rw [← congrFun hf (b4, b5, b6, b7, b8)]
    show lp_q (iw_s v h) d f (fn_195_21b g b1 b3 b4 b5 b6 b7 b8)
    unfold fn_195_21b
    obtain ⟨n2, ln2, r⟩ := rn_steps 3 (28, [some (.ref 540), some (.int b1), x2, some (.int b3), some (.int b4), some (.int b5), some (.int b6), some (.int b7), some (.int b8), x9], [.int b1, .ref 541, .int b8], aa_H g) rfl r
    obtain ⟨_, n3, v1, h1, -, ln3, rc, r⟩ := rn_call (m2 := 164) (as := [.int b1]) (rest := [.ref 541, .int b8]) rfl rfl r
    obtain ⟨rfl, rfl⟩ := dn_164 rc
    have r : rn_s _ 195 (31, [some (.ref 540), some (.int b1), x2, some (.int b3), some (.int b4), some (.int b5), some (.int b6), some (.int b7), some (.int b8), x9], [.int (fn_164 b1), .ref 541, .int b8], aa_H g) v h := r
    obtain ⟨n5, ln5, r⟩ := rn_steps 1 (33, [some (.ref 540), some (.int b1), x2, some (.int b3), some (.int b4), some (.int b5), some (.int b6), some (.int b7), some (.int b8), x9], [.int ((fn_164 b1) + 1), .ref 541, .int b8], aa_H g) rfl r
    obtain ⟨hb7, n6, ln6, r⟩ := rn_ial (k := 541) rfl ⟨by decide, by decide⟩ rfl r
    have r : rn_s _ 195 (34, [some (.ref 540), some (.int b1), x2, some (.int b3), some (.int b4), some (.int b5), some (.int b6), some (.int b7), some (.int b8), x9], [.int (g 541 ((fn_164 b1) + 1).toNatClampNeg), .int b8], aa_H g) v h := r
    refine rn_ic (lp_q (iw_s v h) d f) rfl decide_eq_true_iff.symm r (fun c8 l9n l9 r => ?_) (fun c8 l9n l9 r => ?_)
    · obtain ⟨n10, ln10, r⟩ := rn_steps 4 (131, [some (.ref 540), some (.int b1), x2, some (.int b3), some (.int b4), some (.int b5), some (.int b6), some (.int b7), some (.int b8), x9], [.int (-1), .int b6], aa_H (zz_w g 540 13 0)) rfl r
      refine rn_ic (lp_q (iw_s v h) d f) rfl decide_eq_true_iff.symm r (fun c11 l12n l12 r => ?_) (fun c11 l12n l12 r => ?_)
      · obtain ⟨n13, ln13, r⟩ := rn_steps 5 (145, [some (.ref 540), some (.int b1), x2, some (.int b3), some (.int b4), some (.int b5), some (.int b6), some (.int b7), some (.int b8), x9], [.int (-1), .int b4, .int b1, .ref 541, .int b3], aa_H (zz_w g 540 13 0)) rfl r
        refine rn_ic (lp_q (iw_s v h) d f) rfl decide_eq_true_iff.symm r (fun c14 l15n l15 r => ?_) (fun c14 l15n l15 r => ?_)
        · obtain ⟨n16, ln16, r⟩ := rn_steps 0 (155, [some (.ref 540), some (.int b1), x2, some (.int b3), some (.int b4), some (.int b5), some (.int b6), some (.int b7), some (.int b8), x9], [.int b4, .int b1, .ref 541, .int b3], aa_H (zz_w g 540 13 0)) rfl r
          exact dn_195_155 x2 (some (.int b8)) x9 jx2 rn_ji jx9 r
        · obtain ⟨n17, ln17, r⟩ := rn_steps 1 (155, [some (.ref 540), some (.int b1), x2, some (.int b3), some (.int b4), some (.int b5), some (.int b6), some (.int b7), some (.int b8), x9], [.int b7, .int b1, .ref 541, .int b3], aa_H (zz_w g 540 13 0)) rfl r
          exact dn_195_155 x2 (some (.int b8)) x9 jx2 rn_ji jx9 r
      · obtain ⟨n18, ln18, r⟩ := rn_steps 0 (135, [some (.ref 540), some (.int b1), x2, some (.int b3), some (.int b4), some (.int b5), some (.int b6), some (.int b7), some (.int b8), x9], [.int 0], aa_H (zz_w g 540 13 0)) rfl r
        exact rn_ire rfl r
    · obtain ⟨n19, ln19, r⟩ := rn_steps 2 (43, [some (.ref 540), some (.int b1), x2, some (.int b3), some (.int b4), some (.int b5), some (.int b6), some (.int b7), some (.int b8), x9], [.int (g 540 16), .int b8], aa_H g) rfl r
      refine rn_ic (lp_q (iw_s v h) d f) rfl decide_eq_true_iff.symm r (fun c20 l21n l21 r => ?_) (fun c20 l21n l21 r => ?_)
      · obtain ⟨n22, ln22, r⟩ := rn_steps 3 (56, [some (.ref 540), some (.int b1), x2, some (.int b3), some (.int b4), some (.int b5), some (.int b6), some (.int b7), some (.int b8), x9], [.int b8, .int b1, .ref 541], aa_H g) rfl r
        obtain ⟨_, n23, v1, h1, -, ln23, rc, r⟩ := rn_call (m2 := 175) (as := [.int b1, .int b8]) (rest := [.ref 541]) rfl rfl r
        obtain ⟨rfl, rfl⟩ := dn_175 rc
        have r : rn_s _ 195 (59, [some (.ref 540), some (.int b1), x2, some (.int b3), some (.int b4), some (.int b5), some (.int b6), some (.int b7), some (.int b8), x9], [.int (fn_175 b1 b8), .ref 541], aa_H g) v h := r
        obtain ⟨hb26, n25, ln25, r⟩ := rn_ial (k := 541) rfl ⟨by decide, by decide⟩ rfl r
        have r : rn_s _ 195 (60, [some (.ref 540), some (.int b1), x2, some (.int b3), some (.int b4), some (.int b5), some (.int b6), some (.int b7), some (.int b8), x9], [.int (g 541 (fn_175 b1 b8).toNatClampNeg)], aa_H g) v h := r
        obtain ⟨n27, ln27, r⟩ := rn_steps 2 (65, [some (.ref 540), some (.int b1), x2, some (.int b3), some (.int b4), some (.int b5), some (.int b6), some (.int b7), some (.int b8), some (.int (g 541 (fn_175 b1 b8).toNatClampNeg))], [.int (-1), .int b6], aa_H g) rfl r
        refine rn_ic (lp_q (iw_s v h) d f) rfl decide_eq_true_iff.symm r (fun c28 l29n l29 r => ?_) (fun c28 l29n l29 r => ?_)
        · obtain ⟨n30, ln30, r⟩ := rn_steps 0 (75, [some (.ref 540), some (.int b1), x2, some (.int b3), some (.int b4), some (.int b5), some (.int b6), some (.int b7), some (.int b8), some (.int (g 541 (fn_175 b1 b8).toNatClampNeg))], [.int b6], aa_H g) rfl r
          exact dn_195_75 (lp_q (iw_s v h) d f) (fun n2 l2 => ih n2 (by omega) (by omega)) (fun z hz => hz) x2 (some (.int b6)) (some (.int b7)) jx2 rn_ji rn_ji r
        · obtain ⟨n31, ln31, r⟩ := rn_steps 1 (75, [some (.ref 540), some (.int b1), x2, some (.int b3), some (.int b4), some (.int b5), some (.int b6), some (.int b7), some (.int b8), some (.int (g 541 (fn_175 b1 b8).toNatClampNeg))], [.int b8], aa_H g) rfl r
          exact dn_195_75 (lp_q (iw_s v h) d f) (fun n2 l2 => ih n2 (by omega) (by omega)) (fun z hz => hz) x2 (some (.int b6)) (some (.int b7)) jx2 rn_ji rn_ji r
      · obtain ⟨n32, ln32, r⟩ := rn_steps 0 (117, [some (.ref 540), some (.int b1), x2, some (.int b3), some (.int b4), some (.int b5), some (.int b6), some (.int b7), some (.int b8), x9], [], aa_H g) rfl r
        exact dn_195_117 (lp_q (iw_s v h) d f) (fun n2 l2 => ih n2 (by omega) (by omega)) (fun z hz => hz) x2 x9 jx2 jx9 r
theorem dn_195_21 {v : Option Value} {h : zz_H} {n : Nat} {g : aa_G} {b1 : Int32} {b3 : Int32} {b4 : Int32} {b5 : Int32} {b6 : Int32} {b7 : Int32} {b8 : Int32}  (x2 x9 : Option Value) (jx2 : rn_jk x2) (jx9 : rn_jk x9) (r : rn_s n 195 (21, [some (.ref 540), some (.int b1), x2, some (.int b3), some (.int b4), some (.int b5), some (.int b6), some (.int b7), some (.int b8), x9], [], aa_H g) v h) : (iw_s v h) (fn_195_21 g b1 b3 b4 b5 b6 b7 b8) := dn_195_21l  n (Nat.le_refl n) b4 b5 b6 b7 b8 x2 x9 jx2 jx9 r
noncomputable def fn_195 (g : aa_G) (a1 : Int32) (a2 : Int32) : Int32 × aa_G := fn_195_21 g a1 (a2 - a2 / 360 * 360) (-1) (-1) (-1) (-1) 0
theorem dn_195 {v : Option Value} {h : zz_H} {n : Nat} {g : aa_G} {a1 : Int32} {a2 : Int32}  (r : rn_s n 195 (0, zz_in [.ref 540, .int a1, .int a2] (zz_nl 195), [], aa_H g) v h) : iw_s v h (fn_195 g a1 a2) := by
  have r : rn_s n 195 (0, [some (.ref 540), some (.int a1), some (.int a2), none, none, none, none, none, none, none], [], aa_H g) v h := r
  unfold fn_195
  obtain ⟨n1, ln1, r⟩ := rn_steps 13 (21, [some (.ref 540), some (.int a1), some (.int a2), some (.int (a2 - a2 / 360 * 360)), some (.int (-1)), some (.int (-1)), some (.int (-1)), some (.int (-1)), some (.int 0), none], [], aa_H g) rfl r
  exact dn_195_21 (some (.int a2)) none rn_ji rn_jn r
-- 154: UnequalHoursModel isIn
noncomputable def fn_154 (a0 : Int32) (a1 : Int32) (a2 : Int32) : Int32 := if a0 < a1 then 0 else if a2 < a0 then 0 else 1
theorem dn_154 {v : Option Value} {h : zz_H} {n : Nat} {g : aa_G} {a0 : Int32} {a1 : Int32} {a2 : Int32}  (r : rn_s n 154 (0, zz_in [.int a0, .int a1, .int a2] (zz_nl 154), [], aa_H g) v h) : ir_s g v h (fn_154 a0 a1 a2) := by
  have r : rn_s n 154 (0, [some (.int a0), some (.int a1), some (.int a2)], [], aa_H g) v h := r
  unfold fn_154
  obtain ⟨n1, ln1, r⟩ := rn_steps 1 (2, [some (.int a0), some (.int a1), some (.int a2)], [.int a1, .int a0], aa_H g) rfl r
  refine rn_ic (ir_s g v h) rfl decide_eq_true_iff.symm r (fun c2 l3n l3 r => ?_) (fun c2 l3n l3 r => ?_)
  · obtain ⟨n4, ln4, r⟩ := rn_steps 0 (15, [some (.int a0), some (.int a1), some (.int a2)], [.int 0], aa_H g) rfl r
    exact rn_ire rfl r
  · obtain ⟨n5, ln5, r⟩ := rn_steps 1 (7, [some (.int a0), some (.int a1), some (.int a2)], [.int a2, .int a0], aa_H g) rfl r
    refine rn_ic (ir_s g v h) rfl decide_eq_true_iff.symm r (fun c6 l7n l7 r => ?_) (fun c6 l7n l7 r => ?_)
    · obtain ⟨n8, ln8, r⟩ := rn_steps 0 (15, [some (.int a0), some (.int a1), some (.int a2)], [.int 0], aa_H g) rfl r
      exact rn_ire rfl r
    · obtain ⟨n9, ln9, r⟩ := rn_steps 1 (15, [some (.int a0), some (.int a1), some (.int a2)], [.int 1], aa_H g) rfl r
      exact rn_ire rfl r
-- 193: UnequalHoursModel isDay
noncomputable def fn_193 (a0 : Int32) : Int32 := fn_154 a0 0 35999
theorem dn_193 {v : Option Value} {h : zz_H} {n : Nat} {g : aa_G} {a0 : Int32}  (r : rn_s n 193 (0, zz_in [.int a0] (zz_nl 193), [], aa_H g) v h) : ir_s g v h (fn_193 a0) := by
  have r : rn_s n 193 (0, [some (.int a0)], [], aa_H g) v h := r
  unfold fn_193
  obtain ⟨n1, ln1, r⟩ := rn_steps 2 (4, [some (.int a0)], [.int 35999, .int 0, .int a0], aa_H g) rfl r
  obtain ⟨_, n2, v1, h1, -, ln2, rc, r⟩ := rn_call (m2 := 154) (as := [.int a0, .int 0, .int 35999]) (rest := []) rfl rfl r
  obtain ⟨rfl, rfl⟩ := dn_154 rc
  have r : rn_s _ 193 (7, [some (.int a0)], [.int (fn_154 a0 0 35999)], aa_H g) v h := r
  exact rn_ire rfl r
-- 194: UnequalHoursModel layHalf
noncomputable def fn_194_77 (g : aa_G) (b3 : Int32) (b4 : Int32) (s0 : Int32) : Int32 × aa_G := if b3 ≠ 0 then (1, zz_w (zz_w g 540 17 s0) 540 18 (b4 - s0)) else (1, zz_w (zz_w g 540 17 s0) 540 18 ((g 540 15) - s0))
theorem dn_194_77 {v : Option Value} {h : zz_H} {n : Nat} {g : aa_G} {b3 : Int32} {b4 : Int32} {s0 : Int32}  (x1 x2 : Option Value) (jx1 : rn_jk x1) (jx2 : rn_jk x2) (r : rn_s n 194 (77, [some (.ref 540), x1, x2, some (.int b3), some (.int b4)], [.int s0, .ref 540], aa_H g) v h) : iw_s v h (fn_194_77 g b3 b4 s0) := by
  unfold fn_194_77
  obtain ⟨n35, ln35, r⟩ := rn_steps 2 (82, [some (.ref 540), x1, x2, some (.int b3), some (.int b4)], [.int b3, .ref 540], aa_H (zz_w g 540 17 s0)) rfl r
  refine rn_if (iw_s v h) rfl decide_eq_true_iff.symm r (fun c36 l37n l37 r => ?_) (fun c36 l37n l37 r => ?_)
  · obtain ⟨n38, ln38, r⟩ := rn_steps 5 (103, [some (.ref 540), x1, x2, some (.int b3), some (.int b4)], [.int 1], aa_H (zz_w (zz_w g 540 17 s0) 540 18 (b4 - s0))) rfl r
    exact rn_ire rfl r
  · obtain ⟨n39, ln39, r⟩ := rn_steps 7 (103, [some (.ref 540), x1, x2, some (.int b3), some (.int b4)], [.int 1], aa_H (zz_w (zz_w g 540 17 s0) 540 18 ((g 540 15) - s0))) rfl r
    exact rn_ire rfl r
noncomputable def fn_194_56 (g : aa_G) (b3 : Int32) (b4 : Int32) (s0 : Int32) : Int32 × aa_G := if s0 ≠ 0 then if b3 ≠ 0 then fn_194_77 g b3 b4 (g 540 15) else fn_194_77 g b3 b4 (g 540 14) else (0, g)
theorem dn_194_56 {v : Option Value} {h : zz_H} {n : Nat} {g : aa_G} {b3 : Int32} {b4 : Int32} {s0 : Int32}  (x1 x2 : Option Value) (jx1 : rn_jk x1) (jx2 : rn_jk x2) (r : rn_s n 194 (56, [some (.ref 540), x1, x2, some (.int b3), some (.int b4)], [.int s0], aa_H g) v h) : iw_s v h (fn_194_56 g b3 b4 s0) := by
  unfold fn_194_56
  refine rn_if (iw_s v h) rfl decide_eq_true_iff.symm r (fun c27 l28n l28 r => ?_) (fun c27 l28n l28 r => ?_)
  · obtain ⟨n29, ln29, r⟩ := rn_steps 1 (63, [some (.ref 540), x1, x2, some (.int b3), some (.int b4)], [.int b3, .ref 540], aa_H g) rfl r
    refine rn_if (iw_s v h) rfl decide_eq_true_iff.symm r (fun c30 l31n l31 r => ?_) (fun c30 l31n l31 r => ?_)
    · obtain ⟨n32, ln32, r⟩ := rn_steps 1 (77, [some (.ref 540), x1, x2, some (.int b3), some (.int b4)], [.int (g 540 15), .ref 540], aa_H g) rfl r
      exact dn_194_77 x1 x2 jx1 jx2 r
    · obtain ⟨n33, ln33, r⟩ := rn_steps 2 (77, [some (.ref 540), x1, x2, some (.int b3), some (.int b4)], [.int (g 540 14), .ref 540], aa_H g) rfl r
      exact dn_194_77 x1 x2 jx1 jx2 r
  · obtain ⟨n34, ln34, r⟩ := rn_steps 0 (60, [some (.ref 540), x1, x2, some (.int b3), some (.int b4)], [.int 0], aa_H g) rfl r
    exact rn_ire rfl r
noncomputable def fn_194_50 (g : aa_G) (b1 : Int32) (b2 : Int32) (b3 : Int32) (b4 : Int32) : Int32 × aa_G := fn_194_56 ((fn_195 g b1 b2).2) b3 b4 ((fn_195 g b1 b2).1)
theorem dn_194_50 {v : Option Value} {h : zz_H} {n : Nat} {g : aa_G} {b1 : Int32} {b2 : Int32} {b3 : Int32} {b4 : Int32}  (r : rn_s n 194 (50, [some (.ref 540), some (.int b1), some (.int b2), some (.int b3), some (.int b4)], [], aa_H g) v h) : iw_s v h (fn_194_50 g b1 b2 b3 b4) := by
  unfold fn_194_50
  obtain ⟨n20, ln20, r⟩ := rn_steps 2 (53, [some (.ref 540), some (.int b1), some (.int b2), some (.int b3), some (.int b4)], [.int b2, .int b1, .ref 540], aa_H g) rfl r
  obtain ⟨_, n21, v1, h1, -, ln21, rc, r⟩ := rn_call (m2 := 195) (as := [.ref 540, .int b1, .int b2]) (rest := []) rfl rfl r
  obtain ⟨rfl, rfl⟩ := dn_195 rc
  have r : rn_s _ 194 (56, [some (.ref 540), some (.int b1), some (.int b2), some (.int b3), some (.int b4)], [.int ((fn_195 g b1 b2).1)], aa_H ((fn_195 g b1 b2).2)) v h := r
  exact dn_194_56 (some (.int b1)) (some (.int b2)) rn_ji rn_ji r
noncomputable def fn_194_36 (g : aa_G) (b1 : Int32) (b2 : Int32) (b3 : Int32) (s0 : Int32) : Int32 × aa_G := if s0 ≠ 0 then fn_194_50 g b1 b2 b3 (86400 + (g 540 14)) else (0, g)
theorem dn_194_36 {v : Option Value} {h : zz_H} {n : Nat} {g : aa_G} {b1 : Int32} {b2 : Int32} {b3 : Int32} {s0 : Int32}  (x4 : Option Value) (jx4 : rn_jk x4) (r : rn_s n 194 (36, [some (.ref 540), some (.int b1), some (.int b2), some (.int b3), x4], [.int s0], aa_H g) v h) : iw_s v h (fn_194_36 g b1 b2 b3 s0) := by
  unfold fn_194_36
  refine rn_if (iw_s v h) rfl decide_eq_true_iff.symm r (fun c23 l24n l24 r => ?_) (fun c23 l24n l24 r => ?_)
  · obtain ⟨n25, ln25, r⟩ := rn_steps 4 (50, [some (.ref 540), some (.int b1), some (.int b2), some (.int b3), some (.int (86400 + (g 540 14)))], [], aa_H g) rfl r
    exact dn_194_50 r
  · obtain ⟨n26, ln26, r⟩ := rn_steps 0 (40, [some (.ref 540), some (.int b1), some (.int b2), some (.int b3), x4], [.int 0], aa_H g) rfl r
    exact rn_ire rfl r
noncomputable def fn_194_20 (g : aa_G) (b1 : Int32) (b2 : Int32) (b3 : Int32) : Int32 × aa_G := if b3 ≠ 1 then fn_194_50 g b1 b2 b3 0 else fn_194_36 ((fn_195 g b1 (b2 + 1)).2) b1 b2 b3 ((fn_195 g b1 (b2 + 1)).1)
theorem dn_194_20 {v : Option Value} {h : zz_H} {n : Nat} {g : aa_G} {b1 : Int32} {b2 : Int32} {b3 : Int32}  (x4 : Option Value) (jx4 : rn_jk x4) (r : rn_s n 194 (20, [some (.ref 540), some (.int b1), some (.int b2), some (.int b3), x4], [], aa_H g) v h) : iw_s v h (fn_194_20 g b1 b2 b3) := by
  unfold fn_194_20
  obtain ⟨n14, ln14, r⟩ := rn_steps 3 (25, [some (.ref 540), some (.int b1), some (.int b2), some (.int b3), some (.int 0)], [.int 1, .int b3], aa_H g) rfl r
  refine rn_ic (iw_s v h) rfl decide_eq_true_iff.symm r (fun c15 l16n l16 r => ?_) (fun c15 l16n l16 r => ?_)
  · exact dn_194_50 r
  · obtain ⟨n17, ln17, r⟩ := rn_steps 4 (33, [some (.ref 540), some (.int b1), some (.int b2), some (.int b3), some (.int 0)], [.int (b2 + 1), .int b1, .ref 540], aa_H g) rfl r
    obtain ⟨_, n18, v1, h1, -, ln18, rc, r⟩ := rn_call (m2 := 195) (as := [.ref 540, .int b1, .int (b2 + 1)]) (rest := []) rfl rfl r
    obtain ⟨rfl, rfl⟩ := dn_195 rc
    have r : rn_s _ 194 (36, [some (.ref 540), some (.int b1), some (.int b2), some (.int b3), some (.int 0)], [.int ((fn_195 g b1 (b2 + 1)).1)], aa_H ((fn_195 g b1 (b2 + 1)).2)) v h := r
    exact dn_194_36 (some (.int 0)) rn_ji r
noncomputable def fn_194 (g : aa_G) (a1 : Int32) (a2 : Int32) (a3 : Int32) : Int32 × aa_G := if (fn_193 a2) = 0 then (0, g) else if a3 ≠ 1 then fn_194_20 g a1 a2 a3 else if a2 ≠ 35999 then fn_194_20 g a1 a2 a3 else (0, g)
theorem dn_194 {v : Option Value} {h : zz_H} {n : Nat} {g : aa_G} {a1 : Int32} {a2 : Int32} {a3 : Int32}  (r : rn_s n 194 (0, zz_in [.ref 540, .int a1, .int a2, .int a3] (zz_nl 194), [], aa_H g) v h) : iw_s v h (fn_194 g a1 a2 a3) := by
  have r : rn_s n 194 (0, [some (.ref 540), some (.int a1), some (.int a2), some (.int a3), none], [], aa_H g) v h := r
  unfold fn_194
  obtain ⟨n1, ln1, r⟩ := rn_steps 0 (1, [some (.ref 540), some (.int a1), some (.int a2), some (.int a3), none], [.int a2], aa_H g) rfl r
  obtain ⟨_, n2, v1, h1, -, ln2, rc, r⟩ := rn_call (m2 := 193) (as := [.int a2]) (rest := []) rfl rfl r
  obtain ⟨rfl, rfl⟩ := dn_193 rc
  have r : rn_s _ 194 (4, [some (.ref 540), some (.int a1), some (.int a2), some (.int a3), none], [.int (fn_193 a2)], aa_H g) v h := r
  refine rn_if (iw_s v h) rfl decide_eq_true_iff.symm r (fun c4 l5n l5 r => ?_) (fun c4 l5n l5 r => ?_)
  · obtain ⟨n6, ln6, r⟩ := rn_steps 0 (19, [some (.ref 540), some (.int a1), some (.int a2), some (.int a3), none], [.int 0], aa_H g) rfl r
    exact rn_ire rfl r
  · obtain ⟨n7, ln7, r⟩ := rn_steps 1 (9, [some (.ref 540), some (.int a1), some (.int a2), some (.int a3), none], [.int 1, .int a3], aa_H g) rfl r
    refine rn_ic (iw_s v h) rfl decide_eq_true_iff.symm r (fun c8 l9n l9 r => ?_) (fun c8 l9n l9 r => ?_)
    · exact dn_194_20 none rn_jn r
    · obtain ⟨n10, ln10, r⟩ := rn_steps 1 (15, [some (.ref 540), some (.int a1), some (.int a2), some (.int a3), none], [.int 35999, .int a2], aa_H g) rfl r
      refine rn_ic (iw_s v h) rfl decide_eq_true_iff.symm r (fun c11 l12n l12 r => ?_) (fun c11 l12n l12 r => ?_)
      · exact dn_194_20 none rn_jn r
      · obtain ⟨n13, ln13, r⟩ := rn_steps 0 (19, [some (.ref 540), some (.int a1), some (.int a2), some (.int a3), none], [.int 0], aa_H g) rfl r
        exact rn_ire rfl r
-- 200: UnequalHoursModel find
noncomputable def fn_200_75 (g : aa_G) (b2 : Int32) (b3 : Int32) (s0 : Int32) : Int32 × aa_G := if s0 ≠ 0 then (1, zz_w g 540 21 ((b3 + (86400 * (b2 - (g 540 20)))) - (g 540 17))) else (0, g)
theorem dn_200_75 {v : Option Value} {h : zz_H} {n : Nat} {g : aa_G} {b2 : Int32} {b3 : Int32} {s0 : Int32}  (x1 : Option Value) (jx1 : rn_jk x1) (r : rn_s n 200 (75, [some (.ref 540), x1, some (.int b2), some (.int b3)], [.int s0], aa_H g) v h) : iw_s v h (fn_200_75 g b2 b3 s0) := by
  unfold fn_200_75
  refine rn_if (iw_s v h) rfl decide_eq_true_iff.symm r (fun c29 l30n l30 r => ?_) (fun c29 l30n l30 r => ?_)
  · obtain ⟨n31, ln31, r⟩ := rn_steps 13 (101, [some (.ref 540), x1, some (.int b2), some (.int b3)], [.int 1], aa_H (zz_w g 540 21 ((b3 + (86400 * (b2 - (g 540 20)))) - (g 540 17)))) rfl r
    exact rn_ire rfl r
  · obtain ⟨n32, ln32, r⟩ := rn_steps 0 (79, [some (.ref 540), x1, some (.int b2), some (.int b3)], [.int 0], aa_H g) rfl r
    exact rn_ire rfl r
noncomputable def fn_200_59 (g : aa_G) (b1 : Int32) (b2 : Int32) (b3 : Int32) (s0 : Int32) : Int32 × aa_G := fn_200_75 ((fn_194 (zz_w g 540 19 s0) b1 (g 540 20) s0).2) b2 b3 ((fn_194 (zz_w g 540 19 s0) b1 (g 540 20) s0).1)
theorem dn_200_59 {v : Option Value} {h : zz_H} {n : Nat} {g : aa_G} {b1 : Int32} {b2 : Int32} {b3 : Int32} {s0 : Int32}  (r : rn_s n 200 (59, [some (.ref 540), some (.int b1), some (.int b2), some (.int b3)], [.int s0, .ref 540], aa_H g) v h) : iw_s v h (fn_200_59 g b1 b2 b3 s0) := by
  unfold fn_200_59
  obtain ⟨n26, ln26, r⟩ := rn_steps 6 (72, [some (.ref 540), some (.int b1), some (.int b2), some (.int b3)], [.int s0, .int (g 540 20), .int b1, .ref 540], aa_H (zz_w g 540 19 s0)) rfl r
  obtain ⟨_, n27, v1, h1, -, ln27, rc, r⟩ := rn_call (m2 := 194) (as := [.ref 540, .int b1, .int (g 540 20), .int s0]) (rest := []) rfl rfl r
  obtain ⟨rfl, rfl⟩ := dn_194 rc
  have r : rn_s _ 200 (75, [some (.ref 540), some (.int b1), some (.int b2), some (.int b3)], [.int ((fn_194 (zz_w g 540 19 s0) b1 (g 540 20) s0).1)], aa_H ((fn_194 (zz_w g 540 19 s0) b1 (g 540 20) s0).2)) v h := r
  exact dn_200_75 (some (.int b1)) rn_ji r
noncomputable def fn_200_58 (g : aa_G) (b1 : Int32) (b2 : Int32) (b3 : Int32) : Int32 × aa_G := fn_200_59 g b1 b2 b3 1
theorem dn_200_58 {v : Option Value} {h : zz_H} {n : Nat} {g : aa_G} {b1 : Int32} {b2 : Int32} {b3 : Int32}  (r : rn_s n 200 (58, [some (.ref 540), some (.int b1), some (.int b2), some (.int b3)], [.ref 540], aa_H g) v h) : iw_s v h (fn_200_58 g b1 b2 b3) := by
  unfold fn_200_58
  obtain ⟨n25, ln25, r⟩ := rn_steps 0 (59, [some (.ref 540), some (.int b1), some (.int b2), some (.int b3)], [.int 1, .ref 540], aa_H g) rfl r
  exact dn_200_59 r
noncomputable def fn_200_34 (g : aa_G) (b1 : Int32) (b2 : Int32) (b3 : Int32) (s0 : Int32) : Int32 × aa_G := if b3 < (g 540 14) then fn_200_58 (zz_w g 540 20 s0) b1 b2 b3 else if (g 540 15) ≤ b3 then fn_200_58 (zz_w g 540 20 s0) b1 b2 b3 else fn_200_59 (zz_w g 540 20 s0) b1 b2 b3 0
theorem dn_200_34 {v : Option Value} {h : zz_H} {n : Nat} {g : aa_G} {b1 : Int32} {b2 : Int32} {b3 : Int32} {s0 : Int32}  (r : rn_s n 200 (34, [some (.ref 540), some (.int b1), some (.int b2), some (.int b3)], [.int s0, .ref 540], aa_H g) v h) : iw_s v h (fn_200_34 g b1 b2 b3 s0) := by
  unfold fn_200_34
  obtain ⟨n18, ln18, r⟩ := rn_steps 4 (43, [some (.ref 540), some (.int b1), some (.int b2), some (.int b3)], [.int (g 540 14), .int b3, .ref 540], aa_H (zz_w g 540 20 s0)) rfl r
  refine rn_ic (iw_s v h) rfl decide_eq_true_iff.symm r (fun c19 l20n l20 r => ?_) (fun c19 l20n l20 r => ?_)
  · exact dn_200_58 r
  · obtain ⟨n21, ln21, r⟩ := rn_steps 2 (51, [some (.ref 540), some (.int b1), some (.int b2), some (.int b3)], [.int (g 540 15), .int b3, .ref 540], aa_H (zz_w g 540 20 s0)) rfl r
    refine rn_ic (iw_s v h) rfl decide_eq_true_iff.symm r (fun c22 l23n l23 r => ?_) (fun c22 l23n l23 r => ?_)
    · exact dn_200_58 r
    · obtain ⟨n24, ln24, r⟩ := rn_steps 1 (59, [some (.ref 540), some (.int b1), some (.int b2), some (.int b3)], [.int 0, .ref 540], aa_H (zz_w g 540 20 s0)) rfl r
      exact dn_200_59 r
noncomputable def fn_200_13 (g : aa_G) (b1 : Int32) (b2 : Int32) (b3 : Int32) (s0 : Int32) : Int32 × aa_G := if s0 ≠ 0 then if (g 540 14) ≤ b3 then fn_200_34 g b1 b2 b3 b2 else fn_200_34 g b1 b2 b3 (b2 - 1) else (0, g)
theorem dn_200_13 {v : Option Value} {h : zz_H} {n : Nat} {g : aa_G} {b1 : Int32} {b2 : Int32} {b3 : Int32} {s0 : Int32}  (r : rn_s n 200 (13, [some (.ref 540), some (.int b1), some (.int b2), some (.int b3)], [.int s0], aa_H g) v h) : iw_s v h (fn_200_13 g b1 b2 b3 s0) := by
  unfold fn_200_13
  refine rn_if (iw_s v h) rfl decide_eq_true_iff.symm r (fun c10 l11n l11 r => ?_) (fun c10 l11n l11 r => ?_)
  · obtain ⟨n12, ln12, r⟩ := rn_steps 3 (24, [some (.ref 540), some (.int b1), some (.int b2), some (.int b3)], [.int (g 540 14), .int b3, .ref 540], aa_H g) rfl r
    refine rn_ic (iw_s v h) rfl decide_eq_true_iff.symm r (fun c13 l14n l14 r => ?_) (fun c13 l14n l14 r => ?_)
    · obtain ⟨n15, ln15, r⟩ := rn_steps 0 (34, [some (.ref 540), some (.int b1), some (.int b2), some (.int b3)], [.int b2, .ref 540], aa_H g) rfl r
      exact dn_200_34 r
    · obtain ⟨n16, ln16, r⟩ := rn_steps 3 (34, [some (.ref 540), some (.int b1), some (.int b2), some (.int b3)], [.int (b2 - 1), .ref 540], aa_H g) rfl r
      exact dn_200_34 r
  · obtain ⟨n17, ln17, r⟩ := rn_steps 0 (17, [some (.ref 540), some (.int b1), some (.int b2), some (.int b3)], [.int 0], aa_H g) rfl r
    exact rn_ire rfl r
noncomputable def fn_200 (g : aa_G) (a1 : Int32) (a2 : Int32) (a3 : Int32) : Int32 × aa_G := if (fn_193 a2) = 0 then (0, g) else fn_200_13 ((fn_195 g a1 a2).2) a1 a2 a3 ((fn_195 g a1 a2).1)
theorem dn_200 {v : Option Value} {h : zz_H} {n : Nat} {g : aa_G} {a1 : Int32} {a2 : Int32} {a3 : Int32}  (r : rn_s n 200 (0, zz_in [.ref 540, .int a1, .int a2, .int a3] (zz_nl 200), [], aa_H g) v h) : iw_s v h (fn_200 g a1 a2 a3) := by
  have r : rn_s n 200 (0, [some (.ref 540), some (.int a1), some (.int a2), some (.int a3)], [], aa_H g) v h := r
  unfold fn_200
  obtain ⟨n1, ln1, r⟩ := rn_steps 0 (1, [some (.ref 540), some (.int a1), some (.int a2), some (.int a3)], [.int a2], aa_H g) rfl r
  obtain ⟨_, n2, v1, h1, -, ln2, rc, r⟩ := rn_call (m2 := 193) (as := [.int a2]) (rest := []) rfl rfl r
  obtain ⟨rfl, rfl⟩ := dn_193 rc
  have r : rn_s _ 200 (4, [some (.ref 540), some (.int a1), some (.int a2), some (.int a3)], [.int (fn_193 a2)], aa_H g) v h := r
  refine rn_if (iw_s v h) rfl decide_eq_true_iff.symm r (fun c4 l5n l5 r => ?_) (fun c4 l5n l5 r => ?_)
  · obtain ⟨n6, ln6, r⟩ := rn_steps 0 (17, [some (.ref 540), some (.int a1), some (.int a2), some (.int a3)], [.int 0], aa_H g) rfl r
    exact rn_ire rfl r
  · obtain ⟨n7, ln7, r⟩ := rn_steps 2 (10, [some (.ref 540), some (.int a1), some (.int a2), some (.int a3)], [.int a2, .int a1, .ref 540], aa_H g) rfl r
    obtain ⟨_, n8, v1, h1, -, ln8, rc, r⟩ := rn_call (m2 := 195) (as := [.ref 540, .int a1, .int a2]) (rest := []) rfl rfl r
    obtain ⟨rfl, rfl⟩ := dn_195 rc
    have r : rn_s _ 200 (13, [some (.ref 540), some (.int a1), some (.int a2), some (.int a3)], [.int ((fn_195 g a1 a2).1)], aa_H ((fn_195 g a1 a2).2)) v h := r
    exact dn_200_13 r
-- 192: UnequalHoursModel isTown
noncomputable def fn_192 (g : aa_G) (a1 : Int32) : Int32 := fn_154 a1 0 ((g 541 (0 : Int32).toNatClampNeg) - 1)
theorem dn_192 {v : Option Value} {h : zz_H} {n : Nat} {g : aa_G} {a1 : Int32}  (r : rn_s n 192 (0, zz_in [.ref 540, .int a1] (zz_nl 192), [], aa_H g) v h) : ir_s g v h (fn_192 g a1) := by
  have r : rn_s n 192 (0, [some (.ref 540), some (.int a1)], [], aa_H g) v h := r
  unfold fn_192
  obtain ⟨n1, ln1, r⟩ := rn_steps 4 (7, [some (.ref 540), some (.int a1)], [.int 0, .ref 541, .int 0, .int a1], aa_H g) rfl r
  obtain ⟨hb3, n2, ln2, r⟩ := rn_ial (k := 541) rfl ⟨by decide, by decide⟩ rfl r
  have r : rn_s _ 192 (8, [some (.ref 540), some (.int a1)], [.int (g 541 (0 : Int32).toNatClampNeg), .int 0, .int a1], aa_H g) v h := r
  obtain ⟨n4, ln4, r⟩ := rn_steps 1 (10, [some (.ref 540), some (.int a1)], [.int ((g 541 (0 : Int32).toNatClampNeg) - 1), .int 0, .int a1], aa_H g) rfl r
  obtain ⟨_, n5, v1, h1, -, ln5, rc, r⟩ := rn_call (m2 := 154) (as := [.int a1, .int 0, .int ((g 541 (0 : Int32).toNatClampNeg) - 1)]) (rest := []) rfl rfl r
  obtain ⟨rfl, rfl⟩ := dn_154 rc
  have r : rn_s _ 192 (13, [some (.ref 540), some (.int a1)], [.int (fn_154 a1 0 ((g 541 (0 : Int32).toNatClampNeg) - 1))], aa_H g) v h := r
  exact rn_ire rfl r
-- 191: UnequalHoursModel canAsk
noncomputable def fn_191 (g : aa_G) (a1 : Int32) (a2 : Int32) : Int32 := if (fn_192 g a1) = 0 then 0 else if (fn_193 a2) = 0 then 0 else 1
theorem dn_191 {v : Option Value} {h : zz_H} {n : Nat} {g : aa_G} {a1 : Int32} {a2 : Int32}  (r : rn_s n 191 (0, zz_in [.ref 540, .int a1, .int a2] (zz_nl 191), [], aa_H g) v h) : ir_s g v h (fn_191 g a1 a2) := by
  have r : rn_s n 191 (0, [some (.ref 540), some (.int a1), some (.int a2)], [], aa_H g) v h := r
  unfold fn_191
  obtain ⟨n1, ln1, r⟩ := rn_steps 1 (2, [some (.ref 540), some (.int a1), some (.int a2)], [.int a1, .ref 540], aa_H g) rfl r
  obtain ⟨_, n2, v1, h1, -, ln2, rc, r⟩ := rn_call (m2 := 192) (as := [.ref 540, .int a1]) (rest := []) rfl rfl r
  obtain ⟨rfl, rfl⟩ := dn_192 rc
  have r : rn_s _ 191 (5, [some (.ref 540), some (.int a1), some (.int a2)], [.int (fn_192 g a1)], aa_H g) v h := r
  refine rn_if (ir_s g v h) rfl decide_eq_true_iff.symm r (fun c4 l5n l5 r => ?_) (fun c4 l5n l5 r => ?_)
  · obtain ⟨n6, ln6, r⟩ := rn_steps 0 (20, [some (.ref 540), some (.int a1), some (.int a2)], [.int 0], aa_H g) rfl r
    exact rn_ire rfl r
  · obtain ⟨n7, ln7, r⟩ := rn_steps 0 (9, [some (.ref 540), some (.int a1), some (.int a2)], [.int a2], aa_H g) rfl r
    obtain ⟨_, n8, v1, h1, -, ln8, rc, r⟩ := rn_call (m2 := 193) (as := [.int a2]) (rest := []) rfl rfl r
    obtain ⟨rfl, rfl⟩ := dn_193 rc
    have r : rn_s _ 191 (12, [some (.ref 540), some (.int a1), some (.int a2)], [.int (fn_193 a2)], aa_H g) v h := r
    refine rn_if (ir_s g v h) rfl decide_eq_true_iff.symm r (fun c10 l11n l11 r => ?_) (fun c10 l11n l11 r => ?_)
    · obtain ⟨n12, ln12, r⟩ := rn_steps 0 (20, [some (.ref 540), some (.int a1), some (.int a2)], [.int 0], aa_H g) rfl r
      exact rn_ire rfl r
    · obtain ⟨n13, ln13, r⟩ := rn_steps 1 (20, [some (.ref 540), some (.int a1), some (.int a2)], [.int 1], aa_H g) rfl r
      exact rn_ire rfl r
-- 204: UnequalHoursModel isPlace
noncomputable def fn_204 (g : aa_G) (a1 : Int32) (a2 : Int32) : Int32 := if (fn_154 a1 0 1) = 0 then 0 else if (fn_154 a2 0 ((12 * (g 541 (1 : Int32).toNatClampNeg)) - 1)) = 0 then 0 else 1
theorem dn_204 {v : Option Value} {h : zz_H} {n : Nat} {g : aa_G} {a1 : Int32} {a2 : Int32}  (r : rn_s n 204 (0, zz_in [.ref 540, .int a1, .int a2] (zz_nl 204), [], aa_H g) v h) : ir_s g v h (fn_204 g a1 a2) := by
  have r : rn_s n 204 (0, [some (.ref 540), some (.int a1), some (.int a2)], [], aa_H g) v h := r
  unfold fn_204
  obtain ⟨n1, ln1, r⟩ := rn_steps 2 (3, [some (.ref 540), some (.int a1), some (.int a2)], [.int 1, .int 0, .int a1], aa_H g) rfl r
  obtain ⟨_, n2, v1, h1, -, ln2, rc, r⟩ := rn_call (m2 := 154) (as := [.int a1, .int 0, .int 1]) (rest := []) rfl rfl r
  obtain ⟨rfl, rfl⟩ := dn_154 rc
  have r : rn_s _ 204 (6, [some (.ref 540), some (.int a1), some (.int a2)], [.int (fn_154 a1 0 1)], aa_H g) v h := r
  refine rn_if (ir_s g v h) rfl decide_eq_true_iff.symm r (fun c4 l5n l5 r => ?_) (fun c4 l5n l5 r => ?_)
  · obtain ⟨n6, ln6, r⟩ := rn_steps 0 (33, [some (.ref 540), some (.int a1), some (.int a2)], [.int 0], aa_H g) rfl r
    exact rn_ire rfl r
  · obtain ⟨n7, ln7, r⟩ := rn_steps 5 (18, [some (.ref 540), some (.int a1), some (.int a2)], [.int 1, .ref 541, .int 12, .int 0, .int a2], aa_H g) rfl r
    obtain ⟨hb9, n8, ln8, r⟩ := rn_ial (k := 541) rfl ⟨by decide, by decide⟩ rfl r
    have r : rn_s _ 204 (19, [some (.ref 540), some (.int a1), some (.int a2)], [.int (g 541 (1 : Int32).toNatClampNeg), .int 12, .int 0, .int a2], aa_H g) v h := r
    obtain ⟨n10, ln10, r⟩ := rn_steps 2 (22, [some (.ref 540), some (.int a1), some (.int a2)], [.int ((12 * (g 541 (1 : Int32).toNatClampNeg)) - 1), .int 0, .int a2], aa_H g) rfl r
    obtain ⟨_, n11, v1, h1, -, ln11, rc, r⟩ := rn_call (m2 := 154) (as := [.int a2, .int 0, .int ((12 * (g 541 (1 : Int32).toNatClampNeg)) - 1)]) (rest := []) rfl rfl r
    obtain ⟨rfl, rfl⟩ := dn_154 rc
    have r : rn_s _ 204 (25, [some (.ref 540), some (.int a1), some (.int a2)], [.int (fn_154 a2 0 ((12 * (g 541 (1 : Int32).toNatClampNeg)) - 1))], aa_H g) v h := r
    refine rn_if (ir_s g v h) rfl decide_eq_true_iff.symm r (fun c13 l14n l14 r => ?_) (fun c13 l14n l14 r => ?_)
    · obtain ⟨n15, ln15, r⟩ := rn_steps 0 (33, [some (.ref 540), some (.int a1), some (.int a2)], [.int 0], aa_H g) rfl r
      exact rn_ire rfl r
    · obtain ⟨n16, ln16, r⟩ := rn_steps 1 (33, [some (.ref 540), some (.int a1), some (.int a2)], [.int 1], aa_H g) rfl r
      exact rn_ire rfl r
-- 206: UnequalHoursModel sincePlace
noncomputable def fn_206 (g : aa_G) (a1 : Int32) : Int32 := ((((a1.toInt64 * ((g 540 18).toInt64)) + (12 * ((g 541 (1 : Int32).toNatClampNeg).toInt64))) - 1) / (12 * ((g 541 (1 : Int32).toNatClampNeg).toInt64))).toInt32
theorem dn_206 {v : Option Value} {h : zz_H} {n : Nat} {g : aa_G} {a1 : Int32}  (r : rn_s n 206 (0, zz_in [.ref 540, .int a1] (zz_nl 206), [], aa_H g) v h) : ir_s g v h (fn_206 g a1) := by
  have r : rn_s n 206 (0, [some (.ref 540), some (.int a1), none, none], [], aa_H g) v h := r
  unfold fn_206
  obtain ⟨n1, ln1, r⟩ := rn_steps 3 (8, [some (.ref 540), some (.int a1), none, none], [.int 1, .ref 541, .long 12], aa_H g) rfl r
  obtain ⟨hb3, n2, ln2, r⟩ := rn_ial (k := 541) rfl ⟨by decide, by decide⟩ rfl r
  have r : rn_s _ 206 (9, [some (.ref 540), some (.int a1), none, none], [.int (g 541 (1 : Int32).toNatClampNeg), .long 12], aa_H g) v h := r
  obtain ⟨n4, ln4, r⟩ := rn_steps 13 (25, [some (.ref 540), some (.int a1), some (.long (12 * ((g 541 (1 : Int32).toNatClampNeg).toInt64))), none], [.long (12 * ((g 541 (1 : Int32).toNatClampNeg).toInt64)), .long (((a1.toInt64 * ((g 540 18).toInt64)) + (12 * ((g 541 (1 : Int32).toNatClampNeg).toInt64))) - 1)], aa_H g) rfl r
  obtain ⟨hd6, n5, ln5, r⟩ := rn_ldiv rfl r
  have r : rn_s _ 206 (26, [some (.ref 540), some (.int a1), some (.long (12 * ((g 541 (1 : Int32).toNatClampNeg).toInt64))), none], [.long ((((a1.toInt64 * ((g 540 18).toInt64)) + (12 * ((g 541 (1 : Int32).toNatClampNeg).toInt64))) - 1) / (12 * ((g 541 (1 : Int32).toNatClampNeg).toInt64)))], aa_H g) v h := r
  obtain ⟨n7, ln7, r⟩ := rn_steps 0 (27, [some (.ref 540), some (.int a1), some (.long (12 * ((g 541 (1 : Int32).toNatClampNeg).toInt64))), none], [.int (((((a1.toInt64 * ((g 540 18).toInt64)) + (12 * ((g 541 (1 : Int32).toNatClampNeg).toInt64))) - 1) / (12 * ((g 541 (1 : Int32).toNatClampNeg).toInt64))).toInt32)], aa_H g) rfl r
  exact rn_ire rfl r
-- 205: UnequalHoursModel backOf
noncomputable def fn_205_7 (g : aa_G) (b4 : Int32) (s0 : Int32) : Int32 × aa_G := if s0 ≠ 0 then if (g 540 18) ≤ (fn_206 g b4) then (-2, g) else ((g 540 17) + (fn_206 g b4), g) else (-2, g)
theorem dn_205_7 {v : Option Value} {h : zz_H} {n : Nat} {g : aa_G} {b4 : Int32} {s0 : Int32}  (x1 x2 x3 x5 : Option Value) (jx1 : rn_jk x1) (jx2 : rn_jk x2) (jx3 : rn_jk x3) (jx5 : rn_jk x5) (r : rn_s n 205 (7, [some (.ref 540), x1, x2, x3, some (.int b4), x5], [.int s0], aa_H g) v h) : iw_s v h (fn_205_7 g b4 s0) := by
  unfold fn_205_7
  refine rn_if (iw_s v h) rfl decide_eq_true_iff.symm r (fun c4 l5n l5 r => ?_) (fun c4 l5n l5 r => ?_)
  · obtain ⟨n6, ln6, r⟩ := rn_steps 1 (16, [some (.ref 540), x1, x2, x3, some (.int b4), x5], [.int b4, .ref 540], aa_H g) rfl r
    obtain ⟨_, n7, v1, h1, -, ln7, rc, r⟩ := rn_call (m2 := 206) (as := [.ref 540, .int b4]) (rest := []) rfl rfl r
    obtain ⟨rfl, rfl⟩ := dn_206 rc
    have r : rn_s _ 205 (19, [some (.ref 540), x1, x2, x3, some (.int b4), x5], [.int (fn_206 g b4)], aa_H g) v h := r
    obtain ⟨n9, ln9, r⟩ := rn_steps 3 (27, [some (.ref 540), x1, x2, x3, some (.int b4), some (.int (fn_206 g b4))], [.int (g 540 18), .int (fn_206 g b4)], aa_H g) rfl r
    refine rn_ic (iw_s v h) rfl decide_eq_true_iff.symm r (fun c10 l11n l11 r => ?_) (fun c10 l11n l11 r => ?_)
    · obtain ⟨n12, ln12, r⟩ := rn_steps 0 (42, [some (.ref 540), x1, x2, x3, some (.int b4), some (.int (fn_206 g b4))], [.int (-2)], aa_H g) rfl r
      exact rn_ire rfl r
    · obtain ⟨n13, ln13, r⟩ := rn_steps 4 (42, [some (.ref 540), x1, x2, x3, some (.int b4), some (.int (fn_206 g b4))], [.int ((g 540 17) + (fn_206 g b4))], aa_H g) rfl r
      exact rn_ire rfl r
  · obtain ⟨n14, ln14, r⟩ := rn_steps 0 (12, [some (.ref 540), x1, x2, x3, some (.int b4), x5], [.int (-2)], aa_H g) rfl r
    exact rn_ire rfl r
noncomputable def fn_205 (g : aa_G) (a1 : Int32) (a2 : Int32) (a3 : Int32) (a4 : Int32) : Int32 × aa_G := fn_205_7 ((fn_194 g a1 a2 a3).2) a4 ((fn_194 g a1 a2 a3).1)
theorem dn_205 {v : Option Value} {h : zz_H} {n : Nat} {g : aa_G} {a1 : Int32} {a2 : Int32} {a3 : Int32} {a4 : Int32}  (r : rn_s n 205 (0, zz_in [.ref 540, .int a1, .int a2, .int a3, .int a4] (zz_nl 205), [], aa_H g) v h) : iw_s v h (fn_205 g a1 a2 a3 a4) := by
  have r : rn_s n 205 (0, [some (.ref 540), some (.int a1), some (.int a2), some (.int a3), some (.int a4), none], [], aa_H g) v h := r
  unfold fn_205
  obtain ⟨n1, ln1, r⟩ := rn_steps 3 (4, [some (.ref 540), some (.int a1), some (.int a2), some (.int a3), some (.int a4), none], [.int a3, .int a2, .int a1, .ref 540], aa_H g) rfl r
  obtain ⟨_, n2, v1, h1, -, ln2, rc, r⟩ := rn_call (m2 := 194) (as := [.ref 540, .int a1, .int a2, .int a3]) (rest := []) rfl rfl r
  obtain ⟨rfl, rfl⟩ := dn_194 rc
  have r : rn_s _ 205 (7, [some (.ref 540), some (.int a1), some (.int a2), some (.int a3), some (.int a4), none], [.int ((fn_194 g a1 a2 a3).1)], aa_H ((fn_194 g a1 a2 a3).2)) v h := r
  exact dn_205_7 (some (.int a1)) (some (.int a2)) (some (.int a3)) none rn_ji rn_ji rn_ji rn_jn r
-- 202: UnequalHoursModel placeOf
noncomputable def fn_202 (g : aa_G) (a1 : Int32) : Int32 := (((a1.toInt64 * 12) * ((g 541 (1 : Int32).toNatClampNeg).toInt64)) / ((g 540 18).toInt64)).toInt32
theorem dn_202 {v : Option Value} {h : zz_H} {n : Nat} {g : aa_G} {a1 : Int32}  (r : rn_s n 202 (0, zz_in [.ref 540, .int a1] (zz_nl 202), [], aa_H g) v h) : ir_s g v h (fn_202 g a1) := by
  have r : rn_s n 202 (0, [some (.ref 540), some (.int a1)], [], aa_H g) v h := r
  unfold fn_202
  obtain ⟨n1, ln1, r⟩ := rn_steps 6 (11, [some (.ref 540), some (.int a1)], [.int 1, .ref 541, .long (a1.toInt64 * 12)], aa_H g) rfl r
  obtain ⟨hb3, n2, ln2, r⟩ := rn_ial (k := 541) rfl ⟨by decide, by decide⟩ rfl r
  have r : rn_s _ 202 (12, [some (.ref 540), some (.int a1)], [.int (g 541 (1 : Int32).toNatClampNeg), .long (a1.toInt64 * 12)], aa_H g) v h := r
  obtain ⟨n4, ln4, r⟩ := rn_steps 4 (19, [some (.ref 540), some (.int a1)], [.long ((g 540 18).toInt64), .long ((a1.toInt64 * 12) * ((g 541 (1 : Int32).toNatClampNeg).toInt64))], aa_H g) rfl r
  obtain ⟨hd6, n5, ln5, r⟩ := rn_ldiv rfl r
  have r : rn_s _ 202 (20, [some (.ref 540), some (.int a1)], [.long (((a1.toInt64 * 12) * ((g 541 (1 : Int32).toNatClampNeg).toInt64)) / ((g 540 18).toInt64))], aa_H g) v h := r
  obtain ⟨n7, ln7, r⟩ := rn_steps 0 (21, [some (.ref 540), some (.int a1)], [.int ((((a1.toInt64 * 12) * ((g 541 (1 : Int32).toNatClampNeg).toInt64)) / ((g 540 18).toInt64)).toInt32)], aa_H g) rfl r
  exact rn_ire rfl r
-- 201: UnequalHoursModel tells
noncomputable def fn_201 (g : aa_G) (a1 : Int32) : Int32 := if a1.toInt = 0 then g 540 20 else if a1.toInt = 1 then g 540 19 else if a1.toInt = 2 then (fn_202 g (g 540 21)) / (g 541 (1 : Int32).toNatClampNeg) else if a1.toInt = 3 then (fn_202 g (g 540 21)) - (fn_202 g (g 540 21)) / (g 541 (1 : Int32).toNatClampNeg) * (g 541 (1 : Int32).toNatClampNeg) else if a1.toInt = 4 then fn_202 g (g 540 21) else g 540 21
theorem dn_201 {v : Option Value} {h : zz_H} {n : Nat} {g : aa_G} {a1 : Int32}  (r : rn_s n 201 (0, zz_in [.ref 540, .int a1] (zz_nl 201), [], aa_H g) v h) : ir_s g v h (fn_201 g a1) := by
  have r : rn_s n 201 (0, [some (.ref 540), some (.int a1)], [], aa_H g) v h := r
  unfold fn_201
  obtain ⟨n1, ln1, r⟩ := rn_steps 0 (1, [some (.ref 540), some (.int a1)], [.int a1], aa_H g) rfl r
  obtain ⟨n2, ln2, r⟩ := rn_swi rfl r
  refine rn_sw1 (ir_s g v h) r (fun c3 r => ?_) (fun c3 r => ?_)
  · have r : rn_s _ 201 (36, [some (.ref 540), some (.int a1)], [], aa_H g) v h := r
    obtain ⟨n4, ln4, r⟩ := rn_steps 1 (40, [some (.ref 540), some (.int a1)], [.int (g 540 20)], aa_H g) rfl r
    exact rn_ire rfl r
  · refine rn_sw1 (ir_s g v h) r (fun c5 r => ?_) (fun c5 r => ?_)
    · have r : rn_s _ 201 (41, [some (.ref 540), some (.int a1)], [], aa_H g) v h := r
      obtain ⟨n6, ln6, r⟩ := rn_steps 1 (45, [some (.ref 540), some (.int a1)], [.int (g 540 19)], aa_H g) rfl r
      exact rn_ire rfl r
    · refine rn_sw1 (ir_s g v h) r (fun c7 r => ?_) (fun c7 r => ?_)
      · have r : rn_s _ 201 (46, [some (.ref 540), some (.int a1)], [], aa_H g) v h := r
        obtain ⟨n8, ln8, r⟩ := rn_steps 2 (51, [some (.ref 540), some (.int a1)], [.int (g 540 21), .ref 540], aa_H g) rfl r
        obtain ⟨_, n9, v1, h1, -, ln9, rc, r⟩ := rn_call (m2 := 202) (as := [.ref 540, .int (g 540 21)]) (rest := []) rfl rfl r
        obtain ⟨rfl, rfl⟩ := dn_202 rc
        have r : rn_s _ 201 (54, [some (.ref 540), some (.int a1)], [.int (fn_202 g (g 540 21))], aa_H g) v h := r
        obtain ⟨n11, ln11, r⟩ := rn_steps 2 (59, [some (.ref 540), some (.int a1)], [.int 1, .ref 541, .int (fn_202 g (g 540 21))], aa_H g) rfl r
        obtain ⟨hb13, n12, ln12, r⟩ := rn_ial (k := 541) rfl ⟨by decide, by decide⟩ rfl r
        have r : rn_s _ 201 (60, [some (.ref 540), some (.int a1)], [.int (g 541 (1 : Int32).toNatClampNeg), .int (fn_202 g (g 540 21))], aa_H g) v h := r
        obtain ⟨hd15, n14, ln14, r⟩ := rn_div rfl r
        have r : rn_s _ 201 (61, [some (.ref 540), some (.int a1)], [.int ((fn_202 g (g 540 21)) / (g 541 (1 : Int32).toNatClampNeg))], aa_H g) v h := r
        exact rn_ire rfl r
      · refine rn_sw1 (ir_s g v h) r (fun c16 r => ?_) (fun c16 r => ?_)
        · have r : rn_s _ 201 (62, [some (.ref 540), some (.int a1)], [], aa_H g) v h := r
          obtain ⟨n17, ln17, r⟩ := rn_steps 2 (67, [some (.ref 540), some (.int a1)], [.int (g 540 21), .ref 540], aa_H g) rfl r
          obtain ⟨_, n18, v1, h1, -, ln18, rc, r⟩ := rn_call (m2 := 202) (as := [.ref 540, .int (g 540 21)]) (rest := []) rfl rfl r
          obtain ⟨rfl, rfl⟩ := dn_202 rc
          have r : rn_s _ 201 (70, [some (.ref 540), some (.int a1)], [.int (fn_202 g (g 540 21))], aa_H g) v h := r
          obtain ⟨n20, ln20, r⟩ := rn_steps 2 (75, [some (.ref 540), some (.int a1)], [.int 1, .ref 541, .int (fn_202 g (g 540 21))], aa_H g) rfl r
          obtain ⟨hb22, n21, ln21, r⟩ := rn_ial (k := 541) rfl ⟨by decide, by decide⟩ rfl r
          have r : rn_s _ 201 (76, [some (.ref 540), some (.int a1)], [.int (g 541 (1 : Int32).toNatClampNeg), .int (fn_202 g (g 540 21))], aa_H g) v h := r
          obtain ⟨hd24, n23, ln23, r⟩ := rn_rem rfl r
          have r : rn_s _ 201 (77, [some (.ref 540), some (.int a1)], [.int ((fn_202 g (g 540 21)) - (fn_202 g (g 540 21)) / (g 541 (1 : Int32).toNatClampNeg) * (g 541 (1 : Int32).toNatClampNeg))], aa_H g) v h := r
          exact rn_ire rfl r
        · refine rn_sw1 (ir_s g v h) r (fun c25 r => ?_) (fun c25 r => ?_)
          · have r : rn_s _ 201 (78, [some (.ref 540), some (.int a1)], [], aa_H g) v h := r
            obtain ⟨n26, ln26, r⟩ := rn_steps 2 (83, [some (.ref 540), some (.int a1)], [.int (g 540 21), .ref 540], aa_H g) rfl r
            obtain ⟨_, n27, v1, h1, -, ln27, rc, r⟩ := rn_call (m2 := 202) (as := [.ref 540, .int (g 540 21)]) (rest := []) rfl rfl r
            obtain ⟨rfl, rfl⟩ := dn_202 rc
            have r : rn_s _ 201 (86, [some (.ref 540), some (.int a1)], [.int (fn_202 g (g 540 21))], aa_H g) v h := r
            exact rn_ire rfl r
          · have r : rn_s _ 201 (87, [some (.ref 540), some (.int a1)], [], aa_H g) v h := r
            obtain ⟨n29, ln29, r⟩ := rn_steps 1 (91, [some (.ref 540), some (.int a1)], [.int (g 540 21)], aa_H g) rfl r
            exact rn_ire rfl r
-- 209: UnequalHoursModel offsetOf
noncomputable def fn_209 (g : aa_G) (a1 : Int32) : Int32 := g 541 (fn_164 a1).toNatClampNeg
theorem dn_209 {v : Option Value} {h : zz_H} {n : Nat} {g : aa_G} {a1 : Int32}  (r : rn_s n 209 (0, zz_in [.ref 540, .int a1] (zz_nl 209), [], aa_H g) v h) : ir_s g v h (fn_209 g a1) := by
  have r : rn_s n 209 (0, [some (.ref 540), some (.int a1)], [], aa_H g) v h := r
  unfold fn_209
  obtain ⟨n1, ln1, r⟩ := rn_steps 2 (5, [some (.ref 540), some (.int a1)], [.int a1, .ref 541], aa_H g) rfl r
  obtain ⟨_, n2, v1, h1, -, ln2, rc, r⟩ := rn_call (m2 := 164) (as := [.int a1]) (rest := [.ref 541]) rfl rfl r
  obtain ⟨rfl, rfl⟩ := dn_164 rc
  have r : rn_s _ 209 (8, [some (.ref 540), some (.int a1)], [.int (fn_164 a1), .ref 541], aa_H g) v h := r
  obtain ⟨hb5, n4, ln4, r⟩ := rn_ial (k := 541) rfl ⟨by decide, by decide⟩ rfl r
  have r : rn_s _ 209 (9, [some (.ref 540), some (.int a1)], [.int (g 541 (fn_164 a1).toNatClampNeg)], aa_H g) v h := r
  exact rn_ire rfl r
-- 208: UnequalHoursModel goOver
noncomputable def fn_208_54 (g : aa_G) (b2 : Int64) (b4 : Int64) (b7 : Int64) (b9 : Int64) (s0 : Int64) : aa_G := zz_w (zz_w g 540 22 s0.toInt32) 540 23 ((b7 - (s0 * 86400)).toInt32)
theorem dn_208_54 {v : Option Value} {h : zz_H} {n : Nat} {g : aa_G} {b2 : Int64} {b4 : Int64} {b7 : Int64} {b9 : Int64} {s0 : Int64}  (x1 x6 : Option Value) (jx1 : rn_jk x1) (jx6 : rn_jk x6) (r : rn_s n 208 (54, [some (.ref 540), x1, some (.long b2), none, some (.long b4), none, x6, some (.long b7), none, some (.long b9), none], [.long s0], aa_H g) v h) : ig_s v h (fn_208_54 g b2 b4 b7 b9 s0) := by
  unfold fn_208_54
  obtain ⟨n12, ln12, r⟩ := rn_steps 12 (77, [some (.ref 540), x1, some (.long b2), none, some (.long b4), none, x6, some (.long b7), none, some (.long s0), none], [], aa_H (zz_w (zz_w g 540 22 s0.toInt32) 540 23 ((b7 - (s0 * 86400)).toInt32))) rfl r
  exact rn_ret 1 rfl r
noncomputable def fn_208 (g : aa_G) (a1 : Int32) (a2 : Int64) (a3 : Int64) (a4 : Int32) : aa_G := if 0 ≤ (lg_cmp ((((a2 * 86400) + a3) - ((fn_209 g a1).toInt64)) + ((fn_209 g a4).toInt64)) ((((((a2 * 86400) + a3) - ((fn_209 g a1).toInt64)) + ((fn_209 g a4).toInt64)) / 86400) * 86400)) then fn_208_54 g a2 a3 ((((a2 * 86400) + a3) - ((fn_209 g a1).toInt64)) + ((fn_209 g a4).toInt64)) (((((a2 * 86400) + a3) - ((fn_209 g a1).toInt64)) + ((fn_209 g a4).toInt64)) / 86400) (((((a2 * 86400) + a3) - ((fn_209 g a1).toInt64)) + ((fn_209 g a4).toInt64)) / 86400) else fn_208_54 g a2 a3 ((((a2 * 86400) + a3) - ((fn_209 g a1).toInt64)) + ((fn_209 g a4).toInt64)) (((((a2 * 86400) + a3) - ((fn_209 g a1).toInt64)) + ((fn_209 g a4).toInt64)) / 86400) ((((((a2 * 86400) + a3) - ((fn_209 g a1).toInt64)) + ((fn_209 g a4).toInt64)) / 86400) - 1)
theorem dn_208 {v : Option Value} {h : zz_H} {n : Nat} {g : aa_G} {a1 : Int32} {a2 : Int64} {a3 : Int64} {a4 : Int32}  (r : rn_s n 208 (0, zz_in [.ref 540, .int a1, .long a2, .long a3, .int a4] (zz_nl 208), [], aa_H g) v h) : ig_s v h (fn_208 g a1 a2 a3 a4) := by
  have r : rn_s n 208 (0, [some (.ref 540), some (.int a1), some (.long a2), none, some (.long a3), none, some (.int a4), none, none, none, none], [], aa_H g) v h := r
  unfold fn_208
  obtain ⟨n1, ln1, r⟩ := rn_steps 6 (10, [some (.ref 540), some (.int a1), some (.long a2), none, some (.long a3), none, some (.int a4), none, none, none, none], [.int a1, .ref 540, .long ((a2 * 86400) + a3)], aa_H g) rfl r
  obtain ⟨_, n2, v1, h1, -, ln2, rc, r⟩ := rn_call (m2 := 209) (as := [.ref 540, .int a1]) (rest := [.long ((a2 * 86400) + a3)]) rfl rfl r
  obtain ⟨rfl, rfl⟩ := dn_209 rc
  have r : rn_s _ 208 (13, [some (.ref 540), some (.int a1), some (.long a2), none, some (.long a3), none, some (.int a4), none, none, none, none], [.int (fn_209 g a1), .long ((a2 * 86400) + a3)], aa_H g) v h := r
  obtain ⟨n4, ln4, r⟩ := rn_steps 3 (18, [some (.ref 540), some (.int a1), some (.long a2), none, some (.long a3), none, some (.int a4), none, none, none, none], [.int a4, .ref 540, .long (((a2 * 86400) + a3) - ((fn_209 g a1).toInt64))], aa_H g) rfl r
  obtain ⟨_, n5, v1, h1, -, ln5, rc, r⟩ := rn_call (m2 := 209) (as := [.ref 540, .int a4]) (rest := [.long (((a2 * 86400) + a3) - ((fn_209 g a1).toInt64))]) rfl rfl r
  obtain ⟨rfl, rfl⟩ := dn_209 rc
  have r : rn_s _ 208 (21, [some (.ref 540), some (.int a1), some (.long a2), none, some (.long a3), none, some (.int a4), none, none, none, none], [.int (fn_209 g a4), .long (((a2 * 86400) + a3) - ((fn_209 g a1).toInt64))], aa_H g) v h := r
  obtain ⟨n7, ln7, r⟩ := rn_steps 11 (42, [some (.ref 540), some (.int a1), some (.long a2), none, some (.long a3), none, some (.int a4), some (.long ((((a2 * 86400) + a3) - ((fn_209 g a1).toInt64)) + ((fn_209 g a4).toInt64))), none, some (.long (((((a2 * 86400) + a3) - ((fn_209 g a1).toInt64)) + ((fn_209 g a4).toInt64)) / 86400)), none], [.int (lg_cmp ((((a2 * 86400) + a3) - ((fn_209 g a1).toInt64)) + ((fn_209 g a4).toInt64)) ((((((a2 * 86400) + a3) - ((fn_209 g a1).toInt64)) + ((fn_209 g a4).toInt64)) / 86400) * 86400))], aa_H g) rfl r
  refine rn_if (ig_s v h) rfl decide_eq_true_iff.symm r (fun c8 l9n l9 r => ?_) (fun c8 l9n l9 r => ?_)
  · obtain ⟨n10, ln10, r⟩ := rn_steps 0 (54, [some (.ref 540), some (.int a1), some (.long a2), none, some (.long a3), none, some (.int a4), some (.long ((((a2 * 86400) + a3) - ((fn_209 g a1).toInt64)) + ((fn_209 g a4).toInt64))), none, some (.long (((((a2 * 86400) + a3) - ((fn_209 g a1).toInt64)) + ((fn_209 g a4).toInt64)) / 86400)), none], [.long (((((a2 * 86400) + a3) - ((fn_209 g a1).toInt64)) + ((fn_209 g a4).toInt64)) / 86400)], aa_H g) rfl r
    exact dn_208_54 (some (.int a1)) (some (.int a4)) rn_ji rn_ji r
  · obtain ⟨n11, ln11, r⟩ := rn_steps 3 (54, [some (.ref 540), some (.int a1), some (.long a2), none, some (.long a3), none, some (.int a4), some (.long ((((a2 * 86400) + a3) - ((fn_209 g a1).toInt64)) + ((fn_209 g a4).toInt64))), none, some (.long (((((a2 * 86400) + a3) - ((fn_209 g a1).toInt64)) + ((fn_209 g a4).toInt64)) / 86400)), none], [.long ((((((a2 * 86400) + a3) - ((fn_209 g a1).toInt64)) + ((fn_209 g a4).toInt64)) / 86400) - 1)], aa_H g) rfl r
    exact dn_208_54 (some (.int a1)) (some (.int a4)) rn_ji rn_ji r
-- 199: UnequalHoursModel isSecond
noncomputable def fn_199 (a0 : Int32) : Int32 := fn_154 a0 0 86399
theorem dn_199 {v : Option Value} {h : zz_H} {n : Nat} {g : aa_G} {a0 : Int32}  (r : rn_s n 199 (0, zz_in [.int a0] (zz_nl 199), [], aa_H g) v h) : ir_s g v h (fn_199 a0) := by
  have r : rn_s n 199 (0, [some (.int a0)], [], aa_H g) v h := r
  unfold fn_199
  obtain ⟨n1, ln1, r⟩ := rn_steps 2 (4, [some (.int a0)], [.int 86399, .int 0, .int a0], aa_H g) rfl r
  obtain ⟨_, n2, v1, h1, -, ln2, rc, r⟩ := rn_call (m2 := 154) (as := [.int a0, .int 0, .int 86399]) (rest := []) rfl rfl r
  obtain ⟨rfl, rfl⟩ := dn_154 rc
  have r : rn_s _ 199 (7, [some (.int a0)], [.int (fn_154 a0 0 86399)], aa_H g) v h := r
  exact rn_ire rfl r
-- 207: UnequalHoursModel over
noncomputable def fn_207_50 (g : aa_G) (b5 : Int32) : Int32 × aa_G := if b5 ≠ 0 then (g 540 23, g) else (g 540 22, g)
theorem dn_207_50 {v : Option Value} {h : zz_H} {n : Nat} {g : aa_G} {b5 : Int32}  (x1 x2 x3 x4 : Option Value) (jx1 : rn_jk x1) (jx2 : rn_jk x2) (jx3 : rn_jk x3) (jx4 : rn_jk x4) (r : rn_s n 207 (50, [some (.ref 540), x1, x2, x3, x4, some (.int b5)], [], aa_H g) v h) : iw_s v h (fn_207_50 g b5) := by
  unfold fn_207_50
  obtain ⟨n28, ln28, r⟩ := rn_steps 0 (52, [some (.ref 540), x1, x2, x3, x4, some (.int b5)], [.int b5], aa_H g) rfl r
  refine rn_if (iw_s v h) rfl decide_eq_true_iff.symm r (fun c29 l30n l30 r => ?_) (fun c29 l30n l30 r => ?_)
  · obtain ⟨n31, ln31, r⟩ := rn_steps 1 (66, [some (.ref 540), x1, x2, x3, x4, some (.int b5)], [.int (g 540 23)], aa_H g) rfl r
    exact rn_ire rfl r
  · obtain ⟨n32, ln32, r⟩ := rn_steps 2 (66, [some (.ref 540), x1, x2, x3, x4, some (.int b5)], [.int (g 540 22)], aa_H g) rfl r
    exact rn_ire rfl r
noncomputable def fn_207 (g : aa_G) (a1 : Int32) (a2 : Int32) (a3 : Int32) (a4 : Int32) (a5 : Int32) : Int32 × aa_G := if (fn_191 g a1 a2) = 0 then (-1000000, g) else if (fn_199 a3) = 0 then (-1000000, g) else if (fn_192 g a4) = 0 then (-1000000, g) else if (fn_154 a5 0 1) ≠ 0 then fn_207_50 (fn_208 g a1 a2.toInt64 a3.toInt64 a4) a5 else (-1000000, g)
theorem dn_207 {v : Option Value} {h : zz_H} {n : Nat} {g : aa_G} {a1 : Int32} {a2 : Int32} {a3 : Int32} {a4 : Int32} {a5 : Int32}  (r : rn_s n 207 (0, zz_in [.ref 540, .int a1, .int a2, .int a3, .int a4, .int a5] (zz_nl 207), [], aa_H g) v h) : iw_s v h (fn_207 g a1 a2 a3 a4 a5) := by
  have r : rn_s n 207 (0, [some (.ref 540), some (.int a1), some (.int a2), some (.int a3), some (.int a4), some (.int a5)], [], aa_H g) v h := r
  unfold fn_207
  obtain ⟨n1, ln1, r⟩ := rn_steps 2 (3, [some (.ref 540), some (.int a1), some (.int a2), some (.int a3), some (.int a4), some (.int a5)], [.int a2, .int a1, .ref 540], aa_H g) rfl r
  obtain ⟨_, n2, v1, h1, -, ln2, rc, r⟩ := rn_call (m2 := 191) (as := [.ref 540, .int a1, .int a2]) (rest := []) rfl rfl r
  obtain ⟨rfl, rfl⟩ := dn_191 rc
  have r : rn_s _ 207 (6, [some (.ref 540), some (.int a1), some (.int a2), some (.int a3), some (.int a4), some (.int a5)], [.int (fn_191 g a1 a2)], aa_H g) v h := r
  refine rn_if (iw_s v h) rfl decide_eq_true_iff.symm r (fun c4 l5n l5 r => ?_) (fun c4 l5n l5 r => ?_)
  · obtain ⟨n6, ln6, r⟩ := rn_steps 0 (38, [some (.ref 540), some (.int a1), some (.int a2), some (.int a3), some (.int a4), some (.int a5)], [.int (-1000000)], aa_H g) rfl r
    exact rn_ire rfl r
  · obtain ⟨n7, ln7, r⟩ := rn_steps 0 (10, [some (.ref 540), some (.int a1), some (.int a2), some (.int a3), some (.int a4), some (.int a5)], [.int a3], aa_H g) rfl r
    obtain ⟨_, n8, v1, h1, -, ln8, rc, r⟩ := rn_call (m2 := 199) (as := [.int a3]) (rest := []) rfl rfl r
    obtain ⟨rfl, rfl⟩ := dn_199 rc
    have r : rn_s _ 207 (13, [some (.ref 540), some (.int a1), some (.int a2), some (.int a3), some (.int a4), some (.int a5)], [.int (fn_199 a3)], aa_H g) v h := r
    refine rn_if (iw_s v h) rfl decide_eq_true_iff.symm r (fun c10 l11n l11 r => ?_) (fun c10 l11n l11 r => ?_)
    · obtain ⟨n12, ln12, r⟩ := rn_steps 0 (38, [some (.ref 540), some (.int a1), some (.int a2), some (.int a3), some (.int a4), some (.int a5)], [.int (-1000000)], aa_H g) rfl r
      exact rn_ire rfl r
    · obtain ⟨n13, ln13, r⟩ := rn_steps 1 (19, [some (.ref 540), some (.int a1), some (.int a2), some (.int a3), some (.int a4), some (.int a5)], [.int a4, .ref 540], aa_H g) rfl r
      obtain ⟨_, n14, v1, h1, -, ln14, rc, r⟩ := rn_call (m2 := 192) (as := [.ref 540, .int a4]) (rest := []) rfl rfl r
      obtain ⟨rfl, rfl⟩ := dn_192 rc
      have r : rn_s _ 207 (22, [some (.ref 540), some (.int a1), some (.int a2), some (.int a3), some (.int a4), some (.int a5)], [.int (fn_192 g a4)], aa_H g) v h := r
      refine rn_if (iw_s v h) rfl decide_eq_true_iff.symm r (fun c16 l17n l17 r => ?_) (fun c16 l17n l17 r => ?_)
      · obtain ⟨n18, ln18, r⟩ := rn_steps 0 (38, [some (.ref 540), some (.int a1), some (.int a2), some (.int a3), some (.int a4), some (.int a5)], [.int (-1000000)], aa_H g) rfl r
        exact rn_ire rfl r
      · obtain ⟨n19, ln19, r⟩ := rn_steps 2 (29, [some (.ref 540), some (.int a1), some (.int a2), some (.int a3), some (.int a4), some (.int a5)], [.int 1, .int 0, .int a5], aa_H g) rfl r
        obtain ⟨_, n20, v1, h1, -, ln20, rc, r⟩ := rn_call (m2 := 154) (as := [.int a5, .int 0, .int 1]) (rest := []) rfl rfl r
        obtain ⟨rfl, rfl⟩ := dn_154 rc
        have r : rn_s _ 207 (32, [some (.ref 540), some (.int a1), some (.int a2), some (.int a3), some (.int a4), some (.int a5)], [.int (fn_154 a5 0 1)], aa_H g) v h := r
        refine rn_if (iw_s v h) rfl decide_eq_true_iff.symm r (fun c22 l23n l23 r => ?_) (fun c22 l23n l23 r => ?_)
        · obtain ⟨n24, ln24, r⟩ := rn_steps 6 (47, [some (.ref 540), some (.int a1), some (.int a2), some (.int a3), some (.int a4), some (.int a5)], [.int a4, .long a3.toInt64, .long a2.toInt64, .int a1, .ref 540], aa_H g) rfl r
          obtain ⟨_, n25, v1, h1, -, ln25, rc, r⟩ := rn_call (m2 := 208) (as := [.ref 540, .int a1, .long a2.toInt64, .long a3.toInt64, .int a4]) (rest := []) rfl rfl r
          obtain ⟨rfl, rfl⟩ := dn_208 rc
          have r : rn_s _ 207 (50, [some (.ref 540), some (.int a1), some (.int a2), some (.int a3), some (.int a4), some (.int a5)], [], aa_H (fn_208 g a1 a2.toInt64 a3.toInt64 a4)) v h := r
          exact dn_207_50 (some (.int a1)) (some (.int a2)) (some (.int a3)) (some (.int a4)) rn_ji rn_ji rn_ji rn_ji r
        · obtain ⟨n27, ln27, r⟩ := rn_steps 0 (38, [some (.ref 540), some (.int a1), some (.int a2), some (.int a3), some (.int a4), some (.int a5)], [.int (-1000000)], aa_H g) rfl r
          exact rn_ire rfl r
-- 239: UnequalHoursModel isKey
noncomputable def fn_239 (g : aa_G) (a1 : Int32) : Int32 := if (fn_154 a1 0 15) = 0 then 0 else if (fn_192 g (a1 / 4)) = 0 then 0 else if (fn_192 g (a1 - a1 / 4 * 4)) = 0 then 0 else 1
theorem dn_239 {v : Option Value} {h : zz_H} {n : Nat} {g : aa_G} {a1 : Int32}  (r : rn_s n 239 (0, zz_in [.ref 540, .int a1] (zz_nl 239), [], aa_H g) v h) : ir_s g v h (fn_239 g a1) := by
  have r : rn_s n 239 (0, [some (.ref 540), some (.int a1)], [], aa_H g) v h := r
  unfold fn_239
  obtain ⟨n1, ln1, r⟩ := rn_steps 2 (4, [some (.ref 540), some (.int a1)], [.int 15, .int 0, .int a1], aa_H g) rfl r
  obtain ⟨_, n2, v1, h1, -, ln2, rc, r⟩ := rn_call (m2 := 154) (as := [.int a1, .int 0, .int 15]) (rest := []) rfl rfl r
  obtain ⟨rfl, rfl⟩ := dn_154 rc
  have r : rn_s _ 239 (7, [some (.ref 540), some (.int a1)], [.int (fn_154 a1 0 15)], aa_H g) v h := r
  refine rn_if (ir_s g v h) rfl decide_eq_true_iff.symm r (fun c4 l5n l5 r => ?_) (fun c4 l5n l5 r => ?_)
  · obtain ⟨n6, ln6, r⟩ := rn_steps 0 (35, [some (.ref 540), some (.int a1)], [.int 0], aa_H g) rfl r
    exact rn_ire rfl r
  · obtain ⟨n7, ln7, r⟩ := rn_steps 3 (14, [some (.ref 540), some (.int a1)], [.int (a1 / 4), .ref 540], aa_H g) rfl r
    obtain ⟨_, n8, v1, h1, -, ln8, rc, r⟩ := rn_call (m2 := 192) (as := [.ref 540, .int (a1 / 4)]) (rest := []) rfl rfl r
    obtain ⟨rfl, rfl⟩ := dn_192 rc
    have r : rn_s _ 239 (17, [some (.ref 540), some (.int a1)], [.int (fn_192 g (a1 / 4))], aa_H g) v h := r
    refine rn_if (ir_s g v h) rfl decide_eq_true_iff.symm r (fun c10 l11n l11 r => ?_) (fun c10 l11n l11 r => ?_)
    · obtain ⟨n12, ln12, r⟩ := rn_steps 0 (35, [some (.ref 540), some (.int a1)], [.int 0], aa_H g) rfl r
      exact rn_ire rfl r
    · obtain ⟨n13, ln13, r⟩ := rn_steps 3 (24, [some (.ref 540), some (.int a1)], [.int (a1 - a1 / 4 * 4), .ref 540], aa_H g) rfl r
      obtain ⟨_, n14, v1, h1, -, ln14, rc, r⟩ := rn_call (m2 := 192) (as := [.ref 540, .int (a1 - a1 / 4 * 4)]) (rest := []) rfl rfl r
      obtain ⟨rfl, rfl⟩ := dn_192 rc
      have r : rn_s _ 239 (27, [some (.ref 540), some (.int a1)], [.int (fn_192 g (a1 - a1 / 4 * 4))], aa_H g) v h := r
      refine rn_if (ir_s g v h) rfl decide_eq_true_iff.symm r (fun c16 l17n l17 r => ?_) (fun c16 l17n l17 r => ?_)
      · obtain ⟨n18, ln18, r⟩ := rn_steps 0 (35, [some (.ref 540), some (.int a1)], [.int 0], aa_H g) rfl r
        exact rn_ire rfl r
      · obtain ⟨n19, ln19, r⟩ := rn_steps 1 (35, [some (.ref 540), some (.int a1)], [.int 1], aa_H g) rfl r
        exact rn_ire rfl r
-- 225: UnequalHoursModel sinceHour
noncomputable def fn_225 (g : aa_G) (a1 : Int32) : Int32 := ((a1 * (g 540 18)) + 11) / 12
theorem dn_225 {v : Option Value} {h : zz_H} {n : Nat} {g : aa_G} {a1 : Int32}  (r : rn_s n 225 (0, zz_in [.ref 540, .int a1] (zz_nl 225), [], aa_H g) v h) : ir_s g v h (fn_225 g a1) := by
  have r : rn_s n 225 (0, [some (.ref 540), some (.int a1)], [], aa_H g) v h := r
  unfold fn_225
  obtain ⟨n1, ln1, r⟩ := rn_steps 7 (12, [some (.ref 540), some (.int a1)], [.int (((a1 * (g 540 18)) + 11) / 12)], aa_H g) rfl r
  exact rn_ire rfl r
-- 229: UnequalHoursModel layHour
noncomputable def fn_229_10 (g : aa_G) (b3 : Int32) (s0 : Int32) : Int32 × aa_G := if s0 ≠ 0 then (1, zz_w (zz_w g 540 29 ((g 540 17) + (fn_225 g (b3 - b3 / 12 * 12)))) 540 30 ((g 540 17) + (fn_225 (zz_w g 540 29 ((g 540 17) + (fn_225 g (b3 - b3 / 12 * 12)))) ((b3 - b3 / 12 * 12) + 1)))) else (0, g)
theorem dn_229_10 {v : Option Value} {h : zz_H} {n : Nat} {g : aa_G} {b3 : Int32} {s0 : Int32}  (x1 x2 : Option Value) (jx1 : rn_jk x1) (jx2 : rn_jk x2) (r : rn_s n 229 (10, [some (.ref 540), x1, x2, some (.int b3)], [.int s0], aa_H g) v h) : iw_s v h (fn_229_10 g b3 s0) := by
  unfold fn_229_10
  refine rn_if (iw_s v h) rfl decide_eq_true_iff.symm r (fun c4 l5n l5 r => ?_) (fun c4 l5n l5 r => ?_)
  · obtain ⟨n6, ln6, r⟩ := rn_steps 6 (25, [some (.ref 540), x1, x2, some (.int b3)], [.int (b3 - b3 / 12 * 12), .ref 540, .int (g 540 17), .ref 540], aa_H g) rfl r
    obtain ⟨_, n7, v1, h1, -, ln7, rc, r⟩ := rn_call (m2 := 225) (as := [.ref 540, .int (b3 - b3 / 12 * 12)]) (rest := [.int (g 540 17), .ref 540]) rfl rfl r
    obtain ⟨rfl, rfl⟩ := dn_225 rc
    have r : rn_s _ 229 (28, [some (.ref 540), x1, x2, some (.int b3)], [.int (fn_225 g (b3 - b3 / 12 * 12)), .int (g 540 17), .ref 540], aa_H g) v h := r
    obtain ⟨n9, ln9, r⟩ := rn_steps 10 (44, [some (.ref 540), x1, x2, some (.int b3)], [.int ((b3 - b3 / 12 * 12) + 1), .ref 540, .int (g 540 17), .ref 540], aa_H (zz_w g 540 29 ((g 540 17) + (fn_225 g (b3 - b3 / 12 * 12))))) rfl r
    obtain ⟨_, n10, v1, h1, -, ln10, rc, r⟩ := rn_call (m2 := 225) (as := [.ref 540, .int ((b3 - b3 / 12 * 12) + 1)]) (rest := [.int (g 540 17), .ref 540]) rfl rfl r
    obtain ⟨rfl, rfl⟩ := dn_225 rc
    have r : rn_s _ 229 (47, [some (.ref 540), x1, x2, some (.int b3)], [.int (fn_225 (zz_w g 540 29 ((g 540 17) + (fn_225 g (b3 - b3 / 12 * 12)))) ((b3 - b3 / 12 * 12) + 1)), .int (g 540 17), .ref 540], aa_H (zz_w g 540 29 ((g 540 17) + (fn_225 g (b3 - b3 / 12 * 12))))) v h := r
    obtain ⟨n12, ln12, r⟩ := rn_steps 2 (52, [some (.ref 540), x1, x2, some (.int b3)], [.int 1], aa_H (zz_w (zz_w g 540 29 ((g 540 17) + (fn_225 g (b3 - b3 / 12 * 12)))) 540 30 ((g 540 17) + (fn_225 (zz_w g 540 29 ((g 540 17) + (fn_225 g (b3 - b3 / 12 * 12)))) ((b3 - b3 / 12 * 12) + 1))))) rfl r
    exact rn_ire rfl r
  · obtain ⟨n13, ln13, r⟩ := rn_steps 0 (14, [some (.ref 540), x1, x2, some (.int b3)], [.int 0], aa_H g) rfl r
    exact rn_ire rfl r
noncomputable def fn_229 (g : aa_G) (a1 : Int32) (a2 : Int32) (a3 : Int32) : Int32 × aa_G := fn_229_10 ((fn_194 g a1 a2 (a3 / 12)).2) a3 ((fn_194 g a1 a2 (a3 / 12)).1)
theorem dn_229 {v : Option Value} {h : zz_H} {n : Nat} {g : aa_G} {a1 : Int32} {a2 : Int32} {a3 : Int32}  (r : rn_s n 229 (0, zz_in [.ref 540, .int a1, .int a2, .int a3] (zz_nl 229), [], aa_H g) v h) : iw_s v h (fn_229 g a1 a2 a3) := by
  have r : rn_s n 229 (0, [some (.ref 540), some (.int a1), some (.int a2), some (.int a3)], [], aa_H g) v h := r
  unfold fn_229
  obtain ⟨n1, ln1, r⟩ := rn_steps 5 (7, [some (.ref 540), some (.int a1), some (.int a2), some (.int a3)], [.int (a3 / 12), .int a2, .int a1, .ref 540], aa_H g) rfl r
  obtain ⟨_, n2, v1, h1, -, ln2, rc, r⟩ := rn_call (m2 := 194) (as := [.ref 540, .int a1, .int a2, .int (a3 / 12)]) (rest := []) rfl rfl r
  obtain ⟨rfl, rfl⟩ := dn_194 rc
  have r : rn_s _ 229 (10, [some (.ref 540), some (.int a1), some (.int a2), some (.int a3)], [.int ((fn_194 g a1 a2 (a3 / 12)).1)], aa_H ((fn_194 g a1 a2 (a3 / 12)).2)) v h := r
  exact dn_229_10 (some (.int a1)) (some (.int a2)) rn_ji rn_ji r
