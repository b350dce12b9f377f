/-! METHODS READ (printed by wip/dc/dc.py) -/
-- 76: UnequalHours table
noncomputable def fn_76_53 (g : aa_G) (b3 : Int32) : Int32 × aa_G := if b3 ≠ 4 then if (g 461 0) ≠ 0 then if b3 ≠ 0 then if b3 ≠ 1 then (g 461 4, g) else ((g 461 3) + (g 461 4), g) else (g 461 3, g) else (-2, g) else (g 461 5, g)
theorem dn_76_53 {v : Option Value} {h : zz_H} {n : Nat} {g : aa_G} {b3 : Int32}  (x1 x2 x4 : Option Value) (jx1 : rn_jk x1) (jx2 : rn_jk x2) (jx4 : rn_jk x4) (r : rn_s n 76 (53, [some (.ref 1), x1, x2, some (.int b3), x4], [], aa_H g) v h) : iw_s v h (fn_76_53 g b3) := by
  unfold fn_76_53
  obtain ⟨n28, ln28, r⟩ := rn_steps 1 (55, [some (.ref 1), x1, x2, some (.int b3), x4], [.int 4, .int b3], aa_H g) rfl r
  refine rn_ic (iw_s v h) rfl decide_eq_true_iff.symm r (fun c29 l30n l30 r => ?_) (fun c29 l30n l30 r => ?_)
  · obtain ⟨n31, ln31, r⟩ := rn_steps 2 (73, [some (.ref 1), x1, x2, some (.int b3), x4], [.int (g 461 0)], aa_H g) rfl r
    refine rn_if (iw_s v h) rfl decide_eq_true_iff.symm r (fun c32 l33n l33 r => ?_) (fun c32 l33n l33 r => ?_)
    · obtain ⟨n34, ln34, r⟩ := rn_steps 0 (80, [some (.ref 1), x1, x2, some (.int b3), x4], [.int b3], aa_H g) rfl r
      refine rn_if (iw_s v h) rfl decide_eq_true_iff.symm r (fun c35 l36n l36 r => ?_) (fun c35 l36n l36 r => ?_)
      · obtain ⟨n37, ln37, r⟩ := rn_steps 1 (93, [some (.ref 1), x1, x2, some (.int b3), x4], [.int 1, .int b3], aa_H g) rfl r
        refine rn_ic (iw_s v h) rfl decide_eq_true_iff.symm r (fun c38 l39n l39 r => ?_) (fun c38 l39n l39 r => ?_)
        · obtain ⟨n40, ln40, r⟩ := rn_steps 2 (121, [some (.ref 1), x1, x2, some (.int b3), x4], [.int (g 461 4)], aa_H g) rfl r
          exact rn_ire rfl r
        · obtain ⟨n41, ln41, r⟩ := rn_steps 7 (121, [some (.ref 1), x1, x2, some (.int b3), x4], [.int ((g 461 3) + (g 461 4))], aa_H g) rfl r
          exact rn_ire rfl r
      · obtain ⟨n42, ln42, r⟩ := rn_steps 2 (90, [some (.ref 1), x1, x2, some (.int b3), x4], [.int (g 461 3)], aa_H g) rfl r
        exact rn_ire rfl r
    · obtain ⟨n43, ln43, r⟩ := rn_steps 0 (78, [some (.ref 1), x1, x2, some (.int b3), x4], [.int (-2)], aa_H g) rfl r
      exact rn_ire rfl r
  · obtain ⟨n44, ln44, r⟩ := rn_steps 2 (65, [some (.ref 1), x1, x2, some (.int b3), x4], [.int (g 461 5)], aa_H g) rfl r
    exact rn_ire rfl r
noncomputable def fn_76_50 (g : aa_G) (b3 : Int32) (s0 : Int32) (s1 : Int32) (S2 : Nat) : Int32 × aa_G := fn_76_53 (fn_78 g 461 (some S2) s1 s0) b3
theorem dn_76_50 {v : Option Value} {h : zz_H} {n : Nat} {g : aa_G} {b3 : Int32} {s0 : Int32} {s1 : Int32} {S2 : Nat} (hS2 : ct_tw S2) (x1 x2 x4 : Option Value) (jx1 : rn_jk x1) (jx2 : rn_jk x2) (jx4 : rn_jk x4) (r : rn_s n 76 (50, [some (.ref 1), x1, x2, some (.int b3), x4], [.int s0, .int s1, .ref S2, .ref 461], aa_H g) v h) : iw_s v h (fn_76_50 g b3 s0 s1 S2) := by
  unfold fn_76_50
  obtain ⟨_, n26, v1, h1, -, ln26, rc, r⟩ := rn_call (m2 := 78) (as := [.ref 461, .ref S2, .int s1, .int s0]) (rest := []) rfl rfl r
  obtain ⟨rfl, rfl⟩ := dn_78 sp_c461 (rn_o1 hS2) rc
  have r : rn_s _ 76 (53, [some (.ref 1), x1, x2, some (.int b3), x4], [], aa_H (fn_78 g 461 (some S2) s1 s0)) v h := r
  exact dn_76_53 x1 x2 x4 jx1 jx2 jx4 r
noncomputable def fn_76 (g : aa_G) (a1 : Int32) (a2 : Int32) (a3 : Int32) : Int32 × aa_G := (match fn_31 g a1 with | none => ((-1, g)) | some W6 => (if (fn_77 a2) = 0 then (-1, g) else if (fn_14 a3 0 4) ≠ 0 then if a3 ≠ 3 then fn_76_50 g a3 0 a2 W6 else fn_76_50 g a3 1 a2 W6 else (-1, g)))
theorem dn_76 {v : Option Value} {h : zz_H} {n : Nat} {g : aa_G} {a1 : Int32} {a2 : Int32} {a3 : Int32}  (r : rn_s n 76 (0, zz_in [.ref 1, .int a1, .int a2, .int a3] (zz_nl 76), [], aa_H g) v h) : iw_s v h (fn_76 g a1 a2 a3) := by
  have r : rn_s n 76 (0, [some (.ref 1), some (.int a1), some (.int a2), some (.int a3), none], [], aa_H g) v h := r
  unfold fn_76
  obtain ⟨n1, ln1, r⟩ := rn_steps 2 (5, [some (.ref 1), some (.int a1), some (.int a2), some (.int a3), none], [.int a1, .ref 2], aa_H g) rfl r
  obtain ⟨_, n2, v1, h1, -, ln2, rc, r⟩ := rn_call (m2 := 31) (as := [.ref 2, .int a1]) (rest := []) rfl rfl r
  obtain ⟨rfl, rfl, ho4⟩ := dn_31 rc
  have r : rn_s _ 76 (8, [some (.ref 1), some (.int a1), some (.int a2), some (.int a3), none], [zz_val (fn_31 g a1)], aa_H g) v h := r
  cases e5 : fn_31 g a1 with
  | none =>
    rw [e5] at r
    have r : rn_s _ 76 (8, [some (.ref 1), some (.int a1), some (.int a2), some (.int a3), none], [.null], aa_H g) v h := r
    dsimp only
    obtain ⟨n8, ln8, r⟩ := rn_steps 3 (32, [some (.ref 1), some (.int a1), some (.int a2), some (.int a3), some (.null)], [.int (-1)], aa_H g) rfl r
    exact rn_ire rfl r
  | some W6 =>
    rw [e5] at r
    have hw7 : ct_tw W6 := ho4 _ e5
    have r : rn_s _ 76 (8, [some (.ref 1), some (.int a1), some (.int a2), some (.int a3), none], [.ref W6], aa_H g) v h := r
    dsimp only
    obtain ⟨n9, ln9, r⟩ := rn_steps 3 (16, [some (.ref 1), some (.int a1), some (.int a2), some (.int a3), some (.ref W6)], [.int a2], aa_H g) rfl r
    obtain ⟨_, n10, v1, h1, -, ln10, rc, r⟩ := rn_call (m2 := 77) (as := [.int a2]) (rest := []) rfl rfl r
    obtain ⟨rfl, rfl⟩ := dn_77 rc
    have r : rn_s _ 76 (19, [some (.ref 1), some (.int a1), some (.int a2), some (.int a3), some (.ref W6)], [.int (fn_77 a2)], aa_H g) v h := r
    refine rn_if (iw_s v h) rfl decide_eq_true_iff.symm r (fun c12 l13n l13 r => ?_) (fun c12 l13n l13 r => ?_)
    · obtain ⟨n14, ln14, r⟩ := rn_steps 0 (32, [some (.ref 1), some (.int a1), some (.int a2), some (.int a3), some (.ref W6)], [.int (-1)], aa_H g) rfl r
      exact rn_ire rfl r
    · obtain ⟨n15, ln15, r⟩ := rn_steps 2 (25, [some (.ref 1), some (.int a1), some (.int a2), some (.int a3), some (.ref W6)], [.int 4, .int 0, .int a3], aa_H g) rfl r
      obtain ⟨_, n16, v1, h1, -, ln16, rc, r⟩ := rn_call (m2 := 14) (as := [.int a3, .int 0, .int 4]) (rest := []) rfl rfl r
      obtain ⟨rfl, rfl⟩ := dn_14 rc
      have r : rn_s _ 76 (28, [some (.ref 1), some (.int a1), some (.int a2), some (.int a3), some (.ref W6)], [.int (fn_14 a3 0 4)], aa_H g) v h := r
      refine rn_if (iw_s v h) rfl decide_eq_true_iff.symm r (fun c18 l19n l19 r => ?_) (fun c18 l19n l19 r => ?_)
      · obtain ⟨n20, ln20, r⟩ := rn_steps 5 (42, [some (.ref 1), some (.int a1), some (.int a2), some (.int a3), some (.ref W6)], [.int 3, .int a3, .int a2, .ref W6, .ref 461], aa_H g) rfl r
        refine rn_ic (iw_s v h) rfl decide_eq_true_iff.symm r (fun c21 l22n l22 r => ?_) (fun c21 l22n l22 r => ?_)
        · obtain ⟨n23, ln23, r⟩ := rn_steps 0 (50, [some (.ref 1), some (.int a1), some (.int a2), some (.int a3), some (.ref W6)], [.int 0, .int a2, .ref W6, .ref 461], aa_H g) rfl r
          exact dn_76_50 hw7 (some (.int a1)) (some (.int a2)) (some (.ref W6)) rn_ji rn_ji rn_jr r
        · obtain ⟨n24, ln24, r⟩ := rn_steps 1 (50, [some (.ref 1), some (.int a1), some (.int a2), some (.int a3), some (.ref W6)], [.int 1, .int a2, .ref W6, .ref 461], aa_H g) rfl r
          exact dn_76_50 hw7 (some (.int a1)) (some (.int a2)) (some (.ref W6)) rn_ji rn_ji rn_jr r
      · obtain ⟨n25, ln25, r⟩ := rn_steps 0 (32, [some (.ref 1), some (.int a1), some (.int a2), some (.int a3), some (.ref W6)], [.int (-1)], aa_H g) rfl r
        exact rn_ire rfl r
-- 89: UnequalHours State hourOf
noncomputable def fn_89 (g : aa_G) (a1 : Int32) : Int32 := if (g 2 1) ≤ 0 then 0 else a1 / (g 2 1)
theorem dn_89 {v : Option Value} {h : zz_H} {n : Nat} {g : aa_G} {a1 : Int32}  (r : rn_s n 89 (0, zz_in [.ref 2, .int a1] (zz_nl 89), [], aa_H g) v h) : ir_s g v h (fn_89 g a1) := by
  have r : rn_s n 89 (0, [some (.ref 2), some (.int a1)], [], aa_H g) v h := r
  unfold fn_89
  obtain ⟨n1, ln1, r⟩ := rn_steps 1 (4, [some (.ref 2), some (.int a1)], [.int (g 2 1)], aa_H g) rfl r
  refine rn_if (ir_s g v h) rfl decide_eq_true_iff.symm r (fun c2 l3n l3 r => ?_) (fun c2 l3n l3 r => ?_)
  · obtain ⟨n4, ln4, r⟩ := rn_steps 0 (17, [some (.ref 2), some (.int a1)], [.int 0], aa_H g) rfl r
    exact rn_ire rfl r
  · obtain ⟨n5, ln5, r⟩ := rn_steps 2 (12, [some (.ref 2), some (.int a1)], [.int (g 2 1), .int a1], aa_H g) rfl r
    obtain ⟨hd7, n6, ln6, r⟩ := rn_div rfl r
    have r : rn_s _ 89 (13, [some (.ref 2), some (.int a1)], [.int (a1 / (g 2 1))], aa_H g) v h := r
    obtain ⟨n8, ln8, r⟩ := rn_steps 0 (17, [some (.ref 2), some (.int a1)], [.int (a1 / (g 2 1))], aa_H g) rfl r
    exact rn_ire rfl r
-- 88: UnequalHours Span placeOf
noncomputable def fn_88 (g : aa_G) (P : Nat) (a1 : Int32) (a2 : Int32) : Int32 := if (g P 4) ≤ 0 then 0 else (((a1.toInt64 * 12) * a2.toInt64) / ((g P 4).toInt64)).toInt32
theorem dn_88 {v : Option Value} {h : zz_H} {n : Nat} {g : aa_G} {P : Nat} {a1 : Int32} {a2 : Int32} (hP : sp_ok P) (r : rn_s n 88 (0, zz_in [.ref P, .int a1, .int a2] (zz_nl 88), [], aa_H g) v h) : ir_s g v h (fn_88 g P a1 a2) := by
  have r : rn_s n 88 (0, [some (.ref P), some (.int a1), some (.int a2)], [], aa_H g) v h := r
  unfold fn_88
  obtain ⟨n1, ln1, r⟩ := rn_steps 0 (1, [some (.ref P), some (.int a1), some (.int a2)], [.ref P], aa_H g) rfl r
  obtain ⟨n2, ln2, r⟩ := rn_gf rfl (sp_hk hP) (sp_hl hP) rfl r
  have r : rn_s _ 88 (4, [some (.ref P), some (.int a1), some (.int a2)], [.int (g P 4)], aa_H g) v h := r
  refine rn_if (ir_s g v h) rfl decide_eq_true_iff.symm r (fun c3 l4n l4 r => ?_) (fun c3 l4n l4 r => ?_)
  · obtain ⟨n5, ln5, r⟩ := rn_steps 0 (27, [some (.ref P), some (.int a1), some (.int a2)], [.int 0], aa_H g) rfl r
    exact rn_ire rfl r
  · obtain ⟨n6, ln6, r⟩ := rn_steps 7 (17, [some (.ref P), some (.int a1), some (.int a2)], [.ref P, .long ((a1.toInt64 * 12) * a2.toInt64)], aa_H g) rfl r
    obtain ⟨n7, ln7, r⟩ := rn_gf rfl (sp_hk hP) (sp_hl hP) rfl r
    have r : rn_s _ 88 (20, [some (.ref P), some (.int a1), some (.int a2)], [.int (g P 4), .long ((a1.toInt64 * 12) * a2.toInt64)], aa_H g) v h := r
    obtain ⟨n8, ln8, r⟩ := rn_steps 0 (21, [some (.ref P), some (.int a1), some (.int a2)], [.long ((g P 4).toInt64), .long ((a1.toInt64 * 12) * a2.toInt64)], aa_H g) rfl r
    obtain ⟨hd10, n9, ln9, r⟩ := rn_ldiv rfl r
    have r : rn_s _ 88 (22, [some (.ref P), some (.int a1), some (.int a2)], [.long (((a1.toInt64 * 12) * a2.toInt64) / ((g P 4).toInt64))], aa_H g) v h := r
    obtain ⟨n11, ln11, r⟩ := rn_steps 1 (27, [some (.ref P), some (.int a1), some (.int a2)], [.int ((((a1.toInt64 * 12) * a2.toInt64) / ((g P 4).toInt64)).toInt32)], aa_H g) rfl r
    exact rn_ire rfl r
-- 87: UnequalHours Span since
noncomputable def fn_87 (g : aa_G) (P : Nat) (a1 : Int32) (a2 : Int32) : Int32 := (a2 + ((a1 - (g P 1)) * 86400)) - (g P 3)
theorem dn_87 {v : Option Value} {h : zz_H} {n : Nat} {g : aa_G} {P : Nat} {a1 : Int32} {a2 : Int32} (hP : sp_ok P) (r : rn_s n 87 (0, zz_in [.ref P, .int a1, .int a2] (zz_nl 87), [], aa_H g) v h) : ir_s g v h (fn_87 g P a1 a2) := by
  have r : rn_s n 87 (0, [some (.ref P), some (.int a1), some (.int a2)], [], aa_H g) v h := r
  unfold fn_87
  obtain ⟨n1, ln1, r⟩ := rn_steps 2 (3, [some (.ref P), some (.int a1), some (.int a2)], [.ref P, .int a1, .int a2], aa_H g) rfl r
  obtain ⟨n2, ln2, r⟩ := rn_gf rfl (sp_hk hP) (sp_hl hP) rfl r
  have r : rn_s _ 87 (6, [some (.ref P), some (.int a1), some (.int a2)], [.int (g P 1), .int a1, .int a2], aa_H g) v h := r
  obtain ⟨n3, ln3, r⟩ := rn_steps 4 (12, [some (.ref P), some (.int a1), some (.int a2)], [.ref P, .int (a2 + ((a1 - (g P 1)) * 86400))], aa_H g) rfl r
  obtain ⟨n4, ln4, r⟩ := rn_gf rfl (sp_hk hP) (sp_hl hP) rfl r
  have r : rn_s _ 87 (15, [some (.ref P), some (.int a1), some (.int a2)], [.int (g P 3), .int (a2 + ((a1 - (g P 1)) * 86400))], aa_H g) v h := r
  obtain ⟨n5, ln5, r⟩ := rn_steps 0 (16, [some (.ref P), some (.int a1), some (.int a2)], [.int ((a2 + ((a1 - (g P 1)) * 86400)) - (g P 3))], aa_H g) rfl r
  exact rn_ire rfl r
-- 66: UnequalHours isSecond
noncomputable def fn_66 (a0 : Int32) : Int32 := fn_14 a0 0 86399
theorem dn_66 {v : Option Value} {h : zz_H} {n : Nat} {g : aa_G} {a0 : Int32}  (r : rn_s n 66 (0, zz_in [.int a0] (zz_nl 66), [], aa_H g) v h) : ir_s g v h (fn_66 a0) := by
  have r : rn_s n 66 (0, [some (.int a0)], [], aa_H g) v h := r
  unfold fn_66
  obtain ⟨n1, ln1, r⟩ := rn_steps 2 (5, [some (.int a0)], [.int 86399, .int 0, .int a0], aa_H g) rfl r
  obtain ⟨_, n2, v1, h1, -, ln2, rc, r⟩ := rn_call (m2 := 14) (as := [.int a0, .int 0, .int 86399]) (rest := []) rfl rfl r
  obtain ⟨rfl, rfl⟩ := dn_14 rc
  have r : rn_s _ 66 (8, [some (.int a0)], [.int (fn_14 a0 0 86399)], aa_H g) v h := r
  exact rn_ire rfl r
-- 85: UnequalHours turn
noncomputable def fn_85_52 (g : aa_G) (b2 : Int32) (b3 : Int32) (b4 : Int32) (s0 : Int32) : Int32 × aa_G := if s0 ≠ 0 then if b4.toInt = 0 then (g 461 1, g) else if b4.toInt = 1 then (g 461 2, g) else if b4.toInt = 2 then (fn_89 g (fn_88 g 461 (fn_87 g 461 b2 b3) (g 2 1)), g) else if b4.toInt = 3 then ((fn_88 g 461 (fn_87 g 461 b2 b3) (g 2 1)) - ((fn_89 g (fn_88 g 461 (fn_87 g 461 b2 b3) (g 2 1))) * (g 2 1)), g) else if b4.toInt = 4 then (fn_88 g 461 (fn_87 g 461 b2 b3) (g 2 1), g) else (fn_87 g 461 b2 b3, g) else (-2, g)
theorem dn_85_52 {v : Option Value} {h : zz_H} {n : Nat} {g : aa_G} {b2 : Int32} {b3 : Int32} {b4 : Int32} {s0 : Int32}  (x1 x5 x6 x7 : Option Value) (jx1 : rn_jk x1) (jx5 : rn_jk x5) (jx6 : rn_jk x6) (jx7 : rn_jk x7) (r : rn_s n 85 (52, [some (.ref 1), x1, some (.int b2), some (.int b3), some (.int b4), x5, x6, x7], [.int s0], aa_H g) v h) : iw_s v h (fn_85_52 g b2 b3 b4 s0) := by
  unfold fn_85_52
  refine rn_if (iw_s v h) rfl decide_eq_true_iff.symm r (fun c30 l31n l31 r => ?_) (fun c30 l31n l31 r => ?_)
  · obtain ⟨n32, ln32, r⟩ := rn_steps 3 (64, [some (.ref 1), x1, some (.int b2), some (.int b3), some (.int b4), x5, x6, x7], [.int b3, .int b2, .ref 461], aa_H g) rfl r
    obtain ⟨_, n33, v1, h1, -, ln33, rc, r⟩ := rn_call (m2 := 87) (as := [.ref 461, .int b2, .int b3]) (rest := []) rfl rfl r
    obtain ⟨rfl, rfl⟩ := dn_87 sp_c461 rc
    have r : rn_s _ 85 (67, [some (.ref 1), x1, some (.int b2), some (.int b3), some (.int b4), x5, x6, x7], [.int (fn_87 g 461 b2 b3)], aa_H g) v h := r
    obtain ⟨n35, ln35, r⟩ := rn_isx (i := 6) rfl rfl jx5 rfl ⟨Nat.le_of_ble_eq_true rfl, Nat.le_of_ble_eq_true rfl⟩ r
    have r : rn_s _ 85 (69, [some (.ref 1), x1, some (.int b2), some (.int b3), some (.int b4), x5, some (.int (fn_87 g 461 b2 b3)), x7], [], aa_H g) v h := r
    obtain ⟨n36, ln36, r⟩ := rn_steps 5 (82, [some (.ref 1), x1, some (.int b2), some (.int b3), some (.int b4), x5, some (.int (fn_87 g 461 b2 b3)), x7], [.int (g 2 1), .int (fn_87 g 461 b2 b3), .ref 461], aa_H g) rfl r
    obtain ⟨_, n37, v1, h1, -, ln37, rc, r⟩ := rn_call (m2 := 88) (as := [.ref 461, .int (fn_87 g 461 b2 b3), .int (g 2 1)]) (rest := []) rfl rfl r
    obtain ⟨rfl, rfl⟩ := dn_88 sp_c461 rc
    have r : rn_s _ 85 (85, [some (.ref 1), x1, some (.int b2), some (.int b3), some (.int b4), x5, some (.int (fn_87 g 461 b2 b3)), x7], [.int (fn_88 g 461 (fn_87 g 461 b2 b3) (g 2 1))], aa_H g) v h := r
    obtain ⟨n39, ln39, r⟩ := rn_steps 1 (89, [some (.ref 1), x1, some (.int b2), some (.int b3), some (.int b4), x5, some (.int (fn_87 g 461 b2 b3)), some (.int (fn_88 g 461 (fn_87 g 461 b2 b3) (g 2 1)))], [.int b4], aa_H g) rfl r
    obtain ⟨n40, ln40, r⟩ := rn_swi rfl r
    refine rn_sw1 (iw_s v h) r (fun c41 r => ?_) (fun c41 r => ?_)
    · have r : rn_s _ 85 (124, [some (.ref 1), x1, some (.int b2), some (.int b3), some (.int b4), x5, some (.int (fn_87 g 461 b2 b3)), some (.int (fn_88 g 461 (fn_87 g 461 b2 b3) (g 2 1)))], [], aa_H g) v h := r
      obtain ⟨n42, ln42, r⟩ := rn_steps 2 (131, [some (.ref 1), x1, some (.int b2), some (.int b3), some (.int b4), x5, some (.int (fn_87 g 461 b2 b3)), some (.int (fn_88 g 461 (fn_87 g 461 b2 b3) (g 2 1)))], [.int (g 461 1)], aa_H g) rfl r
      exact rn_ire rfl r
    · refine rn_sw1 (iw_s v h) r (fun c43 r => ?_) (fun c43 r => ?_)
      · have r : rn_s _ 85 (132, [some (.ref 1), x1, some (.int b2), some (.int b3), some (.int b4), x5, some (.int (fn_87 g 461 b2 b3)), some (.int (fn_88 g 461 (fn_87 g 461 b2 b3) (g 2 1)))], [], aa_H g) v h := r
        obtain ⟨n44, ln44, r⟩ := rn_steps 2 (139, [some (.ref 1), x1, some (.int b2), some (.int b3), some (.int b4), x5, some (.int (fn_87 g 461 b2 b3)), some (.int (fn_88 g 461 (fn_87 g 461 b2 b3) (g 2 1)))], [.int (g 461 2)], aa_H g) rfl r
        exact rn_ire rfl r
      · refine rn_sw1 (iw_s v h) r (fun c45 r => ?_) (fun c45 r => ?_)
        · have r : rn_s _ 85 (140, [some (.ref 1), x1, some (.int b2), some (.int b3), some (.int b4), x5, some (.int (fn_87 g 461 b2 b3)), some (.int (fn_88 g 461 (fn_87 g 461 b2 b3) (g 2 1)))], [], aa_H g) v h := r
          obtain ⟨n46, ln46, r⟩ := rn_steps 2 (146, [some (.ref 1), x1, some (.int b2), some (.int b3), some (.int b4), x5, some (.int (fn_87 g 461 b2 b3)), some (.int (fn_88 g 461 (fn_87 g 461 b2 b3) (g 2 1)))], [.int (fn_88 g 461 (fn_87 g 461 b2 b3) (g 2 1)), .ref 2], aa_H g) rfl r
          obtain ⟨_, n47, v1, h1, -, ln47, rc, r⟩ := rn_call (m2 := 89) (as := [.ref 2, .int (fn_88 g 461 (fn_87 g 461 b2 b3) (g 2 1))]) (rest := []) rfl rfl r
          obtain ⟨rfl, rfl⟩ := dn_89 rc
          have r : rn_s _ 85 (149, [some (.ref 1), x1, some (.int b2), some (.int b3), some (.int b4), x5, some (.int (fn_87 g 461 b2 b3)), some (.int (fn_88 g 461 (fn_87 g 461 b2 b3) (g 2 1)))], [.int (fn_89 g (fn_88 g 461 (fn_87 g 461 b2 b3) (g 2 1)))], aa_H g) v h := r
          exact rn_ire rfl r
        · refine rn_sw1 (iw_s v h) r (fun c49 r => ?_) (fun c49 r => ?_)
          · have r : rn_s _ 85 (150, [some (.ref 1), x1, some (.int b2), some (.int b3), some (.int b4), x5, some (.int (fn_87 g 461 b2 b3)), some (.int (fn_88 g 461 (fn_87 g 461 b2 b3) (g 2 1)))], [], aa_H g) v h := r
            obtain ⟨n50, ln50, r⟩ := rn_steps 3 (158, [some (.ref 1), x1, some (.int b2), some (.int b3), some (.int b4), x5, some (.int (fn_87 g 461 b2 b3)), some (.int (fn_88 g 461 (fn_87 g 461 b2 b3) (g 2 1)))], [.int (fn_88 g 461 (fn_87 g 461 b2 b3) (g 2 1)), .ref 2, .int (fn_88 g 461 (fn_87 g 461 b2 b3) (g 2 1))], aa_H g) rfl r
            obtain ⟨_, n51, v1, h1, -, ln51, rc, r⟩ := rn_call (m2 := 89) (as := [.ref 2, .int (fn_88 g 461 (fn_87 g 461 b2 b3) (g 2 1))]) (rest := [.int (fn_88 g 461 (fn_87 g 461 b2 b3) (g 2 1))]) rfl rfl r
            obtain ⟨rfl, rfl⟩ := dn_89 rc
            have r : rn_s _ 85 (161, [some (.ref 1), x1, some (.int b2), some (.int b3), some (.int b4), x5, some (.int (fn_87 g 461 b2 b3)), some (.int (fn_88 g 461 (fn_87 g 461 b2 b3) (g 2 1)))], [.int (fn_89 g (fn_88 g 461 (fn_87 g 461 b2 b3) (g 2 1))), .int (fn_88 g 461 (fn_87 g 461 b2 b3) (g 2 1))], aa_H g) v h := r
            obtain ⟨n53, ln53, r⟩ := rn_steps 4 (170, [some (.ref 1), x1, some (.int b2), some (.int b3), some (.int b4), x5, some (.int (fn_87 g 461 b2 b3)), some (.int (fn_88 g 461 (fn_87 g 461 b2 b3) (g 2 1)))], [.int ((fn_88 g 461 (fn_87 g 461 b2 b3) (g 2 1)) - ((fn_89 g (fn_88 g 461 (fn_87 g 461 b2 b3) (g 2 1))) * (g 2 1)))], aa_H g) rfl r
            exact rn_ire rfl r
          · refine rn_sw1 (iw_s v h) r (fun c54 r => ?_) (fun c54 r => ?_)
            · have r : rn_s _ 85 (171, [some (.ref 1), x1, some (.int b2), some (.int b3), some (.int b4), x5, some (.int (fn_87 g 461 b2 b3)), some (.int (fn_88 g 461 (fn_87 g 461 b2 b3) (g 2 1)))], [], aa_H g) v h := r
              obtain ⟨n55, ln55, r⟩ := rn_steps 0 (173, [some (.ref 1), x1, some (.int b2), some (.int b3), some (.int b4), x5, some (.int (fn_87 g 461 b2 b3)), some (.int (fn_88 g 461 (fn_87 g 461 b2 b3) (g 2 1)))], [.int (fn_88 g 461 (fn_87 g 461 b2 b3) (g 2 1))], aa_H g) rfl r
              exact rn_ire rfl r
            · have r : rn_s _ 85 (174, [some (.ref 1), x1, some (.int b2), some (.int b3), some (.int b4), x5, some (.int (fn_87 g 461 b2 b3)), some (.int (fn_88 g 461 (fn_87 g 461 b2 b3) (g 2 1)))], [], aa_H g) v h := r
              obtain ⟨n56, ln56, r⟩ := rn_steps 0 (176, [some (.ref 1), x1, some (.int b2), some (.int b3), some (.int b4), x5, some (.int (fn_87 g 461 b2 b3)), some (.int (fn_88 g 461 (fn_87 g 461 b2 b3) (g 2 1)))], [.int (fn_87 g 461 b2 b3)], aa_H g) rfl r
              exact rn_ire rfl r
  · obtain ⟨n57, ln57, r⟩ := rn_steps 0 (57, [some (.ref 1), x1, some (.int b2), some (.int b3), some (.int b4), x5, x6, x7], [.int (-2)], aa_H g) rfl r
    exact rn_ire rfl r
noncomputable def fn_85 (g : aa_G) (a1 : Int32) (a2 : Int32) (a3 : Int32) (a4 : Int32) : Int32 × aa_G := (match fn_31 g a1 with | none => ((-1, g)) | some W6 => (if (fn_77 a2) = 0 then (-1, g) else if (fn_66 a3) = 0 then (-1, g) else if (fn_14 a4 0 5) ≠ 0 then fn_85_52 ((fn_86 g 461 W6 a2 a3).2) a2 a3 a4 ((fn_86 g 461 W6 a2 a3).1) else (-1, g)))
theorem dn_85 {v : Option Value} {h : zz_H} {n : Nat} {g : aa_G} {a1 : Int32} {a2 : Int32} {a3 : Int32} {a4 : Int32}  (r : rn_s n 85 (0, zz_in [.ref 1, .int a1, .int a2, .int a3, .int a4] (zz_nl 85), [], aa_H g) v h) : iw_s v h (fn_85 g a1 a2 a3 a4) := by
  have r : rn_s n 85 (0, [some (.ref 1), some (.int a1), some (.int a2), some (.int a3), some (.int a4), none, none, none], [], aa_H g) v h := r
  unfold fn_85
  obtain ⟨n1, ln1, r⟩ := rn_steps 2 (5, [some (.ref 1), some (.int a1), some (.int a2), some (.int a3), some (.int a4), none, none, none], [.int a1, .ref 2], aa_H g) rfl r
  obtain ⟨_, n2, v1, h1, -, ln2, rc, r⟩ := rn_call (m2 := 31) (as := [.ref 2, .int a1]) (rest := []) rfl rfl r
  obtain ⟨rfl, rfl, ho4⟩ := dn_31 rc
  have r : rn_s _ 85 (8, [some (.ref 1), some (.int a1), some (.int a2), some (.int a3), some (.int a4), none, none, none], [zz_val (fn_31 g a1)], aa_H g) v h := r
  cases e5 : fn_31 g a1 with
  | none =>
    rw [e5] at r
    have r : rn_s _ 85 (8, [some (.ref 1), some (.int a1), some (.int a2), some (.int a3), some (.int a4), none, none, none], [.null], aa_H g) v h := r
    dsimp only
    obtain ⟨n8, ln8, r⟩ := rn_steps 3 (40, [some (.ref 1), some (.int a1), some (.int a2), some (.int a3), some (.int a4), some (.null), none, none], [.int (-1)], aa_H g) rfl r
    exact rn_ire rfl r
  | some W6 =>
    rw [e5] at r
    have hw7 : ct_tw W6 := ho4 _ e5
    have r : rn_s _ 85 (8, [some (.ref 1), some (.int a1), some (.int a2), some (.int a3), some (.int a4), none, none, none], [.ref W6], aa_H g) v h := r
    dsimp only
    obtain ⟨n9, ln9, r⟩ := rn_steps 3 (16, [some (.ref 1), some (.int a1), some (.int a2), some (.int a3), some (.int a4), some (.ref W6), none, none], [.int a2], aa_H g) rfl r
    obtain ⟨_, n10, v1, h1, -, ln10, rc, r⟩ := rn_call (m2 := 77) (as := [.int a2]) (rest := []) rfl rfl r
    obtain ⟨rfl, rfl⟩ := dn_77 rc
    have r : rn_s _ 85 (19, [some (.ref 1), some (.int a1), some (.int a2), some (.int a3), some (.int a4), some (.ref W6), none, none], [.int (fn_77 a2)], aa_H g) v h := r
    refine rn_if (iw_s v h) rfl decide_eq_true_iff.symm r (fun c12 l13n l13 r => ?_) (fun c12 l13n l13 r => ?_)
    · obtain ⟨n14, ln14, r⟩ := rn_steps 0 (40, [some (.ref 1), some (.int a1), some (.int a2), some (.int a3), some (.int a4), some (.ref W6), none, none], [.int (-1)], aa_H g) rfl r
      exact rn_ire rfl r
    · obtain ⟨n15, ln15, r⟩ := rn_steps 0 (23, [some (.ref 1), some (.int a1), some (.int a2), some (.int a3), some (.int a4), some (.ref W6), none, none], [.int a3], aa_H g) rfl r
      obtain ⟨_, n16, v1, h1, -, ln16, rc, r⟩ := rn_call (m2 := 66) (as := [.int a3]) (rest := []) rfl rfl r
      obtain ⟨rfl, rfl⟩ := dn_66 rc
      have r : rn_s _ 85 (26, [some (.ref 1), some (.int a1), some (.int a2), some (.int a3), some (.int a4), some (.ref W6), none, none], [.int (fn_66 a3)], aa_H g) v h := r
      refine rn_if (iw_s v h) rfl decide_eq_true_iff.symm r (fun c18 l19n l19 r => ?_) (fun c18 l19n l19 r => ?_)
      · obtain ⟨n20, ln20, r⟩ := rn_steps 0 (40, [some (.ref 1), some (.int a1), some (.int a2), some (.int a3), some (.int a4), some (.ref W6), none, none], [.int (-1)], aa_H g) rfl r
        exact rn_ire rfl r
      · obtain ⟨n21, ln21, r⟩ := rn_steps 2 (33, [some (.ref 1), some (.int a1), some (.int a2), some (.int a3), some (.int a4), some (.ref W6), none, none], [.int 5, .int 0, .int a4], aa_H g) rfl r
        obtain ⟨_, n22, v1, h1, -, ln22, rc, r⟩ := rn_call (m2 := 14) (as := [.int a4, .int 0, .int 5]) (rest := []) rfl rfl r
        obtain ⟨rfl, rfl⟩ := dn_14 rc
        have r : rn_s _ 85 (36, [some (.ref 1), some (.int a1), some (.int a2), some (.int a3), some (.int a4), some (.ref W6), none, none], [.int (fn_14 a4 0 5)], aa_H g) v h := r
        refine rn_if (iw_s v h) rfl decide_eq_true_iff.symm r (fun c24 l25n l25 r => ?_) (fun c24 l25n l25 r => ?_)
        · obtain ⟨n26, ln26, r⟩ := rn_steps 4 (49, [some (.ref 1), some (.int a1), some (.int a2), some (.int a3), some (.int a4), some (.ref W6), none, none], [.int a3, .int a2, .ref W6, .ref 461], aa_H g) rfl r
          obtain ⟨_, n27, v1, h1, -, ln27, rc, r⟩ := rn_call (m2 := 86) (as := [.ref 461, .ref W6, .int a2, .int a3]) (rest := []) rfl rfl r
          obtain ⟨rfl, rfl⟩ := dn_86 sp_c461 hw7 rc
          have r : rn_s _ 85 (52, [some (.ref 1), some (.int a1), some (.int a2), some (.int a3), some (.int a4), some (.ref W6), none, none], [.int ((fn_86 g 461 W6 a2 a3).1)], aa_H ((fn_86 g 461 W6 a2 a3).2)) v h := r
          exact dn_85_52 (some (.int a1)) (some (.ref W6)) none none rn_ji rn_jr rn_jn rn_jn r
        · obtain ⟨n29, ln29, r⟩ := rn_steps 0 (40, [some (.ref 1), some (.int a1), some (.int a2), some (.int a3), some (.int a4), some (.ref W6), none, none], [.int (-1)], aa_H g) rfl r
          exact rn_ire rfl r
-- 92: UnequalHours Span secondOf
noncomputable def fn_92 (g : aa_G) (P : Nat) (a1 : Int32) (a2 : Int32) : Int32 := if (g P 0) = 0 then -2 else if 1 ≤ a2 then if 0 ≤ (lg_cmp ((((a1.toInt64 * ((g P 4).toInt64)) + (12 * a2.toInt64)) - 1) / (12 * a2.toInt64)) ((g P 4).toInt64)) then -2 else (g P 3) + (((((a1.toInt64 * ((g P 4).toInt64)) + (12 * a2.toInt64)) - 1) / (12 * a2.toInt64)).toInt32) else -2
theorem dn_92 {v : Option Value} {h : zz_H} {n : Nat} {g : aa_G} {P : Nat} {a1 : Int32} {a2 : Int32} (hP : sp_ok P) (r : rn_s n 92 (0, zz_in [.ref P, .int a1, .int a2] (zz_nl 92), [], aa_H g) v h) : ir_s g v h (fn_92 g P a1 a2) := by
  have r : rn_s n 92 (0, [some (.ref P), some (.int a1), some (.int a2), none, none, none, none], [], aa_H g) v h := r
  unfold fn_92
  obtain ⟨n1, ln1, r⟩ := rn_steps 0 (1, [some (.ref P), some (.int a1), some (.int a2), none, none, none, none], [.ref P], aa_H g) rfl r
  obtain ⟨n2, ln2, r⟩ := rn_gf rfl (sp_hk hP) (sp_hl hP) rfl r
  have r : rn_s _ 92 (4, [some (.ref P), some (.int a1), some (.int a2), none, none, none, none], [.int (g P 0)], aa_H g) v h := r
  refine rn_if (ir_s g v h) rfl decide_eq_true_iff.symm r (fun c3 l4n l4 r => ?_) (fun c3 l4n l4 r => ?_)
  · obtain ⟨n5, ln5, r⟩ := rn_steps 0 (14, [some (.ref P), some (.int a1), some (.int a2), none, none, none, none], [.int (-2)], aa_H g) rfl r
    exact rn_ire rfl r
  · obtain ⟨n6, ln6, r⟩ := rn_steps 1 (9, [some (.ref P), some (.int a1), some (.int a2), none, none, none, none], [.int 1, .int a2], aa_H g) rfl r
    refine rn_ic (ir_s g v h) rfl decide_eq_true_iff.symm r (fun c7 l8n l8 r => ?_) (fun c7 l8n l8 r => ?_)
    · obtain ⟨n9, ln9, r⟩ := rn_steps 7 (25, [some (.ref P), some (.int a1), some (.int a2), some (.long (12 * a2.toInt64)), none, none, none], [.ref P, .long a1.toInt64], aa_H g) rfl r
      obtain ⟨n10, ln10, r⟩ := rn_gf rfl (sp_hk hP) (sp_hl hP) rfl r
      have r : rn_s _ 92 (28, [some (.ref P), some (.int a1), some (.int a2), some (.long (12 * a2.toInt64)), none, none, none], [.int (g P 4), .long a1.toInt64], aa_H g) v h := r
      obtain ⟨n11, ln11, r⟩ := rn_steps 6 (35, [some (.ref P), some (.int a1), some (.int a2), some (.long (12 * a2.toInt64)), none, none, none], [.long (12 * a2.toInt64), .long (((a1.toInt64 * ((g P 4).toInt64)) + (12 * a2.toInt64)) - 1)], aa_H g) rfl r
      obtain ⟨hd13, n12, ln12, r⟩ := rn_ldiv rfl r
      have r : rn_s _ 92 (36, [some (.ref P), some (.int a1), some (.int a2), some (.long (12 * a2.toInt64)), none, none, none], [.long ((((a1.toInt64 * ((g P 4).toInt64)) + (12 * a2.toInt64)) - 1) / (12 * a2.toInt64))], aa_H g) v h := r
      obtain ⟨n14, ln14, r⟩ := rn_steps 2 (41, [some (.ref P), some (.int a1), some (.int a2), some (.long (12 * a2.toInt64)), none, some (.long ((((a1.toInt64 * ((g P 4).toInt64)) + (12 * a2.toInt64)) - 1) / (12 * a2.toInt64))), none], [.ref P, .long ((((a1.toInt64 * ((g P 4).toInt64)) + (12 * a2.toInt64)) - 1) / (12 * a2.toInt64))], aa_H g) rfl r
      obtain ⟨n15, ln15, r⟩ := rn_gf rfl (sp_hk hP) (sp_hl hP) rfl r
      have r : rn_s _ 92 (44, [some (.ref P), some (.int a1), some (.int a2), some (.long (12 * a2.toInt64)), none, some (.long ((((a1.toInt64 * ((g P 4).toInt64)) + (12 * a2.toInt64)) - 1) / (12 * a2.toInt64))), none], [.int (g P 4), .long ((((a1.toInt64 * ((g P 4).toInt64)) + (12 * a2.toInt64)) - 1) / (12 * a2.toInt64))], aa_H g) v h := r
      obtain ⟨n16, ln16, r⟩ := rn_steps 1 (46, [some (.ref P), some (.int a1), some (.int a2), some (.long (12 * a2.toInt64)), none, some (.long ((((a1.toInt64 * ((g P 4).toInt64)) + (12 * a2.toInt64)) - 1) / (12 * a2.toInt64))), none], [.int (lg_cmp ((((a1.toInt64 * ((g P 4).toInt64)) + (12 * a2.toInt64)) - 1) / (12 * a2.toInt64)) ((g P 4).toInt64))], aa_H g) rfl r
      refine rn_if (ir_s g v h) rfl decide_eq_true_iff.symm r (fun c17 l18n l18 r => ?_) (fun c17 l18n l18 r => ?_)
      · obtain ⟨n19, ln19, r⟩ := rn_steps 0 (62, [some (.ref P), some (.int a1), some (.int a2), some (.long (12 * a2.toInt64)), none, some (.long ((((a1.toInt64 * ((g P 4).toInt64)) + (12 * a2.toInt64)) - 1) / (12 * a2.toInt64))), none], [.int (-2)], aa_H g) rfl r
        exact rn_ire rfl r
      · obtain ⟨n20, ln20, r⟩ := rn_steps 0 (50, [some (.ref P), some (.int a1), some (.int a2), some (.long (12 * a2.toInt64)), none, some (.long ((((a1.toInt64 * ((g P 4).toInt64)) + (12 * a2.toInt64)) - 1) / (12 * a2.toInt64))), none], [.ref P], aa_H g) rfl r
        obtain ⟨n21, ln21, r⟩ := rn_gf rfl (sp_hk hP) (sp_hl hP) rfl r
        have r : rn_s _ 92 (53, [some (.ref P), some (.int a1), some (.int a2), some (.long (12 * a2.toInt64)), none, some (.long ((((a1.toInt64 * ((g P 4).toInt64)) + (12 * a2.toInt64)) - 1) / (12 * a2.toInt64))), none], [.int (g P 3)], aa_H g) v h := r
        obtain ⟨n22, ln22, r⟩ := rn_steps 3 (62, [some (.ref P), some (.int a1), some (.int a2), some (.long (12 * a2.toInt64)), none, some (.long ((((a1.toInt64 * ((g P 4).toInt64)) + (12 * a2.toInt64)) - 1) / (12 * a2.toInt64))), none], [.int ((g P 3) + (((((a1.toInt64 * ((g P 4).toInt64)) + (12 * a2.toInt64)) - 1) / (12 * a2.toInt64)).toInt32))], aa_H g) rfl r
        exact rn_ire rfl r
    · obtain ⟨n23, ln23, r⟩ := rn_steps 0 (14, [some (.ref P), some (.int a1), some (.int a2), none, none, none, none], [.int (-2)], aa_H g) rfl r
      exact rn_ire rfl r
-- 91: UnequalHours isPlace
noncomputable def fn_91 (g : aa_G) (a1 : Int32) (a2 : Int32) : Int32 := if (fn_14 a1 0 1) = 0 then 0 else if (fn_14 a2 0 ((12 * (g 2 1)) - 1)) = 0 then 0 else 1
theorem dn_91 {v : Option Value} {h : zz_H} {n : Nat} {g : aa_G} {a1 : Int32} {a2 : Int32}  (r : rn_s n 91 (0, zz_in [.ref 1, .int a1, .int a2] (zz_nl 91), [], aa_H g) v h) : ir_s g v h (fn_91 g a1 a2) := by
  have r : rn_s n 91 (0, [some (.ref 1), some (.int a1), some (.int a2)], [], aa_H g) v h := r
  unfold fn_91
  obtain ⟨n1, ln1, r⟩ := rn_steps 2 (3, [some (.ref 1), some (.int a1), some (.int a2)], [.int 1, .int 0, .int a1], aa_H g) rfl r
  obtain ⟨_, n2, v1, h1, -, ln2, rc, r⟩ := rn_call (m2 := 14) (as := [.int a1, .int 0, .int 1]) (rest := []) rfl rfl r
  obtain ⟨rfl, rfl⟩ := dn_14 rc
  have r : rn_s _ 91 (6, [some (.ref 1), some (.int a1), some (.int a2)], [.int (fn_14 a1 0 1)], aa_H g) v h := r
  refine rn_if (ir_s g v h) rfl decide_eq_true_iff.symm r (fun c4 l5n l5 r => ?_) (fun c4 l5n l5 r => ?_)
  · obtain ⟨n6, ln6, r⟩ := rn_steps 0 (34, [some (.ref 1), some (.int a1), some (.int a2)], [.int 0], aa_H g) rfl r
    exact rn_ire rfl r
  · obtain ⟨n7, ln7, r⟩ := rn_steps 8 (23, [some (.ref 1), some (.int a1), some (.int a2)], [.int ((12 * (g 2 1)) - 1), .int 0, .int a2], aa_H g) rfl r
    obtain ⟨_, n8, v1, h1, -, ln8, rc, r⟩ := rn_call (m2 := 14) (as := [.int a2, .int 0, .int ((12 * (g 2 1)) - 1)]) (rest := []) rfl rfl r
    obtain ⟨rfl, rfl⟩ := dn_14 rc
    have r : rn_s _ 91 (26, [some (.ref 1), some (.int a1), some (.int a2)], [.int (fn_14 a2 0 ((12 * (g 2 1)) - 1))], aa_H g) v h := r
    refine rn_if (ir_s g v h) rfl decide_eq_true_iff.symm r (fun c10 l11n l11 r => ?_) (fun c10 l11n l11 r => ?_)
    · obtain ⟨n12, ln12, r⟩ := rn_steps 0 (34, [some (.ref 1), some (.int a1), some (.int a2)], [.int 0], aa_H g) rfl r
      exact rn_ire rfl r
    · obtain ⟨n13, ln13, r⟩ := rn_steps 1 (34, [some (.ref 1), some (.int a1), some (.int a2)], [.int 1], aa_H g) rfl r
      exact rn_ire rfl r
-- 90: UnequalHours back
noncomputable def fn_90_45 (g : aa_G) (b4 : Int32) : Int32 × aa_G := (fn_92 g 461 b4 (g 2 1), g)
theorem dn_90_45 {v : Option Value} {h : zz_H} {n : Nat} {g : aa_G} {b4 : Int32}  (x1 x2 x3 x5 : Option Value) (jx1 : rn_jk x1) (jx2 : rn_jk x2) (jx3 : rn_jk x3) (jx5 : rn_jk x5) (r : rn_s n 90 (45, [some (.ref 1), x1, x2, x3, some (.int b4), x5], [], aa_H g) v h) : iw_s v h (fn_90_45 g b4) := by
  unfold fn_90_45
  obtain ⟨n24, ln24, r⟩ := rn_steps 5 (58, [some (.ref 1), x1, x2, x3, some (.int b4), x5], [.int (g 2 1), .int b4, .ref 461], aa_H g) rfl r
  obtain ⟨_, n25, v1, h1, -, ln25, rc, r⟩ := rn_call (m2 := 92) (as := [.ref 461, .int b4, .int (g 2 1)]) (rest := []) rfl rfl r
  obtain ⟨rfl, rfl⟩ := dn_92 sp_c461 rc
  have r : rn_s _ 90 (61, [some (.ref 1), x1, x2, x3, some (.int b4), x5], [.int (fn_92 g 461 b4 (g 2 1))], aa_H g) v h := r
  exact rn_ire rfl r
noncomputable def fn_90 (g : aa_G) (a1 : Int32) (a2 : Int32) (a3 : Int32) (a4 : Int32) : Int32 × aa_G := (match fn_31 g a1 with | none => ((-1, g)) | some W6 => (if (fn_77 a2) = 0 then (-1, g) else if (fn_91 g a3 a4) ≠ 0 then fn_90_45 (fn_78 g 461 (some W6) a2 a3) a4 else (-1, g)))
theorem dn_90 {v : Option Value} {h : zz_H} {n : Nat} {g : aa_G} {a1 : Int32} {a2 : Int32} {a3 : Int32} {a4 : Int32}  (r : rn_s n 90 (0, zz_in [.ref 1, .int a1, .int a2, .int a3, .int a4] (zz_nl 90), [], aa_H g) v h) : iw_s v h (fn_90 g a1 a2 a3 a4) := by
  have r : rn_s n 90 (0, [some (.ref 1), some (.int a1), some (.int a2), some (.int a3), some (.int a4), none], [], aa_H g) v h := r
  unfold fn_90
  obtain ⟨n1, ln1, r⟩ := rn_steps 2 (5, [some (.ref 1), some (.int a1), some (.int a2), some (.int a3), some (.int a4), none], [.int a1, .ref 2], aa_H g) rfl r
  obtain ⟨_, n2, v1, h1, -, ln2, rc, r⟩ := rn_call (m2 := 31) (as := [.ref 2, .int a1]) (rest := []) rfl rfl r
  obtain ⟨rfl, rfl, ho4⟩ := dn_31 rc
  have r : rn_s _ 90 (8, [some (.ref 1), some (.int a1), some (.int a2), some (.int a3), some (.int a4), none], [zz_val (fn_31 g a1)], aa_H g) v h := r
  cases e5 : fn_31 g a1 with
  | none =>
    rw [e5] at r
    have r : rn_s _ 90 (8, [some (.ref 1), some (.int a1), some (.int a2), some (.int a3), some (.int a4), none], [.null], aa_H g) v h := r
    dsimp only
    obtain ⟨n8, ln8, r⟩ := rn_steps 3 (33, [some (.ref 1), some (.int a1), some (.int a2), some (.int a3), some (.int a4), some (.null)], [.int (-1)], aa_H g) rfl r
    exact rn_ire rfl r
  | some W6 =>
    rw [e5] at r
    have hw7 : ct_tw W6 := ho4 _ e5
    have r : rn_s _ 90 (8, [some (.ref 1), some (.int a1), some (.int a2), some (.int a3), some (.int a4), none], [.ref W6], aa_H g) v h := r
    dsimp only
    obtain ⟨n9, ln9, r⟩ := rn_steps 3 (16, [some (.ref 1), some (.int a1), some (.int a2), some (.int a3), some (.int a4), some (.ref W6)], [.int a2], aa_H g) rfl r
    obtain ⟨_, n10, v1, h1, -, ln10, rc, r⟩ := rn_call (m2 := 77) (as := [.int a2]) (rest := []) rfl rfl r
    obtain ⟨rfl, rfl⟩ := dn_77 rc
    have r : rn_s _ 90 (19, [some (.ref 1), some (.int a1), some (.int a2), some (.int a3), some (.int a4), some (.ref W6)], [.int (fn_77 a2)], aa_H g) v h := r
    refine rn_if (iw_s v h) rfl decide_eq_true_iff.symm r (fun c12 l13n l13 r => ?_) (fun c12 l13n l13 r => ?_)
    · obtain ⟨n14, ln14, r⟩ := rn_steps 0 (33, [some (.ref 1), some (.int a1), some (.int a2), some (.int a3), some (.int a4), some (.ref W6)], [.int (-1)], aa_H g) rfl r
      exact rn_ire rfl r
    · obtain ⟨n15, ln15, r⟩ := rn_steps 2 (26, [some (.ref 1), some (.int a1), some (.int a2), some (.int a3), some (.int a4), some (.ref W6)], [.int a4, .int a3, .ref 1], aa_H g) rfl r
      obtain ⟨_, n16, v1, h1, -, ln16, rc, r⟩ := rn_call (m2 := 91) (as := [.ref 1, .int a3, .int a4]) (rest := []) rfl rfl r
      obtain ⟨rfl, rfl⟩ := dn_91 rc
      have r : rn_s _ 90 (29, [some (.ref 1), some (.int a1), some (.int a2), some (.int a3), some (.int a4), some (.ref W6)], [.int (fn_91 g a3 a4)], aa_H g) v h := r
      refine rn_if (iw_s v h) rfl decide_eq_true_iff.symm r (fun c18 l19n l19 r => ?_) (fun c18 l19n l19 r => ?_)
      · obtain ⟨n20, ln20, r⟩ := rn_steps 4 (42, [some (.ref 1), some (.int a1), some (.int a2), some (.int a3), some (.int a4), some (.ref W6)], [.int a3, .int a2, .ref W6, .ref 461], aa_H g) rfl r
        obtain ⟨_, n21, v1, h1, -, ln21, rc, r⟩ := rn_call (m2 := 78) (as := [.ref 461, .ref W6, .int a2, .int a3]) (rest := []) rfl rfl r
        obtain ⟨rfl, rfl⟩ := dn_78 sp_c461 (rn_o1 hw7) rc
        have r : rn_s _ 90 (45, [some (.ref 1), some (.int a1), some (.int a2), some (.int a3), some (.int a4), some (.ref W6)], [], aa_H (fn_78 g 461 (some W6) a2 a3)) v h := r
        exact dn_90_45 (some (.int a1)) (some (.int a2)) (some (.int a3)) (some (.ref W6)) rn_ji rn_ji rn_ji rn_jr r
      · obtain ⟨n23, ln23, r⟩ := rn_steps 0 (33, [some (.ref 1), some (.int a1), some (.int a2), some (.int a3), some (.int a4), some (.ref W6)], [.int (-1)], aa_H g) rfl r
        exact rn_ire rfl r
-- 94: UnequalHours ahead
noncomputable def fn_94 (g : aa_G) (T : Nat) (T2 : Nat) : Int32 := (g T2 0) - (g T 0)
theorem dn_94 {v : Option Value} {h : zz_H} {n : Nat} {g : aa_G} {T : Nat} {T2 : Nat} (hT : ct_tw T) (hT2 : ct_tw T2) (r : rn_s n 94 (0, zz_in [.ref T, .ref T2] (zz_nl 94), [], aa_H g) v h) : ir_s g v h (fn_94 g T T2) := by
  have r : rn_s n 94 (0, [some (.ref T), some (.ref T2)], [], aa_H g) v h := r
  unfold fn_94
  obtain ⟨n1, ln1, r⟩ := rn_steps 0 (1, [some (.ref T), some (.ref T2)], [.ref T2], aa_H g) rfl r
  obtain ⟨n2, ln2, r⟩ := rn_gf rfl (tw_hk hT2) (tw_hl hT2) rfl r
  have r : rn_s _ 94 (4, [some (.ref T), some (.ref T2)], [.int (g T2 0)], aa_H g) v h := r
  obtain ⟨n3, ln3, r⟩ := rn_steps 0 (5, [some (.ref T), some (.ref T2)], [.ref T, .int (g T2 0)], aa_H g) rfl r
  obtain ⟨n4, ln4, r⟩ := rn_gf rfl (tw_hk hT) (tw_hl hT) rfl r
  have r : rn_s _ 94 (8, [some (.ref T), some (.ref T2)], [.int (g T 0), .int (g T2 0)], aa_H g) v h := r
  obtain ⟨n5, ln5, r⟩ := rn_steps 0 (9, [some (.ref T), some (.ref T2)], [.int ((g T2 0) - (g T 0))], aa_H g) rfl r
  exact rn_ire rfl r
-- 93: UnequalHours over
noncomputable def fn_93 (g : aa_G) (a1 : Int32) (a2 : Int32) (a3 : Int32) (a4 : Int32) (a5 : Int32) : Int32 := (match fn_31 g a1 with | none => ((match fn_31 g a4 with | none => (-1000000) | some W13 => (-1000000))) | some W6 => ((match fn_31 g a4 with | none => (-1000000) | some W22 => (if (fn_77 a2) = 0 then -1000000 else if (fn_66 a3) = 0 then -1000000 else if (fn_14 a5 0 1) ≠ 0 then if a5 ≠ 0 then fn_81 (a3 + (fn_94 g W6 W22)) 86400 else a2 + (fn_82 (a3 + (fn_94 g W6 W22)) 86400) else -1000000))))
theorem dn_93 {v : Option Value} {h : zz_H} {n : Nat} {g : aa_G} {a1 : Int32} {a2 : Int32} {a3 : Int32} {a4 : Int32} {a5 : Int32}  (r : rn_s n 93 (0, zz_in [.ref 1, .int a1, .int a2, .int a3, .int a4, .int a5] (zz_nl 93), [], aa_H g) v h) : ir_s g v h (fn_93 g a1 a2 a3 a4 a5) := by
  have r : rn_s n 93 (0, [some (.ref 1), some (.int a1), some (.int a2), some (.int a3), some (.int a4), some (.int a5), none, none, none], [], aa_H g) v h := r
  unfold fn_93
  obtain ⟨n1, ln1, r⟩ := rn_steps 2 (5, [some (.ref 1), some (.int a1), some (.int a2), some (.int a3), some (.int a4), some (.int a5), none, none, none], [.int a1, .ref 2], aa_H g) rfl r
  obtain ⟨_, n2, v1, h1, -, ln2, rc, r⟩ := rn_call (m2 := 31) (as := [.ref 2, .int a1]) (rest := []) rfl rfl r
  obtain ⟨rfl, rfl, ho4⟩ := dn_31 rc
  have r : rn_s _ 93 (8, [some (.ref 1), some (.int a1), some (.int a2), some (.int a3), some (.int a4), some (.int a5), none, none, none], [zz_val (fn_31 g a1)], aa_H g) v h := r
  cases e5 : fn_31 g a1 with
  | none =>
    rw [e5] at r
    have r : rn_s _ 93 (8, [some (.ref 1), some (.int a1), some (.int a2), some (.int a3), some (.int a4), some (.int a5), none, none, none], [.null], aa_H g) v h := r
    dsimp only
    obtain ⟨n8, ln8, r⟩ := rn_steps 3 (16, [some (.ref 1), some (.int a1), some (.int a2), some (.int a3), some (.int a4), some (.int a5), some (.null), none, none], [.int a4, .ref 2], aa_H g) rfl r
    obtain ⟨_, n9, v1, h1, -, ln9, rc, r⟩ := rn_call (m2 := 31) (as := [.ref 2, .int a4]) (rest := []) rfl rfl r
    obtain ⟨rfl, rfl, ho11⟩ := dn_31 rc
    have r : rn_s _ 93 (19, [some (.ref 1), some (.int a1), some (.int a2), some (.int a3), some (.int a4), some (.int a5), some (.null), none, none], [zz_val (fn_31 g a4)], aa_H g) v h := r
    cases e12 : fn_31 g a4 with
    | none =>
      rw [e12] at r
      have r : rn_s _ 93 (19, [some (.ref 1), some (.int a1), some (.int a2), some (.int a3), some (.int a4), some (.int a5), some (.null), none, none], [.null], aa_H g) v h := r
      dsimp only
      obtain ⟨n15, ln15, r⟩ := rn_steps 3 (57, [some (.ref 1), some (.int a1), some (.int a2), some (.int a3), some (.int a4), some (.int a5), some (.null), some (.null), none], [.int (-1000000)], aa_H g) rfl r
      exact rn_ire rfl r
    | some W13 =>
      rw [e12] at r
      have hw14 : ct_tw W13 := ho11 _ e12
      have r : rn_s _ 93 (19, [some (.ref 1), some (.int a1), some (.int a2), some (.int a3), some (.int a4), some (.int a5), some (.null), none, none], [.ref W13], aa_H g) v h := r
      dsimp only
      obtain ⟨n16, ln16, r⟩ := rn_steps 3 (57, [some (.ref 1), some (.int a1), some (.int a2), some (.int a3), some (.int a4), some (.int a5), some (.null), some (.ref W13), none], [.int (-1000000)], aa_H g) rfl r
      exact rn_ire rfl r
  | some W6 =>
    rw [e5] at r
    have hw7 : ct_tw W6 := ho4 _ e5
    have r : rn_s _ 93 (8, [some (.ref 1), some (.int a1), some (.int a2), some (.int a3), some (.int a4), some (.int a5), none, none, none], [.ref W6], aa_H g) v h := r
    dsimp only
    obtain ⟨n17, ln17, r⟩ := rn_steps 3 (16, [some (.ref 1), some (.int a1), some (.int a2), some (.int a3), some (.int a4), some (.int a5), some (.ref W6), none, none], [.int a4, .ref 2], aa_H g) rfl r
    obtain ⟨_, n18, v1, h1, -, ln18, rc, r⟩ := rn_call (m2 := 31) (as := [.ref 2, .int a4]) (rest := []) rfl rfl r
    obtain ⟨rfl, rfl, ho20⟩ := dn_31 rc
    have r : rn_s _ 93 (19, [some (.ref 1), some (.int a1), some (.int a2), some (.int a3), some (.int a4), some (.int a5), some (.ref W6), none, none], [zz_val (fn_31 g a4)], aa_H g) v h := r
    cases e21 : fn_31 g a4 with
    | none =>
      rw [e21] at r
      have r : rn_s _ 93 (19, [some (.ref 1), some (.int a1), some (.int a2), some (.int a3), some (.int a4), some (.int a5), some (.ref W6), none, none], [.null], aa_H g) v h := r
      dsimp only
      obtain ⟨n24, ln24, r⟩ := rn_steps 5 (57, [some (.ref 1), some (.int a1), some (.int a2), some (.int a3), some (.int a4), some (.int a5), some (.ref W6), some (.null), none], [.int (-1000000)], aa_H g) rfl r
      exact rn_ire rfl r
    | some W22 =>
      rw [e21] at r
      have hw23 : ct_tw W22 := ho20 _ e21
      have r : rn_s _ 93 (19, [some (.ref 1), some (.int a1), some (.int a2), some (.int a3), some (.int a4), some (.int a5), some (.ref W6), none, none], [.ref W22], aa_H g) v h := r
      dsimp only
      obtain ⟨n25, ln25, r⟩ := rn_steps 5 (32, [some (.ref 1), some (.int a1), some (.int a2), some (.int a3), some (.int a4), some (.int a5), some (.ref W6), some (.ref W22), none], [.int a2], aa_H g) rfl r
      obtain ⟨_, n26, v1, h1, -, ln26, rc, r⟩ := rn_call (m2 := 77) (as := [.int a2]) (rest := []) rfl rfl r
      obtain ⟨rfl, rfl⟩ := dn_77 rc
      have r : rn_s _ 93 (35, [some (.ref 1), some (.int a1), some (.int a2), some (.int a3), some (.int a4), some (.int a5), some (.ref W6), some (.ref W22), none], [.int (fn_77 a2)], aa_H g) v h := r
      refine rn_if (ir_s g v h) rfl decide_eq_true_iff.symm r (fun c28 l29n l29 r => ?_) (fun c28 l29n l29 r => ?_)
      · obtain ⟨n30, ln30, r⟩ := rn_steps 0 (57, [some (.ref 1), some (.int a1), some (.int a2), some (.int a3), some (.int a4), some (.int a5), some (.ref W6), some (.ref W22), none], [.int (-1000000)], aa_H g) rfl r
        exact rn_ire rfl r
      · obtain ⟨n31, ln31, r⟩ := rn_steps 0 (39, [some (.ref 1), some (.int a1), some (.int a2), some (.int a3), some (.int a4), some (.int a5), some (.ref W6), some (.ref W22), none], [.int a3], aa_H g) rfl r
        obtain ⟨_, n32, v1, h1, -, ln32, rc, r⟩ := rn_call (m2 := 66) (as := [.int a3]) (rest := []) rfl rfl r
        obtain ⟨rfl, rfl⟩ := dn_66 rc
        have r : rn_s _ 93 (42, [some (.ref 1), some (.int a1), some (.int a2), some (.int a3), some (.int a4), some (.int a5), some (.ref W6), some (.ref W22), none], [.int (fn_66 a3)], aa_H g) v h := r
        refine rn_if (ir_s g v h) rfl decide_eq_true_iff.symm r (fun c34 l35n l35 r => ?_) (fun c34 l35n l35 r => ?_)
        · obtain ⟨n36, ln36, r⟩ := rn_steps 0 (57, [some (.ref 1), some (.int a1), some (.int a2), some (.int a3), some (.int a4), some (.int a5), some (.ref W6), some (.ref W22), none], [.int (-1000000)], aa_H g) rfl r
          exact rn_ire rfl r
        · obtain ⟨n37, ln37, r⟩ := rn_steps 2 (49, [some (.ref 1), some (.int a1), some (.int a2), some (.int a3), some (.int a4), some (.int a5), some (.ref W6), some (.ref W22), none], [.int 1, .int 0, .int a5], aa_H g) rfl r
          obtain ⟨_, n38, v1, h1, -, ln38, rc, r⟩ := rn_call (m2 := 14) (as := [.int a5, .int 0, .int 1]) (rest := []) rfl rfl r
          obtain ⟨rfl, rfl⟩ := dn_14 rc
          have r : rn_s _ 93 (52, [some (.ref 1), some (.int a1), some (.int a2), some (.int a3), some (.int a4), some (.int a5), some (.ref W6), some (.ref W22), none], [.int (fn_14 a5 0 1)], aa_H g) v h := r
          refine rn_if (ir_s g v h) rfl decide_eq_true_iff.symm r (fun c40 l41n l41 r => ?_) (fun c40 l41n l41 r => ?_)
          · obtain ⟨n42, ln42, r⟩ := rn_steps 2 (63, [some (.ref 1), some (.int a1), some (.int a2), some (.int a3), some (.int a4), some (.int a5), some (.ref W6), some (.ref W22), none], [.ref W22, .ref W6, .int a3], aa_H g) rfl r
            obtain ⟨_, n43, v1, h1, -, ln43, rc, r⟩ := rn_call (m2 := 94) (as := [.ref W6, .ref W22]) (rest := [.int a3]) rfl rfl r
            obtain ⟨rfl, rfl⟩ := dn_94 hw7 hw23 rc
            have r : rn_s _ 93 (66, [some (.ref 1), some (.int a1), some (.int a2), some (.int a3), some (.int a4), some (.int a5), some (.ref W6), some (.ref W22), none], [.int (fn_94 g W6 W22), .int a3], aa_H g) v h := r
            obtain ⟨n45, ln45, r⟩ := rn_steps 2 (71, [some (.ref 1), some (.int a1), some (.int a2), some (.int a3), some (.int a4), some (.int a5), some (.ref W6), some (.ref W22), some (.int (a3 + (fn_94 g W6 W22)))], [.int a5], aa_H g) rfl r
            refine rn_if (ir_s g v h) rfl decide_eq_true_iff.symm r (fun c46 l47n l47 r => ?_) (fun c46 l47n l47 r => ?_)
            · obtain ⟨n48, ln48, r⟩ := rn_steps 1 (90, [some (.ref 1), some (.int a1), some (.int a2), some (.int a3), some (.int a4), some (.int a5), some (.ref W6), some (.ref W22), some (.int (a3 + (fn_94 g W6 W22)))], [.int 86400, .int (a3 + (fn_94 g W6 W22))], aa_H g) rfl r
              obtain ⟨_, n49, v1, h1, -, ln49, rc, r⟩ := rn_call (m2 := 81) (as := [.int (a3 + (fn_94 g W6 W22)), .int 86400]) (rest := []) rfl rfl r
              obtain ⟨rfl, rfl⟩ := dn_81 rc
              have r : rn_s _ 93 (93, [some (.ref 1), some (.int a1), some (.int a2), some (.int a3), some (.int a4), some (.int a5), some (.ref W6), some (.ref W22), some (.int (a3 + (fn_94 g W6 W22)))], [.int (fn_81 (a3 + (fn_94 g W6 W22)) 86400)], aa_H g) v h := r
              exact rn_ire rfl r
            · obtain ⟨n51, ln51, r⟩ := rn_steps 2 (79, [some (.ref 1), some (.int a1), some (.int a2), some (.int a3), some (.int a4), some (.int a5), some (.ref W6), some (.ref W22), some (.int (a3 + (fn_94 g W6 W22)))], [.int 86400, .int (a3 + (fn_94 g W6 W22)), .int a2], aa_H g) rfl r
              obtain ⟨_, n52, v1, h1, -, ln52, rc, r⟩ := rn_call (m2 := 82) (as := [.int (a3 + (fn_94 g W6 W22)), .int 86400]) (rest := [.int a2]) rfl rfl r
              obtain ⟨rfl, rfl⟩ := dn_82 rc
              have r : rn_s _ 93 (82, [some (.ref 1), some (.int a1), some (.int a2), some (.int a3), some (.int a4), some (.int a5), some (.ref W6), some (.ref W22), some (.int (a3 + (fn_94 g W6 W22)))], [.int (fn_82 (a3 + (fn_94 g W6 W22)) 86400), .int a2], aa_H g) v h := r
              obtain ⟨n54, ln54, r⟩ := rn_steps 1 (93, [some (.ref 1), some (.int a1), some (.int a2), some (.int a3), some (.int a4), some (.int a5), some (.ref W6), some (.ref W22), some (.int (a3 + (fn_94 g W6 W22)))], [.int (a2 + (fn_82 (a3 + (fn_94 g W6 W22)) 86400))], aa_H g) rfl r
              exact rn_ire rfl r
          · obtain ⟨n55, ln55, r⟩ := rn_steps 0 (57, [some (.ref 1), some (.int a1), some (.int a2), some (.int a3), some (.int a4), some (.int a5), some (.ref W6), some (.ref W22), none], [.int (-1000000)], aa_H g) rfl r
            exact rn_ire rfl r
-- 95: UnequalHours date
noncomputable def fn_95_79 (g : aa_G) (b2 : Int32) (b3 : Int32) (b4 : Int32) : Int32 × aa_G := if (g 461 0) ≠ 0 then if b4 ≠ 1 then if b3 < ((g 461 3) + (g 461 4)) then (b2, g) else (b2 + 1, g) else if b3 < (g 461 3) then (b2 - 1, g) else (b2, g) else (-2, g)
theorem dn_95_79 {v : Option Value} {h : zz_H} {n : Nat} {g : aa_G} {b2 : Int32} {b3 : Int32} {b4 : Int32}  (x1 x5 : Option Value) (jx1 : rn_jk x1) (jx5 : rn_jk x5) (r : rn_s n 95 (79, [some (.ref 1), x1, some (.int b2), some (.int b3), some (.int b4), x5], [], aa_H g) v h) : iw_s v h (fn_95_79 g b2 b3 b4) := by
  unfold fn_95_79
  obtain ⟨n42, ln42, r⟩ := rn_steps 2 (86, [some (.ref 1), x1, some (.int b2), some (.int b3), some (.int b4), x5], [.int (g 461 0)], aa_H g) rfl r
  refine rn_if (iw_s v h) rfl decide_eq_true_iff.symm r (fun c43 l44n l44 r => ?_) (fun c43 l44n l44 r => ?_)
  · obtain ⟨n45, ln45, r⟩ := rn_steps 1 (95, [some (.ref 1), x1, some (.int b2), some (.int b3), some (.int b4), x5], [.int 1, .int b4], aa_H g) rfl r
    refine rn_ic (iw_s v h) rfl decide_eq_true_iff.symm r (fun c46 l47n l47 r => ?_) (fun c46 l47n l47 r => ?_)
    · obtain ⟨n48, ln48, r⟩ := rn_steps 7 (133, [some (.ref 1), x1, some (.int b2), some (.int b3), some (.int b4), x5], [.int ((g 461 3) + (g 461 4)), .int b3], aa_H g) rfl r
      refine rn_ic (iw_s v h) rfl decide_eq_true_iff.symm r (fun c49 l50n l50 r => ?_) (fun c49 l50n l50 r => ?_)
      · obtain ⟨n51, ln51, r⟩ := rn_steps 0 (143, [some (.ref 1), x1, some (.int b2), some (.int b3), some (.int b4), x5], [.int b2], aa_H g) rfl r
        exact rn_ire rfl r
      · obtain ⟨n52, ln52, r⟩ := rn_steps 3 (143, [some (.ref 1), x1, some (.int b2), some (.int b3), some (.int b4), x5], [.int (b2 + 1)], aa_H g) rfl r
        exact rn_ire rfl r
    · obtain ⟨n53, ln53, r⟩ := rn_steps 3 (106, [some (.ref 1), x1, some (.int b2), some (.int b3), some (.int b4), x5], [.int (g 461 3), .int b3], aa_H g) rfl r
      refine rn_ic (iw_s v h) rfl decide_eq_true_iff.symm r (fun c54 l55n l55 r => ?_) (fun c54 l55n l55 r => ?_)
      · obtain ⟨n56, ln56, r⟩ := rn_steps 2 (116, [some (.ref 1), x1, some (.int b2), some (.int b3), some (.int b4), x5], [.int (b2 - 1)], aa_H g) rfl r
        exact rn_ire rfl r
      · obtain ⟨n57, ln57, r⟩ := rn_steps 1 (116, [some (.ref 1), x1, some (.int b2), some (.int b3), some (.int b4), x5], [.int b2], aa_H g) rfl r
        exact rn_ire rfl r
  · obtain ⟨n58, ln58, r⟩ := rn_steps 0 (91, [some (.ref 1), x1, some (.int b2), some (.int b3), some (.int b4), x5], [.int (-2)], aa_H g) rfl r
    exact rn_ire rfl r
noncomputable def fn_95 (g : aa_G) (a1 : Int32) (a2 : Int32) (a3 : Int32) (a4 : Int32) : Int32 × aa_G := (match fn_31 g a1 with | none => ((-1, g)) | some W6 => (if (fn_77 a2) = 0 then (-1, g) else if (fn_66 a3) = 0 then (-1, g) else if (fn_14 a4 0 3) ≠ 0 then if a4 ≠ 0 then if a4 ≠ 3 then fn_95_79 (fn_78 g 461 (some W6) a2 0) a2 a3 a4 else if a3 < 43200 then (a2 - 1, g) else (a2, g) else (a2, g) else (-1, g)))
theorem dn_95 {v : Option Value} {h : zz_H} {n : Nat} {g : aa_G} {a1 : Int32} {a2 : Int32} {a3 : Int32} {a4 : Int32}  (r : rn_s n 95 (0, zz_in [.ref 1, .int a1, .int a2, .int a3, .int a4] (zz_nl 95), [], aa_H g) v h) : iw_s v h (fn_95 g a1 a2 a3 a4) := by
  have r : rn_s n 95 (0, [some (.ref 1), some (.int a1), some (.int a2), some (.int a3), some (.int a4), none], [], aa_H g) v h := r
  unfold fn_95
  obtain ⟨n1, ln1, r⟩ := rn_steps 2 (5, [some (.ref 1), some (.int a1), some (.int a2), some (.int a3), some (.int a4), none], [.int a1, .ref 2], aa_H g) rfl r
  obtain ⟨_, n2, v1, h1, -, ln2, rc, r⟩ := rn_call (m2 := 31) (as := [.ref 2, .int a1]) (rest := []) rfl rfl r
  obtain ⟨rfl, rfl, ho4⟩ := dn_31 rc
  have r : rn_s _ 95 (8, [some (.ref 1), some (.int a1), some (.int a2), some (.int a3), some (.int a4), none], [zz_val (fn_31 g a1)], aa_H g) v h := r
  cases e5 : fn_31 g a1 with
  | none =>
    rw [e5] at r
    have r : rn_s _ 95 (8, [some (.ref 1), some (.int a1), some (.int a2), some (.int a3), some (.int a4), none], [.null], aa_H g) v h := r
    dsimp only
    obtain ⟨n8, ln8, r⟩ := rn_steps 3 (40, [some (.ref 1), some (.int a1), some (.int a2), some (.int a3), some (.int a4), some (.null)], [.int (-1)], aa_H g) rfl r
    exact rn_ire rfl r
  | some W6 =>
    rw [e5] at r
    have hw7 : ct_tw W6 := ho4 _ e5
    have r : rn_s _ 95 (8, [some (.ref 1), some (.int a1), some (.int a2), some (.int a3), some (.int a4), none], [.ref W6], aa_H g) v h := r
    dsimp only
    obtain ⟨n9, ln9, r⟩ := rn_steps 3 (16, [some (.ref 1), some (.int a1), some (.int a2), some (.int a3), some (.int a4), some (.ref W6)], [.int a2], aa_H g) rfl r
    obtain ⟨_, n10, v1, h1, -, ln10, rc, r⟩ := rn_call (m2 := 77) (as := [.int a2]) (rest := []) rfl rfl r
    obtain ⟨rfl, rfl⟩ := dn_77 rc
    have r : rn_s _ 95 (19, [some (.ref 1), some (.int a1), some (.int a2), some (.int a3), some (.int a4), some (.ref W6)], [.int (fn_77 a2)], aa_H g) v h := r
    refine rn_if (iw_s v h) rfl decide_eq_true_iff.symm r (fun c12 l13n l13 r => ?_) (fun c12 l13n l13 r => ?_)
    · obtain ⟨n14, ln14, r⟩ := rn_steps 0 (40, [some (.ref 1), some (.int a1), some (.int a2), some (.int a3), some (.int a4), some (.ref W6)], [.int (-1)], aa_H g) rfl r
      exact rn_ire rfl r
    · obtain ⟨n15, ln15, r⟩ := rn_steps 0 (23, [some (.ref 1), some (.int a1), some (.int a2), some (.int a3), some (.int a4), some (.ref W6)], [.int a3], aa_H g) rfl r
      obtain ⟨_, n16, v1, h1, -, ln16, rc, r⟩ := rn_call (m2 := 66) (as := [.int a3]) (rest := []) rfl rfl r
      obtain ⟨rfl, rfl⟩ := dn_66 rc
      have r : rn_s _ 95 (26, [some (.ref 1), some (.int a1), some (.int a2), some (.int a3), some (.int a4), some (.ref W6)], [.int (fn_66 a3)], aa_H g) v h := r
      refine rn_if (iw_s v h) rfl decide_eq_true_iff.symm r (fun c18 l19n l19 r => ?_) (fun c18 l19n l19 r => ?_)
      · obtain ⟨n20, ln20, r⟩ := rn_steps 0 (40, [some (.ref 1), some (.int a1), some (.int a2), some (.int a3), some (.int a4), some (.ref W6)], [.int (-1)], aa_H g) rfl r
        exact rn_ire rfl r
      · obtain ⟨n21, ln21, r⟩ := rn_steps 2 (33, [some (.ref 1), some (.int a1), some (.int a2), some (.int a3), some (.int a4), some (.ref W6)], [.int 3, .int 0, .int a4], aa_H g) rfl r
        obtain ⟨_, n22, v1, h1, -, ln22, rc, r⟩ := rn_call (m2 := 14) (as := [.int a4, .int 0, .int 3]) (rest := []) rfl rfl r
        obtain ⟨rfl, rfl⟩ := dn_14 rc
        have r : rn_s _ 95 (36, [some (.ref 1), some (.int a1), some (.int a2), some (.int a3), some (.int a4), some (.ref W6)], [.int (fn_14 a4 0 3)], aa_H g) v h := r
        refine rn_if (iw_s v h) rfl decide_eq_true_iff.symm r (fun c24 l25n l25 r => ?_) (fun c24 l25n l25 r => ?_)
        · obtain ⟨n26, ln26, r⟩ := rn_steps 0 (43, [some (.ref 1), some (.int a1), some (.int a2), some (.int a3), some (.int a4), some (.ref W6)], [.int a4], aa_H g) rfl r
          refine rn_if (iw_s v h) rfl decide_eq_true_iff.symm r (fun c27 l28n l28 r => ?_) (fun c27 l28n l28 r => ?_)
          · obtain ⟨n29, ln29, r⟩ := rn_steps 1 (51, [some (.ref 1), some (.int a1), some (.int a2), some (.int a3), some (.int a4), some (.ref W6)], [.int 3, .int a4], aa_H g) rfl r
            refine rn_ic (iw_s v h) rfl decide_eq_true_iff.symm r (fun c30 l31n l31 r => ?_) (fun c30 l31n l31 r => ?_)
            · obtain ⟨n32, ln32, r⟩ := rn_steps 4 (76, [some (.ref 1), some (.int a1), some (.int a2), some (.int a3), some (.int a4), some (.ref W6)], [.int 0, .int a2, .ref W6, .ref 461], aa_H g) rfl r
              obtain ⟨_, n33, v1, h1, -, ln33, rc, r⟩ := rn_call (m2 := 78) (as := [.ref 461, .ref W6, .int a2, .int 0]) (rest := []) rfl rfl r
              obtain ⟨rfl, rfl⟩ := dn_78 sp_c461 (rn_o1 hw7) rc
              have r : rn_s _ 95 (79, [some (.ref 1), some (.int a1), some (.int a2), some (.int a3), some (.int a4), some (.ref W6)], [], aa_H (fn_78 g 461 (some W6) a2 0)) v h := r
              exact dn_95_79 (some (.int a1)) (some (.ref W6)) rn_ji rn_jr r
            · obtain ⟨n35, ln35, r⟩ := rn_steps 1 (57, [some (.ref 1), some (.int a1), some (.int a2), some (.int a3), some (.int a4), some (.ref W6)], [.int 43200, .int a3], aa_H g) rfl r
              refine rn_ic (iw_s v h) rfl decide_eq_true_iff.symm r (fun c36 l37n l37 r => ?_) (fun c36 l37n l37 r => ?_)
              · obtain ⟨n38, ln38, r⟩ := rn_steps 2 (67, [some (.ref 1), some (.int a1), some (.int a2), some (.int a3), some (.int a4), some (.ref W6)], [.int (a2 - 1)], aa_H g) rfl r
                exact rn_ire rfl r
              · obtain ⟨n39, ln39, r⟩ := rn_steps 1 (67, [some (.ref 1), some (.int a1), some (.int a2), some (.int a3), some (.int a4), some (.ref W6)], [.int a2], aa_H g) rfl r
                exact rn_ire rfl r
          · obtain ⟨n40, ln40, r⟩ := rn_steps 0 (47, [some (.ref 1), some (.int a1), some (.int a2), some (.int a3), some (.int a4), some (.ref W6)], [.int a2], aa_H g) rfl r
            exact rn_ire rfl r
        · obtain ⟨n41, ln41, r⟩ := rn_steps 0 (40, [some (.ref 1), some (.int a1), some (.int a2), some (.int a3), some (.int a4), some (.ref W6)], [.int (-1)], aa_H g) rfl r
          exact rn_ire rfl r
-- 96: UnequalHours middle
noncomputable def fn_96_55 (g : aa_G) (b3 : Int32) (b4 : Int32) : Int32 × aa_G := if (g 461 0) ≠ 0 then if b4 ≠ 0 then if b3 ≠ 0 then (((g 461 3) + ((g 461 4) / 2)) - 86400, g) else (((g 461 3) + ((g 461 4) / 2)) - 43200, g) else ((g 461 3) + ((g 461 4) / 2), g) else (-1000000, g)
theorem dn_96_55 {v : Option Value} {h : zz_H} {n : Nat} {g : aa_G} {b3 : Int32} {b4 : Int32}  (x1 x2 x5 x6 : Option Value) (jx1 : rn_jk x1) (jx2 : rn_jk x2) (jx5 : rn_jk x5) (jx6 : rn_jk x6) (r : rn_s n 96 (55, [some (.ref 1), x1, x2, some (.int b3), some (.int b4), x5, x6], [], aa_H g) v h) : iw_s v h (fn_96_55 g b3 b4) := by
  unfold fn_96_55
  obtain ⟨n30, ln30, r⟩ := rn_steps 2 (62, [some (.ref 1), x1, x2, some (.int b3), some (.int b4), x5, x6], [.int (g 461 0)], aa_H g) rfl r
  refine rn_if (iw_s v h) rfl decide_eq_true_iff.symm r (fun c31 l32n l32 r => ?_) (fun c31 l32n l32 r => ?_)
  · obtain ⟨n33, ln33, r⟩ := rn_steps 8 (85, [some (.ref 1), x1, x2, some (.int b3), some (.int b4), x5, x6], [.int ((g 461 3) + ((g 461 4) / 2))], aa_H g) rfl r
    obtain ⟨n34, ln34, r⟩ := rn_isx (i := 6) rfl rfl jx5 rfl ⟨Nat.le_of_ble_eq_true rfl, Nat.le_of_ble_eq_true rfl⟩ r
    have r : rn_s _ 96 (87, [some (.ref 1), x1, x2, some (.int b3), some (.int b4), x5, some (.int ((g 461 3) + ((g 461 4) / 2)))], [], aa_H g) v h := r
    obtain ⟨n35, ln35, r⟩ := rn_steps 0 (89, [some (.ref 1), x1, x2, some (.int b3), some (.int b4), x5, some (.int ((g 461 3) + ((g 461 4) / 2)))], [.int b4], aa_H g) rfl r
    refine rn_if (iw_s v h) rfl decide_eq_true_iff.symm r (fun c36 l37n l37 r => ?_) (fun c36 l37n l37 r => ?_)
    · obtain ⟨n38, ln38, r⟩ := rn_steps 1 (98, [some (.ref 1), x1, x2, some (.int b3), some (.int b4), x5, some (.int ((g 461 3) + ((g 461 4) / 2)))], [.int b3, .int ((g 461 3) + ((g 461 4) / 2))], aa_H g) rfl r
      refine rn_if (iw_s v h) rfl decide_eq_true_iff.symm r (fun c39 l40n l40 r => ?_) (fun c39 l40n l40 r => ?_)
      · obtain ⟨n41, ln41, r⟩ := rn_steps 1 (109, [some (.ref 1), x1, x2, some (.int b3), some (.int b4), x5, some (.int ((g 461 3) + ((g 461 4) / 2)))], [.int (((g 461 3) + ((g 461 4) / 2)) - 86400)], aa_H g) rfl r
        exact rn_ire rfl r
      · obtain ⟨n42, ln42, r⟩ := rn_steps 2 (109, [some (.ref 1), x1, x2, some (.int b3), some (.int b4), x5, some (.int ((g 461 3) + ((g 461 4) / 2)))], [.int (((g 461 3) + ((g 461 4) / 2)) - 43200)], aa_H g) rfl r
        exact rn_ire rfl r
    · obtain ⟨n43, ln43, r⟩ := rn_steps 0 (94, [some (.ref 1), x1, x2, some (.int b3), some (.int b4), x5, some (.int ((g 461 3) + ((g 461 4) / 2)))], [.int ((g 461 3) + ((g 461 4) / 2))], aa_H g) rfl r
      exact rn_ire rfl r
  · obtain ⟨n44, ln44, r⟩ := rn_steps 0 (67, [some (.ref 1), x1, x2, some (.int b3), some (.int b4), x5, x6], [.int (-1000000)], aa_H g) rfl r
    exact rn_ire rfl r
noncomputable def fn_96 (g : aa_G) (a1 : Int32) (a2 : Int32) (a3 : Int32) (a4 : Int32) : Int32 × aa_G := (match fn_31 g a1 with | none => ((-1000000, g)) | some W6 => (if (fn_77 a2) = 0 then (-1000000, g) else if (fn_14 a3 0 1) = 0 then (-1000000, g) else if (fn_14 a4 0 1) ≠ 0 then fn_96_55 (fn_78 g 461 (some W6) a2 a3) a3 a4 else (-1000000, g)))
theorem dn_96 {v : Option Value} {h : zz_H} {n : Nat} {g : aa_G} {a1 : Int32} {a2 : Int32} {a3 : Int32} {a4 : Int32}  (r : rn_s n 96 (0, zz_in [.ref 1, .int a1, .int a2, .int a3, .int a4] (zz_nl 96), [], aa_H g) v h) : iw_s v h (fn_96 g a1 a2 a3 a4) := by
  have r : rn_s n 96 (0, [some (.ref 1), some (.int a1), some (.int a2), some (.int a3), some (.int a4), none, none], [], aa_H g) v h := r
  unfold fn_96
  obtain ⟨n1, ln1, r⟩ := rn_steps 2 (5, [some (.ref 1), some (.int a1), some (.int a2), some (.int a3), some (.int a4), none, none], [.int a1, .ref 2], aa_H g) rfl r
  obtain ⟨_, n2, v1, h1, -, ln2, rc, r⟩ := rn_call (m2 := 31) (as := [.ref 2, .int a1]) (rest := []) rfl rfl r
  obtain ⟨rfl, rfl, ho4⟩ := dn_31 rc
  have r : rn_s _ 96 (8, [some (.ref 1), some (.int a1), some (.int a2), some (.int a3), some (.int a4), none, none], [zz_val (fn_31 g a1)], aa_H g) v h := r
  cases e5 : fn_31 g a1 with
  | none =>
    rw [e5] at r
    have r : rn_s _ 96 (8, [some (.ref 1), some (.int a1), some (.int a2), some (.int a3), some (.int a4), none, none], [.null], aa_H g) v h := r
    dsimp only
    obtain ⟨n8, ln8, r⟩ := rn_steps 3 (43, [some (.ref 1), some (.int a1), some (.int a2), some (.int a3), some (.int a4), some (.null), none], [.int (-1000000)], aa_H g) rfl r
    exact rn_ire rfl r
  | some W6 =>
    rw [e5] at r
    have hw7 : ct_tw W6 := ho4 _ e5
    have r : rn_s _ 96 (8, [some (.ref 1), some (.int a1), some (.int a2), some (.int a3), some (.int a4), none, none], [.ref W6], aa_H g) v h := r
    dsimp only
    obtain ⟨n9, ln9, r⟩ := rn_steps 3 (16, [some (.ref 1), some (.int a1), some (.int a2), some (.int a3), some (.int a4), some (.ref W6), none], [.int a2], aa_H g) rfl r
    obtain ⟨_, n10, v1, h1, -, ln10, rc, r⟩ := rn_call (m2 := 77) (as := [.int a2]) (rest := []) rfl rfl r
    obtain ⟨rfl, rfl⟩ := dn_77 rc
    have r : rn_s _ 96 (19, [some (.ref 1), some (.int a1), some (.int a2), some (.int a3), some (.int a4), some (.ref W6), none], [.int (fn_77 a2)], aa_H g) v h := r
    refine rn_if (iw_s v h) rfl decide_eq_true_iff.symm r (fun c12 l13n l13 r => ?_) (fun c12 l13n l13 r => ?_)
    · obtain ⟨n14, ln14, r⟩ := rn_steps 0 (43, [some (.ref 1), some (.int a1), some (.int a2), some (.int a3), some (.int a4), some (.ref W6), none], [.int (-1000000)], aa_H g) rfl r
      exact rn_ire rfl r
    · obtain ⟨n15, ln15, r⟩ := rn_steps 2 (25, [some (.ref 1), some (.int a1), some (.int a2), some (.int a3), some (.int a4), some (.ref W6), none], [.int 1, .int 0, .int a3], aa_H g) rfl r
      obtain ⟨_, n16, v1, h1, -, ln16, rc, r⟩ := rn_call (m2 := 14) (as := [.int a3, .int 0, .int 1]) (rest := []) rfl rfl r
      obtain ⟨rfl, rfl⟩ := dn_14 rc
      have r : rn_s _ 96 (28, [some (.ref 1), some (.int a1), some (.int a2), some (.int a3), some (.int a4), some (.ref W6), none], [.int (fn_14 a3 0 1)], aa_H g) v h := r
      refine rn_if (iw_s v h) rfl decide_eq_true_iff.symm r (fun c18 l19n l19 r => ?_) (fun c18 l19n l19 r => ?_)
      · obtain ⟨n20, ln20, r⟩ := rn_steps 0 (43, [some (.ref 1), some (.int a1), some (.int a2), some (.int a3), some (.int a4), some (.ref W6), none], [.int (-1000000)], aa_H g) rfl r
        exact rn_ire rfl r
      · obtain ⟨n21, ln21, r⟩ := rn_steps 2 (35, [some (.ref 1), some (.int a1), some (.int a2), some (.int a3), some (.int a4), some (.ref W6), none], [.int 1, .int 0, .int a4], aa_H g) rfl r
        obtain ⟨_, n22, v1, h1, -, ln22, rc, r⟩ := rn_call (m2 := 14) (as := [.int a4, .int 0, .int 1]) (rest := []) rfl rfl r
        obtain ⟨rfl, rfl⟩ := dn_14 rc
        have r : rn_s _ 96 (38, [some (.ref 1), some (.int a1), some (.int a2), some (.int a3), some (.int a4), some (.ref W6), none], [.int (fn_14 a4 0 1)], aa_H g) v h := r
        refine rn_if (iw_s v h) rfl decide_eq_true_iff.symm r (fun c24 l25n l25 r => ?_) (fun c24 l25n l25 r => ?_)
        · obtain ⟨n26, ln26, r⟩ := rn_steps 4 (52, [some (.ref 1), some (.int a1), some (.int a2), some (.int a3), some (.int a4), some (.ref W6), none], [.int a3, .int a2, .ref W6, .ref 461], aa_H g) rfl r
          obtain ⟨_, n27, v1, h1, -, ln27, rc, r⟩ := rn_call (m2 := 78) (as := [.ref 461, .ref W6, .int a2, .int a3]) (rest := []) rfl rfl r
          obtain ⟨rfl, rfl⟩ := dn_78 sp_c461 (rn_o1 hw7) rc
          have r : rn_s _ 96 (55, [some (.ref 1), some (.int a1), some (.int a2), some (.int a3), some (.int a4), some (.ref W6), none], [], aa_H (fn_78 g 461 (some W6) a2 a3)) v h := r
          exact dn_96_55 (some (.int a1)) (some (.int a2)) (some (.ref W6)) none rn_ji rn_ji rn_jr rn_jn r
        · obtain ⟨n29, ln29, r⟩ := rn_steps 0 (43, [some (.ref 1), some (.int a1), some (.int a2), some (.int a3), some (.int a4), some (.ref W6), none], [.int (-1000000)], aa_H g) rfl r
          exact rn_ire rfl r
-- 97: UnequalHours apart
noncomputable def fn_97_20 (g : aa_G) (b6 : Int32) (s0 : Int32) : Int32 × aa_G := if b6 < 0 then (-1000000, g) else if 0 ≤ s0 then (s0 - b6, g) else (-1000000, g)
theorem dn_97_20 {v : Option Value} {h : zz_H} {n : Nat} {g : aa_G} {b6 : Int32} {s0 : Int32}  (x0 x1 x2 x3 x4 x5 x7 : Option Value) (jx0 : rn_jk x0) (jx1 : rn_jk x1) (jx2 : rn_jk x2) (jx3 : rn_jk x3) (jx4 : rn_jk x4) (jx5 : rn_jk x5) (jx7 : rn_jk x7) (r : rn_s n 97 (20, [x0, x1, x2, x3, x4, x5, some (.int b6), x7], [.int s0], aa_H g) v h) : iw_s v h (fn_97_20 g b6 s0) := by
  unfold fn_97_20
  obtain ⟨n7, ln7, r⟩ := rn_steps 1 (24, [x0, x1, x2, x3, x4, x5, some (.int b6), some (.int s0)], [.int b6], aa_H g) rfl r
  refine rn_if (iw_s v h) rfl decide_eq_true_iff.symm r (fun c8 l9n l9 r => ?_) (fun c8 l9n l9 r => ?_)
  · obtain ⟨n10, ln10, r⟩ := rn_steps 1 (42, [x0, x1, x2, x3, x4, x5, some (.int b6), some (.int s0)], [.int (-1000000)], aa_H g) rfl r
    exact rn_ire rfl r
  · obtain ⟨n11, ln11, r⟩ := rn_steps 0 (29, [x0, x1, x2, x3, x4, x5, some (.int b6), some (.int s0)], [.int s0], aa_H g) rfl r
    refine rn_if (iw_s v h) rfl decide_eq_true_iff.symm r (fun c12 l13n l13 r => ?_) (fun c12 l13n l13 r => ?_)
    · obtain ⟨n14, ln14, r⟩ := rn_steps 2 (42, [x0, x1, x2, x3, x4, x5, some (.int b6), some (.int s0)], [.int (s0 - b6)], aa_H g) rfl r
      exact rn_ire rfl r
    · obtain ⟨n15, ln15, r⟩ := rn_steps 1 (42, [x0, x1, x2, x3, x4, x5, some (.int b6), some (.int s0)], [.int (-1000000)], aa_H g) rfl r
      exact rn_ire rfl r
noncomputable def fn_97_9 (g : aa_G) (b1 : Int32) (b2 : Int32) (b3 : Int32) (b5 : Int32) (s0 : Int32) : Int32 × aa_G := fn_97_20 ((fn_90 g b1 b2 b3 b5).2) s0 ((fn_90 g b1 b2 b3 b5).1)
theorem dn_97_9 {v : Option Value} {h : zz_H} {n : Nat} {g : aa_G} {b1 : Int32} {b2 : Int32} {b3 : Int32} {b5 : Int32} {s0 : Int32}  (x4 x6 x7 : Option Value) (jx4 : rn_jk x4) (jx6 : rn_jk x6) (jx7 : rn_jk x7) (r : rn_s n 97 (9, [some (.ref 1), some (.int b1), some (.int b2), some (.int b3), x4, some (.int b5), x6, x7], [.int s0], aa_H g) v h) : iw_s v h (fn_97_9 g b1 b2 b3 b5 s0) := by
  unfold fn_97_9
  obtain ⟨n4, ln4, r⟩ := rn_steps 5 (17, [some (.ref 1), some (.int b1), some (.int b2), some (.int b3), x4, some (.int b5), some (.int s0), x7], [.int b5, .int b3, .int b2, .int b1, .ref 1], aa_H g) rfl r
  obtain ⟨_, n5, v1, h1, -, ln5, rc, r⟩ := rn_call (m2 := 90) (as := [.ref 1, .int b1, .int b2, .int b3, .int b5]) (rest := []) rfl rfl r
  obtain ⟨rfl, rfl⟩ := dn_90 rc
  have r : rn_s _ 97 (20, [some (.ref 1), some (.int b1), some (.int b2), some (.int b3), x4, some (.int b5), some (.int s0), x7], [.int ((fn_90 g b1 b2 b3 b5).1)], aa_H ((fn_90 g b1 b2 b3 b5).2)) v h := r
  exact dn_97_20 (some (.ref 1)) (some (.int b1)) (some (.int b2)) (some (.int b3)) x4 (some (.int b5)) x7 rn_jr rn_ji rn_ji rn_ji jx4 rn_ji jx7 r
noncomputable def fn_97 (g : aa_G) (a1 : Int32) (a2 : Int32) (a3 : Int32) (a4 : Int32) (a5 : Int32) : Int32 × aa_G := fn_97_9 ((fn_90 g a1 a2 a3 a4).2) a1 a2 a3 a5 ((fn_90 g a1 a2 a3 a4).1)
theorem dn_97 {v : Option Value} {h : zz_H} {n : Nat} {g : aa_G} {a1 : Int32} {a2 : Int32} {a3 : Int32} {a4 : Int32} {a5 : Int32}  (r : rn_s n 97 (0, zz_in [.ref 1, .int a1, .int a2, .int a3, .int a4, .int a5] (zz_nl 97), [], aa_H g) v h) : iw_s v h (fn_97 g a1 a2 a3 a4 a5) := by
  have r : rn_s n 97 (0, [some (.ref 1), some (.int a1), some (.int a2), some (.int a3), some (.int a4), some (.int a5), none, none], [], aa_H g) v h := r
  unfold fn_97
  obtain ⟨n1, ln1, r⟩ := rn_steps 4 (6, [some (.ref 1), some (.int a1), some (.int a2), some (.int a3), some (.int a4), some (.int a5), none, none], [.int a4, .int a3, .int a2, .int a1, .ref 1], aa_H g) rfl r
  obtain ⟨_, n2, v1, h1, -, ln2, rc, r⟩ := rn_call (m2 := 90) (as := [.ref 1, .int a1, .int a2, .int a3, .int a4]) (rest := []) rfl rfl r
  obtain ⟨rfl, rfl⟩ := dn_90 rc
  have r : rn_s _ 97 (9, [some (.ref 1), some (.int a1), some (.int a2), some (.int a3), some (.int a4), some (.int a5), none, none], [.int ((fn_90 g a1 a2 a3 a4).1)], aa_H ((fn_90 g a1 a2 a3 a4).2)) v h := r
  exact dn_97_9 (some (.int a4)) none none rn_ji rn_jn rn_jn r
