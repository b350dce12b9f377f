/-! METHODS READ (printed by wip/dc/dc.py) -/
-- 13: UnequalHours end
noncomputable def fn_13 (g : aa_G) (a1 : Int32) : Int32 × aa_G := if (fn_14 a1 0 (g 454 0)) ≠ 0 then (a1, zz_w g 454 0 a1) else (-1, g)
theorem dn_13 {v : Option Value} {h : zz_H} {n : Nat} {g : aa_G} {a1 : Int32}  (r : rn_s n 13 (0, zz_in [.ref 1, .int a1] (zz_nl 13), [], aa_H g) v h) : iw_s v h (fn_13 g a1) := by
  have r : rn_s n 13 (0, [some (.ref 1), some (.int a1)], [], aa_H g) v h := r
  unfold fn_13
  obtain ⟨n1, ln1, r⟩ := rn_steps 4 (9, [some (.ref 1), some (.int a1)], [.int (g 454 0), .int 0, .int a1], aa_H g) rfl r
  obtain ⟨_, n2, v1, h1, -, ln2, rc, r⟩ := rn_call (m2 := 14) (as := [.int a1, .int 0, .int (g 454 0)]) (rest := []) rfl rfl r
  obtain ⟨rfl, rfl⟩ := dn_14 rc
  have r : rn_s _ 13 (12, [some (.ref 1), some (.int a1)], [.int (fn_14 a1 0 (g 454 0))], aa_H g) v h := r
  refine rn_if (iw_s v h) rfl decide_eq_true_iff.symm r (fun c4 l5n l5 r => ?_) (fun c4 l5n l5 r => ?_)
  · obtain ⟨n6, ln6, r⟩ := rn_steps 4 (26, [some (.ref 1), some (.int a1)], [.int a1], aa_H (zz_w g 454 0 a1)) rfl r
    exact rn_ire rfl r
  · obtain ⟨n7, ln7, r⟩ := rn_steps 0 (16, [some (.ref 1), some (.int a1)], [.int (-1)], aa_H g) rfl r
    exact rn_ire rfl r
-- 160: UnequalHoursModel end
noncomputable def fn_160 (g : aa_G) (a1 : Int32) : Int32 × aa_G := if (fn_154 a1 0 (g 540 4)) ≠ 0 then (a1, zz_w g 540 4 a1) else (-1, g)
theorem dn_160 {v : Option Value} {h : zz_H} {n : Nat} {g : aa_G} {a1 : Int32}  (r : rn_s n 160 (0, zz_in [.ref 540, .int a1] (zz_nl 160), [], aa_H g) v h) : iw_s v h (fn_160 g a1) := by
  have r : rn_s n 160 (0, [some (.ref 540), some (.int a1)], [], aa_H g) v h := r
  unfold fn_160
  obtain ⟨n1, ln1, r⟩ := rn_steps 3 (6, [some (.ref 540), some (.int a1)], [.int (g 540 4), .int 0, .int a1], aa_H g) rfl r
  obtain ⟨_, n2, v1, h1, -, ln2, rc, r⟩ := rn_call (m2 := 154) (as := [.int a1, .int 0, .int (g 540 4)]) (rest := []) rfl rfl r
  obtain ⟨rfl, rfl⟩ := dn_154 rc
  have r : rn_s _ 160 (9, [some (.ref 540), some (.int a1)], [.int (fn_154 a1 0 (g 540 4))], aa_H g) v h := r
  refine rn_if (iw_s v h) rfl decide_eq_true_iff.symm r (fun c4 l5n l5 r => ?_) (fun c4 l5n l5 r => ?_)
  · obtain ⟨n6, ln6, r⟩ := rn_steps 3 (20, [some (.ref 540), some (.int a1)], [.int a1], aa_H (zz_w g 540 4 a1)) rfl r
    exact rn_ire rfl r
  · obtain ⟨n7, ln7, r⟩ := rn_steps 0 (13, [some (.ref 540), some (.int a1)], [.int (-1)], aa_H g) rfl r
    exact rn_ire rfl r
-- 69: UnequalHours fault
noncomputable def fn_69 (g : aa_G)  : Int32 := g 1 13
theorem dn_69 {v : Option Value} {h : zz_H} {n : Nat} {g : aa_G}   (r : rn_s n 69 (0, zz_in [.ref 1] (zz_nl 69), [], aa_H g) v h) : ir_s g v h (fn_69 g) := by
  have r : rn_s n 69 (0, [some (.ref 1)], [], aa_H g) v h := r
  unfold fn_69
  obtain ⟨n1, ln1, r⟩ := rn_steps 1 (4, [some (.ref 1)], [.int (g 1 13)], aa_H g) rfl r
  exact rn_ire rfl r
-- 161: UnequalHoursModel fault
noncomputable def fn_161 (g : aa_G)  : Int32 := g 540 6
theorem dn_161 {v : Option Value} {h : zz_H} {n : Nat} {g : aa_G}   (r : rn_s n 161 (0, zz_in [.ref 540] (zz_nl 161), [], aa_H g) v h) : ir_s g v h (fn_161 g) := by
  have r : rn_s n 161 (0, [some (.ref 540)], [], aa_H g) v h := r
  unfold fn_161
  obtain ⟨n1, ln1, r⟩ := rn_steps 1 (4, [some (.ref 540)], [.int (g 540 6)], aa_H g) rfl r
  exact rn_ire rfl r
-- 70: UnequalHours ended
noncomputable def fn_70 (g : aa_G)  : Int32 := g 1 14
theorem dn_70 {v : Option Value} {h : zz_H} {n : Nat} {g : aa_G}   (r : rn_s n 70 (0, zz_in [.ref 1] (zz_nl 70), [], aa_H g) v h) : ir_s g v h (fn_70 g) := by
  have r : rn_s n 70 (0, [some (.ref 1)], [], aa_H g) v h := r
  unfold fn_70
  obtain ⟨n1, ln1, r⟩ := rn_steps 1 (4, [some (.ref 1)], [.int (g 1 14)], aa_H g) rfl r
  exact rn_ire rfl r
-- 264: UnequalHoursModel ended
noncomputable def fn_264 (g : aa_G)  : Int32 := g 540 35
theorem dn_264 {v : Option Value} {h : zz_H} {n : Nat} {g : aa_G}   (r : rn_s n 264 (0, zz_in [.ref 540] (zz_nl 264), [], aa_H g) v h) : ir_s g v h (fn_264 g) := by
  have r : rn_s n 264 (0, [some (.ref 540)], [], aa_H g) v h := r
  unfold fn_264
  obtain ⟨n1, ln1, r⟩ := rn_steps 1 (4, [some (.ref 540)], [.int (g 540 35)], aa_H g) rfl r
  exact rn_ire rfl r
-- 12: UnequalHours Tape append
noncomputable def fn_12_35 (g : aa_G) (b1 : Int32) (b2 : Int32) : (aa_G × Int32) ⊕ aa_G := .inl (zz_w g 454 0 ((g 454 0) + 1), b2 + (-8))
theorem dn_12_35 {v : Option Value} {h : zz_H} {n : Nat} {g : aa_G} {b1 : Int32} {b2 : Int32} (P : (aa_G × Int32) ⊕ aa_G → Prop) (hO0 : ∀ n2, n2 < n → ∀ (yg : aa_G) (yb2 : Int32), rn_s n2 12 (3, [some (.ref 454), some (.int b1), some (.int yb2)], [], aa_H yg) v h → P (.inl (yg, yb2))) (hR : ∀ E, ig_s v h E → P (.inr E))  (r : rn_s n 12 (35, [some (.ref 454), some (.int b1), some (.int b2)], [.ref 454, .ref 454], aa_H g) v h) : P (fn_12_35 g b1 b2) := by
  unfold fn_12_35
  obtain ⟨n12, ln12, r⟩ := rn_steps 5 (3, [some (.ref 454), some (.int b1), some (.int (b2 + (-8)))], [], aa_H (zz_w g 454 0 ((g 454 0) + 1))) rfl r
  exact hO0 _ (by omega) (zz_w g 454 0 ((g 454 0) + 1)) (b2 + (-8)) r
noncomputable def fn_12_3b (g : aa_G) (b1 : Int32) (b2 : Int32) : (aa_G × Int32) ⊕ aa_G := if b2 < 0 then .inr g else if 500 ≤ (g 454 0) then .inr g else fn_12_35 (zz_w g 455 (g 454 0).toNatClampNeg (((b1.toUInt32 >>> (b2.toUInt32 &&& Int32.toUInt32 31)).toInt32) &&& 255)) b1 b2
noncomputable def fn_12_3 (g : aa_G) (b1 : Int32) (b2 : Int32) : aa_G := lp_f g (fun z : (aa_G × Int32) => fn_12_3b z.1 b1 z.2) (g, b2)
theorem dn_12_3l {v : Option Value} {h : zz_H} {N : Nat} {b1 : Int32} {d : aa_G} : ∀ (n : Nat), n ≤ N → ∀ (g : aa_G) (b2 : Int32), rn_s n 12 (3, [some (.ref 454), some (.int b1), some (.int b2)], [], aa_H g) v h → (ig_s v h) (lp_f d (fun z : (aa_G × Int32) => fn_12_3b z.1 b1 z.2) (g, b2)) := by
  generalize hf : (fun z : (aa_G × Int32) => fn_12_3b z.1 b1 z.2) = f
  intro n
  induction n using Nat.strongRecOn with
  | _ n ih =>
    intro hN g b2  r
    refine lp_go ?_
    rw [← congrFun hf (g, b2)]
    show lp_q (ig_s v h) d f (fn_12_3b g b1 b2)
    unfold fn_12_3b
    obtain ⟨n2, ln2, r⟩ := rn_steps 0 (4, [some (.ref 454), some (.int b1), some (.int b2)], [.int b2], aa_H g) rfl r
    refine rn_if (lp_q (ig_s v h) d f) rfl decide_eq_true_iff.symm r (fun c3 l4n l4 r => ?_) (fun c3 l4n l4 r => ?_)
    · exact rn_ret 1 rfl r
    · obtain ⟨n5, ln5, r⟩ := rn_steps 2 (14, [some (.ref 454), some (.int b1), some (.int b2)], [.int 500, .int (g 454 0)], aa_H g) rfl r
      refine rn_ic (lp_q (ig_s v h) d f) rfl decide_eq_true_iff.symm r (fun c6 l7n l7 r => ?_) (fun c6 l7n l7 r => ?_)
      · exact rn_ret 1 rfl r
      · obtain ⟨n8, ln8, r⟩ := rn_steps 8 (32, [some (.ref 454), some (.int b1), some (.int b2)], [.int (((b1.toUInt32 >>> (b2.toUInt32 &&& Int32.toUInt32 31)).toInt32) &&& 255), .int (g 454 0), .ref 455], aa_H g) rfl r
        obtain ⟨hb10, n9, ln9, r⟩ := rn_ias (k := 455) rfl ⟨by decide, by decide⟩ rfl r
        have r : rn_s _ 12 (33, [some (.ref 454), some (.int b1), some (.int b2)], [], aa_H (zz_w g 455 (g 454 0).toNatClampNeg (((b1.toUInt32 >>> (b2.toUInt32 &&& Int32.toUInt32 31)).toInt32) &&& 255))) v h := r
        obtain ⟨n11, ln11, r⟩ := rn_steps 1 (35, [some (.ref 454), some (.int b1), some (.int b2)], [.ref 454, .ref 454], aa_H (zz_w g 455 (g 454 0).toNatClampNeg (((b1.toUInt32 >>> (b2.toUInt32 &&& Int32.toUInt32 31)).toInt32) &&& 255))) rfl r
        exact dn_12_35 (lp_q (ig_s v h) d f) (fun n2 l2 => ih n2 (by omega) (by omega)) (fun z hz => hz) r
theorem dn_12_3 {v : Option Value} {h : zz_H} {n : Nat} {g : aa_G} {b1 : Int32} {b2 : Int32}  (r : rn_s n 12 (3, [some (.ref 454), some (.int b1), some (.int b2)], [], aa_H g) v h) : (ig_s v h) (fn_12_3 g b1 b2) := dn_12_3l  n (Nat.le_refl n) g b2 r
noncomputable def fn_12 (g : aa_G) (a1 : Int32) : aa_G := fn_12_3 g a1 24
theorem dn_12 {v : Option Value} {h : zz_H} {n : Nat} {g : aa_G} {a1 : Int32}  (r : rn_s n 12 (0, zz_in [.ref 454, .int a1] (zz_nl 12), [], aa_H g) v h) : ig_s v h (fn_12 g a1) := by
  have r : rn_s n 12 (0, [some (.ref 454), some (.int a1), none], [], aa_H g) v h := r
  unfold fn_12
  obtain ⟨n1, ln1, r⟩ := rn_steps 1 (3, [some (.ref 454), some (.int a1), some (.int 24)], [], aa_H g) rfl r
  exact dn_12_3 r
-- 11: UnequalHours feed
noncomputable def fn_11_64 (g : aa_G)  : Int32 × aa_G := (g 454 0, g)
theorem dn_11_64 {v : Option Value} {h : zz_H} {n : Nat} {g : aa_G}   (x0 x1 x2 x3 x4 x5 : Option Value) (jx0 : rn_jk x0) (jx1 : rn_jk x1) (jx2 : rn_jk x2) (jx3 : rn_jk x3) (jx4 : rn_jk x4) (jx5 : rn_jk x5) (r : rn_s n 11 (64, [x0, x1, x2, x3, x4, x5], [.ref 454], aa_H g) v h) : iw_s v h (fn_11_64 g) := by
  unfold fn_11_64
  obtain ⟨n21, ln21, r⟩ := rn_steps 0 (67, [x0, x1, x2, x3, x4, x5], [.int (g 454 0)], aa_H g) rfl r
  exact rn_ire rfl r
noncomputable def fn_11_51 (g : aa_G) (b5 : Int32) : Int32 × aa_G := fn_11_64 (fn_12 g b5)
theorem dn_11_51 {v : Option Value} {h : zz_H} {n : Nat} {g : aa_G} {b5 : Int32}  (x1 x2 x3 x4 : Option Value) (jx1 : rn_jk x1) (jx2 : rn_jk x2) (jx3 : rn_jk x3) (jx4 : rn_jk x4) (r : rn_s n 11 (51, [some (.ref 1), x1, x2, x3, x4, some (.int b5)], [], aa_H g) v h) : iw_s v h (fn_11_51 g b5) := by
  unfold fn_11_51
  obtain ⟨n17, ln17, r⟩ := rn_steps 2 (57, [some (.ref 1), x1, x2, x3, x4, some (.int b5)], [.int b5, .ref 454], aa_H g) rfl r
  obtain ⟨_, n18, v1, h1, -, ln18, rc, r⟩ := rn_call (m2 := 12) (as := [.ref 454, .int b5]) (rest := []) rfl rfl r
  obtain ⟨rfl, rfl⟩ := dn_12 rc
  have r : rn_s _ 11 (60, [some (.ref 1), x1, x2, x3, x4, some (.int b5)], [], aa_H (fn_12 g b5)) v h := r
  obtain ⟨n20, ln20, r⟩ := rn_steps 1 (64, [some (.ref 1), x1, x2, x3, x4, some (.int b5)], [.ref 454], aa_H (fn_12 g b5)) rfl r
  exact dn_11_64 (some (.ref 1)) x1 x2 x3 x4 (some (.int b5)) rn_jr jx1 jx2 jx3 jx4 rn_ji r
noncomputable def fn_11_42 (g : aa_G) (b4 : Int32) (b5 : Int32) : Int32 × aa_G := fn_11_51 (fn_12 g b4) b5
theorem dn_11_42 {v : Option Value} {h : zz_H} {n : Nat} {g : aa_G} {b4 : Int32} {b5 : Int32}  (x1 x2 x3 : Option Value) (jx1 : rn_jk x1) (jx2 : rn_jk x2) (jx3 : rn_jk x3) (r : rn_s n 11 (42, [some (.ref 1), x1, x2, x3, some (.int b4), some (.int b5)], [], aa_H g) v h) : iw_s v h (fn_11_42 g b4 b5) := by
  unfold fn_11_42
  obtain ⟨n14, ln14, r⟩ := rn_steps 2 (48, [some (.ref 1), x1, x2, x3, some (.int b4), some (.int b5)], [.int b4, .ref 454], aa_H g) rfl r
  obtain ⟨_, n15, v1, h1, -, ln15, rc, r⟩ := rn_call (m2 := 12) (as := [.ref 454, .int b4]) (rest := []) rfl rfl r
  obtain ⟨rfl, rfl⟩ := dn_12 rc
  have r : rn_s _ 11 (51, [some (.ref 1), x1, x2, x3, some (.int b4), some (.int b5)], [], aa_H (fn_12 g b4)) v h := r
  exact dn_11_51 x1 x2 x3 (some (.int b4)) jx1 jx2 jx3 rn_ji r
noncomputable def fn_11_34 (g : aa_G) (b3 : Int32) (b4 : Int32) (b5 : Int32) : Int32 × aa_G := fn_11_42 (fn_12 g b3) b4 b5
theorem dn_11_34 {v : Option Value} {h : zz_H} {n : Nat} {g : aa_G} {b3 : Int32} {b4 : Int32} {b5 : Int32}  (x1 x2 : Option Value) (jx1 : rn_jk x1) (jx2 : rn_jk x2) (r : rn_s n 11 (34, [some (.ref 1), x1, x2, some (.int b3), some (.int b4), some (.int b5)], [], aa_H g) v h) : iw_s v h (fn_11_34 g b3 b4 b5) := by
  unfold fn_11_34
  obtain ⟨n11, ln11, r⟩ := rn_steps 2 (39, [some (.ref 1), x1, x2, some (.int b3), some (.int b4), some (.int b5)], [.int b3, .ref 454], aa_H g) rfl r
  obtain ⟨_, n12, v1, h1, -, ln12, rc, r⟩ := rn_call (m2 := 12) (as := [.ref 454, .int b3]) (rest := []) rfl rfl r
  obtain ⟨rfl, rfl⟩ := dn_12 rc
  have r : rn_s _ 11 (42, [some (.ref 1), x1, x2, some (.int b3), some (.int b4), some (.int b5)], [], aa_H (fn_12 g b3)) v h := r
  exact dn_11_42 x1 x2 (some (.int b3)) jx1 jx2 rn_ji r
noncomputable def fn_11_26 (g : aa_G) (b2 : Int32) (b3 : Int32) (b4 : Int32) (b5 : Int32) : Int32 × aa_G := fn_11_34 (fn_12 g b2) b3 b4 b5
theorem dn_11_26 {v : Option Value} {h : zz_H} {n : Nat} {g : aa_G} {b2 : Int32} {b3 : Int32} {b4 : Int32} {b5 : Int32}  (x1 : Option Value) (jx1 : rn_jk x1) (r : rn_s n 11 (26, [some (.ref 1), x1, some (.int b2), some (.int b3), some (.int b4), some (.int b5)], [], aa_H g) v h) : iw_s v h (fn_11_26 g b2 b3 b4 b5) := by
  unfold fn_11_26
  obtain ⟨n8, ln8, r⟩ := rn_steps 2 (31, [some (.ref 1), x1, some (.int b2), some (.int b3), some (.int b4), some (.int b5)], [.int b2, .ref 454], aa_H g) rfl r
  obtain ⟨_, n9, v1, h1, -, ln9, rc, r⟩ := rn_call (m2 := 12) (as := [.ref 454, .int b2]) (rest := []) rfl rfl r
  obtain ⟨rfl, rfl⟩ := dn_12 rc
  have r : rn_s _ 11 (34, [some (.ref 1), x1, some (.int b2), some (.int b3), some (.int b4), some (.int b5)], [], aa_H (fn_12 g b2)) v h := r
  exact dn_11_34 x1 (some (.int b2)) jx1 rn_ji r
noncomputable def fn_11 (g : aa_G) (a1 : Int32) (a2 : Int32) (a3 : Int32) (a4 : Int32) (a5 : Int32) : Int32 × aa_G := if ((g 454 0) + 20) ≤ 500 then fn_11_26 (fn_12 g a1) a2 a3 a4 a5 else (-1, g)
theorem dn_11 {v : Option Value} {h : zz_H} {n : Nat} {g : aa_G} {a1 : Int32} {a2 : Int32} {a3 : Int32} {a4 : Int32} {a5 : Int32}  (r : rn_s n 11 (0, zz_in [.ref 1, .int a1, .int a2, .int a3, .int a4, .int a5] (zz_nl 11), [], aa_H g) v h) : iw_s v h (fn_11 g a1 a2 a3 a4 a5) := by
  have r : rn_s n 11 (0, [some (.ref 1), some (.int a1), some (.int a2), some (.int a3), some (.int a4), some (.int a5)], [], aa_H g) v h := r
  unfold fn_11
  obtain ⟨n1, ln1, r⟩ := rn_steps 5 (13, [some (.ref 1), some (.int a1), some (.int a2), some (.int a3), some (.int a4), some (.int a5)], [.int 500, .int ((g 454 0) + 20)], aa_H g) rfl r
  refine rn_ic (iw_s v h) rfl decide_eq_true_iff.symm r (fun c2 l3n l3 r => ?_) (fun c2 l3n l3 r => ?_)
  · obtain ⟨n4, ln4, r⟩ := rn_steps 2 (23, [some (.ref 1), some (.int a1), some (.int a2), some (.int a3), some (.int a4), some (.int a5)], [.int a1, .ref 454], aa_H g) rfl r
    obtain ⟨_, n5, v1, h1, -, ln5, rc, r⟩ := rn_call (m2 := 12) (as := [.ref 454, .int a1]) (rest := []) rfl rfl r
    obtain ⟨rfl, rfl⟩ := dn_12 rc
    have r : rn_s _ 11 (26, [some (.ref 1), some (.int a1), some (.int a2), some (.int a3), some (.int a4), some (.int a5)], [], aa_H (fn_12 g a1)) v h := r
    exact dn_11_26 (some (.int a1)) rn_ji r
  · obtain ⟨n7, ln7, r⟩ := rn_steps 0 (17, [some (.ref 1), some (.int a1), some (.int a2), some (.int a3), some (.int a4), some (.int a5)], [.int (-1)], aa_H g) rfl r
    exact rn_ire rfl r
-- 159: UnequalHoursModel four
noncomputable def fn_159_22 (g : aa_G) (b1 : Int32) (b2 : Int32) : (aa_G × Int32) ⊕ aa_G := .inl (zz_w g 540 4 ((g 540 4) + 1), b2 + (-8))
theorem dn_159_22 {v : Option Value} {h : zz_H} {n : Nat} {g : aa_G} {b1 : Int32} {b2 : Int32} (P : (aa_G × Int32) ⊕ aa_G → Prop) (hO0 : ∀ n2, n2 < n → ∀ (yg : aa_G) (yb2 : Int32), rn_s n2 159 (3, [some (.ref 540), some (.int b1), some (.int yb2)], [], aa_H yg) v h → P (.inl (yg, yb2))) (hR : ∀ E, ig_s v h E → P (.inr E))  (r : rn_s n 159 (22, [some (.ref 540), some (.int b1), some (.int b2)], [.ref 540, .ref 540], aa_H g) v h) : P (fn_159_22 g b1 b2) := by
  unfold fn_159_22
  obtain ⟨n9, ln9, r⟩ := rn_steps 5 (3, [some (.ref 540), some (.int b1), some (.int (b2 + (-8)))], [], aa_H (zz_w g 540 4 ((g 540 4) + 1))) rfl r
  exact hO0 _ (by omega) (zz_w g 540 4 ((g 540 4) + 1)) (b2 + (-8)) r
noncomputable def fn_159_3b (g : aa_G) (b1 : Int32) (b2 : Int32) : (aa_G × Int32) ⊕ aa_G := if b2 < 0 then .inr g else fn_159_22 (zz_w g 543 (g 540 4).toNatClampNeg (vp_nar .byte ((b1 >>> (b2 &&& 31)).toInt8.toInt32))) b1 b2
noncomputable def fn_159_3 (g : aa_G) (b1 : Int32) (b2 : Int32) : aa_G := lp_f g (fun z : (aa_G × Int32) => fn_159_3b z.1 b1 z.2) (g, b2)
theorem dn_159_3l {v : Option Value} {h : zz_H} {N : Nat} {b1 : Int32} {d : aa_G} : ∀ (n : Nat), n ≤ N → ∀ (g : aa_G) (b2 : Int32), rn_s n 159 (3, [some (.ref 540), some (.int b1), some (.int b2)], [], aa_H g) v h → (ig_s v h) (lp_f d (fun z : (aa_G × Int32) => fn_159_3b z.1 b1 z.2) (g, b2)) := by
  generalize hf : (fun z : (aa_G × Int32) => fn_159_3b z.1 b1 z.2) = f
  intro n
  induction n using Nat.strongRecOn with
  | _ n ih =>
    intro hN g b2  r
    refine lp_go ?_
    rw [← congrFun hf (g, b2)]
    show lp_q (ig_s v h) d f (fn_159_3b g b1 b2)
    unfold fn_159_3b
    obtain ⟨n2, ln2, r⟩ := rn_steps 0 (4, [some (.ref 540), some (.int b1), some (.int b2)], [.int b2], aa_H g) rfl r
    refine rn_if (lp_q (ig_s v h) d f) rfl decide_eq_true_iff.symm r (fun c3 l4n l4 r => ?_) (fun c3 l4n l4 r => ?_)
    · exact rn_ret 1 rfl r
    · obtain ⟨n5, ln5, r⟩ := rn_steps 7 (19, [some (.ref 540), some (.int b1), some (.int b2)], [.int ((b1 >>> (b2 &&& 31)).toInt8.toInt32), .int (g 540 4), .ref 543], aa_H g) rfl r
      obtain ⟨hb7, n6, ln6, r⟩ := rn_bas (k := 543) rfl ⟨by decide, by decide⟩ rfl (by decide) r
      have r : rn_s _ 159 (20, [some (.ref 540), some (.int b1), some (.int b2)], [], aa_H (zz_w g 543 (g 540 4).toNatClampNeg (vp_nar .byte ((b1 >>> (b2 &&& 31)).toInt8.toInt32)))) v h := r
      obtain ⟨n8, ln8, r⟩ := rn_steps 1 (22, [some (.ref 540), some (.int b1), some (.int b2)], [.ref 540, .ref 540], aa_H (zz_w g 543 (g 540 4).toNatClampNeg (vp_nar .byte ((b1 >>> (b2 &&& 31)).toInt8.toInt32)))) rfl r
      exact dn_159_22 (lp_q (ig_s v h) d f) (fun n2 l2 => ih n2 (by omega) (by omega)) (fun z hz => hz) r
theorem dn_159_3 {v : Option Value} {h : zz_H} {n : Nat} {g : aa_G} {b1 : Int32} {b2 : Int32}  (r : rn_s n 159 (3, [some (.ref 540), some (.int b1), some (.int b2)], [], aa_H g) v h) : (ig_s v h) (fn_159_3 g b1 b2) := dn_159_3l  n (Nat.le_refl n) g b2 r
noncomputable def fn_159 (g : aa_G) (a1 : Int32) : aa_G := fn_159_3 g a1 24
theorem dn_159 {v : Option Value} {h : zz_H} {n : Nat} {g : aa_G} {a1 : Int32}  (r : rn_s n 159 (0, zz_in [.ref 540, .int a1] (zz_nl 159), [], aa_H g) v h) : ig_s v h (fn_159 g a1) := by
  have r : rn_s n 159 (0, [some (.ref 540), some (.int a1), none], [], aa_H g) v h := r
  unfold fn_159
  obtain ⟨n1, ln1, r⟩ := rn_steps 1 (3, [some (.ref 540), some (.int a1), some (.int 24)], [], aa_H g) rfl r
  exact dn_159_3 r
-- 158: UnequalHoursModel feed
noncomputable def fn_158_43 (g : aa_G)  : Int32 × aa_G := (g 540 4, g)
theorem dn_158_43 {v : Option Value} {h : zz_H} {n : Nat} {g : aa_G}   (x0 x1 x2 x3 x4 x5 : Option Value) (jx0 : rn_jk x0) (jx1 : rn_jk x1) (jx2 : rn_jk x2) (jx3 : rn_jk x3) (jx4 : rn_jk x4) (jx5 : rn_jk x5) (r : rn_s n 158 (43, [x0, x1, x2, x3, x4, x5], [.ref 540], aa_H g) v h) : iw_s v h (fn_158_43 g) := by
  unfold fn_158_43
  obtain ⟨n21, ln21, r⟩ := rn_steps 0 (46, [x0, x1, x2, x3, x4, x5], [.int (g 540 4)], aa_H g) rfl r
  exact rn_ire rfl r
noncomputable def fn_158_36 (g : aa_G) (b5 : Int32) : Int32 × aa_G := fn_158_43 (fn_159 g b5)
theorem dn_158_36 {v : Option Value} {h : zz_H} {n : Nat} {g : aa_G} {b5 : Int32}  (x1 x2 x3 x4 : Option Value) (jx1 : rn_jk x1) (jx2 : rn_jk x2) (jx3 : rn_jk x3) (jx4 : rn_jk x4) (r : rn_s n 158 (36, [some (.ref 540), x1, x2, x3, x4, some (.int b5)], [], aa_H g) v h) : iw_s v h (fn_158_36 g b5) := by
  unfold fn_158_36
  obtain ⟨n17, ln17, r⟩ := rn_steps 1 (39, [some (.ref 540), x1, x2, x3, x4, some (.int b5)], [.int b5, .ref 540], aa_H g) rfl r
  obtain ⟨_, n18, v1, h1, -, ln18, rc, r⟩ := rn_call (m2 := 159) (as := [.ref 540, .int b5]) (rest := []) rfl rfl r
  obtain ⟨rfl, rfl⟩ := dn_159 rc
  have r : rn_s _ 158 (42, [some (.ref 540), x1, x2, x3, x4, some (.int b5)], [], aa_H (fn_159 g b5)) v h := r
  obtain ⟨n20, ln20, r⟩ := rn_steps 0 (43, [some (.ref 540), x1, x2, x3, x4, some (.int b5)], [.ref 540], aa_H (fn_159 g b5)) rfl r
  exact dn_158_43 (some (.ref 540)) x1 x2 x3 x4 (some (.int b5)) rn_jr jx1 jx2 jx3 jx4 rn_ji r
noncomputable def fn_158_30 (g : aa_G) (b4 : Int32) (b5 : Int32) : Int32 × aa_G := fn_158_36 (fn_159 g b4) b5
theorem dn_158_30 {v : Option Value} {h : zz_H} {n : Nat} {g : aa_G} {b4 : Int32} {b5 : Int32}  (x1 x2 x3 : Option Value) (jx1 : rn_jk x1) (jx2 : rn_jk x2) (jx3 : rn_jk x3) (r : rn_s n 158 (30, [some (.ref 540), x1, x2, x3, some (.int b4), some (.int b5)], [], aa_H g) v h) : iw_s v h (fn_158_30 g b4 b5) := by
  unfold fn_158_30
  obtain ⟨n14, ln14, r⟩ := rn_steps 1 (33, [some (.ref 540), x1, x2, x3, some (.int b4), some (.int b5)], [.int b4, .ref 540], aa_H g) rfl r
  obtain ⟨_, n15, v1, h1, -, ln15, rc, r⟩ := rn_call (m2 := 159) (as := [.ref 540, .int b4]) (rest := []) rfl rfl r
  obtain ⟨rfl, rfl⟩ := dn_159 rc
  have r : rn_s _ 158 (36, [some (.ref 540), x1, x2, x3, some (.int b4), some (.int b5)], [], aa_H (fn_159 g b4)) v h := r
  exact dn_158_36 x1 x2 x3 (some (.int b4)) jx1 jx2 jx3 rn_ji r
noncomputable def fn_158_25 (g : aa_G) (b3 : Int32) (b4 : Int32) (b5 : Int32) : Int32 × aa_G := fn_158_30 (fn_159 g b3) b4 b5
theorem dn_158_25 {v : Option Value} {h : zz_H} {n : Nat} {g : aa_G} {b3 : Int32} {b4 : Int32} {b5 : Int32}  (x1 x2 : Option Value) (jx1 : rn_jk x1) (jx2 : rn_jk x2) (r : rn_s n 158 (25, [some (.ref 540), x1, x2, some (.int b3), some (.int b4), some (.int b5)], [], aa_H g) v h) : iw_s v h (fn_158_25 g b3 b4 b5) := by
  unfold fn_158_25
  obtain ⟨n11, ln11, r⟩ := rn_steps 1 (27, [some (.ref 540), x1, x2, some (.int b3), some (.int b4), some (.int b5)], [.int b3, .ref 540], aa_H g) rfl r
  obtain ⟨_, n12, v1, h1, -, ln12, rc, r⟩ := rn_call (m2 := 159) (as := [.ref 540, .int b3]) (rest := []) rfl rfl r
  obtain ⟨rfl, rfl⟩ := dn_159 rc
  have r : rn_s _ 158 (30, [some (.ref 540), x1, x2, some (.int b3), some (.int b4), some (.int b5)], [], aa_H (fn_159 g b3)) v h := r
  exact dn_158_30 x1 x2 (some (.int b3)) jx1 jx2 rn_ji r
noncomputable def fn_158_20 (g : aa_G) (b2 : Int32) (b3 : Int32) (b4 : Int32) (b5 : Int32) : Int32 × aa_G := fn_158_25 (fn_159 g b2) b3 b4 b5
theorem dn_158_20 {v : Option Value} {h : zz_H} {n : Nat} {g : aa_G} {b2 : Int32} {b3 : Int32} {b4 : Int32} {b5 : Int32}  (x1 : Option Value) (jx1 : rn_jk x1) (r : rn_s n 158 (20, [some (.ref 540), x1, some (.int b2), some (.int b3), some (.int b4), some (.int b5)], [], aa_H g) v h) : iw_s v h (fn_158_20 g b2 b3 b4 b5) := by
  unfold fn_158_20
  obtain ⟨n8, ln8, r⟩ := rn_steps 1 (22, [some (.ref 540), x1, some (.int b2), some (.int b3), some (.int b4), some (.int b5)], [.int b2, .ref 540], aa_H g) rfl r
  obtain ⟨_, n9, v1, h1, -, ln9, rc, r⟩ := rn_call (m2 := 159) (as := [.ref 540, .int b2]) (rest := []) rfl rfl r
  obtain ⟨rfl, rfl⟩ := dn_159 rc
  have r : rn_s _ 158 (25, [some (.ref 540), x1, some (.int b2), some (.int b3), some (.int b4), some (.int b5)], [], aa_H (fn_159 g b2)) v h := r
  exact dn_158_25 x1 (some (.int b2)) jx1 rn_ji r
noncomputable def fn_158 (g : aa_G) (a1 : Int32) (a2 : Int32) (a3 : Int32) (a4 : Int32) (a5 : Int32) : Int32 × aa_G := if ((g 540 4) + 20) ≤ 500 then fn_158_20 (fn_159 g a1) a2 a3 a4 a5 else (-1, g)
theorem dn_158 {v : Option Value} {h : zz_H} {n : Nat} {g : aa_G} {a1 : Int32} {a2 : Int32} {a3 : Int32} {a4 : Int32} {a5 : Int32}  (r : rn_s n 158 (0, zz_in [.ref 540, .int a1, .int a2, .int a3, .int a4, .int a5] (zz_nl 158), [], aa_H g) v h) : iw_s v h (fn_158 g a1 a2 a3 a4 a5) := by
  have r : rn_s n 158 (0, [some (.ref 540), some (.int a1), some (.int a2), some (.int a3), some (.int a4), some (.int a5)], [], aa_H g) v h := r
  unfold fn_158
  obtain ⟨n1, ln1, r⟩ := rn_steps 4 (10, [some (.ref 540), some (.int a1), some (.int a2), some (.int a3), some (.int a4), some (.int a5)], [.int 500, .int ((g 540 4) + 20)], aa_H g) rfl r
  refine rn_ic (iw_s v h) rfl decide_eq_true_iff.symm r (fun c2 l3n l3 r => ?_) (fun c2 l3n l3 r => ?_)
  · obtain ⟨n4, ln4, r⟩ := rn_steps 1 (17, [some (.ref 540), some (.int a1), some (.int a2), some (.int a3), some (.int a4), some (.int a5)], [.int a1, .ref 540], aa_H g) rfl r
    obtain ⟨_, n5, v1, h1, -, ln5, rc, r⟩ := rn_call (m2 := 159) (as := [.ref 540, .int a1]) (rest := []) rfl rfl r
    obtain ⟨rfl, rfl⟩ := dn_159 rc
    have r : rn_s _ 158 (20, [some (.ref 540), some (.int a1), some (.int a2), some (.int a3), some (.int a4), some (.int a5)], [], aa_H (fn_159 g a1)) v h := r
    exact dn_158_20 (some (.int a1)) rn_ji r
  · obtain ⟨n7, ln7, r⟩ := rn_steps 0 (14, [some (.ref 540), some (.int a1), some (.int a2), some (.int a3), some (.int a4), some (.int a5)], [.int (-1)], aa_H g) rfl r
    exact rn_ire rfl r
