/-! METHODS READ (printed by wip/dc/dc.py) -/
-- 21: UnequalHours Tape step
noncomputable def fn_21_47 (g : aa_G) (s0 : Int32) : aa_G := zz_w g 454 2 (g 455 s0.toNatClampNeg)
theorem dn_21_47 {v : Option Value} {h : zz_H} {n : Nat} {g : aa_G} {s0 : Int32}  (x0 : Option Value) (jx0 : rn_jk x0) (r : rn_s n 21 (47, [x0], [.int s0, .ref 455, .ref 454], aa_H g) v h) : ig_s v h (fn_21_47 g s0) := by
  unfold fn_21_47
  obtain ⟨hb15, n14, ln14, r⟩ := rn_ial (k := 455) rfl ⟨by decide, by decide⟩ rfl r
  have r : rn_s _ 21 (48, [x0], [.int (g 455 s0.toNatClampNeg), .ref 454], aa_H g) v h := r
  obtain ⟨n16, ln16, r⟩ := rn_steps 1 (55, [x0], [], aa_H (zz_w g 454 2 (g 455 s0.toNatClampNeg))) rfl r
  exact rn_ret 1 rfl r
noncomputable def fn_21 (g : aa_G)  : aa_G := if ((g 454 1) + 1) < 0 then zz_w (zz_w g 454 1 ((g 454 1) + 1)) 454 2 (-1) else if (g 454 0) ≤ ((g 454 1) + 1) then zz_w (zz_w g 454 1 ((g 454 1) + 1)) 454 2 (-1) else if 500 ≤ ((g 454 1) + 1) then zz_w (zz_w g 454 1 ((g 454 1) + 1)) 454 2 (-1) else fn_21_47 (zz_w g 454 1 ((g 454 1) + 1)) ((g 454 1) + 1)
theorem dn_21 {v : Option Value} {h : zz_H} {n : Nat} {g : aa_G}   (r : rn_s n 21 (0, zz_in [.ref 454] (zz_nl 21), [], aa_H g) v h) : ig_s v h (fn_21 g) := by
  have r : rn_s n 21 (0, [some (.ref 454)], [], aa_H g) v h := r
  unfold fn_21
  obtain ⟨n1, ln1, r⟩ := rn_steps 8 (15, [some (.ref 454)], [.int ((g 454 1) + 1), .ref 454], aa_H (zz_w g 454 1 ((g 454 1) + 1))) rfl r
  refine rn_if (ig_s v h) rfl decide_eq_true_iff.symm r (fun c2 l3n l3 r => ?_) (fun c2 l3n l3 r => ?_)
  · obtain ⟨n4, ln4, r⟩ := rn_steps 1 (55, [some (.ref 454)], [], aa_H (zz_w (zz_w g 454 1 ((g 454 1) + 1)) 454 2 (-1))) rfl r
    exact rn_ret 1 rfl r
  · obtain ⟨n5, ln5, r⟩ := rn_steps 3 (26, [some (.ref 454)], [.int (g 454 0), .int ((g 454 1) + 1), .ref 454], aa_H (zz_w g 454 1 ((g 454 1) + 1))) rfl r
    refine rn_ic (ig_s v h) rfl decide_eq_true_iff.symm r (fun c6 l7n l7 r => ?_) (fun c6 l7n l7 r => ?_)
    · obtain ⟨n8, ln8, r⟩ := rn_steps 1 (55, [some (.ref 454)], [], aa_H (zz_w (zz_w g 454 1 ((g 454 1) + 1)) 454 2 (-1))) rfl r
      exact rn_ret 1 rfl r
    · obtain ⟨n9, ln9, r⟩ := rn_steps 2 (36, [some (.ref 454)], [.int 500, .int ((g 454 1) + 1), .ref 454], aa_H (zz_w g 454 1 ((g 454 1) + 1))) rfl r
      refine rn_ic (ig_s v h) rfl decide_eq_true_iff.symm r (fun c10 l11n l11 r => ?_) (fun c10 l11n l11 r => ?_)
      · obtain ⟨n12, ln12, r⟩ := rn_steps 1 (55, [some (.ref 454)], [], aa_H (zz_w (zz_w g 454 1 ((g 454 1) + 1)) 454 2 (-1))) rfl r
        exact rn_ret 1 rfl r
      · obtain ⟨n13, ln13, r⟩ := rn_steps 3 (47, [some (.ref 454)], [.int ((g 454 1) + 1), .ref 455, .ref 454], aa_H (zz_w g 454 1 ((g 454 1) + 1))) rfl r
        exact dn_21_47 (some (.ref 454)) rn_jr r
-- 25: UnequalHours Tape fail
noncomputable def fn_25 (g : aa_G)  : Int32 × aa_G := (0, zz_w g 454 4 (g 454 1))
theorem dn_25 {v : Option Value} {h : zz_H} {n : Nat} {g : aa_G}   (r : rn_s n 25 (0, zz_in [.ref 454] (zz_nl 25), [], aa_H g) v h) : iw_s v h (fn_25 g) := by
  have r : rn_s n 25 (0, [some (.ref 454)], [], aa_H g) v h := r
  unfold fn_25
  obtain ⟨n1, ln1, r⟩ := rn_steps 4 (9, [some (.ref 454)], [.int 0], aa_H (zz_w g 454 4 (g 454 1))) rfl r
  exact rn_ire rfl r
-- 33: UnequalHours Tape pass
noncomputable def fn_33 (g : aa_G) (a1 : Int32) : Int32 × aa_G := if (g 454 2) = a1 then (1, fn_21 g) else ((fn_25 g).1, (fn_25 g).2)
theorem dn_33 {v : Option Value} {h : zz_H} {n : Nat} {g : aa_G} {a1 : Int32}  (r : rn_s n 33 (0, zz_in [.ref 454, .int a1] (zz_nl 33), [], aa_H g) v h) : iw_s v h (fn_33 g a1) := by
  have r : rn_s n 33 (0, [some (.ref 454), some (.int a1)], [], aa_H g) v h := r
  unfold fn_33
  obtain ⟨n1, ln1, r⟩ := rn_steps 2 (5, [some (.ref 454), some (.int a1)], [.int a1, .int (g 454 2)], aa_H g) rfl r
  refine rn_ic (iw_s v h) rfl decide_eq_true_iff.symm r (fun c2 l3n l3 r => ?_) (fun c2 l3n l3 r => ?_)
  · obtain ⟨n4, ln4, r⟩ := rn_steps 0 (14, [some (.ref 454), some (.int a1)], [.ref 454], aa_H g) rfl r
    obtain ⟨_, n5, v1, h1, -, ln5, rc, r⟩ := rn_call (m2 := 21) (as := [.ref 454]) (rest := []) rfl rfl r
    obtain ⟨rfl, rfl⟩ := dn_21 rc
    have r : rn_s _ 33 (17, [some (.ref 454), some (.int a1)], [], aa_H (fn_21 g)) v h := r
    obtain ⟨n7, ln7, r⟩ := rn_steps 0 (18, [some (.ref 454), some (.int a1)], [.int 1], aa_H (fn_21 g)) rfl r
    exact rn_ire rfl r
  · obtain ⟨n8, ln8, r⟩ := rn_steps 0 (9, [some (.ref 454), some (.int a1)], [.ref 454], aa_H g) rfl r
    obtain ⟨_, n9, v1, h1, -, ln9, rc, r⟩ := rn_call (m2 := 25) (as := [.ref 454]) (rest := []) rfl rfl r
    obtain ⟨rfl, rfl⟩ := dn_25 rc
    have r : rn_s _ 33 (12, [some (.ref 454), some (.int a1)], [.int ((fn_25 g).1)], aa_H ((fn_25 g).2)) v h := r
    exact rn_ire rfl r
-- 27: UnequalHours Tape onDigit
noncomputable def fn_27 (g : aa_G)  : Int32 := if (g 454 2) < 48 then 0 else if 57 < (g 454 2) then 0 else 1
theorem dn_27 {v : Option Value} {h : zz_H} {n : Nat} {g : aa_G}   (r : rn_s n 27 (0, zz_in [.ref 454] (zz_nl 27), [], aa_H g) v h) : ir_s g v h (fn_27 g) := by
  have r : rn_s n 27 (0, [some (.ref 454)], [], aa_H g) v h := r
  unfold fn_27
  obtain ⟨n1, ln1, r⟩ := rn_steps 2 (6, [some (.ref 454)], [.int 48, .int (g 454 2)], aa_H g) rfl r
  refine rn_ic (ir_s g v h) rfl decide_eq_true_iff.symm r (fun c2 l3n l3 r => ?_) (fun c2 l3n l3 r => ?_)
  · obtain ⟨n4, ln4, r⟩ := rn_steps 0 (23, [some (.ref 454)], [.int 0], aa_H g) rfl r
    exact rn_ire rfl r
  · obtain ⟨n5, ln5, r⟩ := rn_steps 2 (15, [some (.ref 454)], [.int 57, .int (g 454 2)], aa_H g) rfl r
    refine rn_ic (ir_s g v h) rfl decide_eq_true_iff.symm r (fun c6 l7n l7 r => ?_) (fun c6 l7n l7 r => ?_)
    · obtain ⟨n8, ln8, r⟩ := rn_steps 0 (23, [some (.ref 454)], [.int 0], aa_H g) rfl r
      exact rn_ire rfl r
    · obtain ⟨n9, ln9, r⟩ := rn_steps 1 (23, [some (.ref 454)], [.int 1], aa_H g) rfl r
      exact rn_ire rfl r
-- 26: UnequalHours Tape readNumber
noncomputable def fn_26_73 (g : aa_G) (b2 : Int32) (b3 : Int32) (b4 : Int32) (b5 : Int32) (b6 : Int32) (b7 : Int32) : (aa_G × Int32 × Int32) ⊕ (Int32 × aa_G) := .inl (g, b6, b7 + 1)
theorem dn_26_73 {v : Option Value} {h : zz_H} {n : Nat} {g : aa_G} {b2 : Int32} {b3 : Int32} {b4 : Int32} {b5 : Int32} {b6 : Int32} {b7 : Int32} (P : (aa_G × Int32 × Int32) ⊕ (Int32 × aa_G) → Prop) (hO0 : ∀ n2, n2 < n → ∀ (yg : aa_G) (yb6 : Int32) (yb7 : Int32) (yx1 : Option Value) (_ : rn_jk yx1), rn_s n2 26 (41, [some (.ref 454), yx1, some (.int b2), some (.int b3), some (.int b4), some (.int b5), some (.int yb6), some (.int yb7)], [], aa_H yg) v h → P (.inl (yg, yb6, yb7))) (hR : ∀ E, iw_s v h E → P (.inr E))  (x1 : Option Value) (jx1 : rn_jk x1) (r : rn_s n 26 (73, [some (.ref 454), x1, some (.int b2), some (.int b3), some (.int b4), some (.int b5), some (.int b6), some (.int b7)], [], aa_H g) v h) : P (fn_26_73 g b2 b3 b4 b5 b6 b7) := by
  unfold fn_26_73
  obtain ⟨n40, ln40, r⟩ := rn_steps 1 (41, [some (.ref 454), x1, some (.int b2), some (.int b3), some (.int b4), some (.int b5), some (.int b6), some (.int (b7 + 1))], [], aa_H g) rfl r
  exact hO0 _ (by omega) g b6 (b7 + 1) x1 jx1 r
noncomputable def fn_26_91 (g : aa_G)  : Int32 × aa_G := ((fn_25 g).1, (fn_25 g).2)
theorem dn_26_91 {v : Option Value} {h : zz_H} {n : Nat} {g : aa_G}   (x1 x2 x3 x4 x5 x6 x7 : Option Value) (jx1 : rn_jk x1) (jx2 : rn_jk x2) (jx3 : rn_jk x3) (jx4 : rn_jk x4) (jx5 : rn_jk x5) (jx6 : rn_jk x6) (jx7 : rn_jk x7) (r : rn_s n 26 (91, [some (.ref 454), x1, x2, x3, x4, x5, x6, x7], [], aa_H g) v h) : iw_s v h (fn_26_91 g) := by
  unfold fn_26_91
  obtain ⟨n41, ln41, r⟩ := rn_steps 0 (92, [some (.ref 454), x1, x2, x3, x4, x5, x6, x7], [.ref 454], aa_H g) rfl r
  obtain ⟨_, n42, v1, h1, -, ln42, rc, r⟩ := rn_call (m2 := 25) (as := [.ref 454]) (rest := []) rfl rfl r
  obtain ⟨rfl, rfl⟩ := dn_25 rc
  have r : rn_s _ 26 (95, [some (.ref 454), x1, x2, x3, x4, x5, x6, x7], [.int ((fn_25 g).1)], aa_H ((fn_25 g).2)) v h := r
  exact rn_ire rfl r
noncomputable def fn_26_110 (g : aa_G) (b2 : Int32) (b3 : Int32) (b4 : Int32) (s0 : Int32) : Int32 × aa_G := if s0 < b2 then (0, zz_w (zz_w g 454 3 s0) 454 4 b4) else if s0 ≤ b3 then (1, zz_w g 454 3 s0) else (0, zz_w (zz_w g 454 3 s0) 454 4 b4)
theorem dn_26_110 {v : Option Value} {h : zz_H} {n : Nat} {g : aa_G} {b2 : Int32} {b3 : Int32} {b4 : Int32} {s0 : Int32}  (x1 x5 x6 x7 : Option Value) (jx1 : rn_jk x1) (jx5 : rn_jk x5) (jx6 : rn_jk x6) (jx7 : rn_jk x7) (r : rn_s n 26 (110, [some (.ref 454), x1, some (.int b2), some (.int b3), some (.int b4), x5, x6, x7], [.int s0, .ref 454], aa_H g) v h) : iw_s v h (fn_26_110 g b2 b3 b4 s0) := by
  unfold fn_26_110
  obtain ⟨n44, ln44, r⟩ := rn_steps 3 (118, [some (.ref 454), x1, some (.int b2), some (.int b3), some (.int b4), x5, x6, x7], [.int b2, .int s0], aa_H (zz_w g 454 3 s0)) rfl r
  refine rn_ic (iw_s v h) rfl decide_eq_true_iff.symm r (fun c45 l46n l46 r => ?_) (fun c45 l46n l46 r => ?_)
  · obtain ⟨n47, ln47, r⟩ := rn_steps 3 (136, [some (.ref 454), x1, some (.int b2), some (.int b3), some (.int b4), x5, x6, x7], [.int 0], aa_H (zz_w (zz_w g 454 3 s0) 454 4 b4)) rfl r
    exact rn_ire rfl r
  · obtain ⟨n48, ln48, r⟩ := rn_steps 2 (126, [some (.ref 454), x1, some (.int b2), some (.int b3), some (.int b4), x5, x6, x7], [.int b3, .int s0], aa_H (zz_w g 454 3 s0)) rfl r
    refine rn_ic (iw_s v h) rfl decide_eq_true_iff.symm r (fun c49 l50n l50 r => ?_) (fun c49 l50n l50 r => ?_)
    · obtain ⟨n51, ln51, r⟩ := rn_steps 0 (138, [some (.ref 454), x1, some (.int b2), some (.int b3), some (.int b4), x5, x6, x7], [.int 1], aa_H (zz_w g 454 3 s0)) rfl r
      exact rn_ire rfl r
    · obtain ⟨n52, ln52, r⟩ := rn_steps 3 (136, [some (.ref 454), x1, some (.int b2), some (.int b3), some (.int b4), x5, x6, x7], [.int 0], aa_H (zz_w (zz_w g 454 3 s0) 454 4 b4)) rfl r
      exact rn_ire rfl r
noncomputable def fn_26_79 (g : aa_G) (b2 : Int32) (b3 : Int32) (b4 : Int32) (b5 : Int32) (b6 : Int32) (b7 : Int32) : Int32 × aa_G := if b7 = 0 then fn_26_91 g else if (fn_27 g) = 0 then if b5 = 0 then fn_26_110 g b2 b3 b4 b6 else fn_26_110 g b2 b3 b4 (-b6) else fn_26_91 g
theorem dn_26_79 {v : Option Value} {h : zz_H} {n : Nat} {g : aa_G} {b2 : Int32} {b3 : Int32} {b4 : Int32} {b5 : Int32} {b6 : Int32} {b7 : Int32}  (x1 : Option Value) (jx1 : rn_jk x1) (r : rn_s n 26 (79, [some (.ref 454), x1, some (.int b2), some (.int b3), some (.int b4), some (.int b5), some (.int b6), some (.int b7)], [], aa_H g) v h) : iw_s v h (fn_26_79 g b2 b3 b4 b5 b6 b7) := by
  unfold fn_26_79
  obtain ⟨n27, ln27, r⟩ := rn_steps 0 (81, [some (.ref 454), x1, some (.int b2), some (.int b3), some (.int b4), some (.int b5), some (.int b6), some (.int b7)], [.int b7], aa_H g) rfl r
  refine rn_if (iw_s v h) rfl decide_eq_true_iff.symm r (fun c28 l29n l29 r => ?_) (fun c28 l29n l29 r => ?_)
  · exact dn_26_91 x1 (some (.int b2)) (some (.int b3)) (some (.int b4)) (some (.int b5)) (some (.int b6)) (some (.int b7)) jx1 rn_ji rn_ji rn_ji rn_ji rn_ji rn_ji r
  · obtain ⟨n30, ln30, r⟩ := rn_steps 0 (85, [some (.ref 454), x1, some (.int b2), some (.int b3), some (.int b4), some (.int b5), some (.int b6), some (.int b7)], [.ref 454], aa_H g) rfl r
    obtain ⟨_, n31, v1, h1, -, ln31, rc, r⟩ := rn_call (m2 := 27) (as := [.ref 454]) (rest := []) rfl rfl r
    obtain ⟨rfl, rfl⟩ := dn_27 rc
    have r : rn_s _ 26 (88, [some (.ref 454), x1, some (.int b2), some (.int b3), some (.int b4), some (.int b5), some (.int b6), some (.int b7)], [.int (fn_27 g)], aa_H g) v h := r
    refine rn_if (iw_s v h) rfl decide_eq_true_iff.symm r (fun c33 l34n l34 r => ?_) (fun c33 l34n l34 r => ?_)
    · obtain ⟨n35, ln35, r⟩ := rn_steps 1 (99, [some (.ref 454), x1, some (.int b2), some (.int b3), some (.int b4), some (.int b5), some (.int b6), some (.int b7)], [.int b5, .ref 454], aa_H g) rfl r
      refine rn_if (iw_s v h) rfl decide_eq_true_iff.symm r (fun c36 l37n l37 r => ?_) (fun c36 l37n l37 r => ?_)
      · obtain ⟨n38, ln38, r⟩ := rn_steps 0 (110, [some (.ref 454), x1, some (.int b2), some (.int b3), some (.int b4), some (.int b5), some (.int b6), some (.int b7)], [.int b6, .ref 454], aa_H g) rfl r
        exact dn_26_110 x1 (some (.int b5)) (some (.int b6)) (some (.int b7)) jx1 rn_ji rn_ji rn_ji r
      · obtain ⟨n39, ln39, r⟩ := rn_steps 2 (110, [some (.ref 454), x1, some (.int b2), some (.int b3), some (.int b4), some (.int b5), some (.int b6), some (.int b7)], [.int (-b6), .ref 454], aa_H g) rfl r
        exact dn_26_110 x1 (some (.int b5)) (some (.int b6)) (some (.int b7)) jx1 rn_ji rn_ji rn_ji r
    · exact dn_26_91 x1 (some (.int b2)) (some (.int b3)) (some (.int b4)) (some (.int b5)) (some (.int b6)) (some (.int b7)) jx1 rn_ji rn_ji rn_ji rn_ji rn_ji rn_ji r
noncomputable def fn_26_41b (g : aa_G) (b2 : Int32) (b3 : Int32) (b4 : Int32) (b5 : Int32) (b6 : Int32) (b7 : Int32) : (aa_G × Int32 × Int32) ⊕ (Int32 × aa_G) := if 5 ≤ b7 then .inr (fn_26_79 g b2 b3 b4 b5 b6 b7) else if (fn_27 g) = 0 then .inr (fn_26_79 g b2 b3 b4 b5 b6 b7) else fn_26_73 (fn_21 g) b2 b3 b4 b5 (((b6 * 10) + (g 454 2)) - 48) b7
noncomputable def fn_26_41 (g : aa_G) (b2 : Int32) (b3 : Int32) (b4 : Int32) (b5 : Int32) (b6 : Int32) (b7 : Int32) : Int32 × aa_G := lp_f (0, g) (fun z : (aa_G × Int32 × Int32) => fn_26_41b z.1 b2 b3 b4 b5 z.2.1 z.2.2) (g, b6, b7)
theorem dn_26_41l {v : Option Value} {h : zz_H} {N : Nat} {b2 : Int32} {b3 : Int32} {b4 : Int32} {b5 : Int32} {d : Int32 × aa_G} : ∀ (n : Nat), n ≤ N → ∀ (g : aa_G) (b6 : Int32) (b7 : Int32) (x1 : Option Value) (jx1 : rn_jk x1), rn_s n 26 (41, [some (.ref 454), x1, some (.int b2), some (.int b3), some (.int b4), some (.int b5), some (.int b6), some (.int b7)], [], aa_H g) v h → (iw_s v h) (lp_f d (fun z : (aa_G × Int32 × Int32) => fn_26_41b z.1 b2 b3 b4 b5 z.2.1 z.2.2) (g, b6, b7)) := by
  generalize hf : (fun z : (aa_G × Int32 × Int32) => fn_26_41b z.1 b2 b3 b4 b5 z.2.1 z.2.2) = f
  intro n
  induction n using Nat.strongRecOn with
  | _ n ih =>
    intro hN g b6 b7 x1 jx1 r
    refine lp_go ?_
    rw [← congrFun hf (g, b6, b7)]
    show lp_q (iw_s v h) d f (fn_26_41b g b2 b3 b4 b5 b6 b7)
    unfold fn_26_41b
    obtain ⟨n16, ln16, r⟩ := rn_steps 1 (44, [some (.ref 454), x1, some (.int b2), some (.int b3), some (.int b4), some (.int b5), some (.int b6), some (.int b7)], [.int 5, .int b7], aa_H g) rfl r
    refine rn_ic (lp_q (iw_s v h) d f) rfl decide_eq_true_iff.symm r (fun c17 l18n l18 r => ?_) (fun c17 l18n l18 r => ?_)
    · exact dn_26_79 x1 jx1 r
    · obtain ⟨n19, ln19, r⟩ := rn_steps 0 (48, [some (.ref 454), x1, some (.int b2), some (.int b3), some (.int b4), some (.int b5), some (.int b6), some (.int b7)], [.ref 454], aa_H g) rfl r
      obtain ⟨_, n20, v1, h1, -, ln20, rc, r⟩ := rn_call (m2 := 27) (as := [.ref 454]) (rest := []) rfl rfl r
      obtain ⟨rfl, rfl⟩ := dn_27 rc
      have r : rn_s _ 26 (51, [some (.ref 454), x1, some (.int b2), some (.int b3), some (.int b4), some (.int b5), some (.int b6), some (.int b7)], [.int (fn_27 g)], aa_H g) v h := r
      refine rn_if (lp_q (iw_s v h) d f) rfl decide_eq_true_iff.symm r (fun c22 l23n l23 r => ?_) (fun c22 l23n l23 r => ?_)
      · exact dn_26_79 x1 jx1 r
      · obtain ⟨n24, ln24, r⟩ := rn_steps 9 (70, [some (.ref 454), x1, some (.int b2), some (.int b3), some (.int b4), some (.int b5), some (.int (((b6 * 10) + (g 454 2)) - 48)), some (.int b7)], [.ref 454], aa_H g) rfl r
        obtain ⟨_, n25, v1, h1, -, ln25, rc, r⟩ := rn_call (m2 := 21) (as := [.ref 454]) (rest := []) rfl rfl r
        obtain ⟨rfl, rfl⟩ := dn_21 rc
        have r : rn_s _ 26 (73, [some (.ref 454), x1, some (.int b2), some (.int b3), some (.int b4), some (.int b5), some (.int (((b6 * 10) + (g 454 2)) - 48)), some (.int b7)], [], aa_H (fn_21 g)) v h := r
        exact dn_26_73 (lp_q (iw_s v h) d f) (fun n2 l2 => ih n2 (by omega) (by omega)) (fun z hz => hz) x1 jx1 r
theorem dn_26_41 {v : Option Value} {h : zz_H} {n : Nat} {g : aa_G} {b2 : Int32} {b3 : Int32} {b4 : Int32} {b5 : Int32} {b6 : Int32} {b7 : Int32}  (x1 : Option Value) (jx1 : rn_jk x1) (r : rn_s n 26 (41, [some (.ref 454), x1, some (.int b2), some (.int b3), some (.int b4), some (.int b5), some (.int b6), some (.int b7)], [], aa_H g) v h) : (iw_s v h) (fn_26_41 g b2 b3 b4 b5 b6 b7) := dn_26_41l  n (Nat.le_refl n) g b6 b7 x1 jx1 r
noncomputable def fn_26_35 (g : aa_G) (b2 : Int32) (b3 : Int32) (b4 : Int32) (b5 : Int32) : Int32 × aa_G := fn_26_41 g b2 b3 b4 b5 0 0
theorem dn_26_35 {v : Option Value} {h : zz_H} {n : Nat} {g : aa_G} {b2 : Int32} {b3 : Int32} {b4 : Int32} {b5 : Int32}  (x1 x6 x7 : Option Value) (jx1 : rn_jk x1) (jx6 : rn_jk x6) (jx7 : rn_jk x7) (r : rn_s n 26 (35, [some (.ref 454), x1, some (.int b2), some (.int b3), some (.int b4), some (.int b5), x6, x7], [], aa_H g) v h) : iw_s v h (fn_26_35 g b2 b3 b4 b5) := by
  unfold fn_26_35
  obtain ⟨n15, ln15, r⟩ := rn_steps 3 (41, [some (.ref 454), x1, some (.int b2), some (.int b3), some (.int b4), some (.int b5), some (.int 0), some (.int 0)], [], aa_H g) rfl r
  exact dn_26_41 x1 jx1 r
noncomputable def fn_26_24 (g : aa_G) (b2 : Int32) (b3 : Int32) (b4 : Int32) (s0 : Int32) : Int32 × aa_G := if s0 = 0 then fn_26_35 g b2 b3 b4 s0 else fn_26_35 (fn_21 g) b2 b3 b4 s0
theorem dn_26_24 {v : Option Value} {h : zz_H} {n : Nat} {g : aa_G} {b2 : Int32} {b3 : Int32} {b4 : Int32} {s0 : Int32}  (x1 x5 x6 x7 : Option Value) (jx1 : rn_jk x1) (jx5 : rn_jk x5) (jx6 : rn_jk x6) (jx7 : rn_jk x7) (r : rn_s n 26 (24, [some (.ref 454), x1, some (.int b2), some (.int b3), some (.int b4), x5, x6, x7], [.int s0], aa_H g) v h) : iw_s v h (fn_26_24 g b2 b3 b4 s0) := by
  unfold fn_26_24
  obtain ⟨n9, ln9, r⟩ := rn_steps 1 (28, [some (.ref 454), x1, some (.int b2), some (.int b3), some (.int b4), some (.int s0), x6, x7], [.int s0], aa_H g) rfl r
  refine rn_if (iw_s v h) rfl decide_eq_true_iff.symm r (fun c10 l11n l11 r => ?_) (fun c10 l11n l11 r => ?_)
  · exact dn_26_35 x1 x6 x7 jx1 jx6 jx7 r
  · obtain ⟨n12, ln12, r⟩ := rn_steps 0 (32, [some (.ref 454), x1, some (.int b2), some (.int b3), some (.int b4), some (.int s0), x6, x7], [.ref 454], aa_H g) rfl r
    obtain ⟨_, n13, v1, h1, -, ln13, rc, r⟩ := rn_call (m2 := 21) (as := [.ref 454]) (rest := []) rfl rfl r
    obtain ⟨rfl, rfl⟩ := dn_21 rc
    have r : rn_s _ 26 (35, [some (.ref 454), x1, some (.int b2), some (.int b3), some (.int b4), some (.int s0), x6, x7], [], aa_H (fn_21 g)) v h := r
    exact dn_26_35 x1 x6 x7 jx1 jx6 jx7 r
noncomputable def fn_26_23 (g : aa_G) (b2 : Int32) (b3 : Int32) (b4 : Int32) : Int32 × aa_G := fn_26_24 g b2 b3 b4 0
theorem dn_26_23 {v : Option Value} {h : zz_H} {n : Nat} {g : aa_G} {b2 : Int32} {b3 : Int32} {b4 : Int32}  (x1 x5 x6 x7 : Option Value) (jx1 : rn_jk x1) (jx5 : rn_jk x5) (jx6 : rn_jk x6) (jx7 : rn_jk x7) (r : rn_s n 26 (23, [some (.ref 454), x1, some (.int b2), some (.int b3), some (.int b4), x5, x6, x7], [], aa_H g) v h) : iw_s v h (fn_26_23 g b2 b3 b4) := by
  unfold fn_26_23
  obtain ⟨n8, ln8, r⟩ := rn_steps 0 (24, [some (.ref 454), x1, some (.int b2), some (.int b3), some (.int b4), x5, x6, x7], [.int 0], aa_H g) rfl r
  exact dn_26_24 x1 x5 x6 x7 jx1 jx5 jx6 jx7 r
noncomputable def fn_26 (g : aa_G) (a1 : Int32) (a2 : Int32) (a3 : Int32) : Int32 × aa_G := if a1 = 0 then fn_26_23 g a2 a3 (g 454 1) else if (g 454 2) ≠ 45 then fn_26_23 g a2 a3 (g 454 1) else fn_26_24 g a2 a3 (g 454 1) 1
theorem dn_26 {v : Option Value} {h : zz_H} {n : Nat} {g : aa_G} {a1 : Int32} {a2 : Int32} {a3 : Int32}  (r : rn_s n 26 (0, zz_in [.ref 454, .int a1, .int a2, .int a3] (zz_nl 26), [], aa_H g) v h) : iw_s v h (fn_26 g a1 a2 a3) := by
  have r : rn_s n 26 (0, [some (.ref 454), some (.int a1), some (.int a2), some (.int a3), none, none, none, none], [], aa_H g) v h := r
  unfold fn_26
  obtain ⟨n1, ln1, r⟩ := rn_steps 3 (7, [some (.ref 454), some (.int a1), some (.int a2), some (.int a3), some (.int (g 454 1)), none, none, none], [.int a1], aa_H g) rfl r
  refine rn_if (iw_s v h) rfl decide_eq_true_iff.symm r (fun c2 l3n l3 r => ?_) (fun c2 l3n l3 r => ?_)
  · exact dn_26_23 (some (.int a1)) none none none rn_ji rn_jn rn_jn rn_jn r
  · obtain ⟨n4, ln4, r⟩ := rn_steps 2 (16, [some (.ref 454), some (.int a1), some (.int a2), some (.int a3), some (.int (g 454 1)), none, none, none], [.int 45, .int (g 454 2)], aa_H g) rfl r
    refine rn_ic (iw_s v h) rfl decide_eq_true_iff.symm r (fun c5 l6n l6 r => ?_) (fun c5 l6n l6 r => ?_)
    · exact dn_26_23 (some (.int a1)) none none none rn_ji rn_jn rn_jn rn_jn r
    · obtain ⟨n7, ln7, r⟩ := rn_steps 1 (24, [some (.ref 454), some (.int a1), some (.int a2), some (.int a3), some (.int (g 454 1)), none, none, none], [.int 1], aa_H g) rfl r
      exact dn_26_24 (some (.int a1)) none none none rn_ji rn_jn rn_jn rn_jn r
-- 56: UnequalHours Acts numbersOf
noncomputable def fn_56 (a0 : Int32) : Int32 := if a0.toInt = 111 then 2 else if a0.toInt = 112 then 0 else if a0.toInt = 113 then 1 else if a0.toInt = 114 then 2 else if a0.toInt = 115 then 4 else 0
theorem dn_56 {v : Option Value} {h : zz_H} {n : Nat} {g : aa_G} {a0 : Int32}  (r : rn_s n 56 (0, zz_in [.int a0] (zz_nl 56), [], aa_H g) v h) : ir_s g v h (fn_56 a0) := by
  have r : rn_s n 56 (0, [some (.int a0)], [], aa_H g) v h := r
  unfold fn_56
  obtain ⟨n1, ln1, r⟩ := rn_steps 0 (1, [some (.int a0)], [.int a0], aa_H g) rfl r
  obtain ⟨n2, ln2, r⟩ := rn_swi rfl r
  refine rn_sw1 (ir_s g v h) r (fun c3 r => ?_) (fun c3 r => ?_)
  · have r : rn_s _ 56 (38, [some (.int a0)], [], aa_H g) v h := r
    obtain ⟨n4, ln4, r⟩ := rn_steps 0 (39, [some (.int a0)], [.int 2], aa_H g) rfl r
    exact rn_ire rfl r
  · refine rn_sw1 (ir_s g v h) r (fun c5 r => ?_) (fun c5 r => ?_)
    · have r : rn_s _ 56 (42, [some (.int a0)], [], aa_H g) v h := r
      obtain ⟨n6, ln6, r⟩ := rn_steps 0 (43, [some (.int a0)], [.int 0], aa_H g) rfl r
      exact rn_ire rfl r
    · refine rn_sw1 (ir_s g v h) r (fun c7 r => ?_) (fun c7 r => ?_)
      · have r : rn_s _ 56 (36, [some (.int a0)], [], aa_H g) v h := r
        obtain ⟨n8, ln8, r⟩ := rn_steps 0 (37, [some (.int a0)], [.int 1], aa_H g) rfl r
        exact rn_ire rfl r
      · refine rn_sw1 (ir_s g v h) r (fun c9 r => ?_) (fun c9 r => ?_)
        · have r : rn_s _ 56 (38, [some (.int a0)], [], aa_H g) v h := r
          obtain ⟨n10, ln10, r⟩ := rn_steps 0 (39, [some (.int a0)], [.int 2], aa_H g) rfl r
          exact rn_ire rfl r
        · refine rn_sw1 (ir_s g v h) r (fun c11 r => ?_) (fun c11 r => ?_)
          · have r : rn_s _ 56 (40, [some (.int a0)], [], aa_H g) v h := r
            obtain ⟨n12, ln12, r⟩ := rn_steps 0 (41, [some (.int a0)], [.int 4], aa_H g) rfl r
            exact rn_ire rfl r
          · have r : rn_s _ 56 (42, [some (.int a0)], [], aa_H g) v h := r
            obtain ⟨n13, ln13, r⟩ := rn_steps 0 (43, [some (.int a0)], [.int 0], aa_H g) rfl r
            exact rn_ire rfl r
-- 55: UnequalHours Acts readAct
noncomputable def fn_55_21 (g : aa_G)  : Int32 × aa_G := ((fn_25 g).1, (fn_25 g).2)
theorem dn_55_21 {v : Option Value} {h : zz_H} {n : Nat} {g : aa_G}   (x0 x2 x3 : Option Value) (jx0 : rn_jk x0) (jx2 : rn_jk x2) (jx3 : rn_jk x3) (r : rn_s n 55 (21, [x0, some (.ref 454), x2, x3], [], aa_H g) v h) : iw_s v h (fn_55_21 g) := by
  unfold fn_55_21
  obtain ⟨n16, ln16, r⟩ := rn_steps 0 (22, [x0, some (.ref 454), x2, x3], [.ref 454], aa_H g) rfl r
  obtain ⟨_, n17, v1, h1, -, ln17, rc, r⟩ := rn_call (m2 := 25) (as := [.ref 454]) (rest := []) rfl rfl r
  obtain ⟨rfl, rfl⟩ := dn_25 rc
  have r : rn_s _ 55 (25, [x0, some (.ref 454), x2, x3], [.int ((fn_25 g).1)], aa_H ((fn_25 g).2)) v h := r
  exact rn_ire rfl r
noncomputable def fn_55_77 (g : aa_G) (b2 : Int32) (b3 : Int32) (s0 : Int32) : (aa_G × Int32) ⊕ (Int32 × aa_G) := if s0 ≠ 0 then .inl (zz_w g 458 (((g 456 0) * 4) + b3).toNatClampNeg (g 454 3), b3 + 1) else .inr (0, g)
theorem dn_55_77 {v : Option Value} {h : zz_H} {n : Nat} {g : aa_G} {b2 : Int32} {b3 : Int32} {s0 : Int32} (P : (aa_G × Int32) ⊕ (Int32 × aa_G) → Prop) (hO0 : ∀ n2, n2 < n → ∀ (yg : aa_G) (yb3 : Int32), rn_s n2 55 (45, [some (.ref 456), some (.ref 454), some (.int b2), some (.int yb3)], [], aa_H yg) v h → P (.inl (yg, yb3))) (hR : ∀ E, iw_s v h E → P (.inr E))  (r : rn_s n 55 (77, [some (.ref 456), some (.ref 454), some (.int b2), some (.int b3)], [.int s0], aa_H g) v h) : P (fn_55_77 g b2 b3 s0) := by
  unfold fn_55_77
  refine rn_if (P) rfl decide_eq_true_iff.symm r (fun c40 l41n l41 r => ?_) (fun c40 l41n l41 r => ?_)
  · obtain ⟨n42, ln42, r⟩ := rn_steps 9 (98, [some (.ref 456), some (.ref 454), some (.int b2), some (.int b3)], [.int (g 454 3), .int (((g 456 0) * 4) + b3), .ref 458], aa_H g) rfl r
    obtain ⟨hb44, n43, ln43, r⟩ := rn_ias (k := 458) rfl ⟨by decide, by decide⟩ rfl r
    have r : rn_s _ 55 (99, [some (.ref 456), some (.ref 454), some (.int b2), some (.int b3)], [], aa_H (zz_w g 458 (((g 456 0) * 4) + b3).toNatClampNeg (g 454 3))) v h := r
    obtain ⟨n45, ln45, r⟩ := rn_steps 1 (45, [some (.ref 456), some (.ref 454), some (.int b2), some (.int (b3 + 1))], [], aa_H (zz_w g 458 (((g 456 0) * 4) + b3).toNatClampNeg (g 454 3))) rfl r
    exact hO0 _ (by omega) (zz_w g 458 (((g 456 0) * 4) + b3).toNatClampNeg (g 454 3)) (b3 + 1) r
  · obtain ⟨n46, ln46, r⟩ := rn_steps 0 (81, [some (.ref 456), some (.ref 454), some (.int b2), some (.int b3)], [.int 0], aa_H g) rfl r
    exact hR _ (rn_ire rfl r)
noncomputable def fn_55_68 (g : aa_G) (b2 : Int32) (b3 : Int32) : (aa_G × Int32) ⊕ (Int32 × aa_G) := fn_55_77 ((fn_26 g 1 (-99999) 99999).2) b2 b3 ((fn_26 g 1 (-99999) 99999).1)
theorem dn_55_68 {v : Option Value} {h : zz_H} {n : Nat} {g : aa_G} {b2 : Int32} {b3 : Int32} (P : (aa_G × Int32) ⊕ (Int32 × aa_G) → Prop) (hO0 : ∀ n2, n2 < n → ∀ (yg : aa_G) (yb3 : Int32), rn_s n2 55 (45, [some (.ref 456), some (.ref 454), some (.int b2), some (.int yb3)], [], aa_H yg) v h → P (.inl (yg, yb3))) (hR : ∀ E, iw_s v h E → P (.inr E))  (r : rn_s n 55 (68, [some (.ref 456), some (.ref 454), some (.int b2), some (.int b3)], [], aa_H g) v h) : P (fn_55_68 g b2 b3) := by
  unfold fn_55_68
  obtain ⟨n34, ln34, r⟩ := rn_steps 3 (74, [some (.ref 456), some (.ref 454), some (.int b2), some (.int b3)], [.int 99999, .int (-99999), .int 1, .ref 454], aa_H g) rfl r
  obtain ⟨_, n35, v1, h1, -, ln35, rc, r⟩ := rn_call (m2 := 26) (as := [.ref 454, .int 1, .int (-99999), .int 99999]) (rest := []) rfl rfl r
  obtain ⟨rfl, rfl⟩ := dn_26 rc
  have r : rn_s _ 55 (77, [some (.ref 456), some (.ref 454), some (.int b2), some (.int b3)], [.int ((fn_26 g 1 (-99999) 99999).1)], aa_H ((fn_26 g 1 (-99999) 99999).2)) v h := r
  exact dn_55_77 (P) (fun n2 l2 => hO0 n2 (by omega)) (fun z hz => hR _ hz) r
noncomputable def fn_55_65 (g : aa_G) (b2 : Int32) (b3 : Int32) (s0 : Int32) : (aa_G × Int32) ⊕ (Int32 × aa_G) := if s0 = 0 then .inr (0, g) else fn_55_68 g b2 b3
theorem dn_55_65 {v : Option Value} {h : zz_H} {n : Nat} {g : aa_G} {b2 : Int32} {b3 : Int32} {s0 : Int32} (P : (aa_G × Int32) ⊕ (Int32 × aa_G) → Prop) (hO0 : ∀ n2, n2 < n → ∀ (yg : aa_G) (yb3 : Int32), rn_s n2 55 (45, [some (.ref 456), some (.ref 454), some (.int b2), some (.int yb3)], [], aa_H yg) v h → P (.inl (yg, yb3))) (hR : ∀ E, iw_s v h E → P (.inr E))  (r : rn_s n 55 (65, [some (.ref 456), some (.ref 454), some (.int b2), some (.int b3)], [.int s0], aa_H g) v h) : P (fn_55_65 g b2 b3 s0) := by
  unfold fn_55_65
  refine rn_if (P) rfl decide_eq_true_iff.symm r (fun c37 l38n l38 r => ?_) (fun c37 l38n l38 r => ?_)
  · obtain ⟨n39, ln39, r⟩ := rn_steps 0 (81, [some (.ref 456), some (.ref 454), some (.int b2), some (.int b3)], [.int 0], aa_H g) rfl r
    exact hR _ (rn_ire rfl r)
  · exact dn_55_68 (P) (fun n2 l2 => hO0 n2 (by omega)) (fun z hz => hR _ hz) r
noncomputable def fn_55_45b (g : aa_G) (b2 : Int32) (b3 : Int32) : (aa_G × Int32) ⊕ (Int32 × aa_G) := if b2 ≤ b3 then .inr (1, zz_w g 456 0 ((g 456 0) + 1)) else if 4 ≤ b3 then .inr (1, zz_w g 456 0 ((g 456 0) + 1)) else if b3 ≤ 0 then fn_55_68 g b2 b3 else fn_55_65 ((fn_33 g 44).2) b2 b3 ((fn_33 g 44).1)
noncomputable def fn_55_45 (g : aa_G) (b2 : Int32) (b3 : Int32) : Int32 × aa_G := lp_f (0, g) (fun z : (aa_G × Int32) => fn_55_45b z.1 b2 z.2) (g, b3)
theorem dn_55_45l {v : Option Value} {h : zz_H} {N : Nat} {b2 : Int32} {d : Int32 × aa_G} : ∀ (n : Nat), n ≤ N → ∀ (g : aa_G) (b3 : Int32), rn_s n 55 (45, [some (.ref 456), some (.ref 454), some (.int b2), some (.int b3)], [], aa_H g) v h → (iw_s v h) (lp_f d (fun z : (aa_G × Int32) => fn_55_45b z.1 b2 z.2) (g, b3)) := by
  generalize hf : (fun z : (aa_G × Int32) => fn_55_45b z.1 b2 z.2) = f
  intro n
  induction n using Nat.strongRecOn with
  | _ n ih =>
    intro hN g b3  r
    refine lp_go ?_
    rw [← congrFun hf (g, b3)]
    show lp_q (iw_s v h) d f (fn_55_45b g b2 b3)
    unfold fn_55_45b
    obtain ⟨n20, ln20, r⟩ := rn_steps 1 (47, [some (.ref 456), some (.ref 454), some (.int b2), some (.int b3)], [.int b2, .int b3], aa_H g) rfl r
    refine rn_ic (lp_q (iw_s v h) d f) rfl decide_eq_true_iff.symm r (fun c21 l22n l22 r => ?_) (fun c21 l22n l22 r => ?_)
    · obtain ⟨n23, ln23, r⟩ := rn_steps 6 (116, [some (.ref 456), some (.ref 454), some (.int b2), some (.int b3)], [.int 1], aa_H (zz_w g 456 0 ((g 456 0) + 1))) rfl r
      exact rn_ire rfl r
    · obtain ⟨n24, ln24, r⟩ := rn_steps 1 (52, [some (.ref 456), some (.ref 454), some (.int b2), some (.int b3)], [.int 4, .int b3], aa_H g) rfl r
      refine rn_ic (lp_q (iw_s v h) d f) rfl decide_eq_true_iff.symm r (fun c25 l26n l26 r => ?_) (fun c25 l26n l26 r => ?_)
      · obtain ⟨n27, ln27, r⟩ := rn_steps 6 (116, [some (.ref 456), some (.ref 454), some (.int b2), some (.int b3)], [.int 1], aa_H (zz_w g 456 0 ((g 456 0) + 1))) rfl r
        exact rn_ire rfl r
      · obtain ⟨n28, ln28, r⟩ := rn_steps 0 (56, [some (.ref 456), some (.ref 454), some (.int b2), some (.int b3)], [.int b3], aa_H g) rfl r
        refine rn_if (lp_q (iw_s v h) d f) rfl decide_eq_true_iff.symm r (fun c29 l30n l30 r => ?_) (fun c29 l30n l30 r => ?_)
        · exact dn_55_68 (lp_q (iw_s v h) d f) (fun n2 l2 => ih n2 (by omega) (by omega)) (fun z hz => hz) r
        · obtain ⟨n31, ln31, r⟩ := rn_steps 1 (62, [some (.ref 456), some (.ref 454), some (.int b2), some (.int b3)], [.int 44, .ref 454], aa_H g) rfl r
          obtain ⟨_, n32, v1, h1, -, ln32, rc, r⟩ := rn_call (m2 := 33) (as := [.ref 454, .int 44]) (rest := []) rfl rfl r
          obtain ⟨rfl, rfl⟩ := dn_33 rc
          have r : rn_s _ 55 (65, [some (.ref 456), some (.ref 454), some (.int b2), some (.int b3)], [.int ((fn_33 g 44).1)], aa_H ((fn_33 g 44).2)) v h := r
          exact dn_55_65 (lp_q (iw_s v h) d f) (fun n2 l2 => ih n2 (by omega) (by omega)) (fun z hz => hz) r
theorem dn_55_45 {v : Option Value} {h : zz_H} {n : Nat} {g : aa_G} {b2 : Int32} {b3 : Int32}  (r : rn_s n 55 (45, [some (.ref 456), some (.ref 454), some (.int b2), some (.int b3)], [], aa_H g) v h) : (iw_s v h) (fn_55_45 g b2 b3) := dn_55_45l  n (Nat.le_refl n) g b3 r
noncomputable def fn_55_43 (g : aa_G) (b2 : Int32) : Int32 × aa_G := fn_55_45 g b2 0
theorem dn_55_43 {v : Option Value} {h : zz_H} {n : Nat} {g : aa_G} {b2 : Int32}  (x3 : Option Value) (jx3 : rn_jk x3) (r : rn_s n 55 (43, [some (.ref 456), some (.ref 454), some (.int b2), x3], [], aa_H g) v h) : iw_s v h (fn_55_43 g b2) := by
  unfold fn_55_43
  obtain ⟨n19, ln19, r⟩ := rn_steps 1 (45, [some (.ref 456), some (.ref 454), some (.int b2), some (.int 0)], [], aa_H g) rfl r
  exact dn_55_45 r
noncomputable def fn_55 (g : aa_G)  : Int32 × aa_G := if 30 ≤ (g 456 0) then fn_55_21 g else if (fn_56 (g 454 2)) ≠ 0 then fn_55_43 (fn_21 (zz_w g 457 (g 456 0).toNatClampNeg (g 454 2))) (fn_56 (g 454 2)) else fn_55_21 g
theorem dn_55 {v : Option Value} {h : zz_H} {n : Nat} {g : aa_G}   (r : rn_s n 55 (0, zz_in [.ref 456, .ref 454] (zz_nl 55), [], aa_H g) v h) : iw_s v h (fn_55 g) := by
  have r : rn_s n 55 (0, [some (.ref 456), some (.ref 454), none, none], [], aa_H g) v h := r
  unfold fn_55
  obtain ⟨n1, ln1, r⟩ := rn_steps 1 (4, [some (.ref 456), some (.ref 454), none, none], [.int (g 454 2)], aa_H g) rfl r
  obtain ⟨_, n2, v1, h1, -, ln2, rc, r⟩ := rn_call (m2 := 56) (as := [.int (g 454 2)]) (rest := []) rfl rfl r
  obtain ⟨rfl, rfl⟩ := dn_56 rc
  have r : rn_s _ 55 (7, [some (.ref 456), some (.ref 454), none, none], [.int (fn_56 (g 454 2))], aa_H g) v h := r
  obtain ⟨n4, ln4, r⟩ := rn_steps 3 (14, [some (.ref 456), some (.ref 454), some (.int (fn_56 (g 454 2))), none], [.int 30, .int (g 456 0)], aa_H g) rfl r
  refine rn_ic (iw_s v h) rfl decide_eq_true_iff.symm r (fun c5 l6n l6 r => ?_) (fun c5 l6n l6 r => ?_)
  · exact dn_55_21 (some (.ref 456)) (some (.int (fn_56 (g 454 2)))) none rn_jr rn_ji rn_jn r
  · obtain ⟨n7, ln7, r⟩ := rn_steps 0 (18, [some (.ref 456), some (.ref 454), some (.int (fn_56 (g 454 2))), none], [.int (fn_56 (g 454 2))], aa_H g) rfl r
    refine rn_if (iw_s v h) rfl decide_eq_true_iff.symm r (fun c8 l9n l9 r => ?_) (fun c8 l9n l9 r => ?_)
    · obtain ⟨n10, ln10, r⟩ := rn_steps 5 (38, [some (.ref 456), some (.ref 454), some (.int (fn_56 (g 454 2))), none], [.int (g 454 2), .int (g 456 0), .ref 457], aa_H g) rfl r
      obtain ⟨hb12, n11, ln11, r⟩ := rn_ias (k := 457) rfl ⟨by decide, by decide⟩ rfl r
      have r : rn_s _ 55 (39, [some (.ref 456), some (.ref 454), some (.int (fn_56 (g 454 2))), none], [], aa_H (zz_w g 457 (g 456 0).toNatClampNeg (g 454 2))) v h := r
      obtain ⟨n13, ln13, r⟩ := rn_steps 0 (40, [some (.ref 456), some (.ref 454), some (.int (fn_56 (g 454 2))), none], [.ref 454], aa_H (zz_w g 457 (g 456 0).toNatClampNeg (g 454 2))) rfl r
      obtain ⟨_, n14, v1, h1, -, ln14, rc, r⟩ := rn_call (m2 := 21) (as := [.ref 454]) (rest := []) rfl rfl r
      obtain ⟨rfl, rfl⟩ := dn_21 rc
      have r : rn_s _ 55 (43, [some (.ref 456), some (.ref 454), some (.int (fn_56 (g 454 2))), none], [], aa_H (fn_21 (zz_w g 457 (g 456 0).toNatClampNeg (g 454 2)))) v h := r
      exact dn_55_43 none rn_jn r
    · exact dn_55_21 (some (.ref 456)) (some (.int (fn_56 (g 454 2)))) none rn_jr rn_ji rn_jn r
-- 22: UnequalHours Tape hasMore
noncomputable def fn_22 (g : aa_G)  : Int32 := if (g 454 0) ≤ (g 454 1) then 0 else 1
theorem dn_22 {v : Option Value} {h : zz_H} {n : Nat} {g : aa_G}   (r : rn_s n 22 (0, zz_in [.ref 454] (zz_nl 22), [], aa_H g) v h) : ir_s g v h (fn_22 g) := by
  have r : rn_s n 22 (0, [some (.ref 454)], [], aa_H g) v h := r
  unfold fn_22
  obtain ⟨n1, ln1, r⟩ := rn_steps 3 (8, [some (.ref 454)], [.int (g 454 0), .int (g 454 1)], aa_H g) rfl r
  refine rn_ic (ir_s g v h) rfl decide_eq_true_iff.symm r (fun c2 l3n l3 r => ?_) (fun c2 l3n l3 r => ?_)
  · obtain ⟨n4, ln4, r⟩ := rn_steps 0 (16, [some (.ref 454)], [.int 0], aa_H g) rfl r
    exact rn_ire rfl r
  · obtain ⟨n5, ln5, r⟩ := rn_steps 1 (16, [some (.ref 454)], [.int 1], aa_H g) rfl r
    exact rn_ire rfl r
-- 20: UnequalHours Tape rewind
noncomputable def fn_20 (g : aa_G)  : aa_G := fn_21 (zz_w (zz_w g 454 4 (-1)) 454 1 (-1))
theorem dn_20 {v : Option Value} {h : zz_H} {n : Nat} {g : aa_G}   (r : rn_s n 20 (0, zz_in [.ref 454] (zz_nl 20), [], aa_H g) v h) : ig_s v h (fn_20 g) := by
  have r : rn_s n 20 (0, [some (.ref 454)], [], aa_H g) v h := r
  unfold fn_20
  obtain ⟨n1, ln1, r⟩ := rn_steps 6 (11, [some (.ref 454)], [.ref 454], aa_H (zz_w (zz_w g 454 4 (-1)) 454 1 (-1))) rfl r
  obtain ⟨_, n2, v1, h1, -, ln2, rc, r⟩ := rn_call (m2 := 21) (as := [.ref 454]) (rest := []) rfl rfl r
  obtain ⟨rfl, rfl⟩ := dn_21 rc
  have r : rn_s _ 20 (14, [some (.ref 454)], [], aa_H (fn_21 (zz_w (zz_w g 454 4 (-1)) 454 1 (-1)))) v h := r
  exact rn_ret 1 rfl r
-- 54: UnequalHours Acts read
noncomputable def fn_54_39 (g : aa_G) (b2 : Int32) (s0 : Int32) : (aa_G × Int32) ⊕ (Int32 × aa_G) := if s0 ≠ 0 then .inl (g, b2 + 1) else .inr (-1, g)
theorem dn_54_39 {v : Option Value} {h : zz_H} {n : Nat} {g : aa_G} {b2 : Int32} {s0 : Int32} (P : (aa_G × Int32) ⊕ (Int32 × aa_G) → Prop) (hO0 : ∀ n2, n2 < n → ∀ (yg : aa_G) (yb2 : Int32), rn_s n2 54 (11, [some (.ref 456), some (.ref 454), some (.int yb2)], [], aa_H yg) v h → P (.inl (yg, yb2))) (hR : ∀ E, iw_s v h E → P (.inr E))  (r : rn_s n 54 (39, [some (.ref 456), some (.ref 454), some (.int b2)], [.int s0], aa_H g) v h) : P (fn_54_39 g b2 s0) := by
  unfold fn_54_39
  refine rn_if (P) rfl decide_eq_true_iff.symm r (fun c24 l25n l25 r => ?_) (fun c24 l25n l25 r => ?_)
  · obtain ⟨n26, ln26, r⟩ := rn_steps 1 (11, [some (.ref 456), some (.ref 454), some (.int (b2 + 1))], [], aa_H g) rfl r
    exact hO0 _ (by omega) g (b2 + 1) r
  · obtain ⟨n27, ln27, r⟩ := rn_steps 0 (43, [some (.ref 456), some (.ref 454), some (.int b2)], [.int (-1)], aa_H g) rfl r
    exact hR _ (rn_ire rfl r)
noncomputable def fn_54_30 (g : aa_G) (b2 : Int32) (s0 : Int32) : (aa_G × Int32) ⊕ (Int32 × aa_G) := if s0 = 0 then .inr (-1, g) else fn_54_39 ((fn_33 g 59).2) b2 ((fn_33 g 59).1)
theorem dn_54_30 {v : Option Value} {h : zz_H} {n : Nat} {g : aa_G} {b2 : Int32} {s0 : Int32} (P : (aa_G × Int32) ⊕ (Int32 × aa_G) → Prop) (hO0 : ∀ n2, n2 < n → ∀ (yg : aa_G) (yb2 : Int32), rn_s n2 54 (11, [some (.ref 456), some (.ref 454), some (.int yb2)], [], aa_H yg) v h → P (.inl (yg, yb2))) (hR : ∀ E, iw_s v h E → P (.inr E))  (r : rn_s n 54 (30, [some (.ref 456), some (.ref 454), some (.int b2)], [.int s0], aa_H g) v h) : P (fn_54_30 g b2 s0) := by
  unfold fn_54_30
  refine rn_if (P) rfl decide_eq_true_iff.symm r (fun c18 l19n l19 r => ?_) (fun c18 l19n l19 r => ?_)
  · obtain ⟨n20, ln20, r⟩ := rn_steps 0 (43, [some (.ref 456), some (.ref 454), some (.int b2)], [.int (-1)], aa_H g) rfl r
    exact hR _ (rn_ire rfl r)
  · obtain ⟨n21, ln21, r⟩ := rn_steps 1 (36, [some (.ref 456), some (.ref 454), some (.int b2)], [.int 59, .ref 454], aa_H g) rfl r
    obtain ⟨_, n22, v1, h1, -, ln22, rc, r⟩ := rn_call (m2 := 33) (as := [.ref 454, .int 59]) (rest := []) rfl rfl r
    obtain ⟨rfl, rfl⟩ := dn_33 rc
    have r : rn_s _ 54 (39, [some (.ref 456), some (.ref 454), some (.int b2)], [.int ((fn_33 g 59).1)], aa_H ((fn_33 g 59).2)) v h := r
    exact dn_54_39 (P) (fun n2 l2 => hO0 n2 (by omega)) (fun z hz => hR _ hz) r
noncomputable def fn_54_11b (g : aa_G) (b2 : Int32) : (aa_G × Int32) ⊕ (Int32 × aa_G) := if 500 ≤ b2 then .inr (g 456 0, g) else if (fn_22 g) = 0 then .inr (g 456 0, g) else fn_54_30 ((fn_55 g).2) b2 ((fn_55 g).1)
noncomputable def fn_54_11 (g : aa_G) (b2 : Int32) : Int32 × aa_G := lp_f (0, g) (fun z : (aa_G × Int32) => fn_54_11b z.1 z.2) (g, b2)
theorem dn_54_11l {v : Option Value} {h : zz_H} {N : Nat}  {d : Int32 × aa_G} : ∀ (n : Nat), n ≤ N → ∀ (g : aa_G) (b2 : Int32), rn_s n 54 (11, [some (.ref 456), some (.ref 454), some (.int b2)], [], aa_H g) v h → (iw_s v h) (lp_f d (fun z : (aa_G × Int32) => fn_54_11b z.1 z.2) (g, b2)) := by
  generalize hf : (fun z : (aa_G × Int32) => fn_54_11b z.1 z.2) = f
  intro n
  induction n using Nat.strongRecOn with
  | _ n ih =>
    intro hN g b2  r
    refine lp_go ?_
    rw [← congrFun hf (g, b2)]
    show lp_q (iw_s v h) d f (fn_54_11b g b2)
    unfold fn_54_11b
    obtain ⟨n5, ln5, r⟩ := rn_steps 1 (15, [some (.ref 456), some (.ref 454), some (.int b2)], [.int 500, .int b2], aa_H g) rfl r
    refine rn_ic (lp_q (iw_s v h) d f) rfl decide_eq_true_iff.symm r (fun c6 l7n l7 r => ?_) (fun c6 l7n l7 r => ?_)
    · obtain ⟨n8, ln8, r⟩ := rn_steps 1 (54, [some (.ref 456), some (.ref 454), some (.int b2)], [.int (g 456 0)], aa_H g) rfl r
      exact rn_ire rfl r
    · obtain ⟨n9, ln9, r⟩ := rn_steps 0 (19, [some (.ref 456), some (.ref 454), some (.int b2)], [.ref 454], aa_H g) rfl r
      obtain ⟨_, n10, v1, h1, -, ln10, rc, r⟩ := rn_call (m2 := 22) (as := [.ref 454]) (rest := []) rfl rfl r
      obtain ⟨rfl, rfl⟩ := dn_22 rc
      have r : rn_s _ 54 (22, [some (.ref 456), some (.ref 454), some (.int b2)], [.int (fn_22 g)], aa_H g) v h := r
      refine rn_if (lp_q (iw_s v h) d f) rfl decide_eq_true_iff.symm r (fun c12 l13n l13 r => ?_) (fun c12 l13n l13 r => ?_)
      · obtain ⟨n14, ln14, r⟩ := rn_steps 1 (54, [some (.ref 456), some (.ref 454), some (.int b2)], [.int (g 456 0)], aa_H g) rfl r
        exact rn_ire rfl r
      · obtain ⟨n15, ln15, r⟩ := rn_steps 1 (27, [some (.ref 456), some (.ref 454), some (.int b2)], [.ref 454, .ref 456], aa_H g) rfl r
        obtain ⟨_, n16, v1, h1, -, ln16, rc, r⟩ := rn_call (m2 := 55) (as := [.ref 456, .ref 454]) (rest := []) rfl rfl r
        obtain ⟨rfl, rfl⟩ := dn_55 rc
        have r : rn_s _ 54 (30, [some (.ref 456), some (.ref 454), some (.int b2)], [.int ((fn_55 g).1)], aa_H ((fn_55 g).2)) v h := r
        exact dn_54_30 (lp_q (iw_s v h) d f) (fun n2 l2 => ih n2 (by omega) (by omega)) (fun z hz => hz) r
theorem dn_54_11 {v : Option Value} {h : zz_H} {n : Nat} {g : aa_G} {b2 : Int32}  (r : rn_s n 54 (11, [some (.ref 456), some (.ref 454), some (.int b2)], [], aa_H g) v h) : (iw_s v h) (fn_54_11 g b2) := dn_54_11l  n (Nat.le_refl n) g b2 r
noncomputable def fn_54_4 (g : aa_G)  : Int32 × aa_G := fn_54_11 (zz_w g 456 0 0) 0
theorem dn_54_4 {v : Option Value} {h : zz_H} {n : Nat} {g : aa_G}   (x2 : Option Value) (jx2 : rn_jk x2) (r : rn_s n 54 (4, [some (.ref 456), some (.ref 454), x2], [], aa_H g) v h) : iw_s v h (fn_54_4 g) := by
  unfold fn_54_4
  obtain ⟨n4, ln4, r⟩ := rn_steps 4 (11, [some (.ref 456), some (.ref 454), some (.int 0)], [], aa_H (zz_w g 456 0 0)) rfl r
  exact dn_54_11 r
noncomputable def fn_54 (g : aa_G)  : Int32 × aa_G := fn_54_4 (fn_20 g)
theorem dn_54 {v : Option Value} {h : zz_H} {n : Nat} {g : aa_G}   (r : rn_s n 54 (0, zz_in [.ref 456, .ref 454] (zz_nl 54), [], aa_H g) v h) : iw_s v h (fn_54 g) := by
  have r : rn_s n 54 (0, [some (.ref 456), some (.ref 454), none], [], aa_H g) v h := r
  unfold fn_54
  obtain ⟨n1, ln1, r⟩ := rn_steps 0 (1, [some (.ref 456), some (.ref 454), none], [.ref 454], aa_H g) rfl r
  obtain ⟨_, n2, v1, h1, -, ln2, rc, r⟩ := rn_call (m2 := 20) (as := [.ref 454]) (rest := []) rfl rfl r
  obtain ⟨rfl, rfl⟩ := dn_20 rc
  have r : rn_s _ 54 (4, [some (.ref 456), some (.ref 454), none], [], aa_H (fn_20 g)) v h := r
  exact dn_54_4 none rn_jn r
-- 58: UnequalHours Acts number
noncomputable def fn_58 (g : aa_G) (a1 : Int32) (a2 : Int32) : Int32 := if (fn_14 a1 0 ((g 456 0) - 1)) = 0 then -1 else if (fn_14 a2 0 3) = 0 then -1 else g 458 ((a1 * 4) + a2).toNatClampNeg
theorem dn_58 {v : Option Value} {h : zz_H} {n : Nat} {g : aa_G} {a1 : Int32} {a2 : Int32}  (r : rn_s n 58 (0, zz_in [.ref 456, .int a1, .int a2] (zz_nl 58), [], aa_H g) v h) : ir_s g v h (fn_58 g a1 a2) := by
  have r : rn_s n 58 (0, [some (.ref 456), some (.int a1), some (.int a2)], [], aa_H g) v h := r
  unfold fn_58
  obtain ⟨n1, ln1, r⟩ := rn_steps 5 (8, [some (.ref 456), some (.int a1), some (.int a2)], [.int ((g 456 0) - 1), .int 0, .int a1], aa_H g) rfl r
  obtain ⟨_, n2, v1, h1, -, ln2, rc, r⟩ := rn_call (m2 := 14) (as := [.int a1, .int 0, .int ((g 456 0) - 1)]) (rest := []) rfl rfl r
  obtain ⟨rfl, rfl⟩ := dn_14 rc
  have r : rn_s _ 58 (11, [some (.ref 456), some (.int a1), some (.int a2)], [.int (fn_14 a1 0 ((g 456 0) - 1))], aa_H g) v h := r
  refine rn_if (ir_s g v h) rfl decide_eq_true_iff.symm r (fun c4 l5n l5 r => ?_) (fun c4 l5n l5 r => ?_)
  · obtain ⟨n6, ln6, r⟩ := rn_steps 0 (37, [some (.ref 456), some (.int a1), some (.int a2)], [.int (-1)], aa_H g) rfl r
    exact rn_ire rfl r
  · obtain ⟨n7, ln7, r⟩ := rn_steps 2 (17, [some (.ref 456), some (.int a1), some (.int a2)], [.int 3, .int 0, .int a2], aa_H g) rfl r
    obtain ⟨_, n8, v1, h1, -, ln8, rc, r⟩ := rn_call (m2 := 14) (as := [.int a2, .int 0, .int 3]) (rest := []) rfl rfl r
    obtain ⟨rfl, rfl⟩ := dn_14 rc
    have r : rn_s _ 58 (20, [some (.ref 456), some (.int a1), some (.int a2)], [.int (fn_14 a2 0 3)], aa_H g) v h := r
    refine rn_if (ir_s g v h) rfl decide_eq_true_iff.symm r (fun c10 l11n l11 r => ?_) (fun c10 l11n l11 r => ?_)
    · obtain ⟨n12, ln12, r⟩ := rn_steps 0 (37, [some (.ref 456), some (.int a1), some (.int a2)], [.int (-1)], aa_H g) rfl r
      exact rn_ire rfl r
    · obtain ⟨n13, ln13, r⟩ := rn_steps 6 (32, [some (.ref 456), some (.int a1), some (.int a2)], [.int ((a1 * 4) + a2), .ref 458], aa_H g) rfl r
      obtain ⟨hb15, n14, ln14, r⟩ := rn_ial (k := 458) rfl ⟨by decide, by decide⟩ rfl r
      have r : rn_s _ 58 (33, [some (.ref 456), some (.int a1), some (.int a2)], [.int (g 458 ((a1 * 4) + a2).toNatClampNeg)], aa_H g) v h := r
      obtain ⟨n16, ln16, r⟩ := rn_steps 0 (37, [some (.ref 456), some (.int a1), some (.int a2)], [.int (g 458 ((a1 * 4) + a2).toNatClampNeg)], aa_H g) rfl r
      exact rn_ire rfl r
-- 59: UnequalHours Acts letter
noncomputable def fn_59 (g : aa_G) (a1 : Int32) : Int32 := if (fn_14 a1 0 ((g 456 0) - 1)) = 0 then -1 else g 457 a1.toNatClampNeg
theorem dn_59 {v : Option Value} {h : zz_H} {n : Nat} {g : aa_G} {a1 : Int32}  (r : rn_s n 59 (0, zz_in [.ref 456, .int a1] (zz_nl 59), [], aa_H g) v h) : ir_s g v h (fn_59 g a1) := by
  have r : rn_s n 59 (0, [some (.ref 456), some (.int a1)], [], aa_H g) v h := r
  unfold fn_59
  obtain ⟨n1, ln1, r⟩ := rn_steps 5 (8, [some (.ref 456), some (.int a1)], [.int ((g 456 0) - 1), .int 0, .int a1], aa_H g) rfl r
  obtain ⟨_, n2, v1, h1, -, ln2, rc, r⟩ := rn_call (m2 := 14) (as := [.int a1, .int 0, .int ((g 456 0) - 1)]) (rest := []) rfl rfl r
  obtain ⟨rfl, rfl⟩ := dn_14 rc
  have r : rn_s _ 59 (11, [some (.ref 456), some (.int a1)], [.int (fn_14 a1 0 ((g 456 0) - 1))], aa_H g) v h := r
  refine rn_if (ir_s g v h) rfl decide_eq_true_iff.symm r (fun c4 l5n l5 r => ?_) (fun c4 l5n l5 r => ?_)
  · obtain ⟨n6, ln6, r⟩ := rn_steps 0 (24, [some (.ref 456), some (.int a1)], [.int (-1)], aa_H g) rfl r
    exact rn_ire rfl r
  · obtain ⟨n7, ln7, r⟩ := rn_steps 2 (19, [some (.ref 456), some (.int a1)], [.int a1, .ref 457], aa_H g) rfl r
    obtain ⟨hb9, n8, ln8, r⟩ := rn_ial (k := 457) rfl ⟨by decide, by decide⟩ rfl r
    have r : rn_s _ 59 (20, [some (.ref 456), some (.int a1)], [.int (g 457 a1.toNatClampNeg)], aa_H g) v h := r
    obtain ⟨n10, ln10, r⟩ := rn_steps 0 (24, [some (.ref 456), some (.int a1)], [.int (g 457 a1.toNatClampNeg)], aa_H g) rfl r
    exact rn_ire rfl r
-- 57: UnequalHours act
noncomputable def fn_57_70 (g : aa_G) (s0 : Int32) : Int32 × aa_G := if s0 = (-1000000) then (0, g) else (1, g)
theorem dn_57_70 {v : Option Value} {h : zz_H} {n : Nat} {g : aa_G} {s0 : Int32}  (x0 x1 x2 x3 : Option Value) (jx0 : rn_jk x0) (jx1 : rn_jk x1) (jx2 : rn_jk x2) (jx3 : rn_jk x3) (r : rn_s n 57 (70, [x0, x1, x2, x3], [.int s0], aa_H g) v h) : iw_s v h (fn_57_70 g s0) := by
  unfold fn_57_70
  obtain ⟨n35, ln35, r⟩ := rn_steps 0 (72, [x0, x1, x2, x3], [.int (-1000000), .int s0], aa_H g) rfl r
  refine rn_ic (iw_s v h) rfl decide_eq_true_iff.symm r (fun c36 l37n l37 r => ?_) (fun c36 l37n l37 r => ?_)
  · obtain ⟨n38, ln38, r⟩ := rn_steps 0 (80, [x0, x1, x2, x3], [.int 0], aa_H g) rfl r
    exact rn_ire rfl r
  · obtain ⟨n39, ln39, r⟩ := rn_steps 1 (80, [x0, x1, x2, x3], [.int 1], aa_H g) rfl r
    exact rn_ire rfl r
noncomputable def fn_57_86 (g : aa_G) (s0 : Int32) : Int32 × aa_G := if s0 = (-1) then (0, g) else (1, g)
theorem dn_57_86 {v : Option Value} {h : zz_H} {n : Nat} {g : aa_G} {s0 : Int32}  (x0 x1 x2 x3 : Option Value) (jx0 : rn_jk x0) (jx1 : rn_jk x1) (jx2 : rn_jk x2) (jx3 : rn_jk x3) (r : rn_s n 57 (86, [x0, x1, x2, x3], [.int s0], aa_H g) v h) : iw_s v h (fn_57_86 g s0) := by
  unfold fn_57_86
  obtain ⟨n40, ln40, r⟩ := rn_steps 0 (87, [x0, x1, x2, x3], [.int (-1), .int s0], aa_H g) rfl r
  refine rn_ic (iw_s v h) rfl decide_eq_true_iff.symm r (fun c41 l42n l42 r => ?_) (fun c41 l42n l42 r => ?_)
  · obtain ⟨n43, ln43, r⟩ := rn_steps 0 (95, [x0, x1, x2, x3], [.int 0], aa_H g) rfl r
    exact rn_ire rfl r
  · obtain ⟨n44, ln44, r⟩ := rn_steps 1 (95, [x0, x1, x2, x3], [.int 1], aa_H g) rfl r
    exact rn_ire rfl r
noncomputable def fn_57_102 (g : aa_G) (s0 : Int32) : Int32 × aa_G := if s0 = (-1) then (0, g) else (1, g)
theorem dn_57_102 {v : Option Value} {h : zz_H} {n : Nat} {g : aa_G} {s0 : Int32}  (x0 x1 x2 x3 : Option Value) (jx0 : rn_jk x0) (jx1 : rn_jk x1) (jx2 : rn_jk x2) (jx3 : rn_jk x3) (r : rn_s n 57 (102, [x0, x1, x2, x3], [.int s0], aa_H g) v h) : iw_s v h (fn_57_102 g s0) := by
  unfold fn_57_102
  obtain ⟨n45, ln45, r⟩ := rn_steps 0 (103, [x0, x1, x2, x3], [.int (-1), .int s0], aa_H g) rfl r
  refine rn_ic (iw_s v h) rfl decide_eq_true_iff.symm r (fun c46 l47n l47 r => ?_) (fun c46 l47n l47 r => ?_)
  · obtain ⟨n48, ln48, r⟩ := rn_steps 0 (111, [x0, x1, x2, x3], [.int 0], aa_H g) rfl r
    exact rn_ire rfl r
  · obtain ⟨n49, ln49, r⟩ := rn_steps 1 (111, [x0, x1, x2, x3], [.int 1], aa_H g) rfl r
    exact rn_ire rfl r
noncomputable def fn_57_136 (g : aa_G) (s0 : Int32) : Int32 × aa_G := if s0 = (-1) then (0, g) else (1, g)
theorem dn_57_136 {v : Option Value} {h : zz_H} {n : Nat} {g : aa_G} {s0 : Int32}  (x0 x1 x2 x3 : Option Value) (jx0 : rn_jk x0) (jx1 : rn_jk x1) (jx2 : rn_jk x2) (jx3 : rn_jk x3) (r : rn_s n 57 (136, [x0, x1, x2, x3], [.int s0], aa_H g) v h) : iw_s v h (fn_57_136 g s0) := by
  unfold fn_57_136
  obtain ⟨n50, ln50, r⟩ := rn_steps 0 (137, [x0, x1, x2, x3], [.int (-1), .int s0], aa_H g) rfl r
  refine rn_ic (iw_s v h) rfl decide_eq_true_iff.symm r (fun c51 l52n l52 r => ?_) (fun c51 l52n l52 r => ?_)
  · obtain ⟨n53, ln53, r⟩ := rn_steps 0 (145, [x0, x1, x2, x3], [.int 0], aa_H g) rfl r
    exact rn_ire rfl r
  · obtain ⟨n54, ln54, r⟩ := rn_steps 1 (145, [x0, x1, x2, x3], [.int 1], aa_H g) rfl r
    exact rn_ire rfl r
noncomputable def fn_57 (g : aa_G) (a1 : Int32) : Int32 × aa_G := if (fn_59 g a1).toInt = 111 then fn_57_70 ((fn_60 g (fn_58 g a1 0) (fn_58 g a1 1)).2) ((fn_60 g (fn_58 g a1 0) (fn_58 g a1 1)).1) else if (fn_59 g a1).toInt = 112 then (0, g) else if (fn_59 g a1).toInt = 113 then fn_57_86 ((fn_61 g (fn_58 g a1 0)).2) ((fn_61 g (fn_58 g a1 0)).1) else if (fn_59 g a1).toInt = 114 then fn_57_102 ((fn_62 g (fn_58 g a1 0) (fn_58 g a1 1)).2) ((fn_62 g (fn_58 g a1 0) (fn_58 g a1 1)).1) else if (fn_59 g a1).toInt = 115 then fn_57_136 ((fn_65 g (fn_58 g a1 0) (fn_58 g a1 1) (fn_58 g a1 2) (fn_58 g a1 3)).2) ((fn_65 g (fn_58 g a1 0) (fn_58 g a1 1) (fn_58 g a1 2) (fn_58 g a1 3)).1) else (0, g)
theorem dn_57 {v : Option Value} {h : zz_H} {n : Nat} {g : aa_G} {a1 : Int32} (hi : rem_ok g) (r : rn_s n 57 (0, zz_in [.ref 1, .int a1] (zz_nl 57), [], aa_H g) v h) : iw_s v h (fn_57 g a1) := by
  have r : rn_s n 57 (0, [some (.ref 1), some (.int a1), none, none], [], aa_H g) v h := r
  unfold fn_57
  obtain ⟨n1, ln1, r⟩ := rn_steps 3 (6, [some (.ref 1), some (.int a1), none, none], [.int 0, .int a1, .ref 456], aa_H g) rfl r
  obtain ⟨_, n2, v1, h1, -, ln2, rc, r⟩ := rn_call (m2 := 58) (as := [.ref 456, .int a1, .int 0]) (rest := []) rfl rfl r
  obtain ⟨rfl, rfl⟩ := dn_58 rc
  have r : rn_s _ 57 (9, [some (.ref 1), some (.int a1), none, none], [.int (fn_58 g a1 0)], aa_H g) v h := r
  obtain ⟨n4, ln4, r⟩ := rn_steps 4 (16, [some (.ref 1), some (.int a1), some (.int (fn_58 g a1 0)), none], [.int 1, .int a1, .ref 456], aa_H g) rfl r
  obtain ⟨_, n5, v1, h1, -, ln5, rc, r⟩ := rn_call (m2 := 58) (as := [.ref 456, .int a1, .int 1]) (rest := []) rfl rfl r
  obtain ⟨rfl, rfl⟩ := dn_58 rc
  have r : rn_s _ 57 (19, [some (.ref 1), some (.int a1), some (.int (fn_58 g a1 0)), none], [.int (fn_58 g a1 1)], aa_H g) v h := r
  obtain ⟨n7, ln7, r⟩ := rn_steps 3 (25, [some (.ref 1), some (.int a1), some (.int (fn_58 g a1 0)), some (.int (fn_58 g a1 1))], [.int a1, .ref 456], aa_H g) rfl r
  obtain ⟨_, n8, v1, h1, -, ln8, rc, r⟩ := rn_call (m2 := 59) (as := [.ref 456, .int a1]) (rest := []) rfl rfl r
  obtain ⟨rfl, rfl⟩ := dn_59 rc
  have r : rn_s _ 57 (28, [some (.ref 1), some (.int a1), some (.int (fn_58 g a1 0)), some (.int (fn_58 g a1 1))], [.int (fn_59 g a1)], aa_H g) v h := r
  obtain ⟨n10, ln10, r⟩ := rn_swi rfl r
  refine rn_sw1 (iw_s v h) r (fun c11 r => ?_) (fun c11 r => ?_)
  · have r : rn_s _ 57 (64, [some (.ref 1), some (.int a1), some (.int (fn_58 g a1 0)), some (.int (fn_58 g a1 1))], [], aa_H g) v h := r
    obtain ⟨n12, ln12, r⟩ := rn_steps 2 (67, [some (.ref 1), some (.int a1), some (.int (fn_58 g a1 0)), some (.int (fn_58 g a1 1))], [.int (fn_58 g a1 1), .int (fn_58 g a1 0), .ref 1], aa_H g) rfl r
    obtain ⟨_, n13, v1, h1, -, ln13, rc, r⟩ := rn_call (m2 := 60) (as := [.ref 1, .int (fn_58 g a1 0), .int (fn_58 g a1 1)]) (rest := []) rfl rfl r
    obtain ⟨rfl, rfl⟩ := dn_60 hi rc
    have r : rn_s _ 57 (70, [some (.ref 1), some (.int a1), some (.int (fn_58 g a1 0)), some (.int (fn_58 g a1 1))], [.int ((fn_60 g (fn_58 g a1 0) (fn_58 g a1 1)).1)], aa_H ((fn_60 g (fn_58 g a1 0) (fn_58 g a1 1)).2)) v h := r
    exact dn_57_70 (some (.ref 1)) (some (.int a1)) (some (.int (fn_58 g a1 0))) (some (.int (fn_58 g a1 1))) rn_jr rn_ji rn_ji rn_ji r
  · refine rn_sw1 (iw_s v h) r (fun c15 r => ?_) (fun c15 r => ?_)
    · have r : rn_s _ 57 (146, [some (.ref 1), some (.int a1), some (.int (fn_58 g a1 0)), some (.int (fn_58 g a1 1))], [], aa_H g) v h := r
      obtain ⟨n16, ln16, r⟩ := rn_steps 0 (147, [some (.ref 1), some (.int a1), some (.int (fn_58 g a1 0)), some (.int (fn_58 g a1 1))], [.int 0], aa_H g) rfl r
      exact rn_ire rfl r
    · refine rn_sw1 (iw_s v h) r (fun c17 r => ?_) (fun c17 r => ?_)
      · have r : rn_s _ 57 (81, [some (.ref 1), some (.int a1), some (.int (fn_58 g a1 0)), some (.int (fn_58 g a1 1))], [], aa_H g) v h := r
        obtain ⟨n18, ln18, r⟩ := rn_steps 1 (83, [some (.ref 1), some (.int a1), some (.int (fn_58 g a1 0)), some (.int (fn_58 g a1 1))], [.int (fn_58 g a1 0), .ref 1], aa_H g) rfl r
        obtain ⟨_, n19, v1, h1, -, ln19, rc, r⟩ := rn_call (m2 := 61) (as := [.ref 1, .int (fn_58 g a1 0)]) (rest := []) rfl rfl r
        obtain ⟨rfl, rfl⟩ := dn_61 hi rc
        have r : rn_s _ 57 (86, [some (.ref 1), some (.int a1), some (.int (fn_58 g a1 0)), some (.int (fn_58 g a1 1))], [.int ((fn_61 g (fn_58 g a1 0)).1)], aa_H ((fn_61 g (fn_58 g a1 0)).2)) v h := r
        exact dn_57_86 (some (.ref 1)) (some (.int a1)) (some (.int (fn_58 g a1 0))) (some (.int (fn_58 g a1 1))) rn_jr rn_ji rn_ji rn_ji r
      · refine rn_sw1 (iw_s v h) r (fun c21 r => ?_) (fun c21 r => ?_)
        · have r : rn_s _ 57 (96, [some (.ref 1), some (.int a1), some (.int (fn_58 g a1 0)), some (.int (fn_58 g a1 1))], [], aa_H g) v h := r
          obtain ⟨n22, ln22, r⟩ := rn_steps 2 (99, [some (.ref 1), some (.int a1), some (.int (fn_58 g a1 0)), some (.int (fn_58 g a1 1))], [.int (fn_58 g a1 1), .int (fn_58 g a1 0), .ref 1], aa_H g) rfl r
          obtain ⟨_, n23, v1, h1, -, ln23, rc, r⟩ := rn_call (m2 := 62) (as := [.ref 1, .int (fn_58 g a1 0), .int (fn_58 g a1 1)]) (rest := []) rfl rfl r
          obtain ⟨rfl, rfl⟩ := dn_62 hi rc
          have r : rn_s _ 57 (102, [some (.ref 1), some (.int a1), some (.int (fn_58 g a1 0)), some (.int (fn_58 g a1 1))], [.int ((fn_62 g (fn_58 g a1 0) (fn_58 g a1 1)).1)], aa_H ((fn_62 g (fn_58 g a1 0) (fn_58 g a1 1)).2)) v h := r
          exact dn_57_102 (some (.ref 1)) (some (.int a1)) (some (.int (fn_58 g a1 0))) (some (.int (fn_58 g a1 1))) rn_jr rn_ji rn_ji rn_ji r
        · refine rn_sw1 (iw_s v h) r (fun c25 r => ?_) (fun c25 r => ?_)
          · have r : rn_s _ 57 (112, [some (.ref 1), some (.int a1), some (.int (fn_58 g a1 0)), some (.int (fn_58 g a1 1))], [], aa_H g) v h := r
            obtain ⟨n26, ln26, r⟩ := rn_steps 6 (121, [some (.ref 1), some (.int a1), some (.int (fn_58 g a1 0)), some (.int (fn_58 g a1 1))], [.int 2, .int a1, .ref 456, .int (fn_58 g a1 1), .int (fn_58 g a1 0), .ref 1], aa_H g) rfl r
            obtain ⟨_, n27, v1, h1, -, ln27, rc, r⟩ := rn_call (m2 := 58) (as := [.ref 456, .int a1, .int 2]) (rest := [.int (fn_58 g a1 1), .int (fn_58 g a1 0), .ref 1]) rfl rfl r
            obtain ⟨rfl, rfl⟩ := dn_58 rc
            have r : rn_s _ 57 (124, [some (.ref 1), some (.int a1), some (.int (fn_58 g a1 0)), some (.int (fn_58 g a1 1))], [.int (fn_58 g a1 2), .int (fn_58 g a1 1), .int (fn_58 g a1 0), .ref 1], aa_H g) v h := r
            obtain ⟨n29, ln29, r⟩ := rn_steps 3 (130, [some (.ref 1), some (.int a1), some (.int (fn_58 g a1 0)), some (.int (fn_58 g a1 1))], [.int 3, .int a1, .ref 456, .int (fn_58 g a1 2), .int (fn_58 g a1 1), .int (fn_58 g a1 0), .ref 1], aa_H g) rfl r
            obtain ⟨_, n30, v1, h1, -, ln30, rc, r⟩ := rn_call (m2 := 58) (as := [.ref 456, .int a1, .int 3]) (rest := [.int (fn_58 g a1 2), .int (fn_58 g a1 1), .int (fn_58 g a1 0), .ref 1]) rfl rfl r
            obtain ⟨rfl, rfl⟩ := dn_58 rc
            have r : rn_s _ 57 (133, [some (.ref 1), some (.int a1), some (.int (fn_58 g a1 0)), some (.int (fn_58 g a1 1))], [.int (fn_58 g a1 3), .int (fn_58 g a1 2), .int (fn_58 g a1 1), .int (fn_58 g a1 0), .ref 1], aa_H g) v h := r
            obtain ⟨_, n32, v1, h1, -, ln32, rc, r⟩ := rn_call (m2 := 65) (as := [.ref 1, .int (fn_58 g a1 0), .int (fn_58 g a1 1), .int (fn_58 g a1 2), .int (fn_58 g a1 3)]) (rest := []) rfl rfl r
            obtain ⟨rfl, rfl⟩ := dn_65 hi rc
            have r : rn_s _ 57 (136, [some (.ref 1), some (.int a1), some (.int (fn_58 g a1 0)), some (.int (fn_58 g a1 1))], [.int ((fn_65 g (fn_58 g a1 0) (fn_58 g a1 1) (fn_58 g a1 2) (fn_58 g a1 3)).1)], aa_H ((fn_65 g (fn_58 g a1 0) (fn_58 g a1 1) (fn_58 g a1 2) (fn_58 g a1 3)).2)) v h := r
            exact dn_57_136 (some (.ref 1)) (some (.int a1)) (some (.int (fn_58 g a1 0))) (some (.int (fn_58 g a1 1))) rn_jr rn_ji rn_ji rn_ji r
          · have r : rn_s _ 57 (146, [some (.ref 1), some (.int a1), some (.int (fn_58 g a1 0)), some (.int (fn_58 g a1 1))], [], aa_H g) v h := r
            obtain ⟨n34, ln34, r⟩ := rn_steps 0 (147, [some (.ref 1), some (.int a1), some (.int (fn_58 g a1 0)), some (.int (fn_58 g a1 1))], [.int 0], aa_H g) rfl r
            exact rn_ire rfl r
-- 38: UnequalHours endOfReading
noncomputable def fn_38 (g : aa_G)  : aa_G := zz_w (zz_w g 1 13 (g 454 4)) 454 0 0
theorem dn_38 {v : Option Value} {h : zz_H} {n : Nat} {g : aa_G}   (r : rn_s n 38 (0, zz_in [.ref 1] (zz_nl 38), [], aa_H g) v h) : ig_s v h (fn_38 g) := by
  have r : rn_s n 38 (0, [some (.ref 1)], [], aa_H g) v h := r
  unfold fn_38
  obtain ⟨n1, ln1, r⟩ := rn_steps 8 (19, [some (.ref 1)], [], aa_H (zz_w (zz_w g 1 13 (g 454 4)) 454 0 0)) rfl r
  exact rn_ret 1 rfl r
-- 263: UnequalHoursModel doAct
noncomputable def fn_263_56 (g : aa_G) (s0 : Int32) : Int32 × aa_G := if s0 = (-1000000) then (0, g) else (1, g)
theorem dn_263_56 {v : Option Value} {h : zz_H} {n : Nat} {g : aa_G} {s0 : Int32}  (x0 x1 : Option Value) (jx0 : rn_jk x0) (jx1 : rn_jk x1) (r : rn_s n 263 (56, [x0, x1], [.int s0], aa_H g) v h) : iw_s v h (fn_263_56 g s0) := by
  unfold fn_263_56
  obtain ⟨n58, ln58, r⟩ := rn_steps 0 (59, [x0, x1], [.int (-1000000), .int s0], aa_H g) rfl r
  refine rn_ic (iw_s v h) rfl decide_eq_true_iff.symm r (fun c59 l60n l60 r => ?_) (fun c59 l60n l60 r => ?_)
  · obtain ⟨n61, ln61, r⟩ := rn_steps 0 (67, [x0, x1], [.int 0], aa_H g) rfl r
    exact rn_ire rfl r
  · obtain ⟨n62, ln62, r⟩ := rn_steps 1 (67, [x0, x1], [.int 1], aa_H g) rfl r
    exact rn_ire rfl r
noncomputable def fn_263_80 (g : aa_G) (s0 : Int32) : Int32 × aa_G := if s0 = (-1) then (0, g) else (1, g)
theorem dn_263_80 {v : Option Value} {h : zz_H} {n : Nat} {g : aa_G} {s0 : Int32}  (x0 x1 : Option Value) (jx0 : rn_jk x0) (jx1 : rn_jk x1) (r : rn_s n 263 (80, [x0, x1], [.int s0], aa_H g) v h) : iw_s v h (fn_263_80 g s0) := by
  unfold fn_263_80
  obtain ⟨n68, ln68, r⟩ := rn_steps 0 (81, [x0, x1], [.int (-1), .int s0], aa_H g) rfl r
  refine rn_ic (iw_s v h) rfl decide_eq_true_iff.symm r (fun c69 l70n l70 r => ?_) (fun c69 l70n l70 r => ?_)
  · obtain ⟨n71, ln71, r⟩ := rn_steps 0 (89, [x0, x1], [.int 0], aa_H g) rfl r
    exact rn_ire rfl r
  · obtain ⟨n72, ln72, r⟩ := rn_steps 1 (89, [x0, x1], [.int 1], aa_H g) rfl r
    exact rn_ire rfl r
noncomputable def fn_263_110 (g : aa_G) (s0 : Int32) : Int32 × aa_G := if s0 = (-1) then (0, g) else (1, g)
theorem dn_263_110 {v : Option Value} {h : zz_H} {n : Nat} {g : aa_G} {s0 : Int32}  (x0 x1 : Option Value) (jx0 : rn_jk x0) (jx1 : rn_jk x1) (r : rn_s n 263 (110, [x0, x1], [.int s0], aa_H g) v h) : iw_s v h (fn_263_110 g s0) := by
  unfold fn_263_110
  obtain ⟨n73, ln73, r⟩ := rn_steps 0 (111, [x0, x1], [.int (-1), .int s0], aa_H g) rfl r
  refine rn_ic (iw_s v h) rfl decide_eq_true_iff.symm r (fun c74 l75n l75 r => ?_) (fun c74 l75n l75 r => ?_)
  · obtain ⟨n76, ln76, r⟩ := rn_steps 0 (119, [x0, x1], [.int 0], aa_H g) rfl r
    exact rn_ire rfl r
  · obtain ⟨n77, ln77, r⟩ := rn_steps 1 (119, [x0, x1], [.int 1], aa_H g) rfl r
    exact rn_ire rfl r
noncomputable def fn_263_156 (g : aa_G) (s0 : Int32) : Int32 × aa_G := if s0 = (-1) then (0, g) else (1, g)
theorem dn_263_156 {v : Option Value} {h : zz_H} {n : Nat} {g : aa_G} {s0 : Int32}  (x0 x1 : Option Value) (jx0 : rn_jk x0) (jx1 : rn_jk x1) (r : rn_s n 263 (156, [x0, x1], [.int s0], aa_H g) v h) : iw_s v h (fn_263_156 g s0) := by
  unfold fn_263_156
  obtain ⟨n63, ln63, r⟩ := rn_steps 0 (157, [x0, x1], [.int (-1), .int s0], aa_H g) rfl r
  refine rn_ic (iw_s v h) rfl decide_eq_true_iff.symm r (fun c64 l65n l65 r => ?_) (fun c64 l65n l65 r => ?_)
  · obtain ⟨n66, ln66, r⟩ := rn_steps 0 (165, [x0, x1], [.int 0], aa_H g) rfl r
    exact rn_ire rfl r
  · obtain ⟨n67, ln67, r⟩ := rn_steps 1 (165, [x0, x1], [.int 1], aa_H g) rfl r
    exact rn_ire rfl r
noncomputable def fn_263 (g : aa_G) (a1 : Int32) : Int32 × aa_G := if (g 552 a1.toNatClampNeg).toInt = 111 then fn_263_56 ((fn_254 g (g 552 (a1 + 1).toNatClampNeg) (g 552 (a1 + 2).toNatClampNeg)).2) ((fn_254 g (g 552 (a1 + 1).toNatClampNeg) (g 552 (a1 + 2).toNatClampNeg)).1) else if (g 552 a1.toNatClampNeg).toInt = 112 then fn_263_156 ((fn_257 g (g 552 (a1 + 1).toNatClampNeg) (g 552 (a1 + 2).toNatClampNeg) (g 552 (a1 + 3).toNatClampNeg) (g 552 (a1 + 4).toNatClampNeg)).2) ((fn_257 g (g 552 (a1 + 1).toNatClampNeg) (g 552 (a1 + 2).toNatClampNeg) (g 552 (a1 + 3).toNatClampNeg) (g 552 (a1 + 4).toNatClampNeg)).1) else if (g 552 a1.toNatClampNeg).toInt = 113 then fn_263_80 ((fn_256 g (g 552 (a1 + 1).toNatClampNeg)).2) ((fn_256 g (g 552 (a1 + 1).toNatClampNeg)).1) else if (g 552 a1.toNatClampNeg).toInt = 114 then fn_263_110 ((fn_259 g (g 552 (a1 + 1).toNatClampNeg) (g 552 (a1 + 2).toNatClampNeg)).2) ((fn_259 g (g 552 (a1 + 1).toNatClampNeg) (g 552 (a1 + 2).toNatClampNeg)).1) else fn_263_156 ((fn_257 g (g 552 (a1 + 1).toNatClampNeg) (g 552 (a1 + 2).toNatClampNeg) (g 552 (a1 + 3).toNatClampNeg) (g 552 (a1 + 4).toNatClampNeg)).2) ((fn_257 g (g 552 (a1 + 1).toNatClampNeg) (g 552 (a1 + 2).toNatClampNeg) (g 552 (a1 + 3).toNatClampNeg) (g 552 (a1 + 4).toNatClampNeg)).1)
theorem dn_263 {v : Option Value} {h : zz_H} {n : Nat} {g : aa_G} {a1 : Int32}  (r : rn_s n 263 (0, zz_in [.ref 540, .int a1] (zz_nl 263), [], aa_H g) v h) : iw_s v h (fn_263 g a1) := by
  have r : rn_s n 263 (0, [some (.ref 540), some (.int a1)], [], aa_H g) v h := r
  unfold fn_263
  obtain ⟨n1, ln1, r⟩ := rn_steps 2 (5, [some (.ref 540), some (.int a1)], [.int a1, .ref 552], aa_H g) rfl r
  obtain ⟨hb3, n2, ln2, r⟩ := rn_ial (k := 552) rfl ⟨by decide, by decide⟩ rfl r
  have r : rn_s _ 263 (6, [some (.ref 540), some (.int a1)], [.int (g 552 a1.toNatClampNeg)], aa_H g) v h := r
  obtain ⟨n4, ln4, r⟩ := rn_swi rfl r
  refine rn_sw1 (iw_s v h) r (fun c5 r => ?_) (fun c5 r => ?_)
  · have r : rn_s _ 263 (36, [some (.ref 540), some (.int a1)], [], aa_H g) v h := r
    obtain ⟨n6, ln6, r⟩ := rn_steps 5 (44, [some (.ref 540), some (.int a1)], [.int (a1 + 1), .ref 552, .ref 540], aa_H g) rfl r
    obtain ⟨hb8, n7, ln7, r⟩ := rn_ial (k := 552) rfl ⟨by decide, by decide⟩ rfl r
    have r : rn_s _ 263 (45, [some (.ref 540), some (.int a1)], [.int (g 552 (a1 + 1).toNatClampNeg), .ref 540], aa_H g) v h := r
    obtain ⟨n9, ln9, r⟩ := rn_steps 4 (52, [some (.ref 540), some (.int a1)], [.int (a1 + 2), .ref 552, .int (g 552 (a1 + 1).toNatClampNeg), .ref 540], aa_H g) rfl r
    obtain ⟨hb11, n10, ln10, r⟩ := rn_ial (k := 552) rfl ⟨by decide, by decide⟩ rfl r
    have r : rn_s _ 263 (53, [some (.ref 540), some (.int a1)], [.int (g 552 (a1 + 2).toNatClampNeg), .int (g 552 (a1 + 1).toNatClampNeg), .ref 540], aa_H g) v h := r
    obtain ⟨_, n12, v1, h1, -, ln12, rc, r⟩ := rn_call (m2 := 254) (as := [.ref 540, .int (g 552 (a1 + 1).toNatClampNeg), .int (g 552 (a1 + 2).toNatClampNeg)]) (rest := []) rfl rfl r
    obtain ⟨rfl, rfl⟩ := dn_254 rc
    have r : rn_s _ 263 (56, [some (.ref 540), some (.int a1)], [.int ((fn_254 g (g 552 (a1 + 1).toNatClampNeg) (g 552 (a1 + 2).toNatClampNeg)).1)], aa_H ((fn_254 g (g 552 (a1 + 1).toNatClampNeg) (g 552 (a1 + 2).toNatClampNeg)).2)) v h := r
    exact dn_263_56 (some (.ref 540)) (some (.int a1)) rn_jr rn_ji r
  · refine rn_sw1 (iw_s v h) r (fun c14 r => ?_) (fun c14 r => ?_)
    · have r : rn_s _ 263 (120, [some (.ref 540), some (.int a1)], [], aa_H g) v h := r
      obtain ⟨n15, ln15, r⟩ := rn_steps 5 (128, [some (.ref 540), some (.int a1)], [.int (a1 + 1), .ref 552, .ref 540], aa_H g) rfl r
      obtain ⟨hb17, n16, ln16, r⟩ := rn_ial (k := 552) rfl ⟨by decide, by decide⟩ rfl r
      have r : rn_s _ 263 (129, [some (.ref 540), some (.int a1)], [.int (g 552 (a1 + 1).toNatClampNeg), .ref 540], aa_H g) v h := r
      obtain ⟨n18, ln18, r⟩ := rn_steps 4 (136, [some (.ref 540), some (.int a1)], [.int (a1 + 2), .ref 552, .int (g 552 (a1 + 1).toNatClampNeg), .ref 540], aa_H g) rfl r
      obtain ⟨hb20, n19, ln19, r⟩ := rn_ial (k := 552) rfl ⟨by decide, by decide⟩ rfl r
      have r : rn_s _ 263 (137, [some (.ref 540), some (.int a1)], [.int (g 552 (a1 + 2).toNatClampNeg), .int (g 552 (a1 + 1).toNatClampNeg), .ref 540], aa_H g) v h := r
      obtain ⟨n21, ln21, r⟩ := rn_steps 4 (144, [some (.ref 540), some (.int a1)], [.int (a1 + 3), .ref 552, .int (g 552 (a1 + 2).toNatClampNeg), .int (g 552 (a1 + 1).toNatClampNeg), .ref 540], aa_H g) rfl r
      obtain ⟨hb23, n22, ln22, r⟩ := rn_ial (k := 552) rfl ⟨by decide, by decide⟩ rfl r
      have r : rn_s _ 263 (145, [some (.ref 540), some (.int a1)], [.int (g 552 (a1 + 3).toNatClampNeg), .int (g 552 (a1 + 2).toNatClampNeg), .int (g 552 (a1 + 1).toNatClampNeg), .ref 540], aa_H g) v h := r
      obtain ⟨n24, ln24, r⟩ := rn_steps 4 (152, [some (.ref 540), some (.int a1)], [.int (a1 + 4), .ref 552, .int (g 552 (a1 + 3).toNatClampNeg), .int (g 552 (a1 + 2).toNatClampNeg), .int (g 552 (a1 + 1).toNatClampNeg), .ref 540], aa_H g) rfl r
      obtain ⟨hb26, n25, ln25, r⟩ := rn_ial (k := 552) rfl ⟨by decide, by decide⟩ rfl r
      have r : rn_s _ 263 (153, [some (.ref 540), some (.int a1)], [.int (g 552 (a1 + 4).toNatClampNeg), .int (g 552 (a1 + 3).toNatClampNeg), .int (g 552 (a1 + 2).toNatClampNeg), .int (g 552 (a1 + 1).toNatClampNeg), .ref 540], aa_H g) v h := r
      obtain ⟨_, n27, v1, h1, -, ln27, rc, r⟩ := rn_call (m2 := 257) (as := [.ref 540, .int (g 552 (a1 + 1).toNatClampNeg), .int (g 552 (a1 + 2).toNatClampNeg), .int (g 552 (a1 + 3).toNatClampNeg), .int (g 552 (a1 + 4).toNatClampNeg)]) (rest := []) rfl rfl r
      obtain ⟨rfl, rfl⟩ := dn_257 rc
      have r : rn_s _ 263 (156, [some (.ref 540), some (.int a1)], [.int ((fn_257 g (g 552 (a1 + 1).toNatClampNeg) (g 552 (a1 + 2).toNatClampNeg) (g 552 (a1 + 3).toNatClampNeg) (g 552 (a1 + 4).toNatClampNeg)).1)], aa_H ((fn_257 g (g 552 (a1 + 1).toNatClampNeg) (g 552 (a1 + 2).toNatClampNeg) (g 552 (a1 + 3).toNatClampNeg) (g 552 (a1 + 4).toNatClampNeg)).2)) v h := r
      exact dn_263_156 (some (.ref 540)) (some (.int a1)) rn_jr rn_ji r
    · refine rn_sw1 (iw_s v h) r (fun c29 r => ?_) (fun c29 r => ?_)
      · have r : rn_s _ 263 (68, [some (.ref 540), some (.int a1)], [], aa_H g) v h := r
        obtain ⟨n30, ln30, r⟩ := rn_steps 5 (76, [some (.ref 540), some (.int a1)], [.int (a1 + 1), .ref 552, .ref 540], aa_H g) rfl r
        obtain ⟨hb32, n31, ln31, r⟩ := rn_ial (k := 552) rfl ⟨by decide, by decide⟩ rfl r
        have r : rn_s _ 263 (77, [some (.ref 540), some (.int a1)], [.int (g 552 (a1 + 1).toNatClampNeg), .ref 540], aa_H g) v h := r
        obtain ⟨_, n33, v1, h1, -, ln33, rc, r⟩ := rn_call (m2 := 256) (as := [.ref 540, .int (g 552 (a1 + 1).toNatClampNeg)]) (rest := []) rfl rfl r
        obtain ⟨rfl, rfl⟩ := dn_256 rc
        have r : rn_s _ 263 (80, [some (.ref 540), some (.int a1)], [.int ((fn_256 g (g 552 (a1 + 1).toNatClampNeg)).1)], aa_H ((fn_256 g (g 552 (a1 + 1).toNatClampNeg)).2)) v h := r
        exact dn_263_80 (some (.ref 540)) (some (.int a1)) rn_jr rn_ji r
      · refine rn_sw1 (iw_s v h) r (fun c35 r => ?_) (fun c35 r => ?_)
        · have r : rn_s _ 263 (90, [some (.ref 540), some (.int a1)], [], aa_H g) v h := r
          obtain ⟨n36, ln36, r⟩ := rn_steps 5 (98, [some (.ref 540), some (.int a1)], [.int (a1 + 1), .ref 552, .ref 540], aa_H g) rfl r
          obtain ⟨hb38, n37, ln37, r⟩ := rn_ial (k := 552) rfl ⟨by decide, by decide⟩ rfl r
          have r : rn_s _ 263 (99, [some (.ref 540), some (.int a1)], [.int (g 552 (a1 + 1).toNatClampNeg), .ref 540], aa_H g) v h := r
          obtain ⟨n39, ln39, r⟩ := rn_steps 4 (106, [some (.ref 540), some (.int a1)], [.int (a1 + 2), .ref 552, .int (g 552 (a1 + 1).toNatClampNeg), .ref 540], aa_H g) rfl r
          obtain ⟨hb41, n40, ln40, r⟩ := rn_ial (k := 552) rfl ⟨by decide, by decide⟩ rfl r
          have r : rn_s _ 263 (107, [some (.ref 540), some (.int a1)], [.int (g 552 (a1 + 2).toNatClampNeg), .int (g 552 (a1 + 1).toNatClampNeg), .ref 540], aa_H g) v h := r
          obtain ⟨_, n42, v1, h1, -, ln42, rc, r⟩ := rn_call (m2 := 259) (as := [.ref 540, .int (g 552 (a1 + 1).toNatClampNeg), .int (g 552 (a1 + 2).toNatClampNeg)]) (rest := []) rfl rfl r
          obtain ⟨rfl, rfl⟩ := dn_259 rc
          have r : rn_s _ 263 (110, [some (.ref 540), some (.int a1)], [.int ((fn_259 g (g 552 (a1 + 1).toNatClampNeg) (g 552 (a1 + 2).toNatClampNeg)).1)], aa_H ((fn_259 g (g 552 (a1 + 1).toNatClampNeg) (g 552 (a1 + 2).toNatClampNeg)).2)) v h := r
          exact dn_263_110 (some (.ref 540)) (some (.int a1)) rn_jr rn_ji r
        · have r : rn_s _ 263 (120, [some (.ref 540), some (.int a1)], [], aa_H g) v h := r
          obtain ⟨n44, ln44, r⟩ := rn_steps 5 (128, [some (.ref 540), some (.int a1)], [.int (a1 + 1), .ref 552, .ref 540], aa_H g) rfl r
          obtain ⟨hb46, n45, ln45, r⟩ := rn_ial (k := 552) rfl ⟨by decide, by decide⟩ rfl r
          have r : rn_s _ 263 (129, [some (.ref 540), some (.int a1)], [.int (g 552 (a1 + 1).toNatClampNeg), .ref 540], aa_H g) v h := r
          obtain ⟨n47, ln47, r⟩ := rn_steps 4 (136, [some (.ref 540), some (.int a1)], [.int (a1 + 2), .ref 552, .int (g 552 (a1 + 1).toNatClampNeg), .ref 540], aa_H g) rfl r
          obtain ⟨hb49, n48, ln48, r⟩ := rn_ial (k := 552) rfl ⟨by decide, by decide⟩ rfl r
          have r : rn_s _ 263 (137, [some (.ref 540), some (.int a1)], [.int (g 552 (a1 + 2).toNatClampNeg), .int (g 552 (a1 + 1).toNatClampNeg), .ref 540], aa_H g) v h := r
          obtain ⟨n50, ln50, r⟩ := rn_steps 4 (144, [some (.ref 540), some (.int a1)], [.int (a1 + 3), .ref 552, .int (g 552 (a1 + 2).toNatClampNeg), .int (g 552 (a1 + 1).toNatClampNeg), .ref 540], aa_H g) rfl r
          obtain ⟨hb52, n51, ln51, r⟩ := rn_ial (k := 552) rfl ⟨by decide, by decide⟩ rfl r
          have r : rn_s _ 263 (145, [some (.ref 540), some (.int a1)], [.int (g 552 (a1 + 3).toNatClampNeg), .int (g 552 (a1 + 2).toNatClampNeg), .int (g 552 (a1 + 1).toNatClampNeg), .ref 540], aa_H g) v h := r
          obtain ⟨n53, ln53, r⟩ := rn_steps 4 (152, [some (.ref 540), some (.int a1)], [.int (a1 + 4), .ref 552, .int (g 552 (a1 + 3).toNatClampNeg), .int (g 552 (a1 + 2).toNatClampNeg), .int (g 552 (a1 + 1).toNatClampNeg), .ref 540], aa_H g) rfl r
          obtain ⟨hb55, n54, ln54, r⟩ := rn_ial (k := 552) rfl ⟨by decide, by decide⟩ rfl r
          have r : rn_s _ 263 (153, [some (.ref 540), some (.int a1)], [.int (g 552 (a1 + 4).toNatClampNeg), .int (g 552 (a1 + 3).toNatClampNeg), .int (g 552 (a1 + 2).toNatClampNeg), .int (g 552 (a1 + 1).toNatClampNeg), .ref 540], aa_H g) v h := r
          obtain ⟨_, n56, v1, h1, -, ln56, rc, r⟩ := rn_call (m2 := 257) (as := [.ref 540, .int (g 552 (a1 + 1).toNatClampNeg), .int (g 552 (a1 + 2).toNatClampNeg), .int (g 552 (a1 + 3).toNatClampNeg), .int (g 552 (a1 + 4).toNatClampNeg)]) (rest := []) rfl rfl r
          obtain ⟨rfl, rfl⟩ := dn_257 rc
          have r : rn_s _ 263 (156, [some (.ref 540), some (.int a1)], [.int ((fn_257 g (g 552 (a1 + 1).toNatClampNeg) (g 552 (a1 + 2).toNatClampNeg) (g 552 (a1 + 3).toNatClampNeg) (g 552 (a1 + 4).toNatClampNeg)).1)], aa_H ((fn_257 g (g 552 (a1 + 1).toNatClampNeg) (g 552 (a1 + 2).toNatClampNeg) (g 552 (a1 + 3).toNatClampNeg) (g 552 (a1 + 4).toNatClampNeg)).2)) v h := r
          exact dn_263_156 (some (.ref 540)) (some (.int a1)) rn_jr rn_ji r
-- 169: UnequalHoursModel fails
noncomputable def fn_169 (g : aa_G) (a1 : Int32) : Int32 × aa_G := (0, zz_w g 540 6 a1)
theorem dn_169 {v : Option Value} {h : zz_H} {n : Nat} {g : aa_G} {a1 : Int32}  (r : rn_s n 169 (0, zz_in [.ref 540, .int a1] (zz_nl 169), [], aa_H g) v h) : iw_s v h (fn_169 g a1) := by
  have r : rn_s n 169 (0, [some (.ref 540), some (.int a1)], [], aa_H g) v h := r
  unfold fn_169
  obtain ⟨n1, ln1, r⟩ := rn_steps 3 (6, [some (.ref 540), some (.int a1)], [.int 0], aa_H (zz_w g 540 6 a1)) rfl r
  exact rn_ire rfl r
-- 167: UnequalHoursModel here
noncomputable def fn_167 (g : aa_G)  : Int32 := if (g 540 4) ≤ (g 540 5) then -1 else (g 543 (g 540 5).toNatClampNeg) &&& 255
theorem dn_167 {v : Option Value} {h : zz_H} {n : Nat} {g : aa_G}   (r : rn_s n 167 (0, zz_in [.ref 540] (zz_nl 167), [], aa_H g) v h) : ir_s g v h (fn_167 g) := by
  have r : rn_s n 167 (0, [some (.ref 540)], [], aa_H g) v h := r
  unfold fn_167
  obtain ⟨n1, ln1, r⟩ := rn_steps 3 (8, [some (.ref 540)], [.int (g 540 4), .int (g 540 5)], aa_H g) rfl r
  refine rn_ic (ir_s g v h) rfl decide_eq_true_iff.symm r (fun c2 l3n l3 r => ?_) (fun c2 l3n l3 r => ?_)
  · obtain ⟨n4, ln4, r⟩ := rn_steps 0 (28, [some (.ref 540)], [.int (-1)], aa_H g) rfl r
    exact rn_ire rfl r
  · obtain ⟨n5, ln5, r⟩ := rn_steps 3 (19, [some (.ref 540)], [.int (g 540 5), .ref 543], aa_H g) rfl r
    obtain ⟨hb7, n6, ln6, r⟩ := rn_bal (k := 543) rfl ⟨by decide, by decide⟩ rfl (by decide) r
    have r : rn_s _ 167 (20, [some (.ref 540)], [.int (g 543 (g 540 5).toNatClampNeg)], aa_H g) v h := r
    obtain ⟨n8, ln8, r⟩ := rn_steps 2 (28, [some (.ref 540)], [.int ((g 543 (g 540 5).toNatClampNeg) &&& 255)], aa_H g) rfl r
    exact rn_ire rfl r
-- 173: UnequalHoursModel takes
noncomputable def fn_173 (g : aa_G) (a1 : Int32) : Int32 × aa_G := if (fn_167 g) = a1 then (1, zz_w g 540 5 ((g 540 5) + 1)) else ((fn_169 g (g 540 5)).1, (fn_169 g (g 540 5)).2)
theorem dn_173 {v : Option Value} {h : zz_H} {n : Nat} {g : aa_G} {a1 : Int32}  (r : rn_s n 173 (0, zz_in [.ref 540, .int a1] (zz_nl 173), [], aa_H g) v h) : iw_s v h (fn_173 g a1) := by
  have r : rn_s n 173 (0, [some (.ref 540), some (.int a1)], [], aa_H g) v h := r
  unfold fn_173
  obtain ⟨n1, ln1, r⟩ := rn_steps 0 (1, [some (.ref 540), some (.int a1)], [.ref 540], aa_H g) rfl r
  obtain ⟨_, n2, v1, h1, -, ln2, rc, r⟩ := rn_call (m2 := 167) (as := [.ref 540]) (rest := []) rfl rfl r
  obtain ⟨rfl, rfl⟩ := dn_167 rc
  have r : rn_s _ 173 (4, [some (.ref 540), some (.int a1)], [.int (fn_167 g)], aa_H g) v h := r
  obtain ⟨n4, ln4, r⟩ := rn_steps 0 (5, [some (.ref 540), some (.int a1)], [.int a1, .int (fn_167 g)], aa_H g) rfl r
  refine rn_ic (iw_s v h) rfl decide_eq_true_iff.symm r (fun c5 l6n l6 r => ?_) (fun c5 l6n l6 r => ?_)
  · obtain ⟨n7, ln7, r⟩ := rn_steps 6 (28, [some (.ref 540), some (.int a1)], [.int 1], aa_H (zz_w g 540 5 ((g 540 5) + 1))) rfl r
    exact rn_ire rfl r
  · obtain ⟨n8, ln8, r⟩ := rn_steps 2 (13, [some (.ref 540), some (.int a1)], [.int (g 540 5), .ref 540], aa_H g) rfl r
    obtain ⟨_, n9, v1, h1, -, ln9, rc, r⟩ := rn_call (m2 := 169) (as := [.ref 540, .int (g 540 5)]) (rest := []) rfl rfl r
    obtain ⟨rfl, rfl⟩ := dn_169 rc
    have r : rn_s _ 173 (16, [some (.ref 540), some (.int a1)], [.int ((fn_169 g (g 540 5)).1)], aa_H ((fn_169 g (g 540 5)).2)) v h := r
    exact rn_ire rfl r
-- 172: UnequalHoursModel isFigure
noncomputable def fn_172 (a0 : Int32) : Int32 := if a0 < 48 then 0 else if 57 < a0 then 0 else 1
theorem dn_172 {v : Option Value} {h : zz_H} {n : Nat} {g : aa_G} {a0 : Int32}  (r : rn_s n 172 (0, zz_in [.int a0] (zz_nl 172), [], aa_H g) v h) : ir_s g v h (fn_172 a0) := by
  have r : rn_s n 172 (0, [some (.int a0)], [], aa_H g) v h := r
  unfold fn_172
  obtain ⟨n1, ln1, r⟩ := rn_steps 1 (3, [some (.int a0)], [.int 48, .int a0], aa_H g) rfl r
  refine rn_ic (ir_s g v h) rfl decide_eq_true_iff.symm r (fun c2 l3n l3 r => ?_) (fun c2 l3n l3 r => ?_)
  · obtain ⟨n4, ln4, r⟩ := rn_steps 0 (17, [some (.int a0)], [.int 0], aa_H g) rfl r
    exact rn_ire rfl r
  · obtain ⟨n5, ln5, r⟩ := rn_steps 1 (9, [some (.int a0)], [.int 57, .int a0], aa_H g) rfl r
    refine rn_ic (ir_s g v h) rfl decide_eq_true_iff.symm r (fun c6 l7n l7 r => ?_) (fun c6 l7n l7 r => ?_)
    · obtain ⟨n8, ln8, r⟩ := rn_steps 0 (17, [some (.int a0)], [.int 0], aa_H g) rfl r
      exact rn_ire rfl r
    · obtain ⟨n9, ln9, r⟩ := rn_steps 1 (17, [some (.int a0)], [.int 1], aa_H g) rfl r
      exact rn_ire rfl r
-- 171: UnequalHoursModel readDigits
noncomputable def fn_171_99 (g : aa_G) (s0 : Int32) : Int32 × aa_G := if s0 = 0 then (0, g) else (1, g)
theorem dn_171_99 {v : Option Value} {h : zz_H} {n : Nat} {g : aa_G} {s0 : Int32}  (x0 x1 : Option Value) (jx0 : rn_jk x0) (jx1 : rn_jk x1) (r : rn_s n 171 (99, [x0, x1], [.int s0], aa_H g) v h) : iw_s v h (fn_171_99 g s0) := by
  unfold fn_171_99
  refine rn_if (iw_s v h) rfl decide_eq_true_iff.symm r (fun c37 l38n l38 r => ?_) (fun c37 l38n l38 r => ?_)
  · obtain ⟨n39, ln39, r⟩ := rn_steps 0 (107, [x0, x1], [.int 0], aa_H g) rfl r
    exact rn_ire rfl r
  · obtain ⟨n40, ln40, r⟩ := rn_steps 1 (107, [x0, x1], [.int 1], aa_H g) rfl r
    exact rn_ire rfl r
noncomputable def fn_171_81 (g : aa_G)  : Int32 × aa_G := if (fn_172 (fn_167 g)) = 0 then (1, g) else fn_171_99 ((fn_169 g (g 540 5)).2) ((fn_169 g (g 540 5)).1)
theorem dn_171_81 {v : Option Value} {h : zz_H} {n : Nat} {g : aa_G}   (x1 : Option Value) (jx1 : rn_jk x1) (r : rn_s n 171 (81, [some (.ref 540), x1], [], aa_H g) v h) : iw_s v h (fn_171_81 g) := by
  unfold fn_171_81
  obtain ⟨n26, ln26, r⟩ := rn_steps 0 (82, [some (.ref 540), x1], [.ref 540], aa_H g) rfl r
  obtain ⟨_, n27, v1, h1, -, ln27, rc, r⟩ := rn_call (m2 := 167) (as := [.ref 540]) (rest := []) rfl rfl r
  obtain ⟨rfl, rfl⟩ := dn_167 rc
  have r : rn_s _ 171 (85, [some (.ref 540), x1], [.int (fn_167 g)], aa_H g) v h := r
  obtain ⟨_, n29, v1, h1, -, ln29, rc, r⟩ := rn_call (m2 := 172) (as := [.int (fn_167 g)]) (rest := []) rfl rfl r
  obtain ⟨rfl, rfl⟩ := dn_172 rc
  have r : rn_s _ 171 (88, [some (.ref 540), x1], [.int (fn_172 (fn_167 g))], aa_H g) v h := r
  refine rn_if (iw_s v h) rfl decide_eq_true_iff.symm r (fun c31 l32n l32 r => ?_) (fun c31 l32n l32 r => ?_)
  · obtain ⟨n33, ln33, r⟩ := rn_steps 1 (107, [some (.ref 540), x1], [.int 1], aa_H g) rfl r
    exact rn_ire rfl r
  · obtain ⟨n34, ln34, r⟩ := rn_steps 2 (96, [some (.ref 540), x1], [.int (g 540 5), .ref 540], aa_H g) rfl r
    obtain ⟨_, n35, v1, h1, -, ln35, rc, r⟩ := rn_call (m2 := 169) (as := [.ref 540, .int (g 540 5)]) (rest := []) rfl rfl r
    obtain ⟨rfl, rfl⟩ := dn_169 rc
    have r : rn_s _ 171 (99, [some (.ref 540), x1], [.int ((fn_169 g (g 540 5)).1)], aa_H ((fn_169 g (g 540 5)).2)) v h := r
    exact dn_171_99 (some (.ref 540)) x1 rn_jr jx1 r
noncomputable def fn_171_29b (g : aa_G) (b1 : Int32) : aa_G ⊕ (Int32 × aa_G) := if (fn_172 (fn_167 g)) = 0 then .inr (fn_171_81 g) else if 5 ≤ ((g 540 5) - b1) then .inr (fn_171_81 g) else .inl (zz_w (zz_w g 540 7 (((10 * (g 540 7)) + (fn_167 g)) - 48)) 540 5 ((g 540 5) + 1))
noncomputable def fn_171_29 (g : aa_G) (b1 : Int32) : Int32 × aa_G := lp_f (0, g) (fun z : aa_G => fn_171_29b z b1) g
theorem dn_171_29l {v : Option Value} {h : zz_H} {N : Nat} {b1 : Int32} {d : Int32 × aa_G} : ∀ (n : Nat), n ≤ N → ∀ (g : aa_G), rn_s n 171 (29, [some (.ref 540), some (.int b1)], [], aa_H g) v h → (iw_s v h) (lp_f d (fun z : aa_G => fn_171_29b z b1) g) := by
  generalize hf : (fun z : aa_G => fn_171_29b z b1) = f
  intro n
  induction n using Nat.strongRecOn with
  | _ n ih =>
    intro hN g  r
    refine lp_go ?_
    rw [← congrFun hf g]
    show lp_q (iw_s v h) d f (fn_171_29b g b1)
    unfold fn_171_29b
    obtain ⟨n12, ln12, r⟩ := rn_steps 0 (30, [some (.ref 540), some (.int b1)], [.ref 540], aa_H g) rfl r
    obtain ⟨_, n13, v1, h1, -, ln13, rc, r⟩ := rn_call (m2 := 167) (as := [.ref 540]) (rest := []) rfl rfl r
    obtain ⟨rfl, rfl⟩ := dn_167 rc
    have r : rn_s _ 171 (33, [some (.ref 540), some (.int b1)], [.int (fn_167 g)], aa_H g) v h := r
    obtain ⟨_, n15, v1, h1, -, ln15, rc, r⟩ := rn_call (m2 := 172) (as := [.int (fn_167 g)]) (rest := []) rfl rfl r
    obtain ⟨rfl, rfl⟩ := dn_172 rc
    have r : rn_s _ 171 (36, [some (.ref 540), some (.int b1)], [.int (fn_172 (fn_167 g))], aa_H g) v h := r
    refine rn_if (lp_q (iw_s v h) d f) rfl decide_eq_true_iff.symm r (fun c17 l18n l18 r => ?_) (fun c17 l18n l18 r => ?_)
    · exact dn_171_81 (some (.int b1)) rn_ji r
    · obtain ⟨n19, ln19, r⟩ := rn_steps 4 (46, [some (.ref 540), some (.int b1)], [.int 5, .int ((g 540 5) - b1)], aa_H g) rfl r
      refine rn_ic (lp_q (iw_s v h) d f) rfl decide_eq_true_iff.symm r (fun c20 l21n l21 r => ?_) (fun c20 l21n l21 r => ?_)
      · exact dn_171_81 (some (.int b1)) rn_ji r
      · obtain ⟨n22, ln22, r⟩ := rn_steps 5 (58, [some (.ref 540), some (.int b1)], [.ref 540, .int (10 * (g 540 7)), .ref 540], aa_H g) rfl r
        obtain ⟨_, n23, v1, h1, -, ln23, rc, r⟩ := rn_call (m2 := 167) (as := [.ref 540]) (rest := [.int (10 * (g 540 7)), .ref 540]) rfl rfl r
        obtain ⟨rfl, rfl⟩ := dn_167 rc
        have r : rn_s _ 171 (61, [some (.ref 540), some (.int b1)], [.int (fn_167 g), .int (10 * (g 540 7)), .ref 540], aa_H g) v h := r
        obtain ⟨n25, ln25, r⟩ := rn_steps 10 (29, [some (.ref 540), some (.int b1)], [], aa_H (zz_w (zz_w g 540 7 (((10 * (g 540 7)) + (fn_167 g)) - 48)) 540 5 ((g 540 5) + 1))) rfl r
        exact ih _ (by omega) (by omega) (zz_w (zz_w g 540 7 (((10 * (g 540 7)) + (fn_167 g)) - 48)) 540 5 ((g 540 5) + 1)) r
theorem dn_171_29 {v : Option Value} {h : zz_H} {n : Nat} {g : aa_G} {b1 : Int32}  (r : rn_s n 171 (29, [some (.ref 540), some (.int b1)], [], aa_H g) v h) : (iw_s v h) (fn_171_29 g b1) := dn_171_29l  n (Nat.le_refl n) g r
noncomputable def fn_171 (g : aa_G)  : Int32 × aa_G := if (fn_172 (fn_167 g)) ≠ 0 then fn_171_29 (zz_w g 540 7 0) (g 540 5) else ((fn_169 g (g 540 5)).1, (fn_169 g (g 540 5)).2)
theorem dn_171 {v : Option Value} {h : zz_H} {n : Nat} {g : aa_G}   (r : rn_s n 171 (0, zz_in [.ref 540] (zz_nl 171), [], aa_H g) v h) : iw_s v h (fn_171 g) := by
  have r : rn_s n 171 (0, [some (.ref 540), none], [], aa_H g) v h := r
  unfold fn_171
  obtain ⟨n1, ln1, r⟩ := rn_steps 0 (1, [some (.ref 540), none], [.ref 540], aa_H g) rfl r
  obtain ⟨_, n2, v1, h1, -, ln2, rc, r⟩ := rn_call (m2 := 167) (as := [.ref 540]) (rest := []) rfl rfl r
  obtain ⟨rfl, rfl⟩ := dn_167 rc
  have r : rn_s _ 171 (4, [some (.ref 540), none], [.int (fn_167 g)], aa_H g) v h := r
  obtain ⟨_, n4, v1, h1, -, ln4, rc, r⟩ := rn_call (m2 := 172) (as := [.int (fn_167 g)]) (rest := []) rfl rfl r
  obtain ⟨rfl, rfl⟩ := dn_172 rc
  have r : rn_s _ 171 (7, [some (.ref 540), none], [.int (fn_172 (fn_167 g))], aa_H g) v h := r
  refine rn_if (iw_s v h) rfl decide_eq_true_iff.symm r (fun c6 l7n l7 r => ?_) (fun c6 l7n l7 r => ?_)
  · obtain ⟨n8, ln8, r⟩ := rn_steps 5 (29, [some (.ref 540), some (.int (g 540 5))], [], aa_H (zz_w g 540 7 0)) rfl r
    exact dn_171_29 r
  · obtain ⟨n9, ln9, r⟩ := rn_steps 2 (15, [some (.ref 540), none], [.int (g 540 5), .ref 540], aa_H g) rfl r
    obtain ⟨_, n10, v1, h1, -, ln10, rc, r⟩ := rn_call (m2 := 169) (as := [.ref 540, .int (g 540 5)]) (rest := []) rfl rfl r
    obtain ⟨rfl, rfl⟩ := dn_169 rc
    have r : rn_s _ 171 (18, [some (.ref 540), none], [.int ((fn_169 g (g 540 5)).1)], aa_H ((fn_169 g (g 540 5)).2)) v h := r
    exact rn_ire rfl r
-- 170: UnequalHoursModel readSigned
noncomputable def fn_170_83 (g : aa_G) (s0 : Int32) : Int32 × aa_G := if s0 = 0 then (0, g) else (1, g)
theorem dn_170_83 {v : Option Value} {h : zz_H} {n : Nat} {g : aa_G} {s0 : Int32}  (x0 x1 x2 x3 x4 : Option Value) (jx0 : rn_jk x0) (jx1 : rn_jk x1) (jx2 : rn_jk x2) (jx3 : rn_jk x3) (jx4 : rn_jk x4) (r : rn_s n 170 (83, [x0, x1, x2, x3, x4], [.int s0], aa_H g) v h) : iw_s v h (fn_170_83 g s0) := by
  unfold fn_170_83
  refine rn_if (iw_s v h) rfl decide_eq_true_iff.symm r (fun c33 l34n l34 r => ?_) (fun c33 l34n l34 r => ?_)
  · obtain ⟨n35, ln35, r⟩ := rn_steps 0 (91, [x0, x1, x2, x3, x4], [.int 0], aa_H g) rfl r
    exact rn_ire rfl r
  · obtain ⟨n36, ln36, r⟩ := rn_steps 1 (91, [x0, x1, x2, x3, x4], [.int 1], aa_H g) rfl r
    exact rn_ire rfl r
noncomputable def fn_170_63 (g : aa_G) (b1 : Int32) (b2 : Int32) (b3 : Int32) (s0 : Int32) : Int32 × aa_G := if (fn_154 s0 b1 b2) ≠ 0 then (1, zz_w g 540 7 s0) else fn_170_83 ((fn_169 (zz_w g 540 7 s0) b3).2) ((fn_169 (zz_w g 540 7 s0) b3).1)
theorem dn_170_63 {v : Option Value} {h : zz_H} {n : Nat} {g : aa_G} {b1 : Int32} {b2 : Int32} {b3 : Int32} {s0 : Int32}  (x4 : Option Value) (jx4 : rn_jk x4) (r : rn_s n 170 (63, [some (.ref 540), some (.int b1), some (.int b2), some (.int b3), x4], [.int s0, .ref 540], aa_H g) v h) : iw_s v h (fn_170_63 g b1 b2 b3 s0) := by
  unfold fn_170_63
  obtain ⟨n24, ln24, r⟩ := rn_steps 4 (72, [some (.ref 540), some (.int b1), some (.int b2), some (.int b3), x4], [.int b2, .int b1, .int s0], aa_H (zz_w g 540 7 s0)) rfl r
  obtain ⟨_, n25, v1, h1, -, ln25, rc, r⟩ := rn_call (m2 := 154) (as := [.int s0, .int b1, .int b2]) (rest := []) rfl rfl r
  obtain ⟨rfl, rfl⟩ := dn_154 rc
  have r : rn_s _ 170 (75, [some (.ref 540), some (.int b1), some (.int b2), some (.int b3), x4], [.int (fn_154 s0 b1 b2)], aa_H (zz_w g 540 7 s0)) v h := r
  refine rn_if (iw_s v h) rfl decide_eq_true_iff.symm r (fun c27 l28n l28 r => ?_) (fun c27 l28n l28 r => ?_)
  · obtain ⟨n29, ln29, r⟩ := rn_steps 1 (91, [some (.ref 540), some (.int b1), some (.int b2), some (.int b3), x4], [.int 1], aa_H (zz_w g 540 7 s0)) rfl r
    exact rn_ire rfl r
  · obtain ⟨n30, ln30, r⟩ := rn_steps 1 (80, [some (.ref 540), some (.int b1), some (.int b2), some (.int b3), x4], [.int b3, .ref 540], aa_H (zz_w g 540 7 s0)) rfl r
    obtain ⟨_, n31, v1, h1, -, ln31, rc, r⟩ := rn_call (m2 := 169) (as := [.ref 540, .int b3]) (rest := []) rfl rfl r
    obtain ⟨rfl, rfl⟩ := dn_169 rc
    have r : rn_s _ 170 (83, [some (.ref 540), some (.int b1), some (.int b2), some (.int b3), x4], [.int ((fn_169 (zz_w g 540 7 s0) b3).1)], aa_H ((fn_169 (zz_w g 540 7 s0) b3).2)) v h := r
    exact dn_170_83 (some (.ref 540)) (some (.int b1)) (some (.int b2)) (some (.int b3)) x4 rn_jr rn_ji rn_ji rn_ji jx4 r
noncomputable def fn_170_40 (g : aa_G) (b1 : Int32) (b2 : Int32) (b3 : Int32) (b4 : Int32) (s0 : Int32) : Int32 × aa_G := if s0 ≠ 0 then if b4 = 0 then fn_170_63 g b1 b2 b3 (g 540 7) else fn_170_63 g b1 b2 b3 (-(g 540 7)) else (0, g)
theorem dn_170_40 {v : Option Value} {h : zz_H} {n : Nat} {g : aa_G} {b1 : Int32} {b2 : Int32} {b3 : Int32} {b4 : Int32} {s0 : Int32}  (r : rn_s n 170 (40, [some (.ref 540), some (.int b1), some (.int b2), some (.int b3), some (.int b4)], [.int s0], aa_H g) v h) : iw_s v h (fn_170_40 g b1 b2 b3 b4 s0) := by
  unfold fn_170_40
  refine rn_if (iw_s v h) rfl decide_eq_true_iff.symm r (fun c16 l17n l17 r => ?_) (fun c16 l17n l17 r => ?_)
  · obtain ⟨n18, ln18, r⟩ := rn_steps 1 (48, [some (.ref 540), some (.int b1), some (.int b2), some (.int b3), some (.int b4)], [.int b4, .ref 540], aa_H g) rfl r
    refine rn_if (iw_s v h) rfl decide_eq_true_iff.symm r (fun c19 l20n l20 r => ?_) (fun c19 l20n l20 r => ?_)
    · obtain ⟨n21, ln21, r⟩ := rn_steps 1 (63, [some (.ref 540), some (.int b1), some (.int b2), some (.int b3), some (.int b4)], [.int (g 540 7), .ref 540], aa_H g) rfl r
      exact dn_170_63 (some (.int b4)) rn_ji r
    · obtain ⟨n22, ln22, r⟩ := rn_steps 3 (63, [some (.ref 540), some (.int b1), some (.int b2), some (.int b3), some (.int b4)], [.int (-(g 540 7)), .ref 540], aa_H g) rfl r
      exact dn_170_63 (some (.int b4)) rn_ji r
  · obtain ⟨n23, ln23, r⟩ := rn_steps 0 (44, [some (.ref 540), some (.int b1), some (.int b2), some (.int b3), some (.int b4)], [.int 0], aa_H g) rfl r
    exact rn_ire rfl r
noncomputable def fn_170_36 (g : aa_G) (b1 : Int32) (b2 : Int32) (b3 : Int32) (b4 : Int32) : Int32 × aa_G := fn_170_40 ((fn_171 g).2) b1 b2 b3 b4 ((fn_171 g).1)
theorem dn_170_36 {v : Option Value} {h : zz_H} {n : Nat} {g : aa_G} {b1 : Int32} {b2 : Int32} {b3 : Int32} {b4 : Int32}  (r : rn_s n 170 (36, [some (.ref 540), some (.int b1), some (.int b2), some (.int b3), some (.int b4)], [], aa_H g) v h) : iw_s v h (fn_170_36 g b1 b2 b3 b4) := by
  unfold fn_170_36
  obtain ⟨n13, ln13, r⟩ := rn_steps 0 (37, [some (.ref 540), some (.int b1), some (.int b2), some (.int b3), some (.int b4)], [.ref 540], aa_H g) rfl r
  obtain ⟨_, n14, v1, h1, -, ln14, rc, r⟩ := rn_call (m2 := 171) (as := [.ref 540]) (rest := []) rfl rfl r
  obtain ⟨rfl, rfl⟩ := dn_171 rc
  have r : rn_s _ 170 (40, [some (.ref 540), some (.int b1), some (.int b2), some (.int b3), some (.int b4)], [.int ((fn_171 g).1)], aa_H ((fn_171 g).2)) v h := r
  exact dn_170_40 r
noncomputable def fn_170_19 (g : aa_G) (b1 : Int32) (b2 : Int32) (b3 : Int32) (s0 : Int32) : Int32 × aa_G := if s0 = 0 then fn_170_36 g b1 b2 b3 s0 else fn_170_36 (zz_w g 540 5 ((g 540 5) + 1)) b1 b2 b3 s0
theorem dn_170_19 {v : Option Value} {h : zz_H} {n : Nat} {g : aa_G} {b1 : Int32} {b2 : Int32} {b3 : Int32} {s0 : Int32}  (x4 : Option Value) (jx4 : rn_jk x4) (r : rn_s n 170 (19, [some (.ref 540), some (.int b1), some (.int b2), some (.int b3), x4], [.int s0], aa_H g) v h) : iw_s v h (fn_170_19 g b1 b2 b3 s0) := by
  unfold fn_170_19
  obtain ⟨n9, ln9, r⟩ := rn_steps 1 (23, [some (.ref 540), some (.int b1), some (.int b2), some (.int b3), some (.int s0)], [.int s0], aa_H g) rfl r
  refine rn_if (iw_s v h) rfl decide_eq_true_iff.symm r (fun c10 l11n l11 r => ?_) (fun c10 l11n l11 r => ?_)
  · exact dn_170_36 r
  · obtain ⟨n12, ln12, r⟩ := rn_steps 5 (36, [some (.ref 540), some (.int b1), some (.int b2), some (.int b3), some (.int s0)], [], aa_H (zz_w g 540 5 ((g 540 5) + 1))) rfl r
    exact dn_170_36 r
noncomputable def fn_170 (g : aa_G) (a1 : Int32) (a2 : Int32) : Int32 × aa_G := if (fn_167 g) ≠ 45 then fn_170_19 g a1 a2 (g 540 5) 0 else fn_170_19 g a1 a2 (g 540 5) 1
theorem dn_170 {v : Option Value} {h : zz_H} {n : Nat} {g : aa_G} {a1 : Int32} {a2 : Int32}  (r : rn_s n 170 (0, zz_in [.ref 540, .int a1, .int a2] (zz_nl 170), [], aa_H g) v h) : iw_s v h (fn_170 g a1 a2) := by
  have r : rn_s n 170 (0, [some (.ref 540), some (.int a1), some (.int a2), none, none], [], aa_H g) v h := r
  unfold fn_170
  obtain ⟨n1, ln1, r⟩ := rn_steps 3 (6, [some (.ref 540), some (.int a1), some (.int a2), some (.int (g 540 5)), none], [.ref 540], aa_H g) rfl r
  obtain ⟨_, n2, v1, h1, -, ln2, rc, r⟩ := rn_call (m2 := 167) (as := [.ref 540]) (rest := []) rfl rfl r
  obtain ⟨rfl, rfl⟩ := dn_167 rc
  have r : rn_s _ 170 (9, [some (.ref 540), some (.int a1), some (.int a2), some (.int (g 540 5)), none], [.int (fn_167 g)], aa_H g) v h := r
  obtain ⟨n4, ln4, r⟩ := rn_steps 0 (11, [some (.ref 540), some (.int a1), some (.int a2), some (.int (g 540 5)), none], [.int 45, .int (fn_167 g)], aa_H g) rfl r
  refine rn_ic (iw_s v h) rfl decide_eq_true_iff.symm r (fun c5 l6n l6 r => ?_) (fun c5 l6n l6 r => ?_)
  · obtain ⟨n7, ln7, r⟩ := rn_steps 0 (19, [some (.ref 540), some (.int a1), some (.int a2), some (.int (g 540 5)), none], [.int 0], aa_H g) rfl r
    exact dn_170_19 none rn_jn r
  · obtain ⟨n8, ln8, r⟩ := rn_steps 1 (19, [some (.ref 540), some (.int a1), some (.int a2), some (.int (g 540 5)), none], [.int 1], aa_H g) rfl r
    exact dn_170_19 none rn_jn r
-- 262: UnequalHoursModel numbersOf
noncomputable def fn_262 (a0 : Int32) : Int32 := if a0 = 111 then 2 else if a0 ≠ 114 then if a0 ≠ 113 then if a0 ≠ 115 then 0 else 4 else 1 else 2
theorem dn_262 {v : Option Value} {h : zz_H} {n : Nat} {g : aa_G} {a0 : Int32}  (r : rn_s n 262 (0, zz_in [.int a0] (zz_nl 262), [], aa_H g) v h) : ir_s g v h (fn_262 a0) := by
  have r : rn_s n 262 (0, [some (.int a0)], [], aa_H g) v h := r
  unfold fn_262
  obtain ⟨n1, ln1, r⟩ := rn_steps 1 (3, [some (.int a0)], [.int 111, .int a0], aa_H g) rfl r
  refine rn_ic (ir_s g v h) rfl decide_eq_true_iff.symm r (fun c2 l3n l3 r => ?_) (fun c2 l3n l3 r => ?_)
  · obtain ⟨n4, ln4, r⟩ := rn_steps 1 (37, [some (.int a0)], [.int 2], aa_H g) rfl r
    exact rn_ire rfl r
  · obtain ⟨n5, ln5, r⟩ := rn_steps 1 (9, [some (.int a0)], [.int 114, .int a0], aa_H g) rfl r
    refine rn_ic (ir_s g v h) rfl decide_eq_true_iff.symm r (fun c6 l7n l7 r => ?_) (fun c6 l7n l7 r => ?_)
    · obtain ⟨n8, ln8, r⟩ := rn_steps 1 (19, [some (.int a0)], [.int 113, .int a0], aa_H g) rfl r
      refine rn_ic (ir_s g v h) rfl decide_eq_true_iff.symm r (fun c9 l10n l10 r => ?_) (fun c9 l10n l10 r => ?_)
      · obtain ⟨n11, ln11, r⟩ := rn_steps 1 (29, [some (.int a0)], [.int 115, .int a0], aa_H g) rfl r
        refine rn_ic (ir_s g v h) rfl decide_eq_true_iff.symm r (fun c12 l13n l13 r => ?_) (fun c12 l13n l13 r => ?_)
        · obtain ⟨n14, ln14, r⟩ := rn_steps 0 (37, [some (.int a0)], [.int 0], aa_H g) rfl r
          exact rn_ire rfl r
        · obtain ⟨n15, ln15, r⟩ := rn_steps 1 (37, [some (.int a0)], [.int 4], aa_H g) rfl r
          exact rn_ire rfl r
      · obtain ⟨n16, ln16, r⟩ := rn_steps 1 (37, [some (.int a0)], [.int 1], aa_H g) rfl r
        exact rn_ire rfl r
    · obtain ⟨n17, ln17, r⟩ := rn_steps 1 (37, [some (.int a0)], [.int 2], aa_H g) rfl r
      exact rn_ire rfl r
-- 261: UnequalHoursModel readAct
noncomputable def fn_261_21 (g : aa_G)  : Int32 × aa_G := ((fn_169 g (g 540 5)).1, (fn_169 g (g 540 5)).2)
theorem dn_261_21 {v : Option Value} {h : zz_H} {n : Nat} {g : aa_G}   (x1 x2 x3 : Option Value) (jx1 : rn_jk x1) (jx2 : rn_jk x2) (jx3 : rn_jk x3) (r : rn_s n 261 (21, [some (.ref 540), x1, x2, x3], [], aa_H g) v h) : iw_s v h (fn_261_21 g) := by
  unfold fn_261_21
  obtain ⟨n18, ln18, r⟩ := rn_steps 2 (26, [some (.ref 540), x1, x2, x3], [.int (g 540 5), .ref 540], aa_H g) rfl r
  obtain ⟨_, n19, v1, h1, -, ln19, rc, r⟩ := rn_call (m2 := 169) (as := [.ref 540, .int (g 540 5)]) (rest := []) rfl rfl r
  obtain ⟨rfl, rfl⟩ := dn_169 rc
  have r : rn_s _ 261 (29, [some (.ref 540), x1, x2, x3], [.int ((fn_169 g (g 540 5)).1)], aa_H ((fn_169 g (g 540 5)).2)) v h := r
  exact rn_ire rfl r
noncomputable def fn_261_88 (g : aa_G) (b1 : Int32) (b2 : Int32) (b3 : Int32) (s0 : Int32) : (aa_G × Int32) ⊕ (Int32 × aa_G) := if s0 ≠ 0 then .inl (zz_w g 552 (b2 + b3).toNatClampNeg (g 540 7), b3 + 1) else .inr (0, g)
theorem dn_261_88 {v : Option Value} {h : zz_H} {n : Nat} {g : aa_G} {b1 : Int32} {b2 : Int32} {b3 : Int32} {s0 : Int32} (P : (aa_G × Int32) ⊕ (Int32 × aa_G) → Prop) (hO0 : ∀ n2, n2 < n → ∀ (yg : aa_G) (yb3 : Int32), rn_s n2 261 (59, [some (.ref 540), some (.int b1), some (.int b2), some (.int yb3)], [], aa_H yg) v h → P (.inl (yg, yb3))) (hR : ∀ E, iw_s v h E → P (.inr E))  (r : rn_s n 261 (88, [some (.ref 540), some (.int b1), some (.int b2), some (.int b3)], [.int s0], aa_H g) v h) : P (fn_261_88 g b1 b2 b3 s0) := by
  unfold fn_261_88
  refine rn_if (P) rfl decide_eq_true_iff.symm r (fun c40 l41n l41 r => ?_) (fun c40 l41n l41 r => ?_)
  · obtain ⟨n42, ln42, r⟩ := rn_steps 6 (104, [some (.ref 540), some (.int b1), some (.int b2), some (.int b3)], [.int (g 540 7), .int (b2 + b3), .ref 552], aa_H g) rfl r
    obtain ⟨hb44, n43, ln43, r⟩ := rn_ias (k := 552) rfl ⟨by decide, by decide⟩ rfl r
    have r : rn_s _ 261 (105, [some (.ref 540), some (.int b1), some (.int b2), some (.int b3)], [], aa_H (zz_w g 552 (b2 + b3).toNatClampNeg (g 540 7))) v h := r
    obtain ⟨n45, ln45, r⟩ := rn_steps 1 (59, [some (.ref 540), some (.int b1), some (.int b2), some (.int (b3 + 1))], [], aa_H (zz_w g 552 (b2 + b3).toNatClampNeg (g 540 7))) rfl r
    exact hO0 _ (by omega) (zz_w g 552 (b2 + b3).toNatClampNeg (g 540 7)) (b3 + 1) r
  · obtain ⟨n46, ln46, r⟩ := rn_steps 0 (92, [some (.ref 540), some (.int b1), some (.int b2), some (.int b3)], [.int 0], aa_H g) rfl r
    exact hR _ (rn_ire rfl r)
noncomputable def fn_261_78 (g : aa_G) (b1 : Int32) (b2 : Int32) (b3 : Int32) : (aa_G × Int32) ⊕ (Int32 × aa_G) := fn_261_88 ((fn_170 g (-99999) 99999).2) b1 b2 b3 ((fn_170 g (-99999) 99999).1)
theorem dn_261_78 {v : Option Value} {h : zz_H} {n : Nat} {g : aa_G} {b1 : Int32} {b2 : Int32} {b3 : Int32} (P : (aa_G × Int32) ⊕ (Int32 × aa_G) → Prop) (hO0 : ∀ n2, n2 < n → ∀ (yg : aa_G) (yb3 : Int32), rn_s n2 261 (59, [some (.ref 540), some (.int b1), some (.int b2), some (.int yb3)], [], aa_H yg) v h → P (.inl (yg, yb3))) (hR : ∀ E, iw_s v h E → P (.inr E))  (r : rn_s n 261 (78, [some (.ref 540), some (.int b1), some (.int b2), some (.int b3)], [], aa_H g) v h) : P (fn_261_78 g b1 b2 b3) := by
  unfold fn_261_78
  obtain ⟨n34, ln34, r⟩ := rn_steps 2 (85, [some (.ref 540), some (.int b1), some (.int b2), some (.int b3)], [.int 99999, .int (-99999), .ref 540], aa_H g) rfl r
  obtain ⟨_, n35, v1, h1, -, ln35, rc, r⟩ := rn_call (m2 := 170) (as := [.ref 540, .int (-99999), .int 99999]) (rest := []) rfl rfl r
  obtain ⟨rfl, rfl⟩ := dn_170 rc
  have r : rn_s _ 261 (88, [some (.ref 540), some (.int b1), some (.int b2), some (.int b3)], [.int ((fn_170 g (-99999) 99999).1)], aa_H ((fn_170 g (-99999) 99999).2)) v h := r
  exact dn_261_88 (P) (fun n2 l2 => hO0 n2 (by omega)) (fun z hz => hR _ hz) r
noncomputable def fn_261_75 (g : aa_G) (b1 : Int32) (b2 : Int32) (b3 : Int32) (s0 : Int32) : (aa_G × Int32) ⊕ (Int32 × aa_G) := if s0 = 0 then .inr (0, g) else fn_261_78 g b1 b2 b3
theorem dn_261_75 {v : Option Value} {h : zz_H} {n : Nat} {g : aa_G} {b1 : Int32} {b2 : Int32} {b3 : Int32} {s0 : Int32} (P : (aa_G × Int32) ⊕ (Int32 × aa_G) → Prop) (hO0 : ∀ n2, n2 < n → ∀ (yg : aa_G) (yb3 : Int32), rn_s n2 261 (59, [some (.ref 540), some (.int b1), some (.int b2), some (.int yb3)], [], aa_H yg) v h → P (.inl (yg, yb3))) (hR : ∀ E, iw_s v h E → P (.inr E))  (r : rn_s n 261 (75, [some (.ref 540), some (.int b1), some (.int b2), some (.int b3)], [.int s0], aa_H g) v h) : P (fn_261_75 g b1 b2 b3 s0) := by
  unfold fn_261_75
  refine rn_if (P) rfl decide_eq_true_iff.symm r (fun c37 l38n l38 r => ?_) (fun c37 l38n l38 r => ?_)
  · obtain ⟨n39, ln39, r⟩ := rn_steps 0 (92, [some (.ref 540), some (.int b1), some (.int b2), some (.int b3)], [.int 0], aa_H g) rfl r
    exact hR _ (rn_ire rfl r)
  · exact dn_261_78 (P) (fun n2 l2 => hO0 n2 (by omega)) (fun z hz => hR _ hz) r
noncomputable def fn_261_59b (g : aa_G) (b1 : Int32) (b2 : Int32) (b3 : Int32) : (aa_G × Int32) ⊕ (Int32 × aa_G) := if b1 < b3 then .inr ((fn_173 (zz_w g 540 34 ((g 540 34) + 1)) 59).1, (fn_173 (zz_w g 540 34 ((g 540 34) + 1)) 59).2) else if b3 ≤ 1 then fn_261_78 g b1 b2 b3 else fn_261_75 ((fn_173 g 44).2) b1 b2 b3 ((fn_173 g 44).1)
noncomputable def fn_261_59 (g : aa_G) (b1 : Int32) (b2 : Int32) (b3 : Int32) : Int32 × aa_G := lp_f (0, g) (fun z : (aa_G × Int32) => fn_261_59b z.1 b1 b2 z.2) (g, b3)
theorem dn_261_59l {v : Option Value} {h : zz_H} {N : Nat} {b1 : Int32} {b2 : Int32} {d : Int32 × aa_G} : ∀ (n : Nat), n ≤ N → ∀ (g : aa_G) (b3 : Int32), rn_s n 261 (59, [some (.ref 540), some (.int b1), some (.int b2), some (.int b3)], [], aa_H g) v h → (iw_s v h) (lp_f d (fun z : (aa_G × Int32) => fn_261_59b z.1 b1 b2 z.2) (g, b3)) := by
  generalize hf : (fun z : (aa_G × Int32) => fn_261_59b z.1 b1 b2 z.2) = f
  intro n
  induction n using Nat.strongRecOn with
  | _ n ih =>
    intro hN g b3  r
    refine lp_go ?_
    rw [← congrFun hf (g, b3)]
    show lp_q (iw_s v h) d f (fn_261_59b g b1 b2 b3)
    unfold fn_261_59b
    obtain ⟨n22, ln22, r⟩ := rn_steps 1 (61, [some (.ref 540), some (.int b1), some (.int b2), some (.int b3)], [.int b1, .int b3], aa_H g) rfl r
    refine rn_ic (lp_q (iw_s v h) d f) rfl decide_eq_true_iff.symm r (fun c23 l24n l24 r => ?_) (fun c23 l24n l24 r => ?_)
    · obtain ⟨n25, ln25, r⟩ := rn_steps 7 (124, [some (.ref 540), some (.int b1), some (.int b2), some (.int b3)], [.int 59, .ref 540], aa_H (zz_w g 540 34 ((g 540 34) + 1))) rfl r
      obtain ⟨_, n26, v1, h1, -, ln26, rc, r⟩ := rn_call (m2 := 173) (as := [.ref 540, .int 59]) (rest := []) rfl rfl r
      obtain ⟨rfl, rfl⟩ := dn_173 rc
      have r : rn_s _ 261 (127, [some (.ref 540), some (.int b1), some (.int b2), some (.int b3)], [.int ((fn_173 (zz_w g 540 34 ((g 540 34) + 1)) 59).1)], aa_H ((fn_173 (zz_w g 540 34 ((g 540 34) + 1)) 59).2)) v h := r
      exact rn_ire rfl r
    · obtain ⟨n28, ln28, r⟩ := rn_steps 1 (66, [some (.ref 540), some (.int b1), some (.int b2), some (.int b3)], [.int 1, .int b3], aa_H g) rfl r
      refine rn_ic (lp_q (iw_s v h) d f) rfl decide_eq_true_iff.symm r (fun c29 l30n l30 r => ?_) (fun c29 l30n l30 r => ?_)
      · exact dn_261_78 (lp_q (iw_s v h) d f) (fun n2 l2 => ih n2 (by omega) (by omega)) (fun z hz => hz) r
      · obtain ⟨n31, ln31, r⟩ := rn_steps 1 (72, [some (.ref 540), some (.int b1), some (.int b2), some (.int b3)], [.int 44, .ref 540], aa_H g) rfl r
        obtain ⟨_, n32, v1, h1, -, ln32, rc, r⟩ := rn_call (m2 := 173) (as := [.ref 540, .int 44]) (rest := []) rfl rfl r
        obtain ⟨rfl, rfl⟩ := dn_173 rc
        have r : rn_s _ 261 (75, [some (.ref 540), some (.int b1), some (.int b2), some (.int b3)], [.int ((fn_173 g 44).1)], aa_H ((fn_173 g 44).2)) v h := r
        exact dn_261_75 (lp_q (iw_s v h) d f) (fun n2 l2 => ih n2 (by omega) (by omega)) (fun z hz => hz) r
theorem dn_261_59 {v : Option Value} {h : zz_H} {n : Nat} {g : aa_G} {b1 : Int32} {b2 : Int32} {b3 : Int32}  (r : rn_s n 261 (59, [some (.ref 540), some (.int b1), some (.int b2), some (.int b3)], [], aa_H g) v h) : (iw_s v h) (fn_261_59 g b1 b2 b3) := dn_261_59l  n (Nat.le_refl n) g b3 r
noncomputable def fn_261_49 (g : aa_G) (b1 : Int32) (b2 : Int32) : Int32 × aa_G := fn_261_59 (zz_w g 540 5 ((g 540 5) + 1)) b1 b2 1
theorem dn_261_49 {v : Option Value} {h : zz_H} {n : Nat} {g : aa_G} {b1 : Int32} {b2 : Int32}  (x3 : Option Value) (jx3 : rn_jk x3) (r : rn_s n 261 (49, [some (.ref 540), some (.int b1), some (.int b2), x3], [.ref 540, .ref 540], aa_H g) v h) : iw_s v h (fn_261_49 g b1 b2) := by
  unfold fn_261_49
  obtain ⟨n21, ln21, r⟩ := rn_steps 5 (59, [some (.ref 540), some (.int b1), some (.int b2), some (.int 1)], [], aa_H (zz_w g 540 5 ((g 540 5) + 1))) rfl r
  exact dn_261_59 r
noncomputable def fn_261 (g : aa_G)  : Int32 × aa_G := if (fn_262 (fn_167 g)) = 0 then fn_261_21 g else if (g 540 34) ≠ 30 then fn_261_49 (zz_w g 552 (5 * (g 540 34)).toNatClampNeg (fn_167 g)) (fn_262 (fn_167 g)) (5 * (g 540 34)) else fn_261_21 g
theorem dn_261 {v : Option Value} {h : zz_H} {n : Nat} {g : aa_G}   (r : rn_s n 261 (0, zz_in [.ref 540] (zz_nl 261), [], aa_H g) v h) : iw_s v h (fn_261 g) := by
  have r : rn_s n 261 (0, [some (.ref 540), none, none, none], [], aa_H g) v h := r
  unfold fn_261
  obtain ⟨n1, ln1, r⟩ := rn_steps 0 (1, [some (.ref 540), none, none, none], [.ref 540], aa_H g) rfl r
  obtain ⟨_, n2, v1, h1, -, ln2, rc, r⟩ := rn_call (m2 := 167) (as := [.ref 540]) (rest := []) rfl rfl r
  obtain ⟨rfl, rfl⟩ := dn_167 rc
  have r : rn_s _ 261 (4, [some (.ref 540), none, none, none], [.int (fn_167 g)], aa_H g) v h := r
  obtain ⟨_, n4, v1, h1, -, ln4, rc, r⟩ := rn_call (m2 := 262) (as := [.int (fn_167 g)]) (rest := []) rfl rfl r
  obtain ⟨rfl, rfl⟩ := dn_262 rc
  have r : rn_s _ 261 (7, [some (.ref 540), none, none, none], [.int (fn_262 (fn_167 g))], aa_H g) v h := r
  obtain ⟨n6, ln6, r⟩ := rn_steps 1 (9, [some (.ref 540), some (.int (fn_262 (fn_167 g))), none, none], [.int (fn_262 (fn_167 g))], aa_H g) rfl r
  refine rn_if (iw_s v h) rfl decide_eq_true_iff.symm r (fun c7 l8n l8 r => ?_) (fun c7 l8n l8 r => ?_)
  · exact dn_261_21 (some (.int (fn_262 (fn_167 g)))) none none rn_ji rn_jn rn_jn r
  · obtain ⟨n9, ln9, r⟩ := rn_steps 2 (18, [some (.ref 540), some (.int (fn_262 (fn_167 g))), none, none], [.int 30, .int (g 540 34)], aa_H g) rfl r
    refine rn_ic (iw_s v h) rfl decide_eq_true_iff.symm r (fun c10 l11n l11 r => ?_) (fun c10 l11n l11 r => ?_)
    · obtain ⟨n12, ln12, r⟩ := rn_steps 8 (43, [some (.ref 540), some (.int (fn_262 (fn_167 g))), some (.int (5 * (g 540 34))), none], [.ref 540, .int (5 * (g 540 34)), .ref 552], aa_H g) rfl r
      obtain ⟨_, n13, v1, h1, -, ln13, rc, r⟩ := rn_call (m2 := 167) (as := [.ref 540]) (rest := [.int (5 * (g 540 34)), .ref 552]) rfl rfl r
      obtain ⟨rfl, rfl⟩ := dn_167 rc
      have r : rn_s _ 261 (46, [some (.ref 540), some (.int (fn_262 (fn_167 g))), some (.int (5 * (g 540 34))), none], [.int (fn_167 g), .int (5 * (g 540 34)), .ref 552], aa_H g) v h := r
      obtain ⟨hb16, n15, ln15, r⟩ := rn_ias (k := 552) rfl ⟨by decide, by decide⟩ rfl r
      have r : rn_s _ 261 (47, [some (.ref 540), some (.int (fn_262 (fn_167 g))), some (.int (5 * (g 540 34))), none], [], aa_H (zz_w g 552 (5 * (g 540 34)).toNatClampNeg (fn_167 g))) v h := r
      obtain ⟨n17, ln17, r⟩ := rn_steps 1 (49, [some (.ref 540), some (.int (fn_262 (fn_167 g))), some (.int (5 * (g 540 34))), none], [.ref 540, .ref 540], aa_H (zz_w g 552 (5 * (g 540 34)).toNatClampNeg (fn_167 g))) rfl r
      exact dn_261_49 none rn_jn r
    · exact dn_261_21 (some (.int (fn_262 (fn_167 g)))) none none rn_ji rn_jn rn_jn r
-- 165: UnequalHoursModel beginText
noncomputable def fn_165 (g : aa_G)  : aa_G := zz_w (zz_w g 540 5 0) 540 6 (-1)
theorem dn_165 {v : Option Value} {h : zz_H} {n : Nat} {g : aa_G}   (r : rn_s n 165 (0, zz_in [.ref 540] (zz_nl 165), [], aa_H g) v h) : ig_s v h (fn_165 g) := by
  have r : rn_s n 165 (0, [some (.ref 540)], [], aa_H g) v h := r
  unfold fn_165
  obtain ⟨n1, ln1, r⟩ := rn_steps 5 (10, [some (.ref 540)], [], aa_H (zz_w (zz_w g 540 5 0) 540 6 (-1))) rfl r
  exact rn_ret 1 rfl r
-- 260: UnequalHoursModel acts
noncomputable def fn_260_30 (g : aa_G) (s0 : Int32) : (aa_G × Int32) ⊕ (Int32 × aa_G) := .inl (g, s0)
theorem dn_260_30 {v : Option Value} {h : zz_H} {n : Nat} {g : aa_G} {s0 : Int32} (P : (aa_G × Int32) ⊕ (Int32 × aa_G) → Prop) (hO0 : ∀ n2, n2 < n → ∀ (yg : aa_G) (yb1 : Int32) (yx2 : Option Value) (_ : rn_jk yx2), rn_s n2 260 (11, [some (.ref 540), some (.int yb1), yx2], [], aa_H yg) v h → P (.inl (yg, yb1))) (hR : ∀ E, iw_s v h E → P (.inr E))  (x1 x2 : Option Value) (jx1 : rn_jk x1) (jx2 : rn_jk x2) (r : rn_s n 260 (30, [some (.ref 540), x1, x2], [.int s0], aa_H g) v h) : P (fn_260_30 g s0) := by
  unfold fn_260_30
  obtain ⟨n19, ln19, r⟩ := rn_steps 1 (11, [some (.ref 540), some (.int s0), x2], [], aa_H g) rfl r
  exact hO0 _ (by omega) g s0 x2 jx2 r
noncomputable def fn_260_71 (g : aa_G) (b2 : Int32) : Int32 × aa_G := if (g 540 34) ≤ b2 then (b2, zz_w g 540 35 (-1)) else (b2, zz_w g 540 35 b2)
theorem dn_260_71 {v : Option Value} {h : zz_H} {n : Nat} {g : aa_G} {b2 : Int32}  (x1 : Option Value) (jx1 : rn_jk x1) (r : rn_s n 260 (71, [some (.ref 540), x1, some (.int b2)], [], aa_H g) v h) : iw_s v h (fn_260_71 g b2) := by
  unfold fn_260_71
  obtain ⟨n26, ln26, r⟩ := rn_steps 3 (77, [some (.ref 540), x1, some (.int b2)], [.int (g 540 34), .int b2, .ref 540], aa_H g) rfl r
  refine rn_ic (iw_s v h) rfl decide_eq_true_iff.symm r (fun c27 l28n l28 r => ?_) (fun c27 l28n l28 r => ?_)
  · obtain ⟨n29, ln29, r⟩ := rn_steps 2 (89, [some (.ref 540), x1, some (.int b2)], [.int b2], aa_H (zz_w g 540 35 (-1))) rfl r
    exact rn_ire rfl r
  · obtain ⟨n30, ln30, r⟩ := rn_steps 3 (89, [some (.ref 540), x1, some (.int b2)], [.int b2], aa_H (zz_w g 540 35 b2)) rfl r
    exact rn_ire rfl r
noncomputable def fn_260_62 (g : aa_G) (b2 : Int32) (s0 : Int32) : (aa_G × Int32) ⊕ (Int32 × aa_G) := if s0 = 0 then .inr (fn_260_71 g b2) else .inl (g, b2 + 1)
theorem dn_260_62 {v : Option Value} {h : zz_H} {n : Nat} {g : aa_G} {b2 : Int32} {s0 : Int32} (P : (aa_G × Int32) ⊕ (Int32 × aa_G) → Prop) (hO0 : ∀ n2, n2 < n → ∀ (yg : aa_G) (yb2 : Int32) (yx1 : Option Value) (_ : rn_jk yx1), rn_s n2 260 (47, [some (.ref 540), yx1, some (.int yb2)], [], aa_H yg) v h → P (.inl (yg, yb2))) (hR : ∀ E, iw_s v h E → P (.inr E))  (x1 : Option Value) (jx1 : rn_jk x1) (r : rn_s n 260 (62, [some (.ref 540), x1, some (.int b2)], [.int s0], aa_H g) v h) : P (fn_260_62 g b2 s0) := by
  unfold fn_260_62
  refine rn_if (P) rfl decide_eq_true_iff.symm r (fun c31 l32n l32 r => ?_) (fun c31 l32n l32 r => ?_)
  · exact hR _ (dn_260_71 x1 jx1 r)
  · obtain ⟨n33, ln33, r⟩ := rn_iin (i := 2) rfl rfl jx1 rfl rfl ⟨Nat.le_of_ble_eq_true rfl, Nat.le_of_ble_eq_true rfl⟩ r
    have r : rn_s _ 260 (68, [some (.ref 540), x1, some (.int (b2 + 1))], [], aa_H g) v h := r
    obtain ⟨n34, ln34, r⟩ := rn_steps 0 (47, [some (.ref 540), x1, some (.int (b2 + 1))], [], aa_H g) rfl r
    exact hO0 _ (by omega) g (b2 + 1) x1 jx1 r
noncomputable def fn_260_47b (g : aa_G) (b2 : Int32) : (aa_G × Int32) ⊕ (Int32 × aa_G) := if (g 540 34) ≤ b2 then .inr (fn_260_71 g b2) else fn_260_62 ((fn_263 g (5 * b2)).2) b2 ((fn_263 g (5 * b2)).1)
noncomputable def fn_260_47 (g : aa_G) (b2 : Int32) : Int32 × aa_G := lp_f (0, g) (fun z : (aa_G × Int32) => fn_260_47b z.1 z.2) (g, b2)
theorem dn_260_47l {v : Option Value} {h : zz_H} {N : Nat}  {d : Int32 × aa_G} : ∀ (n : Nat), n ≤ N → ∀ (g : aa_G) (b2 : Int32) (x1 : Option Value) (jx1 : rn_jk x1), rn_s n 260 (47, [some (.ref 540), x1, some (.int b2)], [], aa_H g) v h → (iw_s v h) (lp_f d (fun z : (aa_G × Int32) => fn_260_47b z.1 z.2) (g, b2)) := by
  generalize hf : (fun z : (aa_G × Int32) => fn_260_47b z.1 z.2) = f
  intro n
  induction n using Nat.strongRecOn with
  | _ n ih =>
    intro hN g b2 x1 jx1 r
    refine lp_go ?_
    rw [← congrFun hf (g, b2)]
    show lp_q (iw_s v h) d f (fn_260_47b g b2)
    unfold fn_260_47b
    obtain ⟨n20, ln20, r⟩ := rn_steps 2 (52, [some (.ref 540), x1, some (.int b2)], [.int (g 540 34), .int b2], aa_H g) rfl r
    refine rn_ic (lp_q (iw_s v h) d f) rfl decide_eq_true_iff.symm r (fun c21 l22n l22 r => ?_) (fun c21 l22n l22 r => ?_)
    · exact dn_260_71 x1 jx1 r
    · obtain ⟨n23, ln23, r⟩ := rn_steps 3 (59, [some (.ref 540), x1, some (.int b2)], [.int (5 * b2), .ref 540], aa_H g) rfl r
      obtain ⟨_, n24, v1, h1, -, ln24, rc, r⟩ := rn_call (m2 := 263) (as := [.ref 540, .int (5 * b2)]) (rest := []) rfl rfl r
      obtain ⟨rfl, rfl⟩ := dn_263 rc
      have r : rn_s _ 260 (62, [some (.ref 540), x1, some (.int b2)], [.int ((fn_263 g (5 * b2)).1)], aa_H ((fn_263 g (5 * b2)).2)) v h := r
      exact dn_260_62 (lp_q (iw_s v h) d f) (fun n2 l2 => ih n2 (by omega) (by omega)) (fun z hz => hz) x1 jx1 r
theorem dn_260_47 {v : Option Value} {h : zz_H} {n : Nat} {g : aa_G} {b2 : Int32}  (x1 : Option Value) (jx1 : rn_jk x1) (r : rn_s n 260 (47, [some (.ref 540), x1, some (.int b2)], [], aa_H g) v h) : (iw_s v h) (fn_260_47 g b2) := dn_260_47l  n (Nat.le_refl n) g b2 x1 jx1 r
noncomputable def fn_260_34 (g : aa_G) (b1 : Int32) : Int32 × aa_G := if b1 ≠ 0 then fn_260_47 (zz_w g 540 4 0) 0 else (-1, zz_w g 540 4 0)
theorem dn_260_34 {v : Option Value} {h : zz_H} {n : Nat} {g : aa_G} {b1 : Int32}  (x2 : Option Value) (jx2 : rn_jk x2) (r : rn_s n 260 (34, [some (.ref 540), some (.int b1), x2], [], aa_H g) v h) : iw_s v h (fn_260_34 g b1) := by
  unfold fn_260_34
  obtain ⟨n14, ln14, r⟩ := rn_steps 3 (40, [some (.ref 540), some (.int b1), x2], [.int b1], aa_H (zz_w g 540 4 0)) rfl r
  refine rn_if (iw_s v h) rfl decide_eq_true_iff.symm r (fun c15 l16n l16 r => ?_) (fun c15 l16n l16 r => ?_)
  · obtain ⟨n17, ln17, r⟩ := rn_steps 1 (47, [some (.ref 540), some (.int b1), some (.int 0)], [], aa_H (zz_w g 540 4 0)) rfl r
    exact dn_260_47 (some (.int b1)) rn_ji r
  · obtain ⟨n18, ln18, r⟩ := rn_steps 0 (44, [some (.ref 540), some (.int b1), x2], [.int (-1)], aa_H (zz_w g 540 4 0)) rfl r
    exact rn_ire rfl r
noncomputable def fn_260_11b (g : aa_G) (b1 : Int32) : (aa_G × Int32) ⊕ (Int32 × aa_G) := if b1 = 0 then .inr (fn_260_34 g b1) else if (g 540 4) ≤ (g 540 5) then .inr (fn_260_34 g b1) else fn_260_30 ((fn_261 g).2) ((fn_261 g).1)
noncomputable def fn_260_11 (g : aa_G) (b1 : Int32) : Int32 × aa_G := lp_f (0, g) (fun z : (aa_G × Int32) => fn_260_11b z.1 z.2) (g, b1)
theorem dn_260_11l {v : Option Value} {h : zz_H} {N : Nat}  {d : Int32 × aa_G} : ∀ (n : Nat), n ≤ N → ∀ (g : aa_G) (b1 : Int32) (x2 : Option Value) (jx2 : rn_jk x2), rn_s n 260 (11, [some (.ref 540), some (.int b1), x2], [], aa_H g) v h → (iw_s v h) (lp_f d (fun z : (aa_G × Int32) => fn_260_11b z.1 z.2) (g, b1)) := by
  generalize hf : (fun z : (aa_G × Int32) => fn_260_11b z.1 z.2) = f
  intro n
  induction n using Nat.strongRecOn with
  | _ n ih =>
    intro hN g b1 x2 jx2 r
    refine lp_go ?_
    rw [← congrFun hf (g, b1)]
    show lp_q (iw_s v h) d f (fn_260_11b g b1)
    unfold fn_260_11b
    obtain ⟨n5, ln5, r⟩ := rn_steps 0 (12, [some (.ref 540), some (.int b1), x2], [.int b1], aa_H g) rfl r
    refine rn_if (lp_q (iw_s v h) d f) rfl decide_eq_true_iff.symm r (fun c6 l7n l7 r => ?_) (fun c6 l7n l7 r => ?_)
    · exact dn_260_34 x2 jx2 r
    · obtain ⟨n8, ln8, r⟩ := rn_steps 3 (23, [some (.ref 540), some (.int b1), x2], [.int (g 540 4), .int (g 540 5)], aa_H g) rfl r
      refine rn_ic (lp_q (iw_s v h) d f) rfl decide_eq_true_iff.symm r (fun c9 l10n l10 r => ?_) (fun c9 l10n l10 r => ?_)
      · exact dn_260_34 x2 jx2 r
      · obtain ⟨n11, ln11, r⟩ := rn_steps 0 (27, [some (.ref 540), some (.int b1), x2], [.ref 540], aa_H g) rfl r
        obtain ⟨_, n12, v1, h1, -, ln12, rc, r⟩ := rn_call (m2 := 261) (as := [.ref 540]) (rest := []) rfl rfl r
        obtain ⟨rfl, rfl⟩ := dn_261 rc
        have r : rn_s _ 260 (30, [some (.ref 540), some (.int b1), x2], [.int ((fn_261 g).1)], aa_H ((fn_261 g).2)) v h := r
        exact dn_260_30 (lp_q (iw_s v h) d f) (fun n2 l2 => ih n2 (by omega) (by omega)) (fun z hz => hz) (some (.int b1)) x2 rn_ji jx2 r
theorem dn_260_11 {v : Option Value} {h : zz_H} {n : Nat} {g : aa_G} {b1 : Int32}  (x2 : Option Value) (jx2 : rn_jk x2) (r : rn_s n 260 (11, [some (.ref 540), some (.int b1), x2], [], aa_H g) v h) : (iw_s v h) (fn_260_11 g b1) := dn_260_11l  n (Nat.le_refl n) g b1 x2 jx2 r
noncomputable def fn_260_4 (g : aa_G)  : Int32 × aa_G := fn_260_11 (zz_w g 540 34 0) 1
theorem dn_260_4 {v : Option Value} {h : zz_H} {n : Nat} {g : aa_G}   (x1 x2 : Option Value) (jx1 : rn_jk x1) (jx2 : rn_jk x2) (r : rn_s n 260 (4, [some (.ref 540), x1, x2], [], aa_H g) v h) : iw_s v h (fn_260_4 g) := by
  unfold fn_260_4
  obtain ⟨n4, ln4, r⟩ := rn_steps 4 (11, [some (.ref 540), some (.int 1), x2], [], aa_H (zz_w g 540 34 0)) rfl r
  exact dn_260_11 x2 jx2 r
noncomputable def fn_260 (g : aa_G)  : Int32 × aa_G := fn_260_4 (fn_165 g)
theorem dn_260 {v : Option Value} {h : zz_H} {n : Nat} {g : aa_G}   (r : rn_s n 260 (0, zz_in [.ref 540] (zz_nl 260), [], aa_H g) v h) : iw_s v h (fn_260 g) := by
  have r : rn_s n 260 (0, [some (.ref 540), none, none], [], aa_H g) v h := r
  unfold fn_260
  obtain ⟨n1, ln1, r⟩ := rn_steps 0 (1, [some (.ref 540), none, none], [.ref 540], aa_H g) rfl r
  obtain ⟨_, n2, v1, h1, -, ln2, rc, r⟩ := rn_call (m2 := 165) (as := [.ref 540]) (rest := []) rfl rfl r
  obtain ⟨rfl, rfl⟩ := dn_165 rc
  have r : rn_s _ 260 (4, [some (.ref 540), none, none], [], aa_H (fn_165 g)) v h := r
  exact dn_260_4 none none rn_jn rn_jn r
