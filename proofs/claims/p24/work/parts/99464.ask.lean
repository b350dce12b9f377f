section
/-! METHODS READ (printed by wip/dc/dc.py) -/
-- 188: UnequalHoursModel does
noncomputable def fn_188_12 (g : aa_G)  : aa_G := zz_w g 540 11 ((g 540 11) + 1)
theorem dn_188_12 {v : Option Value} {h : zz_H} {n : Nat} {g : aa_G}   (x0 x1 : Option Value) (jx0 : rn_jk x0) (jx1 : rn_jk x1) (r : rn_s n 188 (12, [x0, x1], [.ref 540, .ref 540], aa_H g) v h) : ig_s v h (fn_188_12 g) := by
  unfold fn_188_12
  obtain ⟨n5, ln5, r⟩ := rn_steps 3 (20, [x0, x1], [], aa_H (zz_w g 540 11 ((g 540 11) + 1))) rfl r
  exact rn_ret 1 rfl r
noncomputable def fn_188 (g : aa_G) (a1 : Int32) : aa_G := fn_188_12 (zz_w g 545 (g 540 11).toNatClampNeg a1)
theorem dn_188 {v : Option Value} {h : zz_H} {n : Nat} {g : aa_G} {a1 : Int32}  (r : rn_s n 188 (0, zz_in [.ref 540, .int a1] (zz_nl 188), [], aa_H g) v h) : ig_s v h (fn_188 g a1) := by
  have r : rn_s n 188 (0, [some (.ref 540), some (.int a1)], [], aa_H g) v h := r
  unfold fn_188
  obtain ⟨n1, ln1, r⟩ := rn_steps 4 (9, [some (.ref 540), some (.int a1)], [.int a1, .int (g 540 11), .ref 545], aa_H g) rfl r
  obtain ⟨hb3, n2, ln2, r⟩ := rn_ias (k := 545) rfl ⟨by decide, by decide⟩ rfl r
  have r : rn_s _ 188 (10, [some (.ref 540), some (.int a1)], [], aa_H (zz_w g 545 (g 540 11).toNatClampNeg a1)) v h := r
  obtain ⟨n4, ln4, r⟩ := rn_steps 1 (12, [some (.ref 540), some (.int a1)], [.ref 540, .ref 540], aa_H (zz_w g 545 (g 540 11).toNatClampNeg a1)) rfl r
  exact dn_188_12 (some (.ref 540)) (some (.int a1)) rn_jr rn_ji r
-- 187: UnequalHoursModel nameOf
noncomputable def fn_187 (a0 : Int32) : Int32 := if a0 ≠ 119 then if a0 ≠ 121 then if a0 ≠ 108 then if a0 ≠ 116 then if a0 ≠ 122 then -1 else 4 else 3 else 2 else 1 else 0
theorem dn_187 {v : Option Value} {h : zz_H} {n : Nat} {g : aa_G} {a0 : Int32}  (r : rn_s n 187 (0, zz_in [.int a0] (zz_nl 187), [], aa_H g) v h) : ir_s g v h (fn_187 a0) := by
  have r : rn_s n 187 (0, [some (.int a0)], [], aa_H g) v h := r
  unfold fn_187
  obtain ⟨n1, ln1, r⟩ := rn_steps 1 (3, [some (.int a0)], [.int 119, .int a0], aa_H g) rfl r
  refine rn_ic (ir_s g v h) rfl decide_eq_true_iff.symm r (fun c2 l3n l3 r => ?_) (fun c2 l3n l3 r => ?_)
  · obtain ⟨n4, ln4, r⟩ := rn_steps 1 (13, [some (.int a0)], [.int 121, .int a0], aa_H g) rfl r
    refine rn_ic (ir_s g v h) rfl decide_eq_true_iff.symm r (fun c5 l6n l6 r => ?_) (fun c5 l6n l6 r => ?_)
    · obtain ⟨n7, ln7, r⟩ := rn_steps 1 (23, [some (.int a0)], [.int 108, .int a0], aa_H g) rfl r
      refine rn_ic (ir_s g v h) rfl decide_eq_true_iff.symm r (fun c8 l9n l9 r => ?_) (fun c8 l9n l9 r => ?_)
      · obtain ⟨n10, ln10, r⟩ := rn_steps 1 (33, [some (.int a0)], [.int 116, .int a0], aa_H g) rfl r
        refine rn_ic (ir_s g v h) rfl decide_eq_true_iff.symm r (fun c11 l12n l12 r => ?_) (fun c11 l12n l12 r => ?_)
        · obtain ⟨n13, ln13, r⟩ := rn_steps 1 (43, [some (.int a0)], [.int 122, .int a0], aa_H g) rfl r
          refine rn_ic (ir_s g v h) rfl decide_eq_true_iff.symm r (fun c14 l15n l15 r => ?_) (fun c14 l15n l15 r => ?_)
          · obtain ⟨n16, ln16, r⟩ := rn_steps 0 (51, [some (.int a0)], [.int (-1)], aa_H g) rfl r
            exact rn_ire rfl r
          · obtain ⟨n17, ln17, r⟩ := rn_steps 1 (51, [some (.int a0)], [.int 4], aa_H g) rfl r
            exact rn_ire rfl r
        · obtain ⟨n18, ln18, r⟩ := rn_steps 1 (51, [some (.int a0)], [.int 3], aa_H g) rfl r
          exact rn_ire rfl r
      · obtain ⟨n19, ln19, r⟩ := rn_steps 1 (51, [some (.int a0)], [.int 2], aa_H g) rfl r
        exact rn_ire rfl r
    · obtain ⟨n20, ln20, r⟩ := rn_steps 1 (51, [some (.int a0)], [.int 1], aa_H g) rfl r
      exact rn_ire rfl r
  · obtain ⟨n21, ln21, r⟩ := rn_steps 1 (51, [some (.int a0)], [.int 0], aa_H g) rfl r
    exact rn_ire rfl r
-- 186: UnequalHoursModel readThing
noncomputable def fn_186_29 (g : aa_G)  : Int32 × aa_G := ((fn_169 g (g 540 5)).1, (fn_169 g (g 540 5)).2)
theorem dn_186_29 {v : Option Value} {h : zz_H} {n : Nat} {g : aa_G}   (x1 : Option Value) (jx1 : rn_jk x1) (r : rn_s n 186 (29, [some (.ref 540), x1], [], aa_H g) v h) : iw_s v h (fn_186_29 g) := by
  unfold fn_186_29
  obtain ⟨n33, ln33, r⟩ := rn_steps 2 (34, [some (.ref 540), x1], [.int (g 540 5), .ref 540], aa_H g) rfl r
  obtain ⟨_, n34, v1, h1, -, ln34, rc, r⟩ := rn_call (m2 := 169) (as := [.ref 540, .int (g 540 5)]) (rest := []) rfl rfl r
  obtain ⟨rfl, rfl⟩ := dn_169 rc
  have r : rn_s _ 186 (37, [some (.ref 540), x1], [.int ((fn_169 g (g 540 5)).1)], aa_H ((fn_169 g (g 540 5)).2)) v h := r
  exact rn_ire rfl r
noncomputable def fn_186_59 (g : aa_G) (s0 : Int32) : Int32 × aa_G := if s0 ≠ 0 then (1, fn_188 g (g 540 7)) else (0, g)
theorem dn_186_59 {v : Option Value} {h : zz_H} {n : Nat} {g : aa_G} {s0 : Int32}  (x1 : Option Value) (jx1 : rn_jk x1) (r : rn_s n 186 (59, [some (.ref 540), x1], [.int s0], aa_H g) v h) : iw_s v h (fn_186_59 g s0) := by
  unfold fn_186_59
  refine rn_if (iw_s v h) rfl decide_eq_true_iff.symm r (fun c37 l38n l38 r => ?_) (fun c37 l38n l38 r => ?_)
  · obtain ⟨n39, ln39, r⟩ := rn_steps 2 (69, [some (.ref 540), x1], [.int (g 540 7), .ref 540], aa_H g) rfl r
    obtain ⟨_, n40, v1, h1, -, ln40, rc, r⟩ := rn_call (m2 := 188) (as := [.ref 540, .int (g 540 7)]) (rest := []) rfl rfl r
    obtain ⟨rfl, rfl⟩ := dn_188 rc
    have r : rn_s _ 186 (72, [some (.ref 540), x1], [], aa_H (fn_188 g (g 540 7))) v h := r
    obtain ⟨n42, ln42, r⟩ := rn_steps 0 (73, [some (.ref 540), x1], [.int 1], aa_H (fn_188 g (g 540 7))) rfl r
    exact rn_ire rfl r
  · obtain ⟨n43, ln43, r⟩ := rn_steps 0 (63, [some (.ref 540), x1], [.int 0], aa_H g) rfl r
    exact rn_ire rfl r
noncomputable def fn_186_87 (g : aa_G)  : Int32 × aa_G := (1, zz_w g 540 5 ((g 540 5) + 1))
theorem dn_186_87 {v : Option Value} {h : zz_H} {n : Nat} {g : aa_G}   (x0 x1 : Option Value) (jx0 : rn_jk x0) (jx1 : rn_jk x1) (r : rn_s n 186 (87, [x0, x1], [.ref 540, .ref 540], aa_H g) v h) : iw_s v h (fn_186_87 g) := by
  unfold fn_186_87
  obtain ⟨n36, ln36, r⟩ := rn_steps 4 (96, [x0, x1], [.int 1], aa_H (zz_w g 540 5 ((g 540 5) + 1))) rfl r
  exact rn_ire rfl r
noncomputable def fn_186_20 (g : aa_G) (b1 : Int32) : Int32 × aa_G := if (g 540 12) ≠ 40 then if (fn_172 b1) = 0 then fn_186_87 (fn_188 (zz_w g 540 12 ((g 540 12) + 1)) (100000 + (fn_187 b1))) else fn_186_59 ((fn_171 (zz_w g 540 12 ((g 540 12) + 1))).2) ((fn_171 (zz_w g 540 12 ((g 540 12) + 1))).1) else fn_186_29 g
theorem dn_186_20 {v : Option Value} {h : zz_H} {n : Nat} {g : aa_G} {b1 : Int32}  (r : rn_s n 186 (20, [some (.ref 540), some (.int b1)], [], aa_H g) v h) : iw_s v h (fn_186_20 g b1) := by
  unfold fn_186_20
  obtain ⟨n15, ln15, r⟩ := rn_steps 2 (26, [some (.ref 540), some (.int b1)], [.int 40, .int (g 540 12)], aa_H g) rfl r
  refine rn_ic (iw_s v h) rfl decide_eq_true_iff.symm r (fun c16 l17n l17 r => ?_) (fun c16 l17n l17 r => ?_)
  · obtain ⟨n18, ln18, r⟩ := rn_steps 6 (49, [some (.ref 540), some (.int b1)], [.int b1], aa_H (zz_w g 540 12 ((g 540 12) + 1))) rfl r
    obtain ⟨_, n19, v1, h1, -, ln19, rc, r⟩ := rn_call (m2 := 172) (as := [.int b1]) (rest := []) rfl rfl r
    obtain ⟨rfl, rfl⟩ := dn_172 rc
    have r : rn_s _ 186 (52, [some (.ref 540), some (.int b1)], [.int (fn_172 b1)], aa_H (zz_w g 540 12 ((g 540 12) + 1))) v h := r
    refine rn_if (iw_s v h) rfl decide_eq_true_iff.symm r (fun c21 l22n l22 r => ?_) (fun c21 l22n l22 r => ?_)
    · obtain ⟨n23, ln23, r⟩ := rn_steps 2 (78, [some (.ref 540), some (.int b1)], [.int b1, .int 100000, .ref 540], aa_H (zz_w g 540 12 ((g 540 12) + 1))) rfl r
      obtain ⟨_, n24, v1, h1, -, ln24, rc, r⟩ := rn_call (m2 := 187) (as := [.int b1]) (rest := [.int 100000, .ref 540]) rfl rfl r
      obtain ⟨rfl, rfl⟩ := dn_187 rc
      have r : rn_s _ 186 (81, [some (.ref 540), some (.int b1)], [.int (fn_187 b1), .int 100000, .ref 540], aa_H (zz_w g 540 12 ((g 540 12) + 1))) v h := r
      obtain ⟨n26, ln26, r⟩ := rn_steps 0 (82, [some (.ref 540), some (.int b1)], [.int (100000 + (fn_187 b1)), .ref 540], aa_H (zz_w g 540 12 ((g 540 12) + 1))) rfl r
      obtain ⟨_, n27, v1, h1, -, ln27, rc, r⟩ := rn_call (m2 := 188) (as := [.ref 540, .int (100000 + (fn_187 b1))]) (rest := []) rfl rfl r
      obtain ⟨rfl, rfl⟩ := dn_188 rc
      have r : rn_s _ 186 (85, [some (.ref 540), some (.int b1)], [], aa_H (fn_188 (zz_w g 540 12 ((g 540 12) + 1)) (100000 + (fn_187 b1)))) v h := r
      obtain ⟨n29, ln29, r⟩ := rn_steps 1 (87, [some (.ref 540), some (.int b1)], [.ref 540, .ref 540], aa_H (fn_188 (zz_w g 540 12 ((g 540 12) + 1)) (100000 + (fn_187 b1)))) rfl r
      exact dn_186_87 (some (.ref 540)) (some (.int b1)) rn_jr rn_ji r
    · obtain ⟨n30, ln30, r⟩ := rn_steps 0 (56, [some (.ref 540), some (.int b1)], [.ref 540], aa_H (zz_w g 540 12 ((g 540 12) + 1))) rfl r
      obtain ⟨_, n31, v1, h1, -, ln31, rc, r⟩ := rn_call (m2 := 171) (as := [.ref 540]) (rest := []) rfl rfl r
      obtain ⟨rfl, rfl⟩ := dn_171 rc
      have r : rn_s _ 186 (59, [some (.ref 540), some (.int b1)], [.int ((fn_171 (zz_w g 540 12 ((g 540 12) + 1))).1)], aa_H ((fn_171 (zz_w g 540 12 ((g 540 12) + 1))).2)) v h := r
      exact dn_186_59 (some (.int b1)) rn_ji r
  · exact dn_186_29 (some (.int b1)) rn_ji r
noncomputable def fn_186 (g : aa_G)  : Int32 × aa_G := if (fn_172 (fn_167 g)) ≠ 0 then fn_186_20 g (fn_167 g) else if (fn_187 (fn_167 g)) = (-1) then fn_186_29 g else fn_186_20 g (fn_167 g)
theorem dn_186 {v : Option Value} {h : zz_H} {n : Nat} {g : aa_G}   (r : rn_s n 186 (0, zz_in [.ref 540] (zz_nl 186), [], aa_H g) v h) : iw_s v h (fn_186 g) := by
  have r : rn_s n 186 (0, [some (.ref 540), none], [], aa_H g) v h := r
  unfold fn_186
  obtain ⟨n1, ln1, r⟩ := rn_steps 0 (1, [some (.ref 540), none], [.ref 540], aa_H g) rfl r
  obtain ⟨_, n2, v1, h1, -, ln2, rc, r⟩ := rn_call (m2 := 167) (as := [.ref 540]) (rest := []) rfl rfl r
  obtain ⟨rfl, rfl⟩ := dn_167 rc
  have r : rn_s _ 186 (4, [some (.ref 540), none], [.int (fn_167 g)], aa_H g) v h := r
  obtain ⟨n4, ln4, r⟩ := rn_steps 1 (6, [some (.ref 540), some (.int (fn_167 g))], [.int (fn_167 g)], aa_H g) rfl r
  obtain ⟨_, n5, v1, h1, -, ln5, rc, r⟩ := rn_call (m2 := 172) (as := [.int (fn_167 g)]) (rest := []) rfl rfl r
  obtain ⟨rfl, rfl⟩ := dn_172 rc
  have r : rn_s _ 186 (9, [some (.ref 540), some (.int (fn_167 g))], [.int (fn_172 (fn_167 g))], aa_H g) v h := r
  refine rn_if (iw_s v h) rfl decide_eq_true_iff.symm r (fun c7 l8n l8 r => ?_) (fun c7 l8n l8 r => ?_)
  · exact dn_186_20 r
  · obtain ⟨n9, ln9, r⟩ := rn_steps 0 (13, [some (.ref 540), some (.int (fn_167 g))], [.int (fn_167 g)], aa_H g) rfl r
    obtain ⟨_, n10, v1, h1, -, ln10, rc, r⟩ := rn_call (m2 := 187) (as := [.int (fn_167 g)]) (rest := []) rfl rfl r
    obtain ⟨rfl, rfl⟩ := dn_187 rc
    have r : rn_s _ 186 (16, [some (.ref 540), some (.int (fn_167 g))], [.int (fn_187 (fn_167 g))], aa_H g) v h := r
    obtain ⟨n12, ln12, r⟩ := rn_steps 0 (17, [some (.ref 540), some (.int (fn_167 g))], [.int (-1), .int (fn_187 (fn_167 g))], aa_H g) rfl r
    refine rn_ic (iw_s v h) rfl decide_eq_true_iff.symm r (fun c13 l14n l14 r => ?_) (fun c13 l14n l14 r => ?_)
    · exact dn_186_29 (some (.int (fn_167 g))) rn_ji r
    · exact dn_186_20 r
-- 185: UnequalHoursModel readProduct
noncomputable def fn_185_59 (g : aa_G)  : aa_G ⊕ (Int32 × aa_G) := .inl g
theorem dn_185_59 {v : Option Value} {h : zz_H} {n : Nat} {g : aa_G}  (P : aa_G ⊕ (Int32 × aa_G) → Prop) (hO0 : ∀ n2, n2 < n → ∀ (yg : aa_G) (yx1 : Option Value) (_ : rn_jk yx1), rn_s n2 185 (9, [some (.ref 540), yx1], [], aa_H yg) v h → P (.inl yg)) (hR : ∀ E, iw_s v h E → P (.inr E))  (x1 : Option Value) (jx1 : rn_jk x1) (r : rn_s n 185 (59, [some (.ref 540), x1], [], aa_H g) v h) : P (fn_185_59 g) := by
  unfold fn_185_59
  obtain ⟨n32, ln32, r⟩ := rn_steps 0 (9, [some (.ref 540), x1], [], aa_H g) rfl r
  exact hO0 _ (by omega) g x1 jx1 r
noncomputable def fn_185_46 (g : aa_G) (b1 : Int32) (s0 : Int32) : aa_G ⊕ (Int32 × aa_G) := if s0 ≠ 0 then fn_185_59 (fn_188 g (200000 + b1)) else .inr (0, g)
theorem dn_185_46 {v : Option Value} {h : zz_H} {n : Nat} {g : aa_G} {b1 : Int32} {s0 : Int32} (P : aa_G ⊕ (Int32 × aa_G) → Prop) (hO0 : ∀ n2, n2 < n → ∀ (yg : aa_G) (yx1 : Option Value) (_ : rn_jk yx1), rn_s n2 185 (9, [some (.ref 540), yx1], [], aa_H yg) v h → P (.inl yg)) (hR : ∀ E, iw_s v h E → P (.inr E))  (r : rn_s n 185 (46, [some (.ref 540), some (.int b1)], [.int s0], aa_H g) v h) : P (fn_185_46 g b1 s0) := by
  unfold fn_185_46
  refine rn_if (P) rfl decide_eq_true_iff.symm r (fun c26 l27n l27 r => ?_) (fun c26 l27n l27 r => ?_)
  · obtain ⟨n28, ln28, r⟩ := rn_steps 3 (56, [some (.ref 540), some (.int b1)], [.int (200000 + b1), .ref 540], aa_H g) rfl r
    obtain ⟨_, n29, v1, h1, -, ln29, rc, r⟩ := rn_call (m2 := 188) (as := [.ref 540, .int (200000 + b1)]) (rest := []) rfl rfl r
    obtain ⟨rfl, rfl⟩ := dn_188 rc
    have r : rn_s _ 185 (59, [some (.ref 540), some (.int b1)], [], aa_H (fn_188 g (200000 + b1))) v h := r
    exact dn_185_59 (P) (fun n2 l2 => hO0 n2 (by omega)) (fun z hz => hR _ hz) (some (.int b1)) rn_ji r
  · obtain ⟨n31, ln31, r⟩ := rn_steps 0 (50, [some (.ref 540), some (.int b1)], [.int 0], aa_H g) rfl r
    exact hR _ (rn_ire rfl r)
noncomputable def fn_185_27 (g : aa_G)  : aa_G ⊕ (Int32 × aa_G) := fn_185_46 ((fn_186 (zz_w g 540 5 ((g 540 5) + 1))).2) (fn_167 g) ((fn_186 (zz_w g 540 5 ((g 540 5) + 1))).1)
theorem dn_185_27 {v : Option Value} {h : zz_H} {n : Nat} {g : aa_G}  (P : aa_G ⊕ (Int32 × aa_G) → Prop) (hO0 : ∀ n2, n2 < n → ∀ (yg : aa_G) (yx1 : Option Value) (_ : rn_jk yx1), rn_s n2 185 (9, [some (.ref 540), yx1], [], aa_H yg) v h → P (.inl yg)) (hR : ∀ E, iw_s v h E → P (.inr E))  (x1 : Option Value) (jx1 : rn_jk x1) (r : rn_s n 185 (27, [some (.ref 540), x1], [], aa_H g) v h) : P (fn_185_27 g) := by
  unfold fn_185_27
  obtain ⟨n20, ln20, r⟩ := rn_steps 0 (28, [some (.ref 540), x1], [.ref 540], aa_H g) rfl r
  obtain ⟨_, n21, v1, h1, -, ln21, rc, r⟩ := rn_call (m2 := 167) (as := [.ref 540]) (rest := []) rfl rfl r
  obtain ⟨rfl, rfl⟩ := dn_167 rc
  have r : rn_s _ 185 (31, [some (.ref 540), x1], [.int (fn_167 g)], aa_H g) v h := r
  obtain ⟨n23, ln23, r⟩ := rn_steps 7 (43, [some (.ref 540), some (.int (fn_167 g))], [.ref 540], aa_H (zz_w g 540 5 ((g 540 5) + 1))) rfl r
  obtain ⟨_, n24, v1, h1, -, ln24, rc, r⟩ := rn_call (m2 := 186) (as := [.ref 540]) (rest := []) rfl rfl r
  obtain ⟨rfl, rfl⟩ := dn_186 rc
  have r : rn_s _ 185 (46, [some (.ref 540), some (.int (fn_167 g))], [.int ((fn_186 (zz_w g 540 5 ((g 540 5) + 1))).1)], aa_H ((fn_186 (zz_w g 540 5 ((g 540 5) + 1))).2)) v h := r
  exact dn_185_46 (P) (fun n2 l2 => hO0 n2 (by omega)) (fun z hz => hR _ hz) r
noncomputable def fn_185_9b (g : aa_G)  : aa_G ⊕ (Int32 × aa_G) := if (fn_167 g) = 42 then fn_185_27 g else if (fn_167 g) ≠ 47 then .inr (1, g) else fn_185_27 g
noncomputable def fn_185_9 (g : aa_G)  : Int32 × aa_G := lp_f (0, g) (fun z : aa_G => fn_185_9b z) g
theorem dn_185_9l {v : Option Value} {h : zz_H} {N : Nat}  {d : Int32 × aa_G} : ∀ (n : Nat), n ≤ N → ∀ (g : aa_G) (x1 : Option Value) (jx1 : rn_jk x1), rn_s n 185 (9, [some (.ref 540), x1], [], aa_H g) v h → (iw_s v h) (lp_f d (fun z : aa_G => fn_185_9b z) g) := by
  generalize hf : (fun z : aa_G => fn_185_9b z) = f
  intro n
  induction n using Nat.strongRecOn with
  | _ n ih =>
    intro hN g x1 jx1 r
    refine lp_go ?_
    rw [← congrFun hf g]
    show lp_q (iw_s v h) d f (fn_185_9b g)
    unfold fn_185_9b
    obtain ⟨n7, ln7, r⟩ := rn_steps 0 (10, [some (.ref 540), x1], [.ref 540], aa_H g) rfl r
    obtain ⟨_, n8, v1, h1, -, ln8, rc, r⟩ := rn_call (m2 := 167) (as := [.ref 540]) (rest := []) rfl rfl r
    obtain ⟨rfl, rfl⟩ := dn_167 rc
    have r : rn_s _ 185 (13, [some (.ref 540), x1], [.int (fn_167 g)], aa_H g) v h := r
    obtain ⟨n10, ln10, r⟩ := rn_steps 0 (15, [some (.ref 540), x1], [.int 42, .int (fn_167 g)], aa_H g) rfl r
    refine rn_ic (lp_q (iw_s v h) d f) rfl decide_eq_true_iff.symm r (fun c11 l12n l12 r => ?_) (fun c11 l12n l12 r => ?_)
    · exact dn_185_27 (lp_q (iw_s v h) d f) (fun n2 l2 => ih n2 (by omega) (by omega)) (fun z hz => hz) x1 jx1 r
    · obtain ⟨n13, ln13, r⟩ := rn_steps 0 (19, [some (.ref 540), x1], [.ref 540], aa_H g) rfl r
      obtain ⟨_, n14, v1, h1, -, ln14, rc, r⟩ := rn_call (m2 := 167) (as := [.ref 540]) (rest := []) rfl rfl r
      obtain ⟨rfl, rfl⟩ := dn_167 rc
      have r : rn_s _ 185 (22, [some (.ref 540), x1], [.int (fn_167 g)], aa_H g) v h := r
      obtain ⟨n16, ln16, r⟩ := rn_steps 0 (24, [some (.ref 540), x1], [.int 47, .int (fn_167 g)], aa_H g) rfl r
      refine rn_ic (lp_q (iw_s v h) d f) rfl decide_eq_true_iff.symm r (fun c17 l18n l18 r => ?_) (fun c17 l18n l18 r => ?_)
      · obtain ⟨n19, ln19, r⟩ := rn_steps 0 (63, [some (.ref 540), x1], [.int 1], aa_H g) rfl r
        exact rn_ire rfl r
      · exact dn_185_27 (lp_q (iw_s v h) d f) (fun n2 l2 => ih n2 (by omega) (by omega)) (fun z hz => hz) x1 jx1 r
theorem dn_185_9 {v : Option Value} {h : zz_H} {n : Nat} {g : aa_G}   (x1 : Option Value) (jx1 : rn_jk x1) (r : rn_s n 185 (9, [some (.ref 540), x1], [], aa_H g) v h) : (iw_s v h) (fn_185_9 g) := dn_185_9l  n (Nat.le_refl n) g x1 jx1 r
noncomputable def fn_185_4 (g : aa_G) (s0 : Int32) : Int32 × aa_G := if s0 ≠ 0 then fn_185_9 g else (0, g)
theorem dn_185_4 {v : Option Value} {h : zz_H} {n : Nat} {g : aa_G} {s0 : Int32}  (x1 : Option Value) (jx1 : rn_jk x1) (r : rn_s n 185 (4, [some (.ref 540), x1], [.int s0], aa_H g) v h) : iw_s v h (fn_185_4 g s0) := by
  unfold fn_185_4
  refine rn_if (iw_s v h) rfl decide_eq_true_iff.symm r (fun c4 l5n l5 r => ?_) (fun c4 l5n l5 r => ?_)
  · exact dn_185_9 x1 jx1 r
  · obtain ⟨n6, ln6, r⟩ := rn_steps 0 (8, [some (.ref 540), x1], [.int 0], aa_H g) rfl r
    exact rn_ire rfl r
noncomputable def fn_185 (g : aa_G)  : Int32 × aa_G := fn_185_4 ((fn_186 g).2) ((fn_186 g).1)
theorem dn_185 {v : Option Value} {h : zz_H} {n : Nat} {g : aa_G}   (r : rn_s n 185 (0, zz_in [.ref 540] (zz_nl 185), [], aa_H g) v h) : iw_s v h (fn_185 g) := by
  have r : rn_s n 185 (0, [some (.ref 540), none], [], aa_H g) v h := r
  unfold fn_185
  obtain ⟨n1, ln1, r⟩ := rn_steps 0 (1, [some (.ref 540), none], [.ref 540], aa_H g) rfl r
  obtain ⟨_, n2, v1, h1, -, ln2, rc, r⟩ := rn_call (m2 := 186) (as := [.ref 540]) (rest := []) rfl rfl r
  obtain ⟨rfl, rfl⟩ := dn_186 rc
  have r : rn_s _ 185 (4, [some (.ref 540), none], [.int ((fn_186 g).1)], aa_H ((fn_186 g).2)) v h := r
  exact dn_185_4 none rn_jn r
-- 184: UnequalHoursModel readSum
noncomputable def fn_184_59 (g : aa_G)  : aa_G ⊕ (Int32 × aa_G) := .inl g
theorem dn_184_59 {v : Option Value} {h : zz_H} {n : Nat} {g : aa_G}  (P : aa_G ⊕ (Int32 × aa_G) → Prop) (hO0 : ∀ n2, n2 < n → ∀ (yg : aa_G) (yx1 : Option Value) (_ : rn_jk yx1), rn_s n2 184 (9, [some (.ref 540), yx1], [], aa_H yg) v h → P (.inl yg)) (hR : ∀ E, iw_s v h E → P (.inr E))  (x1 : Option Value) (jx1 : rn_jk x1) (r : rn_s n 184 (59, [some (.ref 540), x1], [], aa_H g) v h) : P (fn_184_59 g) := by
  unfold fn_184_59
  obtain ⟨n32, ln32, r⟩ := rn_steps 0 (9, [some (.ref 540), x1], [], aa_H g) rfl r
  exact hO0 _ (by omega) g x1 jx1 r
noncomputable def fn_184_46 (g : aa_G) (b1 : Int32) (s0 : Int32) : aa_G ⊕ (Int32 × aa_G) := if s0 ≠ 0 then fn_184_59 (fn_188 g (200000 + b1)) else .inr (0, g)
theorem dn_184_46 {v : Option Value} {h : zz_H} {n : Nat} {g : aa_G} {b1 : Int32} {s0 : Int32} (P : aa_G ⊕ (Int32 × aa_G) → Prop) (hO0 : ∀ n2, n2 < n → ∀ (yg : aa_G) (yx1 : Option Value) (_ : rn_jk yx1), rn_s n2 184 (9, [some (.ref 540), yx1], [], aa_H yg) v h → P (.inl yg)) (hR : ∀ E, iw_s v h E → P (.inr E))  (r : rn_s n 184 (46, [some (.ref 540), some (.int b1)], [.int s0], aa_H g) v h) : P (fn_184_46 g b1 s0) := by
  unfold fn_184_46
  refine rn_if (P) rfl decide_eq_true_iff.symm r (fun c26 l27n l27 r => ?_) (fun c26 l27n l27 r => ?_)
  · obtain ⟨n28, ln28, r⟩ := rn_steps 3 (56, [some (.ref 540), some (.int b1)], [.int (200000 + b1), .ref 540], aa_H g) rfl r
    obtain ⟨_, n29, v1, h1, -, ln29, rc, r⟩ := rn_call (m2 := 188) (as := [.ref 540, .int (200000 + b1)]) (rest := []) rfl rfl r
    obtain ⟨rfl, rfl⟩ := dn_188 rc
    have r : rn_s _ 184 (59, [some (.ref 540), some (.int b1)], [], aa_H (fn_188 g (200000 + b1))) v h := r
    exact dn_184_59 (P) (fun n2 l2 => hO0 n2 (by omega)) (fun z hz => hR _ hz) (some (.int b1)) rn_ji r
  · obtain ⟨n31, ln31, r⟩ := rn_steps 0 (50, [some (.ref 540), some (.int b1)], [.int 0], aa_H g) rfl r
    exact hR _ (rn_ire rfl r)
noncomputable def fn_184_27 (g : aa_G)  : aa_G ⊕ (Int32 × aa_G) := fn_184_46 ((fn_185 (zz_w g 540 5 ((g 540 5) + 1))).2) (fn_167 g) ((fn_185 (zz_w g 540 5 ((g 540 5) + 1))).1)
theorem dn_184_27 {v : Option Value} {h : zz_H} {n : Nat} {g : aa_G}  (P : aa_G ⊕ (Int32 × aa_G) → Prop) (hO0 : ∀ n2, n2 < n → ∀ (yg : aa_G) (yx1 : Option Value) (_ : rn_jk yx1), rn_s n2 184 (9, [some (.ref 540), yx1], [], aa_H yg) v h → P (.inl yg)) (hR : ∀ E, iw_s v h E → P (.inr E))  (x1 : Option Value) (jx1 : rn_jk x1) (r : rn_s n 184 (27, [some (.ref 540), x1], [], aa_H g) v h) : P (fn_184_27 g) := by
  unfold fn_184_27
  obtain ⟨n20, ln20, r⟩ := rn_steps 0 (28, [some (.ref 540), x1], [.ref 540], aa_H g) rfl r
  obtain ⟨_, n21, v1, h1, -, ln21, rc, r⟩ := rn_call (m2 := 167) (as := [.ref 540]) (rest := []) rfl rfl r
  obtain ⟨rfl, rfl⟩ := dn_167 rc
  have r : rn_s _ 184 (31, [some (.ref 540), x1], [.int (fn_167 g)], aa_H g) v h := r
  obtain ⟨n23, ln23, r⟩ := rn_steps 7 (43, [some (.ref 540), some (.int (fn_167 g))], [.ref 540], aa_H (zz_w g 540 5 ((g 540 5) + 1))) rfl r
  obtain ⟨_, n24, v1, h1, -, ln24, rc, r⟩ := rn_call (m2 := 185) (as := [.ref 540]) (rest := []) rfl rfl r
  obtain ⟨rfl, rfl⟩ := dn_185 rc
  have r : rn_s _ 184 (46, [some (.ref 540), some (.int (fn_167 g))], [.int ((fn_185 (zz_w g 540 5 ((g 540 5) + 1))).1)], aa_H ((fn_185 (zz_w g 540 5 ((g 540 5) + 1))).2)) v h := r
  exact dn_184_46 (P) (fun n2 l2 => hO0 n2 (by omega)) (fun z hz => hR _ hz) r
noncomputable def fn_184_9b (g : aa_G)  : aa_G ⊕ (Int32 × aa_G) := if (fn_167 g) = 43 then fn_184_27 g else if (fn_167 g) ≠ 45 then .inr (1, g) else fn_184_27 g
noncomputable def fn_184_9 (g : aa_G)  : Int32 × aa_G := lp_f (0, g) (fun z : aa_G => fn_184_9b z) g
theorem dn_184_9l {v : Option Value} {h : zz_H} {N : Nat}  {d : Int32 × aa_G} : ∀ (n : Nat), n ≤ N → ∀ (g : aa_G) (x1 : Option Value) (jx1 : rn_jk x1), rn_s n 184 (9, [some (.ref 540), x1], [], aa_H g) v h → (iw_s v h) (lp_f d (fun z : aa_G => fn_184_9b z) g) := by
  generalize hf : (fun z : aa_G => fn_184_9b z) = f
  intro n
  induction n using Nat.strongRecOn with
  | _ n ih =>
    intro hN g x1 jx1 r
    refine lp_go ?_
    rw [← congrFun hf g]
    show lp_q (iw_s v h) d f (fn_184_9b g)
    unfold fn_184_9b
    obtain ⟨n7, ln7, r⟩ := rn_steps 0 (10, [some (.ref 540), x1], [.ref 540], aa_H g) rfl r
    obtain ⟨_, n8, v1, h1, -, ln8, rc, r⟩ := rn_call (m2 := 167) (as := [.ref 540]) (rest := []) rfl rfl r
    obtain ⟨rfl, rfl⟩ := dn_167 rc
    have r : rn_s _ 184 (13, [some (.ref 540), x1], [.int (fn_167 g)], aa_H g) v h := r
    obtain ⟨n10, ln10, r⟩ := rn_steps 0 (15, [some (.ref 540), x1], [.int 43, .int (fn_167 g)], aa_H g) rfl r
    refine rn_ic (lp_q (iw_s v h) d f) rfl decide_eq_true_iff.symm r (fun c11 l12n l12 r => ?_) (fun c11 l12n l12 r => ?_)
    · exact dn_184_27 (lp_q (iw_s v h) d f) (fun n2 l2 => ih n2 (by omega) (by omega)) (fun z hz => hz) x1 jx1 r
    · obtain ⟨n13, ln13, r⟩ := rn_steps 0 (19, [some (.ref 540), x1], [.ref 540], aa_H g) rfl r
      obtain ⟨_, n14, v1, h1, -, ln14, rc, r⟩ := rn_call (m2 := 167) (as := [.ref 540]) (rest := []) rfl rfl r
      obtain ⟨rfl, rfl⟩ := dn_167 rc
      have r : rn_s _ 184 (22, [some (.ref 540), x1], [.int (fn_167 g)], aa_H g) v h := r
      obtain ⟨n16, ln16, r⟩ := rn_steps 0 (24, [some (.ref 540), x1], [.int 45, .int (fn_167 g)], aa_H g) rfl r
      refine rn_ic (lp_q (iw_s v h) d f) rfl decide_eq_true_iff.symm r (fun c17 l18n l18 r => ?_) (fun c17 l18n l18 r => ?_)
      · obtain ⟨n19, ln19, r⟩ := rn_steps 0 (63, [some (.ref 540), x1], [.int 1], aa_H g) rfl r
        exact rn_ire rfl r
      · exact dn_184_27 (lp_q (iw_s v h) d f) (fun n2 l2 => ih n2 (by omega) (by omega)) (fun z hz => hz) x1 jx1 r
theorem dn_184_9 {v : Option Value} {h : zz_H} {n : Nat} {g : aa_G}   (x1 : Option Value) (jx1 : rn_jk x1) (r : rn_s n 184 (9, [some (.ref 540), x1], [], aa_H g) v h) : (iw_s v h) (fn_184_9 g) := dn_184_9l  n (Nat.le_refl n) g x1 jx1 r
noncomputable def fn_184_4 (g : aa_G) (s0 : Int32) : Int32 × aa_G := if s0 ≠ 0 then fn_184_9 g else (0, g)
theorem dn_184_4 {v : Option Value} {h : zz_H} {n : Nat} {g : aa_G} {s0 : Int32}  (x1 : Option Value) (jx1 : rn_jk x1) (r : rn_s n 184 (4, [some (.ref 540), x1], [.int s0], aa_H g) v h) : iw_s v h (fn_184_4 g s0) := by
  unfold fn_184_4
  refine rn_if (iw_s v h) rfl decide_eq_true_iff.symm r (fun c4 l5n l5 r => ?_) (fun c4 l5n l5 r => ?_)
  · exact dn_184_9 x1 jx1 r
  · obtain ⟨n6, ln6, r⟩ := rn_steps 0 (8, [some (.ref 540), x1], [.int 0], aa_H g) rfl r
    exact rn_ire rfl r
noncomputable def fn_184 (g : aa_G)  : Int32 × aa_G := fn_184_4 ((fn_185 g).2) ((fn_185 g).1)
theorem dn_184 {v : Option Value} {h : zz_H} {n : Nat} {g : aa_G}   (r : rn_s n 184 (0, zz_in [.ref 540] (zz_nl 184), [], aa_H g) v h) : iw_s v h (fn_184 g) := by
  have r : rn_s n 184 (0, [some (.ref 540), none], [], aa_H g) v h := r
  unfold fn_184
  obtain ⟨n1, ln1, r⟩ := rn_steps 0 (1, [some (.ref 540), none], [.ref 540], aa_H g) rfl r
  obtain ⟨_, n2, v1, h1, -, ln2, rc, r⟩ := rn_call (m2 := 185) (as := [.ref 540]) (rest := []) rfl rfl r
  obtain ⟨rfl, rfl⟩ := dn_185 rc
  have r : rn_s _ 184 (4, [some (.ref 540), none], [.int ((fn_185 g).1)], aa_H ((fn_185 g).2)) v h := r
  exact dn_184_4 none rn_jn r
-- 183: UnequalHoursModel readTest
noncomputable def fn_183_55 (g : aa_G) (b1 : Int32) (s0 : Int32) : Int32 × aa_G := if s0 ≠ 0 then (1, fn_188 g (200000 + b1)) else (0, g)
theorem dn_183_55 {v : Option Value} {h : zz_H} {n : Nat} {g : aa_G} {b1 : Int32} {s0 : Int32}  (r : rn_s n 183 (55, [some (.ref 540), some (.int b1)], [.int s0], aa_H g) v h) : iw_s v h (fn_183_55 g b1 s0) := by
  unfold fn_183_55
  refine rn_if (iw_s v h) rfl decide_eq_true_iff.symm r (fun c25 l26n l26 r => ?_) (fun c25 l26n l26 r => ?_)
  · obtain ⟨n27, ln27, r⟩ := rn_steps 3 (65, [some (.ref 540), some (.int b1)], [.int (200000 + b1), .ref 540], aa_H g) rfl r
    obtain ⟨_, n28, v1, h1, -, ln28, rc, r⟩ := rn_call (m2 := 188) (as := [.ref 540, .int (200000 + b1)]) (rest := []) rfl rfl r
    obtain ⟨rfl, rfl⟩ := dn_188 rc
    have r : rn_s _ 183 (68, [some (.ref 540), some (.int b1)], [], aa_H (fn_188 g (200000 + b1))) v h := r
    obtain ⟨n30, ln30, r⟩ := rn_steps 0 (69, [some (.ref 540), some (.int b1)], [.int 1], aa_H (fn_188 g (200000 + b1))) rfl r
    exact rn_ire rfl r
  · obtain ⟨n31, ln31, r⟩ := rn_steps 0 (59, [some (.ref 540), some (.int b1)], [.int 0], aa_H g) rfl r
    exact rn_ire rfl r
noncomputable def fn_183_41 (g : aa_G) (b1 : Int32) : Int32 × aa_G := fn_183_55 ((fn_184 (zz_w g 540 5 ((g 540 5) + 1))).2) b1 ((fn_184 (zz_w g 540 5 ((g 540 5) + 1))).1)
theorem dn_183_41 {v : Option Value} {h : zz_H} {n : Nat} {g : aa_G} {b1 : Int32}  (r : rn_s n 183 (41, [some (.ref 540), some (.int b1)], [], aa_H g) v h) : iw_s v h (fn_183_41 g b1) := by
  unfold fn_183_41
  obtain ⟨n22, ln22, r⟩ := rn_steps 6 (52, [some (.ref 540), some (.int b1)], [.ref 540], aa_H (zz_w g 540 5 ((g 540 5) + 1))) rfl r
  obtain ⟨_, n23, v1, h1, -, ln23, rc, r⟩ := rn_call (m2 := 184) (as := [.ref 540]) (rest := []) rfl rfl r
  obtain ⟨rfl, rfl⟩ := dn_184 rc
  have r : rn_s _ 183 (55, [some (.ref 540), some (.int b1)], [.int ((fn_184 (zz_w g 540 5 ((g 540 5) + 1))).1)], aa_H ((fn_184 (zz_w g 540 5 ((g 540 5) + 1))).2)) v h := r
  exact dn_183_55 r
noncomputable def fn_183_4 (g : aa_G) (s0 : Int32) : Int32 × aa_G := if s0 ≠ 0 then if (fn_167 g) = 60 then fn_183_41 g (fn_167 g) else if (fn_167 g) = 62 then fn_183_41 g (fn_167 g) else if (fn_167 g) = 61 then fn_183_41 g (fn_167 g) else ((fn_169 g (g 540 5)).1, (fn_169 g (g 540 5)).2) else (0, g)
theorem dn_183_4 {v : Option Value} {h : zz_H} {n : Nat} {g : aa_G} {s0 : Int32}  (x1 : Option Value) (jx1 : rn_jk x1) (r : rn_s n 183 (4, [some (.ref 540), x1], [.int s0], aa_H g) v h) : iw_s v h (fn_183_4 g s0) := by
  unfold fn_183_4
  refine rn_if (iw_s v h) rfl decide_eq_true_iff.symm r (fun c4 l5n l5 r => ?_) (fun c4 l5n l5 r => ?_)
  · obtain ⟨n6, ln6, r⟩ := rn_steps 0 (10, [some (.ref 540), x1], [.ref 540], aa_H g) rfl r
    obtain ⟨_, n7, v1, h1, -, ln7, rc, r⟩ := rn_call (m2 := 167) (as := [.ref 540]) (rest := []) rfl rfl r
    obtain ⟨rfl, rfl⟩ := dn_167 rc
    have r : rn_s _ 183 (13, [some (.ref 540), x1], [.int (fn_167 g)], aa_H g) v h := r
    obtain ⟨n9, ln9, r⟩ := rn_steps 2 (17, [some (.ref 540), some (.int (fn_167 g))], [.int 60, .int (fn_167 g)], aa_H g) rfl r
    refine rn_ic (iw_s v h) rfl decide_eq_true_iff.symm r (fun c10 l11n l11 r => ?_) (fun c10 l11n l11 r => ?_)
    · exact dn_183_41 r
    · obtain ⟨n12, ln12, r⟩ := rn_steps 1 (23, [some (.ref 540), some (.int (fn_167 g))], [.int 62, .int (fn_167 g)], aa_H g) rfl r
      refine rn_ic (iw_s v h) rfl decide_eq_true_iff.symm r (fun c13 l14n l14 r => ?_) (fun c13 l14n l14 r => ?_)
      · exact dn_183_41 r
      · obtain ⟨n15, ln15, r⟩ := rn_steps 1 (29, [some (.ref 540), some (.int (fn_167 g))], [.int 61, .int (fn_167 g)], aa_H g) rfl r
        refine rn_ic (iw_s v h) rfl decide_eq_true_iff.symm r (fun c16 l17n l17 r => ?_) (fun c16 l17n l17 r => ?_)
        · exact dn_183_41 r
        · obtain ⟨n18, ln18, r⟩ := rn_steps 2 (37, [some (.ref 540), some (.int (fn_167 g))], [.int (g 540 5), .ref 540], aa_H g) rfl r
          obtain ⟨_, n19, v1, h1, -, ln19, rc, r⟩ := rn_call (m2 := 169) (as := [.ref 540, .int (g 540 5)]) (rest := []) rfl rfl r
          obtain ⟨rfl, rfl⟩ := dn_169 rc
          have r : rn_s _ 183 (40, [some (.ref 540), some (.int (fn_167 g))], [.int ((fn_169 g (g 540 5)).1)], aa_H ((fn_169 g (g 540 5)).2)) v h := r
          exact rn_ire rfl r
  · obtain ⟨n21, ln21, r⟩ := rn_steps 0 (8, [some (.ref 540), x1], [.int 0], aa_H g) rfl r
    exact rn_ire rfl r
noncomputable def fn_183 (g : aa_G)  : Int32 × aa_G := fn_183_4 ((fn_184 g).2) ((fn_184 g).1)
theorem dn_183 {v : Option Value} {h : zz_H} {n : Nat} {g : aa_G}   (r : rn_s n 183 (0, zz_in [.ref 540] (zz_nl 183), [], aa_H g) v h) : iw_s v h (fn_183 g) := by
  have r : rn_s n 183 (0, [some (.ref 540), none], [], aa_H g) v h := r
  unfold fn_183
  obtain ⟨n1, ln1, r⟩ := rn_steps 0 (1, [some (.ref 540), none], [.ref 540], aa_H g) rfl r
  obtain ⟨_, n2, v1, h1, -, ln2, rc, r⟩ := rn_call (m2 := 184) (as := [.ref 540]) (rest := []) rfl rfl r
  obtain ⟨rfl, rfl⟩ := dn_184 rc
  have r : rn_s _ 183 (4, [some (.ref 540), none], [.int ((fn_184 g).1)], aa_H ((fn_184 g).2)) v h := r
  exact dn_183_4 none rn_jn r
-- 182: UnequalHoursModel readBoth
noncomputable def fn_182_43 (g : aa_G)  : aa_G ⊕ (Int32 × aa_G) := .inl g
theorem dn_182_43 {v : Option Value} {h : zz_H} {n : Nat} {g : aa_G}  (P : aa_G ⊕ (Int32 × aa_G) → Prop) (hO0 : ∀ n2, n2 < n → ∀ (yg : aa_G), rn_s n2 182 (9, [some (.ref 540)], [], aa_H yg) v h → P (.inl yg)) (hR : ∀ E, iw_s v h E → P (.inr E))  (r : rn_s n 182 (43, [some (.ref 540)], [], aa_H g) v h) : P (fn_182_43 g) := by
  unfold fn_182_43
  obtain ⟨n23, ln23, r⟩ := rn_steps 0 (9, [some (.ref 540)], [], aa_H g) rfl r
  exact hO0 _ (by omega) g r
noncomputable def fn_182_32 (g : aa_G) (s0 : Int32) : aa_G ⊕ (Int32 × aa_G) := if s0 ≠ 0 then fn_182_43 (fn_188 g 200038) else .inr (0, g)
theorem dn_182_32 {v : Option Value} {h : zz_H} {n : Nat} {g : aa_G} {s0 : Int32} (P : aa_G ⊕ (Int32 × aa_G) → Prop) (hO0 : ∀ n2, n2 < n → ∀ (yg : aa_G), rn_s n2 182 (9, [some (.ref 540)], [], aa_H yg) v h → P (.inl yg)) (hR : ∀ E, iw_s v h E → P (.inr E))  (r : rn_s n 182 (32, [some (.ref 540)], [.int s0], aa_H g) v h) : P (fn_182_32 g s0) := by
  unfold fn_182_32
  refine rn_if (P) rfl decide_eq_true_iff.symm r (fun c17 l18n l18 r => ?_) (fun c17 l18n l18 r => ?_)
  · obtain ⟨n19, ln19, r⟩ := rn_steps 1 (40, [some (.ref 540)], [.int 200038, .ref 540], aa_H g) rfl r
    obtain ⟨_, n20, v1, h1, -, ln20, rc, r⟩ := rn_call (m2 := 188) (as := [.ref 540, .int 200038]) (rest := []) rfl rfl r
    obtain ⟨rfl, rfl⟩ := dn_188 rc
    have r : rn_s _ 182 (43, [some (.ref 540)], [], aa_H (fn_188 g 200038)) v h := r
    exact dn_182_43 (P) (fun n2 l2 => hO0 n2 (by omega)) (fun z hz => hR _ hz) r
  · obtain ⟨n22, ln22, r⟩ := rn_steps 0 (36, [some (.ref 540)], [.int 0], aa_H g) rfl r
    exact hR _ (rn_ire rfl r)
noncomputable def fn_182_9b (g : aa_G)  : aa_G ⊕ (Int32 × aa_G) := if (fn_167 g) ≠ 38 then .inr (1, g) else fn_182_32 ((fn_183 (zz_w g 540 5 ((g 540 5) + 1))).2) ((fn_183 (zz_w g 540 5 ((g 540 5) + 1))).1)
noncomputable def fn_182_9 (g : aa_G)  : Int32 × aa_G := lp_f (0, g) (fun z : aa_G => fn_182_9b z) g
theorem dn_182_9l {v : Option Value} {h : zz_H} {N : Nat}  {d : Int32 × aa_G} : ∀ (n : Nat), n ≤ N → ∀ (g : aa_G), rn_s n 182 (9, [some (.ref 540)], [], aa_H g) v h → (iw_s v h) (lp_f d (fun z : aa_G => fn_182_9b z) g) := by
  generalize hf : (fun z : aa_G => fn_182_9b z) = f
  intro n
  induction n using Nat.strongRecOn with
  | _ n ih =>
    intro hN g  r
    refine lp_go ?_
    rw [← congrFun hf g]
    show lp_q (iw_s v h) d f (fn_182_9b g)
    unfold fn_182_9b
    obtain ⟨n7, ln7, r⟩ := rn_steps 0 (10, [some (.ref 540)], [.ref 540], aa_H g) rfl r
    obtain ⟨_, n8, v1, h1, -, ln8, rc, r⟩ := rn_call (m2 := 167) (as := [.ref 540]) (rest := []) rfl rfl r
    obtain ⟨rfl, rfl⟩ := dn_167 rc
    have r : rn_s _ 182 (13, [some (.ref 540)], [.int (fn_167 g)], aa_H g) v h := r
    obtain ⟨n10, ln10, r⟩ := rn_steps 0 (15, [some (.ref 540)], [.int 38, .int (fn_167 g)], aa_H g) rfl r
    refine rn_ic (lp_q (iw_s v h) d f) rfl decide_eq_true_iff.symm r (fun c11 l12n l12 r => ?_) (fun c11 l12n l12 r => ?_)
    · obtain ⟨n13, ln13, r⟩ := rn_steps 0 (47, [some (.ref 540)], [.int 1], aa_H g) rfl r
      exact rn_ire rfl r
    · obtain ⟨n14, ln14, r⟩ := rn_steps 6 (29, [some (.ref 540)], [.ref 540], aa_H (zz_w g 540 5 ((g 540 5) + 1))) rfl r
      obtain ⟨_, n15, v1, h1, -, ln15, rc, r⟩ := rn_call (m2 := 183) (as := [.ref 540]) (rest := []) rfl rfl r
      obtain ⟨rfl, rfl⟩ := dn_183 rc
      have r : rn_s _ 182 (32, [some (.ref 540)], [.int ((fn_183 (zz_w g 540 5 ((g 540 5) + 1))).1)], aa_H ((fn_183 (zz_w g 540 5 ((g 540 5) + 1))).2)) v h := r
      exact dn_182_32 (lp_q (iw_s v h) d f) (fun n2 l2 => ih n2 (by omega) (by omega)) (fun z hz => hz) r
theorem dn_182_9 {v : Option Value} {h : zz_H} {n : Nat} {g : aa_G}   (r : rn_s n 182 (9, [some (.ref 540)], [], aa_H g) v h) : (iw_s v h) (fn_182_9 g) := dn_182_9l  n (Nat.le_refl n) g r
noncomputable def fn_182_4 (g : aa_G) (s0 : Int32) : Int32 × aa_G := if s0 ≠ 0 then fn_182_9 g else (0, g)
theorem dn_182_4 {v : Option Value} {h : zz_H} {n : Nat} {g : aa_G} {s0 : Int32}  (r : rn_s n 182 (4, [some (.ref 540)], [.int s0], aa_H g) v h) : iw_s v h (fn_182_4 g s0) := by
  unfold fn_182_4
  refine rn_if (iw_s v h) rfl decide_eq_true_iff.symm r (fun c4 l5n l5 r => ?_) (fun c4 l5n l5 r => ?_)
  · exact dn_182_9 r
  · obtain ⟨n6, ln6, r⟩ := rn_steps 0 (8, [some (.ref 540)], [.int 0], aa_H g) rfl r
    exact rn_ire rfl r
noncomputable def fn_182 (g : aa_G)  : Int32 × aa_G := fn_182_4 ((fn_183 g).2) ((fn_183 g).1)
theorem dn_182 {v : Option Value} {h : zz_H} {n : Nat} {g : aa_G}   (r : rn_s n 182 (0, zz_in [.ref 540] (zz_nl 182), [], aa_H g) v h) : iw_s v h (fn_182 g) := by
  have r : rn_s n 182 (0, [some (.ref 540)], [], aa_H g) v h := r
  unfold fn_182
  obtain ⟨n1, ln1, r⟩ := rn_steps 0 (1, [some (.ref 540)], [.ref 540], aa_H g) rfl r
  obtain ⟨_, n2, v1, h1, -, ln2, rc, r⟩ := rn_call (m2 := 183) (as := [.ref 540]) (rest := []) rfl rfl r
  obtain ⟨rfl, rfl⟩ := dn_183 rc
  have r : rn_s _ 182 (4, [some (.ref 540)], [.int ((fn_183 g).1)], aa_H ((fn_183 g).2)) v h := r
  exact dn_182_4 r
-- 181: UnequalHoursModel readCond
noncomputable def fn_181_43 (g : aa_G)  : aa_G ⊕ (Int32 × aa_G) := .inl g
theorem dn_181_43 {v : Option Value} {h : zz_H} {n : Nat} {g : aa_G}  (P : aa_G ⊕ (Int32 × aa_G) → Prop) (hO0 : ∀ n2, n2 < n → ∀ (yg : aa_G), rn_s n2 181 (9, [some (.ref 540)], [], aa_H yg) v h → P (.inl yg)) (hR : ∀ E, iw_s v h E → P (.inr E))  (r : rn_s n 181 (43, [some (.ref 540)], [], aa_H g) v h) : P (fn_181_43 g) := by
  unfold fn_181_43
  obtain ⟨n23, ln23, r⟩ := rn_steps 0 (9, [some (.ref 540)], [], aa_H g) rfl r
  exact hO0 _ (by omega) g r
noncomputable def fn_181_32 (g : aa_G) (s0 : Int32) : aa_G ⊕ (Int32 × aa_G) := if s0 ≠ 0 then fn_181_43 (fn_188 g 200124) else .inr (0, g)
theorem dn_181_32 {v : Option Value} {h : zz_H} {n : Nat} {g : aa_G} {s0 : Int32} (P : aa_G ⊕ (Int32 × aa_G) → Prop) (hO0 : ∀ n2, n2 < n → ∀ (yg : aa_G), rn_s n2 181 (9, [some (.ref 540)], [], aa_H yg) v h → P (.inl yg)) (hR : ∀ E, iw_s v h E → P (.inr E))  (r : rn_s n 181 (32, [some (.ref 540)], [.int s0], aa_H g) v h) : P (fn_181_32 g s0) := by
  unfold fn_181_32
  refine rn_if (P) rfl decide_eq_true_iff.symm r (fun c17 l18n l18 r => ?_) (fun c17 l18n l18 r => ?_)
  · obtain ⟨n19, ln19, r⟩ := rn_steps 1 (40, [some (.ref 540)], [.int 200124, .ref 540], aa_H g) rfl r
    obtain ⟨_, n20, v1, h1, -, ln20, rc, r⟩ := rn_call (m2 := 188) (as := [.ref 540, .int 200124]) (rest := []) rfl rfl r
    obtain ⟨rfl, rfl⟩ := dn_188 rc
    have r : rn_s _ 181 (43, [some (.ref 540)], [], aa_H (fn_188 g 200124)) v h := r
    exact dn_181_43 (P) (fun n2 l2 => hO0 n2 (by omega)) (fun z hz => hR _ hz) r
  · obtain ⟨n22, ln22, r⟩ := rn_steps 0 (36, [some (.ref 540)], [.int 0], aa_H g) rfl r
    exact hR _ (rn_ire rfl r)
noncomputable def fn_181_9b (g : aa_G)  : aa_G ⊕ (Int32 × aa_G) := if (fn_167 g) ≠ 124 then .inr (1, g) else fn_181_32 ((fn_182 (zz_w g 540 5 ((g 540 5) + 1))).2) ((fn_182 (zz_w g 540 5 ((g 540 5) + 1))).1)
noncomputable def fn_181_9 (g : aa_G)  : Int32 × aa_G := lp_f (0, g) (fun z : aa_G => fn_181_9b z) g
theorem dn_181_9l {v : Option Value} {h : zz_H} {N : Nat}  {d : Int32 × aa_G} : ∀ (n : Nat), n ≤ N → ∀ (g : aa_G), rn_s n 181 (9, [some (.ref 540)], [], aa_H g) v h → (iw_s v h) (lp_f d (fun z : aa_G => fn_181_9b z) g) := by
  generalize hf : (fun z : aa_G => fn_181_9b z) = f
  intro n
  induction n using Nat.strongRecOn with
  | _ n ih =>
    intro hN g  r
    refine lp_go ?_
    rw [← congrFun hf g]
    show lp_q (iw_s v h) d f (fn_181_9b g)
    unfold fn_181_9b
    obtain ⟨n7, ln7, r⟩ := rn_steps 0 (10, [some (.ref 540)], [.ref 540], aa_H g) rfl r
    obtain ⟨_, n8, v1, h1, -, ln8, rc, r⟩ := rn_call (m2 := 167) (as := [.ref 540]) (rest := []) rfl rfl r
    obtain ⟨rfl, rfl⟩ := dn_167 rc
    have r : rn_s _ 181 (13, [some (.ref 540)], [.int (fn_167 g)], aa_H g) v h := r
    obtain ⟨n10, ln10, r⟩ := rn_steps 0 (15, [some (.ref 540)], [.int 124, .int (fn_167 g)], aa_H g) rfl r
    refine rn_ic (lp_q (iw_s v h) d f) rfl decide_eq_true_iff.symm r (fun c11 l12n l12 r => ?_) (fun c11 l12n l12 r => ?_)
    · obtain ⟨n13, ln13, r⟩ := rn_steps 0 (47, [some (.ref 540)], [.int 1], aa_H g) rfl r
      exact rn_ire rfl r
    · obtain ⟨n14, ln14, r⟩ := rn_steps 6 (29, [some (.ref 540)], [.ref 540], aa_H (zz_w g 540 5 ((g 540 5) + 1))) rfl r
      obtain ⟨_, n15, v1, h1, -, ln15, rc, r⟩ := rn_call (m2 := 182) (as := [.ref 540]) (rest := []) rfl rfl r
      obtain ⟨rfl, rfl⟩ := dn_182 rc
      have r : rn_s _ 181 (32, [some (.ref 540)], [.int ((fn_182 (zz_w g 540 5 ((g 540 5) + 1))).1)], aa_H ((fn_182 (zz_w g 540 5 ((g 540 5) + 1))).2)) v h := r
      exact dn_181_32 (lp_q (iw_s v h) d f) (fun n2 l2 => ih n2 (by omega) (by omega)) (fun z hz => hz) r
theorem dn_181_9 {v : Option Value} {h : zz_H} {n : Nat} {g : aa_G}   (r : rn_s n 181 (9, [some (.ref 540)], [], aa_H g) v h) : (iw_s v h) (fn_181_9 g) := dn_181_9l  n (Nat.le_refl n) g r
noncomputable def fn_181_4 (g : aa_G) (s0 : Int32) : Int32 × aa_G := if s0 ≠ 0 then fn_181_9 g else (0, g)
theorem dn_181_4 {v : Option Value} {h : zz_H} {n : Nat} {g : aa_G} {s0 : Int32}  (r : rn_s n 181 (4, [some (.ref 540)], [.int s0], aa_H g) v h) : iw_s v h (fn_181_4 g s0) := by
  unfold fn_181_4
  refine rn_if (iw_s v h) rfl decide_eq_true_iff.symm r (fun c4 l5n l5 r => ?_) (fun c4 l5n l5 r => ?_)
  · exact dn_181_9 r
  · obtain ⟨n6, ln6, r⟩ := rn_steps 0 (8, [some (.ref 540)], [.int 0], aa_H g) rfl r
    exact rn_ire rfl r
noncomputable def fn_181 (g : aa_G)  : Int32 × aa_G := fn_181_4 ((fn_182 g).2) ((fn_182 g).1)
theorem dn_181 {v : Option Value} {h : zz_H} {n : Nat} {g : aa_G}   (r : rn_s n 181 (0, zz_in [.ref 540] (zz_nl 181), [], aa_H g) v h) : iw_s v h (fn_181 g) := by
  have r : rn_s n 181 (0, [some (.ref 540)], [], aa_H g) v h := r
  unfold fn_181
  obtain ⟨n1, ln1, r⟩ := rn_steps 0 (1, [some (.ref 540)], [.ref 540], aa_H g) rfl r
  obtain ⟨_, n2, v1, h1, -, ln2, rc, r⟩ := rn_call (m2 := 182) (as := [.ref 540]) (rest := []) rfl rfl r
  obtain ⟨rfl, rfl⟩ := dn_182 rc
  have r : rn_s _ 181 (4, [some (.ref 540)], [.int ((fn_182 g).1)], aa_H ((fn_182 g).2)) v h := r
  exact dn_181_4 r
-- 180: UnequalHoursModel readPlain
noncomputable def fn_180_29 (g : aa_G) (s0 : Int32) : Int32 × aa_G := if s0 = 0 then (0, g) else (1, g)
theorem dn_180_29 {v : Option Value} {h : zz_H} {n : Nat} {g : aa_G} {s0 : Int32}  (x0 x1 x2 x3 : Option Value) (jx0 : rn_jk x0) (jx1 : rn_jk x1) (jx2 : rn_jk x2) (jx3 : rn_jk x3) (r : rn_s n 180 (29, [x0, x1, x2, x3], [.int s0], aa_H g) v h) : iw_s v h (fn_180_29 g s0) := by
  unfold fn_180_29
  refine rn_if (iw_s v h) rfl decide_eq_true_iff.symm r (fun c16 l17n l17 r => ?_) (fun c16 l17n l17 r => ?_)
  · obtain ⟨n18, ln18, r⟩ := rn_steps 0 (37, [x0, x1, x2, x3], [.int 0], aa_H g) rfl r
    exact rn_ire rfl r
  · obtain ⟨n19, ln19, r⟩ := rn_steps 1 (37, [x0, x1, x2, x3], [.int 1], aa_H g) rfl r
    exact rn_ire rfl r
noncomputable def fn_180_9 (g : aa_G) (b1 : Int32) (b2 : Int32) (b3 : Int32) (s0 : Int32) : Int32 × aa_G := if s0 = 0 then (0, g) else if (fn_154 (g 540 7) b1 b2) ≠ 0 then (1, g) else fn_180_29 ((fn_169 g b3).2) ((fn_169 g b3).1)
theorem dn_180_9 {v : Option Value} {h : zz_H} {n : Nat} {g : aa_G} {b1 : Int32} {b2 : Int32} {b3 : Int32} {s0 : Int32}  (r : rn_s n 180 (9, [some (.ref 540), some (.int b1), some (.int b2), some (.int b3)], [.int s0], aa_H g) v h) : iw_s v h (fn_180_9 g b1 b2 b3 s0) := by
  unfold fn_180_9
  refine rn_if (iw_s v h) rfl decide_eq_true_iff.symm r (fun c4 l5n l5 r => ?_) (fun c4 l5n l5 r => ?_)
  · obtain ⟨n6, ln6, r⟩ := rn_steps 0 (37, [some (.ref 540), some (.int b1), some (.int b2), some (.int b3)], [.int 0], aa_H g) rfl r
    exact rn_ire rfl r
  · obtain ⟨n7, ln7, r⟩ := rn_steps 3 (18, [some (.ref 540), some (.int b1), some (.int b2), some (.int b3)], [.int b2, .int b1, .int (g 540 7)], aa_H g) rfl r
    obtain ⟨_, n8, v1, h1, -, ln8, rc, r⟩ := rn_call (m2 := 154) (as := [.int (g 540 7), .int b1, .int b2]) (rest := []) rfl rfl r
    obtain ⟨rfl, rfl⟩ := dn_154 rc
    have r : rn_s _ 180 (21, [some (.ref 540), some (.int b1), some (.int b2), some (.int b3)], [.int (fn_154 (g 540 7) b1 b2)], aa_H g) v h := r
    refine rn_if (iw_s v h) rfl decide_eq_true_iff.symm r (fun c10 l11n l11 r => ?_) (fun c10 l11n l11 r => ?_)
    · obtain ⟨n12, ln12, r⟩ := rn_steps 1 (37, [some (.ref 540), some (.int b1), some (.int b2), some (.int b3)], [.int 1], aa_H g) rfl r
      exact rn_ire rfl r
    · obtain ⟨n13, ln13, r⟩ := rn_steps 1 (26, [some (.ref 540), some (.int b1), some (.int b2), some (.int b3)], [.int b3, .ref 540], aa_H g) rfl r
      obtain ⟨_, n14, v1, h1, -, ln14, rc, r⟩ := rn_call (m2 := 169) (as := [.ref 540, .int b3]) (rest := []) rfl rfl r
      obtain ⟨rfl, rfl⟩ := dn_169 rc
      have r : rn_s _ 180 (29, [some (.ref 540), some (.int b1), some (.int b2), some (.int b3)], [.int ((fn_169 g b3).1)], aa_H ((fn_169 g b3).2)) v h := r
      exact dn_180_29 (some (.ref 540)) (some (.int b1)) (some (.int b2)) (some (.int b3)) rn_jr rn_ji rn_ji rn_ji r
noncomputable def fn_180 (g : aa_G) (a1 : Int32) (a2 : Int32) : Int32 × aa_G := fn_180_9 ((fn_171 g).2) a1 a2 (g 540 5) ((fn_171 g).1)
theorem dn_180 {v : Option Value} {h : zz_H} {n : Nat} {g : aa_G} {a1 : Int32} {a2 : Int32}  (r : rn_s n 180 (0, zz_in [.ref 540, .int a1, .int a2] (zz_nl 180), [], aa_H g) v h) : iw_s v h (fn_180 g a1 a2) := by
  have r : rn_s n 180 (0, [some (.ref 540), some (.int a1), some (.int a2), none], [], aa_H g) v h := r
  unfold fn_180
  obtain ⟨n1, ln1, r⟩ := rn_steps 3 (6, [some (.ref 540), some (.int a1), some (.int a2), some (.int (g 540 5))], [.ref 540], aa_H g) rfl r
  obtain ⟨_, n2, v1, h1, -, ln2, rc, r⟩ := rn_call (m2 := 171) (as := [.ref 540]) (rest := []) rfl rfl r
  obtain ⟨rfl, rfl⟩ := dn_171 rc
  have r : rn_s _ 180 (9, [some (.ref 540), some (.int a1), some (.int a2), some (.int (g 540 5))], [.int ((fn_171 g).1)], aa_H ((fn_171 g).2)) v h := r
  exact dn_180_9 r
-- 179: UnequalHoursModel readBell
noncomputable def fn_179_42 (g : aa_G)  : Int32 × aa_G := ((fn_169 g (g 540 5)).1, (fn_169 g (g 540 5)).2)
theorem dn_179_42 {v : Option Value} {h : zz_H} {n : Nat} {g : aa_G}   (x1 x2 x3 : Option Value) (jx1 : rn_jk x1) (jx2 : rn_jk x2) (jx3 : rn_jk x3) (r : rn_s n 179 (42, [some (.ref 540), x1, x2, x3], [], aa_H g) v h) : iw_s v h (fn_179_42 g) := by
  unfold fn_179_42
  obtain ⟨n28, ln28, r⟩ := rn_steps 2 (47, [some (.ref 540), x1, x2, x3], [.int (g 540 5), .ref 540], aa_H g) rfl r
  obtain ⟨_, n29, v1, h1, -, ln29, rc, r⟩ := rn_call (m2 := 169) (as := [.ref 540, .int (g 540 5)]) (rest := []) rfl rfl r
  obtain ⟨rfl, rfl⟩ := dn_169 rc
  have r : rn_s _ 179 (50, [some (.ref 540), x1, x2, x3], [.int ((fn_169 g (g 540 5)).1)], aa_H ((fn_169 g (g 540 5)).2)) v h := r
  exact rn_ire rfl r
noncomputable def fn_179_256 (g : aa_G)  : Int32 × aa_G := ((fn_173 (zz_w g 540 10 ((g 540 10) + 1)) 59).1, (fn_173 (zz_w g 540 10 ((g 540 10) + 1)) 59).2)
theorem dn_179_256 {v : Option Value} {h : zz_H} {n : Nat} {g : aa_G}   (x1 x2 x3 : Option Value) (jx1 : rn_jk x1) (jx2 : rn_jk x2) (jx3 : rn_jk x3) (r : rn_s n 179 (256, [some (.ref 540), x1, x2, x3], [.ref 540, .ref 540], aa_H g) v h) : iw_s v h (fn_179_256 g) := by
  unfold fn_179_256
  obtain ⟨n93, ln93, r⟩ := rn_steps 5 (267, [some (.ref 540), x1, x2, x3], [.int 59, .ref 540], aa_H (zz_w g 540 10 ((g 540 10) + 1))) rfl r
  obtain ⟨_, n94, v1, h1, -, ln94, rc, r⟩ := rn_call (m2 := 173) (as := [.ref 540, .int 59]) (rest := []) rfl rfl r
  obtain ⟨rfl, rfl⟩ := dn_173 rc
  have r : rn_s _ 179 (270, [some (.ref 540), x1, x2, x3], [.int ((fn_173 (zz_w g 540 10 ((g 540 10) + 1)) 59).1)], aa_H ((fn_173 (zz_w g 540 10 ((g 540 10) + 1)) 59).2)) v h := r
  exact rn_ire rfl r
noncomputable def fn_179_250 (g : aa_G) (s1 : Int32) : Int32 × aa_G := fn_179_256 (zz_w g 544 s1.toNatClampNeg (g 540 11))
theorem dn_179_250 {v : Option Value} {h : zz_H} {n : Nat} {g : aa_G} {s1 : Int32}  (x1 x2 x3 : Option Value) (jx1 : rn_jk x1) (jx2 : rn_jk x2) (jx3 : rn_jk x3) (r : rn_s n 179 (250, [some (.ref 540), x1, x2, x3], [.ref 540, .int s1, .ref 544], aa_H g) v h) : iw_s v h (fn_179_250 g s1) := by
  unfold fn_179_250
  obtain ⟨n89, ln89, r⟩ := rn_steps 0 (253, [some (.ref 540), x1, x2, x3], [.int (g 540 11), .int s1, .ref 544], aa_H g) rfl r
  obtain ⟨hb91, n90, ln90, r⟩ := rn_ias (k := 544) rfl ⟨by decide, by decide⟩ rfl r
  have r : rn_s _ 179 (254, [some (.ref 540), x1, x2, x3], [], aa_H (zz_w g 544 s1.toNatClampNeg (g 540 11))) v h := r
  obtain ⟨n92, ln92, r⟩ := rn_steps 1 (256, [some (.ref 540), x1, x2, x3], [.ref 540, .ref 540], aa_H (zz_w g 544 s1.toNatClampNeg (g 540 11))) rfl r
  exact dn_179_256 x1 x2 x3 jx1 jx2 jx3 r
noncomputable def fn_179_227 (g : aa_G) (b2 : Int32) (b3 : Int32) : Int32 × aa_G := fn_179_250 (zz_w g 544 (b2 + 4).toNatClampNeg ((g 540 12) - b3)) (b2 + 6)
theorem dn_179_227 {v : Option Value} {h : zz_H} {n : Nat} {g : aa_G} {b2 : Int32} {b3 : Int32}  (x1 : Option Value) (jx1 : rn_jk x1) (r : rn_s n 179 (227, [some (.ref 540), x1, some (.int b2), some (.int b3)], [], aa_H g) v h) : iw_s v h (fn_179_227 g b2 b3) := by
  unfold fn_179_227
  obtain ⟨n82, ln82, r⟩ := rn_steps 8 (240, [some (.ref 540), x1, some (.int b2), some (.int b3)], [.int ((g 540 12) - b3), .int (b2 + 4), .ref 544], aa_H g) rfl r
  obtain ⟨hb84, n83, ln83, r⟩ := rn_ias (k := 544) rfl ⟨by decide, by decide⟩ rfl r
  have r : rn_s _ 179 (241, [some (.ref 540), x1, some (.int b2), some (.int b3)], [], aa_H (zz_w g 544 (b2 + 4).toNatClampNeg ((g 540 12) - b3))) v h := r
  obtain ⟨n85, ln85, r⟩ := rn_steps 5 (250, [some (.ref 540), x1, some (.int b2), some (.int b3)], [.ref 540, .int (b2 + 6), .ref 544], aa_H (zz_w g 544 (b2 + 4).toNatClampNeg ((g 540 12) - b3))) rfl r
  exact dn_179_250 x1 (some (.int b2)) (some (.int b3)) jx1 rn_ji rn_ji r
noncomputable def fn_179_222 (g : aa_G) (b2 : Int32) (b3 : Int32) (s0 : Int32) : Int32 × aa_G := if s0 ≠ 0 then fn_179_227 g b2 b3 else (0, g)
theorem dn_179_222 {v : Option Value} {h : zz_H} {n : Nat} {g : aa_G} {b2 : Int32} {b3 : Int32} {s0 : Int32}  (x1 : Option Value) (jx1 : rn_jk x1) (r : rn_s n 179 (222, [some (.ref 540), x1, some (.int b2), some (.int b3)], [.int s0], aa_H g) v h) : iw_s v h (fn_179_222 g b2 b3 s0) := by
  unfold fn_179_222
  refine rn_if (iw_s v h) rfl decide_eq_true_iff.symm r (fun c86 l87n l87 r => ?_) (fun c86 l87n l87 r => ?_)
  · exact dn_179_227 x1 jx1 r
  · obtain ⟨n88, ln88, r⟩ := rn_steps 0 (226, [some (.ref 540), x1, some (.int b2), some (.int b3)], [.int 0], aa_H g) rfl r
    exact rn_ire rfl r
noncomputable def fn_179_195 (g : aa_G) (b2 : Int32) : Int32 × aa_G := if (fn_167 g) ≠ 63 then fn_179_227 g b2 (g 540 12) else fn_179_222 ((fn_181 (zz_w g 540 5 ((g 540 5) + 1))).2) b2 (g 540 12) ((fn_181 (zz_w g 540 5 ((g 540 5) + 1))).1)
theorem dn_179_195 {v : Option Value} {h : zz_H} {n : Nat} {g : aa_G} {b2 : Int32}  (x1 x3 : Option Value) (jx1 : rn_jk x1) (jx3 : rn_jk x3) (r : rn_s n 179 (195, [some (.ref 540), x1, some (.int b2), x3], [.ref 540], aa_H g) v h) : iw_s v h (fn_179_195 g b2) := by
  unfold fn_179_195
  obtain ⟨n73, ln73, r⟩ := rn_steps 2 (200, [some (.ref 540), x1, some (.int b2), some (.int (g 540 12))], [.ref 540], aa_H g) rfl r
  obtain ⟨_, n74, v1, h1, -, ln74, rc, r⟩ := rn_call (m2 := 167) (as := [.ref 540]) (rest := []) rfl rfl r
  obtain ⟨rfl, rfl⟩ := dn_167 rc
  have r : rn_s _ 179 (203, [some (.ref 540), x1, some (.int b2), some (.int (g 540 12))], [.int (fn_167 g)], aa_H g) v h := r
  obtain ⟨n76, ln76, r⟩ := rn_steps 0 (205, [some (.ref 540), x1, some (.int b2), some (.int (g 540 12))], [.int 63, .int (fn_167 g)], aa_H g) rfl r
  refine rn_ic (iw_s v h) rfl decide_eq_true_iff.symm r (fun c77 l78n l78 r => ?_) (fun c77 l78n l78 r => ?_)
  · exact dn_179_227 x1 jx1 r
  · obtain ⟨n79, ln79, r⟩ := rn_steps 6 (219, [some (.ref 540), x1, some (.int b2), some (.int (g 540 12))], [.ref 540], aa_H (zz_w g 540 5 ((g 540 5) + 1))) rfl r
    obtain ⟨_, n80, v1, h1, -, ln80, rc, r⟩ := rn_call (m2 := 181) (as := [.ref 540]) (rest := []) rfl rfl r
    obtain ⟨rfl, rfl⟩ := dn_181 rc
    have r : rn_s _ 179 (222, [some (.ref 540), x1, some (.int b2), some (.int (g 540 12))], [.int ((fn_181 (zz_w g 540 5 ((g 540 5) + 1))).1)], aa_H ((fn_181 (zz_w g 540 5 ((g 540 5) + 1))).2)) v h := r
    exact dn_179_222 x1 jx1 r
noncomputable def fn_179_190 (g : aa_G) (b2 : Int32) (s1 : Int32) : Int32 × aa_G := fn_179_195 (zz_w g 544 s1.toNatClampNeg (g 540 11)) b2
theorem dn_179_190 {v : Option Value} {h : zz_H} {n : Nat} {g : aa_G} {b2 : Int32} {s1 : Int32}  (x1 x3 : Option Value) (jx1 : rn_jk x1) (jx3 : rn_jk x3) (r : rn_s n 179 (190, [some (.ref 540), x1, some (.int b2), x3], [.ref 540, .int s1, .ref 544], aa_H g) v h) : iw_s v h (fn_179_190 g b2 s1) := by
  unfold fn_179_190
  obtain ⟨n69, ln69, r⟩ := rn_steps 0 (193, [some (.ref 540), x1, some (.int b2), x3], [.int (g 540 11), .int s1, .ref 544], aa_H g) rfl r
  obtain ⟨hb71, n70, ln70, r⟩ := rn_ias (k := 544) rfl ⟨by decide, by decide⟩ rfl r
  have r : rn_s _ 179 (194, [some (.ref 540), x1, some (.int b2), x3], [], aa_H (zz_w g 544 s1.toNatClampNeg (g 540 11))) v h := r
  obtain ⟨n72, ln72, r⟩ := rn_steps 0 (195, [some (.ref 540), x1, some (.int b2), x3], [.ref 540], aa_H (zz_w g 544 s1.toNatClampNeg (g 540 11))) rfl r
  exact dn_179_195 x1 x3 jx1 jx3 r
noncomputable def fn_179_165 (g : aa_G) (b2 : Int32) (s0 : Int32) : Int32 × aa_G := if s0 ≠ 0 then fn_179_190 (zz_w g 544 (b2 + 3).toNatClampNeg (g 540 7)) b2 (b2 + 5) else (0, g)
theorem dn_179_165 {v : Option Value} {h : zz_H} {n : Nat} {g : aa_G} {b2 : Int32} {s0 : Int32}  (x1 x3 : Option Value) (jx1 : rn_jk x1) (jx3 : rn_jk x3) (r : rn_s n 179 (165, [some (.ref 540), x1, some (.int b2), x3], [.int s0], aa_H g) v h) : iw_s v h (fn_179_165 g b2 s0) := by
  unfold fn_179_165
  refine rn_if (iw_s v h) rfl decide_eq_true_iff.symm r (fun c62 l63n l63 r => ?_) (fun c62 l63n l63 r => ?_)
  · obtain ⟨n64, ln64, r⟩ := rn_steps 6 (181, [some (.ref 540), x1, some (.int b2), x3], [.int (g 540 7), .int (b2 + 3), .ref 544], aa_H g) rfl r
    obtain ⟨hb66, n65, ln65, r⟩ := rn_ias (k := 544) rfl ⟨by decide, by decide⟩ rfl r
    have r : rn_s _ 179 (182, [some (.ref 540), x1, some (.int b2), x3], [], aa_H (zz_w g 544 (b2 + 3).toNatClampNeg (g 540 7))) v h := r
    obtain ⟨n67, ln67, r⟩ := rn_steps 5 (190, [some (.ref 540), x1, some (.int b2), x3], [.ref 540, .int (b2 + 5), .ref 544], aa_H (zz_w g 544 (b2 + 3).toNatClampNeg (g 540 7))) rfl r
    exact dn_179_190 x1 x3 jx1 jx3 r
  · obtain ⟨n68, ln68, r⟩ := rn_steps 0 (169, [some (.ref 540), x1, some (.int b2), x3], [.int 0], aa_H g) rfl r
    exact rn_ire rfl r
noncomputable def fn_179_155 (g : aa_G) (b2 : Int32) (s0 : Int32) : Int32 × aa_G := if s0 = 0 then (0, g) else fn_179_165 ((fn_180 g 1 24).2) b2 ((fn_180 g 1 24).1)
theorem dn_179_155 {v : Option Value} {h : zz_H} {n : Nat} {g : aa_G} {b2 : Int32} {s0 : Int32}  (x1 x3 : Option Value) (jx1 : rn_jk x1) (jx3 : rn_jk x3) (r : rn_s n 179 (155, [some (.ref 540), x1, some (.int b2), x3], [.int s0], aa_H g) v h) : iw_s v h (fn_179_155 g b2 s0) := by
  unfold fn_179_155
  refine rn_if (iw_s v h) rfl decide_eq_true_iff.symm r (fun c53 l54n l54 r => ?_) (fun c53 l54n l54 r => ?_)
  · obtain ⟨n55, ln55, r⟩ := rn_steps 0 (169, [some (.ref 540), x1, some (.int b2), x3], [.int 0], aa_H g) rfl r
    exact rn_ire rfl r
  · obtain ⟨n56, ln56, r⟩ := rn_steps 2 (162, [some (.ref 540), x1, some (.int b2), x3], [.int 24, .int 1, .ref 540], aa_H g) rfl r
    obtain ⟨_, n57, v1, h1, -, ln57, rc, r⟩ := rn_call (m2 := 180) (as := [.ref 540, .int 1, .int 24]) (rest := []) rfl rfl r
    obtain ⟨rfl, rfl⟩ := dn_180 rc
    have r : rn_s _ 179 (165, [some (.ref 540), x1, some (.int b2), x3], [.int ((fn_180 g 1 24).1)], aa_H ((fn_180 g 1 24).2)) v h := r
    exact dn_179_165 x1 x3 jx1 jx3 r
noncomputable def fn_179_137 (g : aa_G) (b2 : Int32) : Int32 × aa_G := fn_179_155 ((fn_173 (zz_w g 544 (b2 + 2).toNatClampNeg (g 540 7)) 42).2) b2 ((fn_173 (zz_w g 544 (b2 + 2).toNatClampNeg (g 540 7)) 42).1)
theorem dn_179_137 {v : Option Value} {h : zz_H} {n : Nat} {g : aa_G} {b2 : Int32}  (x1 x3 : Option Value) (jx1 : rn_jk x1) (jx3 : rn_jk x3) (r : rn_s n 179 (137, [some (.ref 540), x1, some (.int b2), x3], [], aa_H g) v h) : iw_s v h (fn_179_137 g b2) := by
  unfold fn_179_137
  obtain ⟨n44, ln44, r⟩ := rn_steps 6 (148, [some (.ref 540), x1, some (.int b2), x3], [.int (g 540 7), .int (b2 + 2), .ref 544], aa_H g) rfl r
  obtain ⟨hb46, n45, ln45, r⟩ := rn_ias (k := 544) rfl ⟨by decide, by decide⟩ rfl r
  have r : rn_s _ 179 (149, [some (.ref 540), x1, some (.int b2), x3], [], aa_H (zz_w g 544 (b2 + 2).toNatClampNeg (g 540 7))) v h := r
  obtain ⟨n47, ln47, r⟩ := rn_steps 1 (152, [some (.ref 540), x1, some (.int b2), x3], [.int 42, .ref 540], aa_H (zz_w g 544 (b2 + 2).toNatClampNeg (g 540 7))) rfl r
  obtain ⟨_, n48, v1, h1, -, ln48, rc, r⟩ := rn_call (m2 := 173) (as := [.ref 540, .int 42]) (rest := []) rfl rfl r
  obtain ⟨rfl, rfl⟩ := dn_173 rc
  have r : rn_s _ 179 (155, [some (.ref 540), x1, some (.int b2), x3], [.int ((fn_173 (zz_w g 544 (b2 + 2).toNatClampNeg (g 540 7)) 42).1)], aa_H ((fn_173 (zz_w g 544 (b2 + 2).toNatClampNeg (g 540 7)) 42).2)) v h := r
  exact dn_179_155 x1 x3 jx1 jx3 r
noncomputable def fn_179_132 (g : aa_G) (b2 : Int32) (s0 : Int32) : Int32 × aa_G := if s0 ≠ 0 then fn_179_137 g b2 else (0, g)
theorem dn_179_132 {v : Option Value} {h : zz_H} {n : Nat} {g : aa_G} {b2 : Int32} {s0 : Int32}  (x1 x3 : Option Value) (jx1 : rn_jk x1) (jx3 : rn_jk x3) (r : rn_s n 179 (132, [some (.ref 540), x1, some (.int b2), x3], [.int s0], aa_H g) v h) : iw_s v h (fn_179_132 g b2 s0) := by
  unfold fn_179_132
  refine rn_if (iw_s v h) rfl decide_eq_true_iff.symm r (fun c59 l60n l60 r => ?_) (fun c59 l60n l60 r => ?_)
  · exact dn_179_137 x1 x3 jx1 jx3 r
  · obtain ⟨n61, ln61, r⟩ := rn_steps 0 (136, [some (.ref 540), x1, some (.int b2), x3], [.int 0], aa_H g) rfl r
    exact rn_ire rfl r
noncomputable def fn_179_116 (g : aa_G) (b2 : Int32) : Int32 × aa_G := fn_179_132 ((fn_180 (zz_w g 540 5 ((g 540 5) + 1)) 0 3599).2) b2 ((fn_180 (zz_w g 540 5 ((g 540 5) + 1)) 0 3599).1)
theorem dn_179_116 {v : Option Value} {h : zz_H} {n : Nat} {g : aa_G} {b2 : Int32}  (x1 x3 : Option Value) (jx1 : rn_jk x1) (jx3 : rn_jk x3) (r : rn_s n 179 (116, [some (.ref 540), x1, some (.int b2), x3], [.ref 540, .ref 540], aa_H g) v h) : iw_s v h (fn_179_116 g b2) := by
  unfold fn_179_116
  obtain ⟨n50, ln50, r⟩ := rn_steps 6 (129, [some (.ref 540), x1, some (.int b2), x3], [.int 3599, .int 0, .ref 540], aa_H (zz_w g 540 5 ((g 540 5) + 1))) rfl r
  obtain ⟨_, n51, v1, h1, -, ln51, rc, r⟩ := rn_call (m2 := 180) (as := [.ref 540, .int 0, .int 3599]) (rest := []) rfl rfl r
  obtain ⟨rfl, rfl⟩ := dn_180 rc
  have r : rn_s _ 179 (132, [some (.ref 540), x1, some (.int b2), x3], [.int ((fn_180 (zz_w g 540 5 ((g 540 5) + 1)) 0 3599).1)], aa_H ((fn_180 (zz_w g 540 5 ((g 540 5) + 1)) 0 3599).2)) v h := r
  exact dn_179_132 x1 x3 jx1 jx3 r
noncomputable def fn_179_83 (g : aa_G) (b2 : Int32) (s0 : Int32) : Int32 × aa_G := if s0 ≠ 0 then if (fn_167 (zz_w (zz_w g 544 (b2 + 1).toNatClampNeg (g 540 7)) 540 7 0)) ≠ 46 then fn_179_137 (zz_w (zz_w g 544 (b2 + 1).toNatClampNeg (g 540 7)) 540 7 0) b2 else fn_179_116 (zz_w (zz_w g 544 (b2 + 1).toNatClampNeg (g 540 7)) 540 7 0) b2 else (0, g)
theorem dn_179_83 {v : Option Value} {h : zz_H} {n : Nat} {g : aa_G} {b2 : Int32} {s0 : Int32}  (x1 x3 : Option Value) (jx1 : rn_jk x1) (jx3 : rn_jk x3) (r : rn_s n 179 (83, [some (.ref 540), x1, some (.int b2), x3], [.int s0], aa_H g) v h) : iw_s v h (fn_179_83 g b2 s0) := by
  unfold fn_179_83
  refine rn_if (iw_s v h) rfl decide_eq_true_iff.symm r (fun c31 l32n l32 r => ?_) (fun c31 l32n l32 r => ?_)
  · obtain ⟨n33, ln33, r⟩ := rn_steps 6 (99, [some (.ref 540), x1, some (.int b2), x3], [.int (g 540 7), .int (b2 + 1), .ref 544], aa_H g) rfl r
    obtain ⟨hb35, n34, ln34, r⟩ := rn_ias (k := 544) rfl ⟨by decide, by decide⟩ rfl r
    have r : rn_s _ 179 (100, [some (.ref 540), x1, some (.int b2), x3], [], aa_H (zz_w g 544 (b2 + 1).toNatClampNeg (g 540 7))) v h := r
    obtain ⟨n36, ln36, r⟩ := rn_steps 3 (106, [some (.ref 540), x1, some (.int b2), x3], [.ref 540], aa_H (zz_w (zz_w g 544 (b2 + 1).toNatClampNeg (g 540 7)) 540 7 0)) rfl r
    obtain ⟨_, n37, v1, h1, -, ln37, rc, r⟩ := rn_call (m2 := 167) (as := [.ref 540]) (rest := []) rfl rfl r
    obtain ⟨rfl, rfl⟩ := dn_167 rc
    have r : rn_s _ 179 (109, [some (.ref 540), x1, some (.int b2), x3], [.int (fn_167 (zz_w (zz_w g 544 (b2 + 1).toNatClampNeg (g 540 7)) 540 7 0))], aa_H (zz_w (zz_w g 544 (b2 + 1).toNatClampNeg (g 540 7)) 540 7 0)) v h := r
    obtain ⟨n39, ln39, r⟩ := rn_steps 0 (111, [some (.ref 540), x1, some (.int b2), x3], [.int 46, .int (fn_167 (zz_w (zz_w g 544 (b2 + 1).toNatClampNeg (g 540 7)) 540 7 0))], aa_H (zz_w (zz_w g 544 (b2 + 1).toNatClampNeg (g 540 7)) 540 7 0)) rfl r
    refine rn_ic (iw_s v h) rfl decide_eq_true_iff.symm r (fun c40 l41n l41 r => ?_) (fun c40 l41n l41 r => ?_)
    · exact dn_179_137 x1 x3 jx1 jx3 r
    · obtain ⟨n42, ln42, r⟩ := rn_steps 1 (116, [some (.ref 540), x1, some (.int b2), x3], [.ref 540, .ref 540], aa_H (zz_w (zz_w g 544 (b2 + 1).toNatClampNeg (g 540 7)) 540 7 0)) rfl r
      exact dn_179_116 x1 x3 jx1 jx3 r
  · obtain ⟨n43, ln43, r⟩ := rn_steps 0 (87, [some (.ref 540), x1, some (.int b2), x3], [.int 0], aa_H g) rfl r
    exact rn_ire rfl r
noncomputable def fn_179_27 (g : aa_G) (s0 : Int32) : Int32 × aa_G := if s0 = (-1) then fn_179_42 g else if (g 540 10) ≠ 8 then fn_179_83 ((fn_180 (zz_w (zz_w g 540 5 ((g 540 5) + 1)) 544 (7 * (g 540 10)).toNatClampNeg s0) 0 11).2) (7 * (g 540 10)) ((fn_180 (zz_w (zz_w g 540 5 ((g 540 5) + 1)) 544 (7 * (g 540 10)).toNatClampNeg s0) 0 11).1) else fn_179_42 g
theorem dn_179_27 {v : Option Value} {h : zz_H} {n : Nat} {g : aa_G} {s0 : Int32}  (x1 x2 x3 : Option Value) (jx1 : rn_jk x1) (jx2 : rn_jk x2) (jx3 : rn_jk x3) (r : rn_s n 179 (27, [some (.ref 540), x1, x2, x3], [.int s0], aa_H g) v h) : iw_s v h (fn_179_27 g s0) := by
  unfold fn_179_27
  obtain ⟨n16, ln16, r⟩ := rn_steps 2 (30, [some (.ref 540), some (.int s0), x2, x3], [.int (-1), .int s0], aa_H g) rfl r
  refine rn_ic (iw_s v h) rfl decide_eq_true_iff.symm r (fun c17 l18n l18 r => ?_) (fun c17 l18n l18 r => ?_)
  · exact dn_179_42 (some (.int s0)) x2 x3 rn_ji jx2 jx3 r
  · obtain ⟨n19, ln19, r⟩ := rn_steps 2 (39, [some (.ref 540), some (.int s0), x2, x3], [.int 8, .int (g 540 10)], aa_H g) rfl r
    refine rn_ic (iw_s v h) rfl decide_eq_true_iff.symm r (fun c20 l21n l21 r => ?_) (fun c20 l21n l21 r => ?_)
    · obtain ⟨n22, ln22, r⟩ := rn_steps 14 (75, [some (.ref 540), some (.int s0), some (.int (7 * (g 540 10))), x3], [.int s0, .int (7 * (g 540 10)), .ref 544], aa_H (zz_w g 540 5 ((g 540 5) + 1))) rfl r
      obtain ⟨hb24, n23, ln23, r⟩ := rn_ias (k := 544) rfl ⟨by decide, by decide⟩ rfl r
      have r : rn_s _ 179 (76, [some (.ref 540), some (.int s0), some (.int (7 * (g 540 10))), x3], [], aa_H (zz_w (zz_w g 540 5 ((g 540 5) + 1)) 544 (7 * (g 540 10)).toNatClampNeg s0)) v h := r
      obtain ⟨n25, ln25, r⟩ := rn_steps 2 (80, [some (.ref 540), some (.int s0), some (.int (7 * (g 540 10))), x3], [.int 11, .int 0, .ref 540], aa_H (zz_w (zz_w g 540 5 ((g 540 5) + 1)) 544 (7 * (g 540 10)).toNatClampNeg s0)) rfl r
      obtain ⟨_, n26, v1, h1, -, ln26, rc, r⟩ := rn_call (m2 := 180) (as := [.ref 540, .int 0, .int 11]) (rest := []) rfl rfl r
      obtain ⟨rfl, rfl⟩ := dn_180 rc
      have r : rn_s _ 179 (83, [some (.ref 540), some (.int s0), some (.int (7 * (g 540 10))), x3], [.int ((fn_180 (zz_w (zz_w g 540 5 ((g 540 5) + 1)) 544 (7 * (g 540 10)).toNatClampNeg s0) 0 11).1)], aa_H ((fn_180 (zz_w (zz_w g 540 5 ((g 540 5) + 1)) 544 (7 * (g 540 10)).toNatClampNeg s0) 0 11).2)) v h := r
      exact dn_179_83 (some (.int s0)) x3 rn_ji jx3 r
    · exact dn_179_42 (some (.int s0)) x2 x3 rn_ji jx2 jx3 r
noncomputable def fn_179 (g : aa_G)  : Int32 × aa_G := if (fn_167 g) ≠ 100 then if (fn_167 g) ≠ 110 then fn_179_27 g (-1) else fn_179_27 g 1 else fn_179_27 g 0
theorem dn_179 {v : Option Value} {h : zz_H} {n : Nat} {g : aa_G}   (r : rn_s n 179 (0, zz_in [.ref 540] (zz_nl 179), [], aa_H g) v h) : iw_s v h (fn_179 g) := by
  have r : rn_s n 179 (0, [some (.ref 540), none, none, none], [], aa_H g) v h := r
  unfold fn_179
  obtain ⟨n1, ln1, r⟩ := rn_steps 0 (1, [some (.ref 540), none, none, none], [.ref 540], aa_H g) rfl r
  obtain ⟨_, n2, v1, h1, -, ln2, rc, r⟩ := rn_call (m2 := 167) (as := [.ref 540]) (rest := []) rfl rfl r
  obtain ⟨rfl, rfl⟩ := dn_167 rc
  have r : rn_s _ 179 (4, [some (.ref 540), none, none, none], [.int (fn_167 g)], aa_H g) v h := r
  obtain ⟨n4, ln4, r⟩ := rn_steps 0 (6, [some (.ref 540), none, none, none], [.int 100, .int (fn_167 g)], aa_H g) rfl r
  refine rn_ic (iw_s v h) rfl decide_eq_true_iff.symm r (fun c5 l6n l6 r => ?_) (fun c5 l6n l6 r => ?_)
  · obtain ⟨n7, ln7, r⟩ := rn_steps 0 (14, [some (.ref 540), none, none, none], [.ref 540], aa_H g) rfl r
    obtain ⟨_, n8, v1, h1, -, ln8, rc, r⟩ := rn_call (m2 := 167) (as := [.ref 540]) (rest := []) rfl rfl r
    obtain ⟨rfl, rfl⟩ := dn_167 rc
    have r : rn_s _ 179 (17, [some (.ref 540), none, none, none], [.int (fn_167 g)], aa_H g) v h := r
    obtain ⟨n10, ln10, r⟩ := rn_steps 0 (19, [some (.ref 540), none, none, none], [.int 110, .int (fn_167 g)], aa_H g) rfl r
    refine rn_ic (iw_s v h) rfl decide_eq_true_iff.symm r (fun c11 l12n l12 r => ?_) (fun c11 l12n l12 r => ?_)
    · obtain ⟨n13, ln13, r⟩ := rn_steps 0 (27, [some (.ref 540), none, none, none], [.int (-1)], aa_H g) rfl r
      exact dn_179_27 none none none rn_jn rn_jn rn_jn r
    · obtain ⟨n14, ln14, r⟩ := rn_steps 1 (27, [some (.ref 540), none, none, none], [.int 1], aa_H g) rfl r
      exact dn_179_27 none none none rn_jn rn_jn rn_jn r
  · obtain ⟨n15, ln15, r⟩ := rn_steps 1 (27, [some (.ref 540), none, none, none], [.int 0], aa_H g) rfl r
    exact dn_179_27 none none none rn_jn rn_jn rn_jn r
-- 178: UnequalHoursModel bells
noncomputable def fn_178_40 (g : aa_G) (s0 : Int32) : (aa_G × Int32) ⊕ (Int32 × aa_G) := .inl (g, s0)
theorem dn_178_40 {v : Option Value} {h : zz_H} {n : Nat} {g : aa_G} {s0 : Int32} (P : (aa_G × Int32) ⊕ (Int32 × aa_G) → Prop) (hO0 : ∀ n2, n2 < n → ∀ (yg : aa_G) (yb1 : Int32) (yx2 : Option Value) (_ : rn_jk yx2), rn_s n2 178 (21, [some (.ref 540), some (.int yb1), yx2], [], aa_H yg) v h → P (.inl (yg, yb1))) (hR : ∀ E, iw_s v h E → P (.inr E))  (x1 x2 : Option Value) (jx1 : rn_jk x1) (jx2 : rn_jk x2) (r : rn_s n 178 (40, [some (.ref 540), x1, x2], [.int s0], aa_H g) v h) : P (fn_178_40 g s0) := by
  unfold fn_178_40
  obtain ⟨n21, ln21, r⟩ := rn_steps 1 (21, [some (.ref 540), some (.int s0), x2], [], aa_H g) rfl r
  exact hO0 _ (by omega) g s0 x2 jx2 r
noncomputable def fn_178_106b (g : aa_G) (b2 : Int32) : (aa_G × Int32) ⊕ (Int32 × aa_G) := if (g 540 11) ≤ b2 then .inr (g 540 10, g) else .inl (zz_w g 541 (259 + b2).toNatClampNeg (g 545 b2.toNatClampNeg), b2 + 1)
noncomputable def fn_178_106 (g : aa_G) (b2 : Int32) : Int32 × aa_G := lp_f (0, g) (fun z : (aa_G × Int32) => fn_178_106b z.1 z.2) (g, b2)
theorem dn_178_106l {v : Option Value} {h : zz_H} {N : Nat}  {d : Int32 × aa_G} : ∀ (n : Nat), n ≤ N → ∀ (g : aa_G) (b2 : Int32) (x1 : Option Value) (jx1 : rn_jk x1), rn_s n 178 (106, [some (.ref 540), x1, some (.int b2)], [], aa_H g) v h → (iw_s v h) (lp_f d (fun z : (aa_G × Int32) => fn_178_106b z.1 z.2) (g, b2)) := by
  generalize hf : (fun z : (aa_G × Int32) => fn_178_106b z.1 z.2) = f
  intro n
  induction n using Nat.strongRecOn with
  | _ n ih =>
    intro hN g b2 x1 jx1 r
    refine lp_go ?_
    rw [← congrFun hf (g, b2)]
    show lp_q (iw_s v h) d f (fn_178_106b g b2)
    unfold fn_178_106b
    obtain ⟨n39, ln39, r⟩ := rn_steps 2 (111, [some (.ref 540), x1, some (.int b2)], [.int (g 540 11), .int b2], aa_H g) rfl r
    refine rn_ic (lp_q (iw_s v h) d f) rfl decide_eq_true_iff.symm r (fun c40 l41n l41 r => ?_) (fun c40 l41n l41 r => ?_)
    · obtain ⟨n42, ln42, r⟩ := rn_steps 1 (140, [some (.ref 540), x1, some (.int b2)], [.int (g 540 10)], aa_H g) rfl r
      exact rn_ire rfl r
    · obtain ⟨n43, ln43, r⟩ := rn_steps 7 (128, [some (.ref 540), x1, some (.int b2)], [.int b2, .ref 545, .int (259 + b2), .ref 541], aa_H g) rfl r
      obtain ⟨hb45, n44, ln44, r⟩ := rn_ial (k := 545) rfl ⟨by decide, by decide⟩ rfl r
      have r : rn_s _ 178 (129, [some (.ref 540), x1, some (.int b2)], [.int (g 545 b2.toNatClampNeg), .int (259 + b2), .ref 541], aa_H g) v h := r
      obtain ⟨hb47, n46, ln46, r⟩ := rn_ias (k := 541) rfl ⟨by decide, by decide⟩ rfl r
      have r : rn_s _ 178 (130, [some (.ref 540), x1, some (.int b2)], [], aa_H (zz_w g 541 (259 + b2).toNatClampNeg (g 545 b2.toNatClampNeg))) v h := r
      obtain ⟨n48, ln48, r⟩ := rn_iin (i := 2) rfl rfl jx1 rfl rfl ⟨Nat.le_of_ble_eq_true rfl, Nat.le_of_ble_eq_true rfl⟩ r
      have r : rn_s _ 178 (133, [some (.ref 540), x1, some (.int (b2 + 1))], [], aa_H (zz_w g 541 (259 + b2).toNatClampNeg (g 545 b2.toNatClampNeg))) v h := r
      obtain ⟨n49, ln49, r⟩ := rn_steps 0 (106, [some (.ref 540), x1, some (.int (b2 + 1))], [], aa_H (zz_w g 541 (259 + b2).toNatClampNeg (g 545 b2.toNatClampNeg))) rfl r
      exact ih _ (by omega) (by omega) (zz_w g 541 (259 + b2).toNatClampNeg (g 545 b2.toNatClampNeg)) (b2 + 1) x1 jx1 r
theorem dn_178_106 {v : Option Value} {h : zz_H} {n : Nat} {g : aa_G} {b2 : Int32}  (x1 : Option Value) (jx1 : rn_jk x1) (r : rn_s n 178 (106, [some (.ref 540), x1, some (.int b2)], [], aa_H g) v h) : (iw_s v h) (fn_178_106 g b2) := dn_178_106l  n (Nat.le_refl n) g b2 x1 jx1 r
noncomputable def fn_178_71b (g : aa_G) (b2 : Int32) : (aa_G × Int32) ⊕ (Int32 × aa_G) := if (7 * (g 540 10)) ≤ b2 then .inr (fn_178_106 g 0) else .inl (zz_w g 541 (203 + b2).toNatClampNeg (g 544 b2.toNatClampNeg), b2 + 1)
noncomputable def fn_178_71 (g : aa_G) (b2 : Int32) : Int32 × aa_G := lp_f (0, g) (fun z : (aa_G × Int32) => fn_178_71b z.1 z.2) (g, b2)
theorem dn_178_71l {v : Option Value} {h : zz_H} {N : Nat}  {d : Int32 × aa_G} : ∀ (n : Nat), n ≤ N → ∀ (g : aa_G) (b2 : Int32) (x1 : Option Value) (jx1 : rn_jk x1), rn_s n 178 (71, [some (.ref 540), x1, some (.int b2)], [], aa_H g) v h → (iw_s v h) (lp_f d (fun z : (aa_G × Int32) => fn_178_71b z.1 z.2) (g, b2)) := by
  generalize hf : (fun z : (aa_G × Int32) => fn_178_71b z.1 z.2) = f
  intro n
  induction n using Nat.strongRecOn with
  | _ n ih =>
    intro hN g b2 x1 jx1 r
    refine lp_go ?_
    rw [← congrFun hf (g, b2)]
    show lp_q (iw_s v h) d f (fn_178_71b g b2)
    unfold fn_178_71b
    obtain ⟨n27, ln27, r⟩ := rn_steps 4 (79, [some (.ref 540), x1, some (.int b2)], [.int (7 * (g 540 10)), .int b2], aa_H g) rfl r
    refine rn_ic (lp_q (iw_s v h) d f) rfl decide_eq_true_iff.symm r (fun c28 l29n l29 r => ?_) (fun c28 l29n l29 r => ?_)
    · obtain ⟨n30, ln30, r⟩ := rn_steps 0 (105, [some (.ref 540), x1, some (.int b2)], [.int 0], aa_H g) rfl r
      obtain ⟨n31, ln31, r⟩ := rn_isn (i := 2) rfl rfl jx1 rfl ⟨Nat.le_of_ble_eq_true rfl, Nat.le_of_ble_eq_true rfl⟩ r
      have r : rn_s _ 178 (106, [some (.ref 540), x1, some (.int 0)], [], aa_H g) v h := r
      exact dn_178_106 x1 jx1 r
    · obtain ⟨n32, ln32, r⟩ := rn_steps 7 (96, [some (.ref 540), x1, some (.int b2)], [.int b2, .ref 544, .int (203 + b2), .ref 541], aa_H g) rfl r
      obtain ⟨hb34, n33, ln33, r⟩ := rn_ial (k := 544) rfl ⟨by decide, by decide⟩ rfl r
      have r : rn_s _ 178 (97, [some (.ref 540), x1, some (.int b2)], [.int (g 544 b2.toNatClampNeg), .int (203 + b2), .ref 541], aa_H g) v h := r
      obtain ⟨hb36, n35, ln35, r⟩ := rn_ias (k := 541) rfl ⟨by decide, by decide⟩ rfl r
      have r : rn_s _ 178 (98, [some (.ref 540), x1, some (.int b2)], [], aa_H (zz_w g 541 (203 + b2).toNatClampNeg (g 544 b2.toNatClampNeg))) v h := r
      obtain ⟨n37, ln37, r⟩ := rn_iin (i := 2) rfl rfl jx1 rfl rfl ⟨Nat.le_of_ble_eq_true rfl, Nat.le_of_ble_eq_true rfl⟩ r
      have r : rn_s _ 178 (101, [some (.ref 540), x1, some (.int (b2 + 1))], [], aa_H (zz_w g 541 (203 + b2).toNatClampNeg (g 544 b2.toNatClampNeg))) v h := r
      obtain ⟨n38, ln38, r⟩ := rn_steps 0 (71, [some (.ref 540), x1, some (.int (b2 + 1))], [], aa_H (zz_w g 541 (203 + b2).toNatClampNeg (g 544 b2.toNatClampNeg))) rfl r
      exact ih _ (by omega) (by omega) (zz_w g 541 (203 + b2).toNatClampNeg (g 544 b2.toNatClampNeg)) (b2 + 1) x1 jx1 r
theorem dn_178_71 {v : Option Value} {h : zz_H} {n : Nat} {g : aa_G} {b2 : Int32}  (x1 : Option Value) (jx1 : rn_jk x1) (r : rn_s n 178 (71, [some (.ref 540), x1, some (.int b2)], [], aa_H g) v h) : (iw_s v h) (fn_178_71 g b2) := dn_178_71l  n (Nat.le_refl n) g b2 x1 jx1 r
noncomputable def fn_178_59 (g : aa_G)  : Int32 × aa_G := fn_178_71 (zz_w g 541 (2 : Int32).toNatClampNeg (g 540 10)) 0
theorem dn_178_59 {v : Option Value} {h : zz_H} {n : Nat} {g : aa_G}   (x1 x2 : Option Value) (jx1 : rn_jk x1) (jx2 : rn_jk x2) (r : rn_s n 178 (59, [some (.ref 540), x1, x2], [], aa_H g) v h) : iw_s v h (fn_178_59 g) := by
  unfold fn_178_59
  obtain ⟨n22, ln22, r⟩ := rn_steps 4 (68, [some (.ref 540), x1, x2], [.int (g 540 10), .int 2, .ref 541], aa_H g) rfl r
  obtain ⟨hb24, n23, ln23, r⟩ := rn_ias (k := 541) rfl ⟨by decide, by decide⟩ rfl r
  have r : rn_s _ 178 (69, [some (.ref 540), x1, x2], [], aa_H (zz_w g 541 (2 : Int32).toNatClampNeg (g 540 10))) v h := r
  obtain ⟨n25, ln25, r⟩ := rn_steps 0 (70, [some (.ref 540), x1, x2], [.int 0], aa_H (zz_w g 541 (2 : Int32).toNatClampNeg (g 540 10))) rfl r
  obtain ⟨n26, ln26, r⟩ := rn_isn (i := 2) rfl rfl jx1 rfl ⟨Nat.le_of_ble_eq_true rfl, Nat.le_of_ble_eq_true rfl⟩ r
  have r : rn_s _ 178 (71, [some (.ref 540), x1, some (.int 0)], [], aa_H (zz_w g 541 (2 : Int32).toNatClampNeg (g 540 10))) v h := r
  exact dn_178_71 x1 jx1 r
noncomputable def fn_178_44 (g : aa_G) (b1 : Int32) : Int32 × aa_G := if b1 ≠ 0 then fn_178_59 (fn_156 (zz_w g 540 4 0)) else (-1, zz_w g 540 4 0)
theorem dn_178_44 {v : Option Value} {h : zz_H} {n : Nat} {g : aa_G} {b1 : Int32}  (x2 : Option Value) (jx2 : rn_jk x2) (r : rn_s n 178 (44, [some (.ref 540), some (.int b1), x2], [], aa_H g) v h) : iw_s v h (fn_178_44 g b1) := by
  unfold fn_178_44
  obtain ⟨n14, ln14, r⟩ := rn_steps 3 (50, [some (.ref 540), some (.int b1), x2], [.int b1], aa_H (zz_w g 540 4 0)) rfl r
  refine rn_if (iw_s v h) rfl decide_eq_true_iff.symm r (fun c15 l16n l16 r => ?_) (fun c15 l16n l16 r => ?_)
  · obtain ⟨n17, ln17, r⟩ := rn_steps 0 (56, [some (.ref 540), some (.int b1), x2], [.ref 540], aa_H (zz_w g 540 4 0)) rfl r
    obtain ⟨_, n18, v1, h1, -, ln18, rc, r⟩ := rn_call (m2 := 156) (as := [.ref 540]) (rest := []) rfl rfl r
    obtain ⟨rfl, rfl⟩ := dn_156 rc
    have r : rn_s _ 178 (59, [some (.ref 540), some (.int b1), x2], [], aa_H (fn_156 (zz_w g 540 4 0))) v h := r
    exact dn_178_59 (some (.int b1)) x2 rn_ji jx2 r
  · obtain ⟨n20, ln20, r⟩ := rn_steps 0 (54, [some (.ref 540), some (.int b1), x2], [.int (-1)], aa_H (zz_w g 540 4 0)) rfl r
    exact rn_ire rfl r
noncomputable def fn_178_21b (g : aa_G) (b1 : Int32) : (aa_G × Int32) ⊕ (Int32 × aa_G) := if b1 = 0 then .inr (fn_178_44 g b1) else if (g 540 4) ≤ (g 540 5) then .inr (fn_178_44 g b1) else fn_178_40 ((fn_179 g).2) ((fn_179 g).1)
noncomputable def fn_178_21 (g : aa_G) (b1 : Int32) : Int32 × aa_G := lp_f (0, g) (fun z : (aa_G × Int32) => fn_178_21b z.1 z.2) (g, b1)
theorem dn_178_21l {v : Option Value} {h : zz_H} {N : Nat}  {d : Int32 × aa_G} : ∀ (n : Nat), n ≤ N → ∀ (g : aa_G) (b1 : Int32) (x2 : Option Value) (jx2 : rn_jk x2), rn_s n 178 (21, [some (.ref 540), some (.int b1), x2], [], aa_H g) v h → (iw_s v h) (lp_f d (fun z : (aa_G × Int32) => fn_178_21b z.1 z.2) (g, b1)) := by
  generalize hf : (fun z : (aa_G × Int32) => fn_178_21b z.1 z.2) = f
  intro n
  induction n using Nat.strongRecOn with
  | _ n ih =>
    intro hN g b1 x2 jx2 r
    refine lp_go ?_
    rw [← congrFun hf (g, b1)]
    show lp_q (iw_s v h) d f (fn_178_21b g b1)
    unfold fn_178_21b
    obtain ⟨n5, ln5, r⟩ := rn_steps 0 (22, [some (.ref 540), some (.int b1), x2], [.int b1], aa_H g) rfl r
    refine rn_if (lp_q (iw_s v h) d f) rfl decide_eq_true_iff.symm r (fun c6 l7n l7 r => ?_) (fun c6 l7n l7 r => ?_)
    · exact dn_178_44 x2 jx2 r
    · obtain ⟨n8, ln8, r⟩ := rn_steps 3 (33, [some (.ref 540), some (.int b1), x2], [.int (g 540 4), .int (g 540 5)], aa_H g) rfl r
      refine rn_ic (lp_q (iw_s v h) d f) rfl decide_eq_true_iff.symm r (fun c9 l10n l10 r => ?_) (fun c9 l10n l10 r => ?_)
      · exact dn_178_44 x2 jx2 r
      · obtain ⟨n11, ln11, r⟩ := rn_steps 0 (37, [some (.ref 540), some (.int b1), x2], [.ref 540], aa_H g) rfl r
        obtain ⟨_, n12, v1, h1, -, ln12, rc, r⟩ := rn_call (m2 := 179) (as := [.ref 540]) (rest := []) rfl rfl r
        obtain ⟨rfl, rfl⟩ := dn_179 rc
        have r : rn_s _ 178 (40, [some (.ref 540), some (.int b1), x2], [.int ((fn_179 g).1)], aa_H ((fn_179 g).2)) v h := r
        exact dn_178_40 (lp_q (iw_s v h) d f) (fun n2 l2 => ih n2 (by omega) (by omega)) (fun z hz => hz) (some (.int b1)) x2 rn_ji jx2 r
theorem dn_178_21 {v : Option Value} {h : zz_H} {n : Nat} {g : aa_G} {b1 : Int32}  (x2 : Option Value) (jx2 : rn_jk x2) (r : rn_s n 178 (21, [some (.ref 540), some (.int b1), x2], [], aa_H g) v h) : (iw_s v h) (fn_178_21 g b1) := dn_178_21l  n (Nat.le_refl n) g b1 x2 jx2 r
noncomputable def fn_178_4 (g : aa_G)  : Int32 × aa_G := fn_178_21 (zz_w (zz_w (zz_w g 540 10 0) 540 11 0) 540 12 0) 1
theorem dn_178_4 {v : Option Value} {h : zz_H} {n : Nat} {g : aa_G}   (x1 x2 : Option Value) (jx1 : rn_jk x1) (jx2 : rn_jk x2) (r : rn_s n 178 (4, [some (.ref 540), x1, x2], [], aa_H g) v h) : iw_s v h (fn_178_4 g) := by
  unfold fn_178_4
  obtain ⟨n4, ln4, r⟩ := rn_steps 10 (21, [some (.ref 540), some (.int 1), x2], [], aa_H (zz_w (zz_w (zz_w g 540 10 0) 540 11 0) 540 12 0)) rfl r
  exact dn_178_21 x2 jx2 r
noncomputable def fn_178 (g : aa_G)  : Int32 × aa_G := fn_178_4 (fn_165 g)
theorem dn_178 {v : Option Value} {h : zz_H} {n : Nat} {g : aa_G}   (r : rn_s n 178 (0, zz_in [.ref 540] (zz_nl 178), [], aa_H g) v h) : iw_s v h (fn_178 g) := by
  have r : rn_s n 178 (0, [some (.ref 540), none, none], [], aa_H g) v h := r
  unfold fn_178
  obtain ⟨n1, ln1, r⟩ := rn_steps 0 (1, [some (.ref 540), none, none], [.ref 540], aa_H g) rfl r
  obtain ⟨_, n2, v1, h1, -, ln2, rc, r⟩ := rn_call (m2 := 165) (as := [.ref 540]) (rest := []) rfl rfl r
  obtain ⟨rfl, rfl⟩ := dn_165 rc
  have r : rn_s _ 178 (4, [some (.ref 540), none, none], [], aa_H (fn_165 g)) v h := r
  exact dn_178_4 none none rn_jn rn_jn r
end
section
/-! BELLS: bells() of the model, with what it leaves -/
def bg_fr (g g' : aa_G) : Prop := ∀ k j, ¬ (k = 540 ∧ 10 ≤ j ∧ j ≤ 12) → k ≠ 544 → k ≠ 545 → g' k j = g k j
theorem bm_bell {g : aa_G} {b : Nat → Int32} {n N T c p : Nat} {z : Int32} (h : tm_ok g b n) (hN : N ≤ 8) (hT : T ≤ 40) (hc : c ≤ 60 + 2 * T) (hp : p ≤ n) (h10 : g 540 10 = Int32.ofNat N) (h11 : g 540 11 = Int32.ofNat c) (h12 : g 540 12 = Int32.ofNat T) : (∃ f g', pb_bell b n p N T = .inl f ∧ fn_179 (tm_at g p z) = (0, g') ∧ mb_bbad g f N c g') ∨ (∃ q F T2 cs g' z', pb_bell b n p N T = .inr (q, (F, (T2, cs))) ∧ q ≤ n ∧ fn_179 (tm_at g p z) = (1, tm_at g' q z') ∧ mb_bst g g' N T c F T2 cs) := by
  have k := tr_w (mb_bell (z := z) h hN hT hc hp h10 h11 h12) (fun n v h r => dn_179 r)
  rcases k with ⟨f, k1, k2, g', k3, k4⟩ | ⟨q, F, T2, cs, k1, k2, k3, g', z', k4, k5⟩
  · exact .inl ⟨f, g', k1, pr_e (vi_i k2) (ep_H k3), k4⟩
  · exact .inr ⟨q, F, T2, cs, g', z', k1, k2, pr_e (vi_i k3) (ep_H k4), k5⟩
theorem bm_loop {b : Nat → Int32} {n : Nat} {g0 : aa_G} : ∀ (k p N T c : Nat) (g : aa_G) (z : Int32), n < k + p → p ≤ n → N ≤ 8 → T ≤ 40 → c ≤ 2 * T → bg_fr g0 g → tm_ok g b n → g 540 10 = Int32.ofNat N → g 540 11 = Int32.ofNat c → g 540 12 = Int32.ofNat T →
    (∃ f g', ml_loop b n k p N T = .inl f ∧ g' 540 6 = Int32.ofNat f ∧ (∀ k j, ¬ (k = 540 ∧ ((5 ≤ j ∧ j ≤ 7) ∨ (10 ≤ j ∧ j ≤ 12))) → k ≠ 544 → k ≠ 545 → g' k j = g0 k j) ∧ fn_178_21 (tm_at g p z) 1 = fn_178_44 g' 0) ∨
    (∃ N2 c2 g' q z2, ml_loop b n k p N T = .inr N2 ∧ N2 ≤ 8 ∧ c2 ≤ 80 ∧ bg_fr g0 g' ∧ g' 540 10 = Int32.ofNat N2 ∧ g' 540 11 = Int32.ofNat c2 ∧ fn_178_21 (tm_at g p z) 1 = fn_178_44 (tm_at g' q z2) 1) := by
  intro k
  induction k with
  | zero => intro p N T c g z hk hp; omega
  | succ k ih =>
    intro p N T c g z hk hp hN hT hc hf h h10 h11 h12
    have hn := h.2.1
    have e5 : tm_at g p z 540 5 = Int32.ofNat p := by
      unfold tm_at
      rw [aa_w_ne _ _ (by omega), aa_w_at]
    have e4 : tm_at g p z 540 4 = Int32.ofNat n := (tz_m _ _ _ (by omega)).trans h.1
    by_cases hm : p < n
    · have hb : fn_178_21b (tm_at g p z) 1 = .inl ((fn_179 (tm_at g p z)).2, (fn_179 (tm_at g p z)).1) := by
        unfold fn_178_21b fn_178_40
        rw [if_neg (by decide), e4, e5, if_neg (fun z => by
          have := (i_le (by omega) (by omega)).mp z
          omega)]
      have hs : fn_178_21 (tm_at g p z) 1 = fn_178_21 (fn_179 (tm_at g p z)).2 (fn_179 (tm_at g p z)).1 := by
        unfold fn_178_21
        exact lp_l hb
      rcases bm_bell (z := z) h hN hT (by omega) hp h10 h11 h12 with ⟨f, g', b1, b2, b3⟩ | ⟨q, F, T2, cs, g', z', b1, b2, b3, b4⟩
      · left
        refine ⟨f, g', ml_inl hm b1, b3.2, fun a j z1 z2 z3 => (b3.1 a j z1 (by omega) (by omega)).trans (hf a j (by omega) z2 z3), ?_⟩
        rw [hs, b2]
        unfold fn_178_21
        refine lp_r ?_
        show fn_178_21b g' 0 = _
        unfold fn_178_21b
        rw [if_pos rfl]
      · obtain ⟨a1, a2, a3, a4, a5, a6, -⟩ := (cb_pb (b := b) (n := n) (p := p) (N := N) hT).2 q F T2 cs b1
        obtain ⟨s1, s2, s3, s4, -⟩ := b4
        rw [ml_inr hm b1, hs, b3]
        exact ih q (N + 1) T2 (c + cs.length) g' z' (by omega) a2 (by omega) a3 (by omega) (fun a j z1 z2 z3 => (s1 a j z1 (fun e => z3 e.1) (fun e => z2 e.1)).trans (hf a j z1 z2 z3)) (s1.ok h) s2 s3 s4
    · right
      refine ⟨N, c, g, p, z, ml_no hm, hN, by omega, hf, h10, h11, ?_⟩
      unfold fn_178_21
      refine lp_r ?_
      show fn_178_21b (tm_at g p z) 1 = _
      unfold fn_178_21b
      rw [if_neg (by decide), e4, e5, if_pos ((i_le (by omega) (by omega)).mpr (by omega))]
/-- the numbers go to row 0 -/
theorem bc_1 {N : Nat} (hN : N ≤ 8) : ∀ (m j : Nat) (g : aa_G), j + m = 7 * N → g 540 10 = Int32.ofNat N → ∃ g', fn_178_71 g (Int32.ofNat j) = fn_178_106 g' 0 ∧ (∀ q, 203 + j ≤ q → q < 203 + 7 * N → g' 541 q = g 544 (q - 203)) ∧ ∀ k i, ¬ (k = 541 ∧ 203 + j ≤ i ∧ i < 203 + 7 * N) → g' k i = g k i
  | 0, j, g, hj, h => by
    refine ⟨g, ?_, fun q q1 q2 => by omega, fun _ _ _ => rfl⟩
    unfold fn_178_71
    refine lp_r ?_
    show fn_178_71b g (Int32.ofNat j) = _
    unfold fn_178_71b
    rw [h, show (7 : Int32) * Int32.ofNat N = Int32.ofNat (7 * N) from (Int32.ofNat_mul 7 N).symm, if_pos ((i_le (by omega) (by omega)).mpr (by omega))]
  | m + 1, j, g, hj, h => by
    have hs : fn_178_71 g (Int32.ofNat j) = fn_178_71 (zz_w g 541 (203 + j) (g 544 j)) (Int32.ofNat (j + 1)) := by
      unfold fn_178_71
      refine lp_l ?_
      show fn_178_71b g (Int32.ofNat j) = _
      unfold fn_178_71b
      rw [h, show (7 : Int32) * Int32.ofNat N = Int32.ofNat (7 * N) from (Int32.ofNat_mul 7 N).symm, if_neg (fun z => by
        have := (i_le (by omega) (by omega)).mp z
        omega), show (203 : Int32) + Int32.ofNat j = Int32.ofNat (203 + j) from i_add 203 j, zz_toN (by omega), zz_toN (by omega), aa_succ]
    obtain ⟨g', r1, r2, r3⟩ := bc_1 hN m (j + 1) (zz_w g 541 (203 + j) (g 544 j)) (by omega) ((aa_w_ne _ _ (by omega)).trans h)
    refine ⟨g', hs.trans r1, fun q q1 q2 => ?_, fun k i z => ?_⟩
    · by_cases e : q = 203 + j
      · rw [r3 541 q (by omega), e, aa_w_at, show 203 + j - 203 = j by omega]
      · rw [r2 q (by omega) q2, aa_w_ne _ _ (by omega)]
    · rw [r3 k i (by omega), aa_w_ne _ _ (by omega)]
theorem bc_2 {c : Nat} (hc : c ≤ 80) : ∀ (m j : Nat) (g : aa_G), j + m = c → g 540 11 = Int32.ofNat c → ∃ g', fn_178_106 g (Int32.ofNat j) = (g 540 10, g') ∧ (∀ q, 259 + j ≤ q → q < 259 + c → g' 541 q = g 545 (q - 259)) ∧ ∀ k i, ¬ (k = 541 ∧ 259 + j ≤ i ∧ i < 259 + c) → g' k i = g k i
  | 0, j, g, hj, h => by
    refine ⟨g, ?_, fun q q1 q2 => by omega, fun _ _ _ => rfl⟩
    unfold fn_178_106
    refine lp_r ?_
    show fn_178_106b g (Int32.ofNat j) = _
    unfold fn_178_106b
    rw [h, if_pos ((i_le (by omega) (by omega)).mpr (by omega))]
  | m + 1, j, g, hj, h => by
    have hs : fn_178_106 g (Int32.ofNat j) = fn_178_106 (zz_w g 541 (259 + j) (g 545 j)) (Int32.ofNat (j + 1)) := by
      unfold fn_178_106
      refine lp_l ?_
      show fn_178_106b g (Int32.ofNat j) = _
      unfold fn_178_106b
      rw [h, if_neg (fun z => by
        have := (i_le (by omega) (by omega)).mp z
        omega), show (259 : Int32) + Int32.ofNat j = Int32.ofNat (259 + j) from i_add 259 j, zz_toN (by omega), zz_toN (by omega), aa_succ]
    obtain ⟨g', r1, r2, r3⟩ := bc_2 hc m (j + 1) (zz_w g 541 (259 + j) (g 545 j)) (by omega) ((aa_w_ne _ _ (by omega)).trans h)
    refine ⟨g', ?_, fun q q1 q2 => ?_, fun k i z => ?_⟩
    · rw [hs, r1, aa_w_ne _ _ (by omega)]
    · by_cases e : q = 259 + j
      · rw [r3 541 q (by omega), e, aa_w_at, show 259 + j - 259 = j by omega]
      · rw [r2 q (by omega) q2, aa_w_ne _ _ (by omega)]
    · rw [r3 k i (by omega), aa_w_ne _ _ (by omega)]
/-- what the model's bells() leaves -/
def xb_m (r : Nat ⊕ Nat) (c : Nat) (g g' : aa_G) : Prop := g' 540 4 = 0 ∧ g' 540 6 = bl_flt r ∧ (∀ k j, k ≠ 541 → ¬ (k = 540 ∧ (j = 1 ∨ (4 ≤ j ∧ j ≤ 7) ∨ (10 ≤ j ∧ j ≤ 12))) → k ≠ 544 → k ≠ 545 → g' k j = g k j) ∧ (match r with
  | .inl _ => (∀ j, g' 541 j = g 541 j) ∧ g' 540 1 = g 540 1
  | .inr N => g' 541 2 = Int32.ofNat N ∧ (∀ j, j < 203 → j ≠ 2 → g' 541 j = g 541 j) ∧ (∀ j, 399 ≤ j → j < 1197 → g' 541 j = g 541 j) ∧ g' 540 1 = Int32.ofNat (min (c + 1) 12) ∧ (∀ q, q < 399 → g' 541 (399 * (3 + min c 11) + q) = g 541 (399 * 0 + q)) ∧ (∀ i q, q < 399 → i < min c 11 → g' 541 (399 * (3 + i) + q) = g 541 (399 * (3 + i + (if c = 12 then 1 else 0)) + q)))
theorem bm_all {g : aa_G} {b : Nat → Int32} {n c : Nat} (h : tm_ok g b n) (hc : g 540 1 = Int32.ofNat c) (h12 : c ≤ 12) : (fn_178 g).1 = bl_ans (ml_loop b n (n + 1) 0 0 0) ∧ xb_m (ml_loop b n (n + 1) 0 0 0) c g (fn_178 g).2 := by
  have hn := h.2.1
  have em : fn_178 g = fn_178_21 (tm_at (zz_w (zz_w (zz_w (zz_w g 540 6 (-1)) 540 10 0) 540 11 0) 540 12 0) 0 (g 540 7)) 1 := by
    unfold fn_178 fn_178_4 fn_165 tm_at
    have e : zz_w (zz_w (zz_w (zz_w (zz_w g 540 5 0) 540 6 (-1)) 540 10 0) 540 11 0) 540 12 0 = zz_w (zz_w (zz_w (zz_w (zz_w (zz_w g 540 6 (-1)) 540 10 0) 540 11 0) 540 12 0) 540 5 (Int32.ofNat 0)) 540 7 (g 540 7) := by
      rw [zz_id (g := zz_w (zz_w (zz_w (zz_w (zz_w g 540 6 (-1)) 540 10 0) 540 11 0) 540 12 0) 540 5 (Int32.ofNat 0)) (by rw [aa_w_ne _ _ (by omega), aa_w_ne _ _ (by omega), aa_w_ne _ _ (by omega), aa_w_ne _ _ (by omega), aa_w_ne _ _ (by omega)]), zz_w_comm (zz_w (zz_w (zz_w g 540 6 (-1)) 540 10 0) 540 11 0) (k := 540) (j := 12) (a := 540) (b := 5) _ _ (by omega), zz_w_comm (zz_w (zz_w g 540 6 (-1)) 540 10 0) (k := 540) (j := 11) (a := 540) (b := 5) _ _ (by omega), zz_w_comm (zz_w g 540 6 (-1)) (k := 540) (j := 10) (a := 540) (b := 5) _ _ (by omega), zz_w_comm g (k := 540) (j := 6) (a := 540) (b := 5) _ _ (by omega)]
      rfl
    rw [e]
  generalize hG : zz_w (zz_w (zz_w (zz_w g 540 6 (-1)) 540 10 0) 540 11 0) 540 12 0 = G at em
  have G4 : ∀ k j, ¬ (k = 540 ∧ (j = 6 ∨ (10 ≤ j ∧ j ≤ 12))) → G k j = g k j := fun k j e => by
    rw [← hG, aa_w_ne _ _ (by omega), aa_w_ne _ _ (by omega), aa_w_ne _ _ (by omega), aa_w_ne _ _ (by omega)]
  have hok : tm_ok G b n := ⟨(G4 540 4 (by omega)).trans h.1, h.2.1, fun j hj => by rw [G4 543 j (by omega)]; exact h.2.2 j hj⟩
  have g12 : G 540 12 = 0 := by rw [← hG, aa_w_at]
  have g11 : G 540 11 = 0 := by rw [← hG, aa_w_ne _ _ (by omega), aa_w_at]
  have g10 : G 540 10 = 0 := by rw [← hG, aa_w_ne _ _ (by omega), aa_w_ne _ _ (by omega), aa_w_at]
  have g6 : G 540 6 = -1 := by rw [← hG, aa_w_ne _ _ (by omega), aa_w_ne _ _ (by omega), aa_w_ne _ _ (by omega), aa_w_at]
  rw [em]
  rcases bm_loop (g0 := G) (n + 1) 0 0 0 0 G (g 540 7) (by omega) (Nat.zero_le _) (by omega) (by omega) (Nat.le_refl _) (fun _ _ _ _ _ => rfl) hok g10 g11 g12 with ⟨f, g', k1, k2, k3, k4⟩ | ⟨N2, c2, g', q, z2, k1, k2, k3, k4, k5, k6, k7⟩
  · rw [k1, k4]
    unfold fn_178_44
    rw [if_neg (fun z => z rfl)]
    refine ⟨rfl, ?_, ?_, fun k j z1 z2 z3 z4 => ?_, fun j => ?_, ?_⟩
    · show zz_w g' 540 4 0 540 4 = 0
      rw [aa_w_at]
    · show zz_w g' 540 4 0 540 6 = Int32.ofNat f
      rw [aa_w_ne _ _ (by omega)]; exact k2
    · show zz_w g' 540 4 0 k j = g k j
      rw [aa_w_ne _ _ (by omega), k3 k j (by omega) z3 z4, G4 k j (by omega)]
    · show zz_w g' 540 4 0 541 j = g 541 j
      rw [aa_w_ne _ _ (by omega), k3 541 j (by omega) (by omega) (by omega), G4 541 j (by omega)]
    · show zz_w g' 540 4 0 540 1 = g 540 1
      rw [aa_w_ne _ _ (by omega), k3 540 1 (by omega) (by omega) (by omega), G4 540 1 (by omega)]
  · rw [k1, k7]
    unfold fn_178_44
    rw [if_pos (by decide)]
    generalize hK : zz_w (tm_at g' q z2) 540 4 0 = K
    have K1 : ∀ k j, ¬ (k = 540 ∧ (j = 4 ∨ j = 5 ∨ j = 7)) → K k j = g' k j := fun k j e => by
      rw [← hK, aa_w_ne _ _ (by omega), tz_m _ _ _ (by omega)]
    have hK4 : K 540 4 = 0 := by rw [← hK, aa_w_at]
    have Kg : ∀ k j, ¬ (k = 540 ∧ ((4 ≤ j ∧ j ≤ 7) ∨ (10 ≤ j ∧ j ≤ 12))) → k ≠ 544 → k ≠ 545 → K k j = g k j := fun k j z1 z2 z3 => (K1 k j (by omega)).trans ((k4 k j (by omega) z2 z3).trans (G4 k j (by omega)))
    have pm := dm_deed (g := K) ((Kg 540 1 (by omega) (by omega) (by omega)).trans hc) h12
    have K6 : K 540 6 = -1 := (K1 540 6 (by omega)).trans ((k4 540 6 (by omega) (by omega) (by omega)).trans g6)
    generalize fn_156 K = M at pm ⊢
    obtain ⟨m1, m2, m3, m4⟩ := pm
    unfold fn_178_59
    rw [show (2 : Int32).toNatClampNeg = 2 from rfl]
    have M10 : M 540 10 = Int32.ofNat N2 := (m4 540 10 (by omega) (by omega)).trans ((K1 540 10 (by omega)).trans k5)
    have M11 : M 540 11 = Int32.ofNat c2 := (m4 540 11 (by omega) (by omega)).trans ((K1 540 11 (by omega)).trans k6)
    obtain ⟨P, p1, p2, p3⟩ := bc_1 k2 (7 * N2) 0 (zz_w M 541 2 (M 540 10)) (by omega) ((aa_w_ne _ _ (by omega)).trans M10)
    obtain ⟨R, r1, r2, r3⟩ := bc_2 k3 c2 0 P (by omega) ((p3 540 11 (by omega)).trans ((aa_w_ne _ _ (by omega)).trans M11))
    rw [show (Int32.ofNat 0 : Int32) = 0 from rfl] at p1 r1
    rw [p1, r1]
    have fr : ∀ k j, ¬ (k = 541 ∧ (j = 2 ∨ (203 ≤ j ∧ j < 399))) → R k j = M k j := fun k j z => (r3 k j (by omega)).trans ((p3 k j (by omega)).trans (aa_w_ne _ _ (by omega)))
    refine ⟨?_, (fr 540 4 (by omega)).trans ((m4 540 4 (by omega) (by omega)).trans hK4), (fr 540 6 (by omega)).trans ((m4 540 6 (by omega) (by omega)).trans K6), fun k j z1 z2 z3 z4 => ?_, ?_, fun j z1 z2 => ?_, fun j z1 z2 => ?_, ?_, fun q hq => ?_, fun i q hq hi => ?_⟩
    · show P 540 10 = Int32.ofNat N2
      rw [p3 540 10 (by omega), aa_w_ne _ _ (by omega), M10]
    · show R k j = g k j
      rw [fr k j (by omega), m4 k j (by omega) (by omega), Kg k j (by omega) z3 z4]
    · show R 541 2 = Int32.ofNat N2
      rw [r3 541 2 (by omega), p3 541 2 (by omega), aa_w_at, M10]
    · show R 541 j = g 541 j
      rw [fr 541 j (by omega), m4 541 j (by omega) (by omega), Kg 541 j (by omega) (by omega) (by omega)]
    · show R 541 j = g 541 j
      rw [fr 541 j (by omega), m4 541 j (by omega) (by omega), Kg 541 j (by omega) (by omega) (by omega)]
    · exact (fr 540 1 (by omega)).trans m1
    · show R 541 (399 * (3 + min c 11) + q) = g 541 (399 * 0 + q)
      rw [fr 541 _ (by omega), m2 q hq, Kg 541 _ (by omega) (by omega) (by omega)]
    · show R 541 (399 * (3 + i) + q) = g 541 (399 * (3 + i + (if c = 12 then 1 else 0)) + q)
      rw [fr 541 _ (by omega), m3 i q hq hi, Kg 541 _ (by omega) (by omega) (by omega)]
theorem mu_bells {B : rq_Q} (hcp : rq_cp B) {gc gm gc' gm' : aa_G} {b : Nat → Int32} {n c e : Nat} (hi : aa_inv gm) (h : rr_g (qb_s B) gc gm) (hd : rd_g (qb_s B) gc gm c e) (hc : xb_c (cl_loop b n (n + 1) 0 0 0) e c gc gc') (hm : xb_m (ml_loop b n (n + 1) 0 0 0) c gm gm') (hB : ∀ N, ml_loop b n (n + 1) 0 0 0 = .inr N → B gc' gm' 2 0) : rr_g (qb_s B) gc' gm' := by
  rw [cl_ml (n + 1) 0 0 0 (by omega)] at hc
  obtain ⟨h0, h2, -, s1, s2, s3, s4, s5, s6, s7⟩ := h
  obtain ⟨x0, x1, xk, xr⟩ := hc
  obtain ⟨y0, y1, yk, yr⟩ := hm
  have he := hd.1.2
  have n4 : 0 ≤ (gm 541 0).toInt ∧ (gm 541 0).toInt ≤ 4 := iv_n hi (r := 0)
  have fc : ∀ k j, ¬ (2 ≤ k ∧ k ≤ 65) → ¬ (32 * e + 68 ≤ k ∧ k ≤ 32 * e + 99) → ¬ (k = 66 ∧ j ≤ 1) → k ≠ 454 → ¬ (k = 1 ∧ j = 13) → gc' k j = gc k j := xk
  have rest : (qb_s B gc' gm' 2 0) → (∀ j, 399 ≤ j → j < 1197 → gm' 541 j = gm 541 j) → (∃ c e, rd_g (qb_s B) gc' gm' c e) → rr_g (qb_s B) gc' gm' := by
    intro r1 r3 r4
    refine ⟨r1, fun k hk => ⟨?_, fun z => ?_⟩, r4, ?_, fun k hk => ?_, x1.trans y1.symm, ?_, ?_, ?_, fun j hj => ?_⟩
    · rw [fc 453 k (by omega) (by omega) (by omega) (by omega) (by omega), yk 542 k (by omega) (by omega) (by omega) (by omega)]; exact (h2 k hk).1
    · rw [yk 542 k (by omega) (by omega) (by omega) (by omega)] at z
      exact rq_same (qb_cp hcp) hi (by omega) (fun k' j _ _ => fc k' j (by omega) (by omega) (by omega) (by omega) (by omega)) (fun q hq => r3 _ (by omega) (by omega)) ((h2 k hk).2 z)
    · rw [x0, y0]
    · rw [yk 543 k (by omega) (by omega) (by omega) (by omega), fc 455 k (by omega) (by omega) (by omega) (by omega) (by omega)]; exact s2 k hk
    · rw [fc 1 14 (by omega) (by omega) (by omega) (by omega) (by omega), yk 540 35 (by omega) (by omega) (by omega) (by omega)]; exact s4
    · rw [yk 540 16 (by omega) (by omega) (by omega) (by omega)]; exact s5
    · rw [fc 459 0 (by omega) (by omega) (by omega) (by omega) (by omega), yk 540 37 (by omega) (by omega) (by omega) (by omega)]; exact s6
    · rw [yk 540 37 (by omega) (by omega) (by omega) (by omega)] at hj
      rw [fc 460 j (by omega) (by omega) (by omega) (by omega) (by omega), yk 553 j (by omega) (by omega) (by omega) (by omega)]; exact s7 j hj
  cases hr : ml_loop b n (n + 1) 0 0 0 with
  | inl f =>
    rw [hr] at xr yr
    obtain ⟨v5, v4⟩ := yr
    have u4 : ∀ k j, ¬ (34 ≤ k ∧ k ≤ 65) → k ≠ 454 → ¬ (k = 1 ∧ j = 13) → gc' k j = gc k j := xr
    obtain ⟨d1, ⟨d2, d3, d4⟩, d5⟩ := hd
    exact rest (rq_same (qb_cp hcp) hi (by omega) (fun k j _ _ => u4 k j (by omega) (by omega) (by omega)) (fun q hq => v5 _) h0) (fun j _ _ => v5 j) ⟨c, e, d1, ⟨(u4 66 0 (by omega) (by omega) (by omega)).trans d2, v4.trans d3, (u4 66 1 (by omega) (by omega) (by omega)).trans d4⟩, fun i hi' => rq_same (qb_cp hcp) hi (by omega) (fun k j _ _ => u4 k j (by omega) (by omega) (by omega)) (fun q hq => v5 _) (d5 i hi')⟩
  | inr N =>
    have hBB := hB N hr
    rw [hr] at xr yr
    obtain ⟨⟨u1, u2, u3, u4⟩, u6, u7, u8⟩ := xr
    obtain ⟨v1, v2, v3, v6, v7, v8⟩ := yr
    obtain ⟨⟨q1, q2, q3, q4⟩, qb⟩ := h0
    have q1 : gc 2 0 = gm 541 0 := q1
    have v20 : gm' 541 0 = gm 541 0 := v2 0 (by omega) (by omega)
    refine rest ⟨⟨u1.trans (q1.trans v20.symm), u2.trans (q2.trans (v2 1 (by omega) (by omega)).symm), u4.trans v1.symm, fun t ht => ?_⟩, hBB⟩ v3 ⟨_, _, rd_push (qb_cp hcp) hi ⟨⟨q1, q2, q3, q4⟩, qb⟩ hd u6 u7 u8 (fun k j z1 z2 z3 => fc k j (by omega) (by omega) (by omega) (by omega) (by omega)) v6 v7 v8⟩
    have ht : (t : Int) < (gm' 541 0).toInt := ht
    rw [v20] at ht
    have ht4 : t < 4 := by omega
    obtain ⟨a1, a2, a3, a4⟩ := q4 t ht
    obtain ⟨w1, w2⟩ := u3 t ht4
    obtain ⟨cc, hcc, hc1⟩ := tq_count hi ht4
    have E1 : 5 * t + (2 + 12) = 5 * t + 14 := by omega
    have E2 : 399 * 0 + 50 * t + 3 = 50 * t + 3 := by omega
    rw [E1, E2] at a1 a2 a3 ⊢
    rw [E2] at a4
    have hz : (gm 541 (50 * t + 3 + 1)).toInt = cc := by
      show (gm 541 (50 * t + 4)).toInt = cc
      rw [hc1, i_12 hcc]
    refine ⟨?_, ?_, fun i hi' o o1 o2 => ?_, fun i hi' => ?_⟩
    · rw [w1 0 (by omega), v2 _ (by omega) (by omega)]; exact a1
    · rw [w1 1 (by omega), v2 _ (by omega) (by omega)]; exact a2
    · rw [v2 _ (by omega) (by omega)] at hi'
      rw [w2 o i o1 o2 (by omega), v2 _ (by omega) (by omega)]
      exact a3 i hi' o o1 o2
    · rw [v2 _ (by omega) (by omega)] at hi'
      rw [v2 _ (by omega) (by omega), v2 _ (by omega) (by omega)]
      exact a4 i hi'
end
section
/-! CONTRACTS AT A CALL (printed by wip/dc/kon.py) -/
theorem ko_60 {g : aa_G} {a0 a1 : Int32} (hi : aa_inv g) (hφ : aa_Phi g)  : zz_fin none 60 (0, zz_in [.ref 1, .int a0, .int a1] (zz_nl 60), [], aa_H g) (aa_post aa_Phi aa_k55 [a0.toInt, a1.toInt] g) := by
  have hK : aa_met aa_Phi aa_k55 := aa_met_p3 aa_good_free _ (List.mem_of_getElem? (i := 84) rfl)
  refine hK [a0.toInt, a1.toInt] g [.ref 1, .int a0, .int a1] (aa_vb_new (aa_vb_new (⟨rfl, fun i q v hq => by cases hq⟩ : aa_vb [] []) (lo := -2147483648) (hi := 2147483647) (gr := 0) (ko_rng a0).1 (ko_rng a0).2 (fun z => absurd rfl z)) (lo := -2147483648) (hi := 2147483647) (gr := 0) (ko_rng a1).1 (ko_rng a1).2 (fun z => absurd rfl z)) (fun f hf => by cases hf) (fun q hq => by cases hq) ⟨⟨Nat.succ_ne_zero _, 1, rfl, rfl⟩, ⟨Nat.one_ne_zero, a0, rfl, aa_id_ev rfl⟩, ⟨Nat.one_ne_zero, a1, rfl, aa_id_ev rfl⟩, trivial⟩ hi hφ
theorem ko_254 {g : aa_G} {a0 a1 : Int32} (hi : aa_inv g) (hφ : aa_Phi g)  : zz_fin none 254 (0, zz_in [.ref 540, .int a0, .int a1] (zz_nl 254), [], aa_H g) (aa_post aa_Phi aa_m107 [a0.toInt, a1.toInt] g) := by
  have hK : aa_met aa_Phi aa_m107 := (aa_mL94 aa_hands_met _ List.mem_cons_self)
  refine hK [a0.toInt, a1.toInt] g [.ref 540, .int a0, .int a1] (aa_vb_new (aa_vb_new (⟨rfl, fun i q v hq => by cases hq⟩ : aa_vb [] []) (lo := -2147483648) (hi := 2147483647) (gr := 0) (ko_rng a0).1 (ko_rng a0).2 (fun z => absurd rfl z)) (lo := -2147483648) (hi := 2147483647) (gr := 0) (ko_rng a1).1 (ko_rng a1).2 (fun z => absurd rfl z)) (fun f hf => by cases hf) (fun q hq => by cases hq) ⟨⟨Nat.succ_ne_zero _, 540, rfl, rfl⟩, ⟨Nat.one_ne_zero, a0, rfl, aa_id_ev rfl⟩, ⟨Nat.one_ne_zero, a1, rfl, aa_id_ev rfl⟩, trivial⟩ hi hφ
theorem ko_61 {g : aa_G} {a0 : Int32} (hi : aa_inv g) (hφ : aa_Phi g)  : zz_fin none 61 (0, zz_in [.ref 1, .int a0] (zz_nl 61), [], aa_H g) (aa_post aa_Phi aa_k54 [a0.toInt] g) := by
  have hK : aa_met aa_Phi aa_k54 := aa_met_p3 aa_good_free _ (List.mem_of_getElem? (i := 85) rfl)
  refine hK [a0.toInt] g [.ref 1, .int a0] (aa_vb_new (⟨rfl, fun i q v hq => by cases hq⟩ : aa_vb [] []) (lo := -2147483648) (hi := 2147483647) (gr := 0) (ko_rng a0).1 (ko_rng a0).2 (fun z => absurd rfl z)) (fun f hf => by cases hf) (fun q hq => by cases hq) ⟨⟨Nat.succ_ne_zero _, 1, rfl, rfl⟩, ⟨Nat.one_ne_zero, a0, rfl, aa_id_ev rfl⟩, trivial⟩ hi hφ
theorem ko_256 {g : aa_G} {a0 : Int32} (hi : aa_inv g) (hφ : aa_Phi g)  : zz_fin none 256 (0, zz_in [.ref 540, .int a0] (zz_nl 256), [], aa_H g) (aa_post aa_Phi aa_m108 [a0.toInt] g) := by
  have hK : aa_met aa_Phi aa_m108 := (aa_mL95 aa_hands_met _ List.mem_cons_self)
  refine hK [a0.toInt] g [.ref 540, .int a0] (aa_vb_new (⟨rfl, fun i q v hq => by cases hq⟩ : aa_vb [] []) (lo := -2147483648) (hi := 2147483647) (gr := 0) (ko_rng a0).1 (ko_rng a0).2 (fun z => absurd rfl z)) (fun f hf => by cases hf) (fun q hq => by cases hq) ⟨⟨Nat.succ_ne_zero _, 540, rfl, rfl⟩, ⟨Nat.one_ne_zero, a0, rfl, aa_id_ev rfl⟩, trivial⟩ hi hφ
theorem ko_62 {g : aa_G} {a0 a1 : Int32} (hi : aa_inv g) (hφ : aa_Phi g)  : zz_fin none 62 (0, zz_in [.ref 1, .int a0, .int a1] (zz_nl 62), [], aa_H g) (aa_post aa_Phi aa_k53 [a0.toInt, a1.toInt] g) := by
  have hK : aa_met aa_Phi aa_k53 := aa_met_p3 aa_good_free _ (List.mem_of_getElem? (i := 86) rfl)
  refine hK [a0.toInt, a1.toInt] g [.ref 1, .int a0, .int a1] (aa_vb_new (aa_vb_new (⟨rfl, fun i q v hq => by cases hq⟩ : aa_vb [] []) (lo := -2147483648) (hi := 2147483647) (gr := 0) (ko_rng a0).1 (ko_rng a0).2 (fun z => absurd rfl z)) (lo := -2147483648) (hi := 2147483647) (gr := 0) (ko_rng a1).1 (ko_rng a1).2 (fun z => absurd rfl z)) (fun f hf => by cases hf) (fun q hq => by cases hq) ⟨⟨Nat.succ_ne_zero _, 1, rfl, rfl⟩, ⟨Nat.one_ne_zero, a0, rfl, aa_id_ev rfl⟩, ⟨Nat.one_ne_zero, a1, rfl, aa_id_ev rfl⟩, trivial⟩ hi hφ
theorem ko_259 {g : aa_G} {a0 a1 : Int32} (hi : aa_inv g) (hφ : aa_Phi g)  : zz_fin none 259 (0, zz_in [.ref 540, .int a0, .int a1] (zz_nl 259), [], aa_H g) (aa_post aa_Phi aa_m13 [a0.toInt, a1.toInt] g) := by
  have hK : aa_met aa_Phi aa_m13 := aa_h13
  refine hK [a0.toInt, a1.toInt] g [.ref 540, .int a0, .int a1] (aa_vb_new (aa_vb_new (⟨rfl, fun i q v hq => by cases hq⟩ : aa_vb [] []) (lo := -2147483648) (hi := 2147483647) (gr := 0) (ko_rng a0).1 (ko_rng a0).2 (fun z => absurd rfl z)) (lo := -2147483648) (hi := 2147483647) (gr := 0) (ko_rng a1).1 (ko_rng a1).2 (fun z => absurd rfl z)) (fun f hf => by cases hf) (fun q hq => by cases hq) ⟨⟨Nat.succ_ne_zero _, 540, rfl, rfl⟩, ⟨Nat.one_ne_zero, a0, rfl, aa_id_ev rfl⟩, ⟨Nat.one_ne_zero, a1, rfl, aa_id_ev rfl⟩, trivial⟩ hi hφ
theorem ko_65 {g : aa_G} {a0 a1 a2 a3 : Int32} (hi : aa_inv g) (hφ : aa_Phi g)  : zz_fin none 65 (0, zz_in [.ref 1, .int a0, .int a1, .int a2, .int a3] (zz_nl 65), [], aa_H g) (aa_post aa_Phi aa_k51 [a0.toInt, a1.toInt, a2.toInt, a3.toInt] g) := by
  have hK : aa_met aa_Phi aa_k51 := aa_met_p3 aa_good_free _ (List.mem_of_getElem? (i := 88) rfl)
  refine hK [a0.toInt, a1.toInt, a2.toInt, a3.toInt] g [.ref 1, .int a0, .int a1, .int a2, .int a3] (aa_vb_new (aa_vb_new (aa_vb_new (aa_vb_new (⟨rfl, fun i q v hq => by cases hq⟩ : aa_vb [] []) (lo := -2147483648) (hi := 2147483647) (gr := 0) (ko_rng a0).1 (ko_rng a0).2 (fun z => absurd rfl z)) (lo := -2147483648) (hi := 2147483647) (gr := 0) (ko_rng a1).1 (ko_rng a1).2 (fun z => absurd rfl z)) (lo := -2147483648) (hi := 2147483647) (gr := 0) (ko_rng a2).1 (ko_rng a2).2 (fun z => absurd rfl z)) (lo := -2147483648) (hi := 2147483647) (gr := 0) (ko_rng a3).1 (ko_rng a3).2 (fun z => absurd rfl z)) (fun f hf => by cases hf) (fun q hq => by cases hq) ⟨⟨Nat.succ_ne_zero _, 1, rfl, rfl⟩, ⟨Nat.one_ne_zero, a0, rfl, aa_id_ev rfl⟩, ⟨Nat.one_ne_zero, a1, rfl, aa_id_ev rfl⟩, ⟨Nat.one_ne_zero, a2, rfl, aa_id_ev rfl⟩, ⟨Nat.one_ne_zero, a3, rfl, aa_id_ev rfl⟩, trivial⟩ hi hφ
theorem ko_257 {g : aa_G} {a0 a1 a2 a3 : Int32} (hi : aa_inv g) (hφ : aa_Phi g)  : zz_fin none 257 (0, zz_in [.ref 540, .int a0, .int a1, .int a2, .int a3] (zz_nl 257), [], aa_H g) (aa_post aa_Phi aa_m12 [a0.toInt, a1.toInt, a2.toInt, a3.toInt] g) := by
  have hK : aa_met aa_Phi aa_m12 := aa_h12
  refine hK [a0.toInt, a1.toInt, a2.toInt, a3.toInt] g [.ref 540, .int a0, .int a1, .int a2, .int a3] (aa_vb_new (aa_vb_new (aa_vb_new (aa_vb_new (⟨rfl, fun i q v hq => by cases hq⟩ : aa_vb [] []) (lo := -2147483648) (hi := 2147483647) (gr := 0) (ko_rng a0).1 (ko_rng a0).2 (fun z => absurd rfl z)) (lo := -2147483648) (hi := 2147483647) (gr := 0) (ko_rng a1).1 (ko_rng a1).2 (fun z => absurd rfl z)) (lo := -2147483648) (hi := 2147483647) (gr := 0) (ko_rng a2).1 (ko_rng a2).2 (fun z => absurd rfl z)) (lo := -2147483648) (hi := 2147483647) (gr := 0) (ko_rng a3).1 (ko_rng a3).2 (fun z => absurd rfl z)) (fun f hf => by cases hf) (fun q hq => by cases hq) ⟨⟨Nat.succ_ne_zero _, 540, rfl, rfl⟩, ⟨Nat.one_ne_zero, a0, rfl, aa_id_ev rfl⟩, ⟨Nat.one_ne_zero, a1, rfl, aa_id_ev rfl⟩, ⟨Nat.one_ne_zero, a2, rfl, aa_id_ev rfl⟩, ⟨Nat.one_ne_zero, a3, rfl, aa_id_ev rfl⟩, trivial⟩ hi hφ
theorem ko_141 {g : aa_G} (hi : aa_inv g) (hφ : aa_Phi g)  : zz_fin none 141 (0, zz_in [.ref 1] (zz_nl 141), [], aa_H g) (aa_post aa_Phi aa_k132 [] g) := by
  have hK : aa_met aa_Phi aa_k132 := aa_met_p3 aa_good_free _ (List.mem_of_getElem? (i := 7) rfl)
  refine hK [] g [.ref 1] (⟨rfl, fun i q v hq => by cases hq⟩ : aa_vb [] []) (fun f hf => by cases hf) (fun q hq => by cases hq) ⟨⟨Nat.succ_ne_zero _, 1, rfl, rfl⟩, trivial⟩ hi hφ
theorem ko_151 {g : aa_G} (hi : aa_inv g) (hφ : aa_Phi g)  : zz_fin none 151 (0, zz_in [.ref 540] (zz_nl 151), [], aa_H g) (aa_post aa_Phi aa_m0 [] g) := by
  have hK : aa_met aa_Phi aa_m0 := aa_h0
  refine hK [] g [.ref 540] (⟨rfl, fun i q v hq => by cases hq⟩ : aa_vb [] []) (fun f hf => by cases hf) (fun q hq => by cases hq) ⟨⟨Nat.succ_ne_zero _, 540, rfl, rfl⟩, trivial⟩ hi hφ
theorem ko_143 {g : aa_G} {a0 : Int32} (hi : aa_inv g) (hφ : aa_Phi g)  : zz_fin none 143 (0, zz_in [.ref 1, .int a0] (zz_nl 143), [], aa_H g) (aa_post aa_Phi aa_k133 [a0.toInt] g) := by
  have hK : aa_met aa_Phi aa_k133 := aa_met_p3 aa_good_free _ (List.mem_of_getElem? (i := 6) rfl)
  refine hK [a0.toInt] g [.ref 1, .int a0] (aa_vb_new (⟨rfl, fun i q v hq => by cases hq⟩ : aa_vb [] []) (lo := -2147483648) (hi := 2147483647) (gr := 0) (ko_rng a0).1 (ko_rng a0).2 (fun z => absurd rfl z)) (fun f hf => by cases hf) (fun q hq => by cases hq) ⟨⟨Nat.succ_ne_zero _, 1, rfl, rfl⟩, ⟨Nat.one_ne_zero, a0, rfl, aa_id_ev rfl⟩, trivial⟩ hi hφ
theorem ko_153 {g : aa_G} {a0 : Int32} (hi : aa_inv g) (hφ : aa_Phi g)  : zz_fin none 153 (0, zz_in [.ref 540, .int a0] (zz_nl 153), [], aa_H g) (aa_post aa_Phi aa_m1 [a0.toInt] g) := by
  have hK : aa_met aa_Phi aa_m1 := aa_h1
  refine hK [a0.toInt] g [.ref 540, .int a0] (aa_vb_new (⟨rfl, fun i q v hq => by cases hq⟩ : aa_vb [] []) (lo := -2147483648) (hi := 2147483647) (gr := 0) (ko_rng a0).1 (ko_rng a0).2 (fun z => absurd rfl z)) (fun f hf => by cases hf) (fun q hq => by cases hq) ⟨⟨Nat.succ_ne_zero _, 540, rfl, rfl⟩, ⟨Nat.one_ne_zero, a0, rfl, aa_id_ev rfl⟩, trivial⟩ hi hφ
theorem ko_144 {g : aa_G} {a0 : Int32} (hi : aa_inv g) (hφ : aa_Phi g)  : zz_fin none 144 (0, zz_in [.ref 1, .int a0] (zz_nl 144), [], aa_H g) (aa_post aa_Phi aa_k134 [a0.toInt] g) := by
  have hK : aa_met aa_Phi aa_k134 := aa_met_p3 aa_good_free _ (List.mem_of_getElem? (i := 5) rfl)
  refine hK [a0.toInt] g [.ref 1, .int a0] (aa_vb_new (⟨rfl, fun i q v hq => by cases hq⟩ : aa_vb [] []) (lo := -2147483648) (hi := 2147483647) (gr := 0) (ko_rng a0).1 (ko_rng a0).2 (fun z => absurd rfl z)) (fun f hf => by cases hf) (fun q hq => by cases hq) ⟨⟨Nat.succ_ne_zero _, 1, rfl, rfl⟩, ⟨Nat.one_ne_zero, a0, rfl, aa_id_ev rfl⟩, trivial⟩ hi hφ
theorem ko_155 {g : aa_G} {a0 : Int32} (hi : aa_inv g) (hφ : aa_Phi g)  : zz_fin none 155 (0, zz_in [.ref 540, .int a0] (zz_nl 155), [], aa_H g) (aa_post aa_Phi aa_m2 [a0.toInt] g) := by
  have hK : aa_met aa_Phi aa_m2 := aa_h2
  refine hK [a0.toInt] g [.ref 540, .int a0] (aa_vb_new (⟨rfl, fun i q v hq => by cases hq⟩ : aa_vb [] []) (lo := -2147483648) (hi := 2147483647) (gr := 0) (ko_rng a0).1 (ko_rng a0).2 (fun z => absurd rfl z)) (fun f hf => by cases hf) (fun q hq => by cases hq) ⟨⟨Nat.succ_ne_zero _, 540, rfl, rfl⟩, ⟨Nat.one_ne_zero, a0, rfl, aa_id_ev rfl⟩, trivial⟩ hi hφ
theorem ko_145 {g : aa_G} {a0 : Int32} (hi : aa_inv g) (hφ : aa_Phi g)  : zz_fin none 145 (0, zz_in [.ref 1, .int a0] (zz_nl 145), [], aa_H g) (aa_post aa_Phi aa_k138 [a0.toInt] g) := by
  have hK : aa_met aa_Phi aa_k138 := aa_met_p3 aa_good_free _ (List.mem_of_getElem? (i := 1) rfl)
  refine hK [a0.toInt] g [.ref 1, .int a0] (aa_vb_new (⟨rfl, fun i q v hq => by cases hq⟩ : aa_vb [] []) (lo := -2147483648) (hi := 2147483647) (gr := 0) (ko_rng a0).1 (ko_rng a0).2 (fun z => absurd rfl z)) (fun f hf => by cases hf) (fun q hq => by cases hq) ⟨⟨Nat.succ_ne_zero _, 1, rfl, rfl⟩, ⟨Nat.one_ne_zero, a0, rfl, aa_id_ev rfl⟩, trivial⟩ hi hφ
theorem ko_265 {g : aa_G} {a0 : Int32} (hi : aa_inv g) (hφ : aa_Phi g)  : zz_fin none 265 (0, zz_in [.ref 540, .int a0] (zz_nl 265), [], aa_H g) (aa_post aa_Phi aa_m119 [a0.toInt] g) := by
  have hK : aa_met aa_Phi aa_m119 := (aa_mL106 aa_hands_met _ List.mem_cons_self)
  refine hK [a0.toInt] g [.ref 540, .int a0] (aa_vb_new (⟨rfl, fun i q v hq => by cases hq⟩ : aa_vb [] []) (lo := -2147483648) (hi := 2147483647) (gr := 0) (ko_rng a0).1 (ko_rng a0).2 (fun z => absurd rfl z)) (fun f hf => by cases hf) (fun q hq => by cases hq) ⟨⟨Nat.succ_ne_zero _, 540, rfl, rfl⟩, ⟨Nat.one_ne_zero, a0, rfl, aa_id_ev rfl⟩, trivial⟩ hi hφ
theorem ko_149 {g : aa_G} {a0 : Int32} (hi : aa_inv g) (hφ : aa_Phi g)  : zz_fin none 149 (0, zz_in [.ref 1, .int a0] (zz_nl 149), [], aa_H g) (aa_post aa_Phi aa_k139 [a0.toInt] g) := by
  have hK : aa_met aa_Phi aa_k139 := aa_met_p3 aa_good_free _ (List.mem_of_getElem? (i := 0) rfl)
  refine hK [a0.toInt] g [.ref 1, .int a0] (aa_vb_new (⟨rfl, fun i q v hq => by cases hq⟩ : aa_vb [] []) (lo := -2147483648) (hi := 2147483647) (gr := 0) (ko_rng a0).1 (ko_rng a0).2 (fun z => absurd rfl z)) (fun f hf => by cases hf) (fun q hq => by cases hq) ⟨⟨Nat.succ_ne_zero _, 1, rfl, rfl⟩, ⟨Nat.one_ne_zero, a0, rfl, aa_id_ev rfl⟩, trivial⟩ hi hφ
theorem ko_269 {g : aa_G} {a0 : Int32} (hi : aa_inv g) (hφ : aa_Phi g)  : zz_fin none 269 (0, zz_in [.ref 540, .int a0] (zz_nl 269), [], aa_H g) (aa_post aa_Phi aa_m120 [a0.toInt] g) := by
  have hK : aa_met aa_Phi aa_m120 := (aa_mL107 aa_hands_met _ List.mem_cons_self)
  refine hK [a0.toInt] g [.ref 540, .int a0] (aa_vb_new (⟨rfl, fun i q v hq => by cases hq⟩ : aa_vb [] []) (lo := -2147483648) (hi := 2147483647) (gr := 0) (ko_rng a0).1 (ko_rng a0).2 (fun z => absurd rfl z)) (fun f hf => by cases hf) (fun q hq => by cases hq) ⟨⟨Nat.succ_ne_zero _, 540, rfl, rfl⟩, ⟨Nat.one_ne_zero, a0, rfl, aa_id_ev rfl⟩, trivial⟩ hi hφ
theorem ko_53 {g : aa_G} (hi : aa_inv g) (hφ : aa_Phi g)  : zz_fin none 53 (0, zz_in [.ref 1] (zz_nl 53), [], aa_H g) (aa_post aa_Phi aa_k57 [] g) := by
  have hK : aa_met aa_Phi aa_k57 := aa_met_p3 aa_good_free _ (List.mem_of_getElem? (i := 82) rfl)
  refine hK [] g [.ref 1] (⟨rfl, fun i q v hq => by cases hq⟩ : aa_vb [] []) (fun f hf => by cases hf) (fun q hq => by cases hq) ⟨⟨Nat.succ_ne_zero _, 1, rfl, rfl⟩, trivial⟩ hi hφ
theorem ko_260 {g : aa_G} (hi : aa_inv g) (hφ : aa_Phi g)  : zz_fin none 260 (0, zz_in [.ref 540] (zz_nl 260), [], aa_H g) (aa_post aa_Phi aa_m112 [] g) := by
  have hK : aa_met aa_Phi aa_m112 := (aa_mL99 aa_hands_met _ List.mem_cons_self)
  refine hK [] g [.ref 540] (⟨rfl, fun i q v hq => by cases hq⟩ : aa_vb [] []) (fun f hf => by cases hf) (fun q hq => by cases hq) ⟨⟨Nat.succ_ne_zero _, 540, rfl, rfl⟩, trivial⟩ hi hφ
theorem ko_69 {g : aa_G} (hi : aa_inv g) (hφ : aa_Phi g)  : zz_fin none 69 (0, zz_in [.ref 1] (zz_nl 69), [], aa_H g) (aa_post aa_Phi aa_k58 [] g) := by
  have hK : aa_met aa_Phi aa_k58 := aa_met_p3 aa_good_free _ (List.mem_of_getElem? (i := 81) rfl)
  refine hK [] g [.ref 1] (⟨rfl, fun i q v hq => by cases hq⟩ : aa_vb [] []) (fun f hf => by cases hf) (fun q hq => by cases hq) ⟨⟨Nat.succ_ne_zero _, 1, rfl, rfl⟩, trivial⟩ hi hφ
theorem ko_161 {g : aa_G} (hi : aa_inv g) (hφ : aa_Phi g)  : zz_fin none 161 (0, zz_in [.ref 540] (zz_nl 161), [], aa_H g) (aa_post aa_Phi aa_m18 [] g) := by
  have hK : aa_met aa_Phi aa_m18 := (aa_mL5 aa_hands_met _ List.mem_cons_self)
  refine hK [] g [.ref 540] (⟨rfl, fun i q v hq => by cases hq⟩ : aa_vb [] []) (fun f hf => by cases hf) (fun q hq => by cases hq) ⟨⟨Nat.succ_ne_zero _, 540, rfl, rfl⟩, trivial⟩ hi hφ
theorem ko_70 {g : aa_G} (hi : aa_inv g) (hφ : aa_Phi g)  : zz_fin none 70 (0, zz_in [.ref 1] (zz_nl 70), [], aa_H g) (aa_post aa_Phi aa_k59 [] g) := by
  have hK : aa_met aa_Phi aa_k59 := aa_met_p3 aa_good_free _ (List.mem_of_getElem? (i := 80) rfl)
  refine hK [] g [.ref 1] (⟨rfl, fun i q v hq => by cases hq⟩ : aa_vb [] []) (fun f hf => by cases hf) (fun q hq => by cases hq) ⟨⟨Nat.succ_ne_zero _, 1, rfl, rfl⟩, trivial⟩ hi hφ
theorem ko_264 {g : aa_G} (hi : aa_inv g) (hφ : aa_Phi g)  : zz_fin none 264 (0, zz_in [.ref 540] (zz_nl 264), [], aa_H g) (aa_post aa_Phi aa_m113 [] g) := by
  have hK : aa_met aa_Phi aa_m113 := (aa_mL100 aa_hands_met _ List.mem_cons_self)
  refine hK [] g [.ref 540] (⟨rfl, fun i q v hq => by cases hq⟩ : aa_vb [] []) (fun f hf => by cases hf) (fun q hq => by cases hq) ⟨⟨Nat.succ_ne_zero _, 540, rfl, rfl⟩, trivial⟩ hi hφ
theorem ko_13 {g : aa_G} {a0 : Int32} (hi : aa_inv g) (hφ : aa_Phi g)  : zz_fin none 13 (0, zz_in [.ref 1, .int a0] (zz_nl 13), [], aa_H g) (aa_post aa_Phi aa_k3 [a0.toInt] g) := by
  have hK : aa_met aa_Phi aa_k3 := aa_met_p3 aa_good_free _ (List.mem_of_getElem? (i := 136) rfl)
  refine hK [a0.toInt] g [.ref 1, .int a0] (aa_vb_new (⟨rfl, fun i q v hq => by cases hq⟩ : aa_vb [] []) (lo := -2147483648) (hi := 2147483647) (gr := 0) (ko_rng a0).1 (ko_rng a0).2 (fun z => absurd rfl z)) (fun f hf => by cases hf) (fun q hq => by cases hq) ⟨⟨Nat.succ_ne_zero _, 1, rfl, rfl⟩, ⟨Nat.one_ne_zero, a0, rfl, aa_id_ev rfl⟩, trivial⟩ hi hφ
theorem ko_160 {g : aa_G} {a0 : Int32} (hi : aa_inv g) (hφ : aa_Phi g)  : zz_fin none 160 (0, zz_in [.ref 540, .int a0] (zz_nl 160), [], aa_H g) (aa_post aa_Phi aa_m17 [a0.toInt] g) := by
  have hK : aa_met aa_Phi aa_m17 := (aa_mL4 aa_hands_met _ List.mem_cons_self)
  refine hK [a0.toInt] g [.ref 540, .int a0] (aa_vb_new (⟨rfl, fun i q v hq => by cases hq⟩ : aa_vb [] []) (lo := -2147483648) (hi := 2147483647) (gr := 0) (ko_rng a0).1 (ko_rng a0).2 (fun z => absurd rfl z)) (fun f hf => by cases hf) (fun q hq => by cases hq) ⟨⟨Nat.succ_ne_zero _, 540, rfl, rfl⟩, ⟨Nat.one_ne_zero, a0, rfl, aa_id_ev rfl⟩, trivial⟩ hi hφ
theorem ko_11 {g : aa_G} {a0 a1 a2 a3 a4 : Int32} (hi : aa_inv g) (hφ : aa_Phi g)  : zz_fin none 11 (0, zz_in [.ref 1, .int a0, .int a1, .int a2, .int a3, .int a4] (zz_nl 11), [], aa_H g) (aa_post aa_Phi aa_k1 [a0.toInt, a1.toInt, a2.toInt, a3.toInt, a4.toInt] g) := by
  have hK : aa_met aa_Phi aa_k1 := aa_met_p3 aa_good_free _ (List.mem_of_getElem? (i := 138) rfl)
  refine hK [a0.toInt, a1.toInt, a2.toInt, a3.toInt, a4.toInt] g [.ref 1, .int a0, .int a1, .int a2, .int a3, .int a4] (aa_vb_new (aa_vb_new (aa_vb_new (aa_vb_new (aa_vb_new (⟨rfl, fun i q v hq => by cases hq⟩ : aa_vb [] []) (lo := -2147483648) (hi := 2147483647) (gr := 0) (ko_rng a0).1 (ko_rng a0).2 (fun z => absurd rfl z)) (lo := -2147483648) (hi := 2147483647) (gr := 0) (ko_rng a1).1 (ko_rng a1).2 (fun z => absurd rfl z)) (lo := -2147483648) (hi := 2147483647) (gr := 0) (ko_rng a2).1 (ko_rng a2).2 (fun z => absurd rfl z)) (lo := -2147483648) (hi := 2147483647) (gr := 0) (ko_rng a3).1 (ko_rng a3).2 (fun z => absurd rfl z)) (lo := -2147483648) (hi := 2147483647) (gr := 0) (ko_rng a4).1 (ko_rng a4).2 (fun z => absurd rfl z)) (fun f hf => by cases hf) (fun q hq => by cases hq) ⟨⟨Nat.succ_ne_zero _, 1, rfl, rfl⟩, ⟨Nat.one_ne_zero, a0, rfl, aa_id_ev rfl⟩, ⟨Nat.one_ne_zero, a1, rfl, aa_id_ev rfl⟩, ⟨Nat.one_ne_zero, a2, rfl, aa_id_ev rfl⟩, ⟨Nat.one_ne_zero, a3, rfl, aa_id_ev rfl⟩, ⟨Nat.one_ne_zero, a4, rfl, aa_id_ev rfl⟩, trivial⟩ hi hφ
theorem ko_158 {g : aa_G} {a0 a1 a2 a3 a4 : Int32} (hi : aa_inv g) (hφ : aa_Phi g)  : zz_fin none 158 (0, zz_in [.ref 540, .int a0, .int a1, .int a2, .int a3, .int a4] (zz_nl 158), [], aa_H g) (aa_post aa_Phi aa_m15 [a0.toInt, a1.toInt, a2.toInt, a3.toInt, a4.toInt] g) := by
  have hK : aa_met aa_Phi aa_m15 := (aa_mL2 aa_hands_met _ List.mem_cons_self)
  refine hK [a0.toInt, a1.toInt, a2.toInt, a3.toInt, a4.toInt] g [.ref 540, .int a0, .int a1, .int a2, .int a3, .int a4] (aa_vb_new (aa_vb_new (aa_vb_new (aa_vb_new (aa_vb_new (⟨rfl, fun i q v hq => by cases hq⟩ : aa_vb [] []) (lo := -2147483648) (hi := 2147483647) (gr := 0) (ko_rng a0).1 (ko_rng a0).2 (fun z => absurd rfl z)) (lo := -2147483648) (hi := 2147483647) (gr := 0) (ko_rng a1).1 (ko_rng a1).2 (fun z => absurd rfl z)) (lo := -2147483648) (hi := 2147483647) (gr := 0) (ko_rng a2).1 (ko_rng a2).2 (fun z => absurd rfl z)) (lo := -2147483648) (hi := 2147483647) (gr := 0) (ko_rng a3).1 (ko_rng a3).2 (fun z => absurd rfl z)) (lo := -2147483648) (hi := 2147483647) (gr := 0) (ko_rng a4).1 (ko_rng a4).2 (fun z => absurd rfl z)) (fun f hf => by cases hf) (fun q hq => by cases hq) ⟨⟨Nat.succ_ne_zero _, 540, rfl, rfl⟩, ⟨Nat.one_ne_zero, a0, rfl, aa_id_ev rfl⟩, ⟨Nat.one_ne_zero, a1, rfl, aa_id_ev rfl⟩, ⟨Nat.one_ne_zero, a2, rfl, aa_id_ev rfl⟩, ⟨Nat.one_ne_zero, a3, rfl, aa_id_ev rfl⟩, ⟨Nat.one_ne_zero, a4, rfl, aa_id_ev rfl⟩, trivial⟩ hi hφ
theorem ko_15 {g : aa_G} (hi : aa_inv g) (hφ : aa_Phi g)  : zz_fin none 15 (0, zz_in [.ref 1] (zz_nl 15), [], aa_H g) (aa_post aa_Phi aa_k29 [] g) := by
  have hK : aa_met aa_Phi aa_k29 := aa_met_p3 aa_good_free _ (List.mem_of_getElem? (i := 110) rfl)
  refine hK [] g [.ref 1] (⟨rfl, fun i q v hq => by cases hq⟩ : aa_vb [] []) (fun f hf => by cases hf) (fun q hq => by cases hq) ⟨⟨Nat.succ_ne_zero _, 1, rfl, rfl⟩, trivial⟩ hi hφ
theorem ko_162 {g : aa_G} (hi : aa_inv g) (hφ : aa_Phi g)  : zz_fin none 162 (0, zz_in [.ref 540] (zz_nl 162), [], aa_H g) (aa_post aa_Phi aa_m33 [] g) := by
  have hK : aa_met aa_Phi aa_m33 := (aa_mL20 aa_hands_met _ List.mem_cons_self)
  refine hK [] g [.ref 540] (⟨rfl, fun i q v hq => by cases hq⟩ : aa_vb [] []) (fun f hf => by cases hf) (fun q hq => by cases hq) ⟨⟨Nat.succ_ne_zero _, 540, rfl, rfl⟩, trivial⟩ hi hφ
theorem ko_41 {g : aa_G} (hi : aa_inv g) (hφ : aa_Phi g)  : zz_fin none 41 (0, zz_in [.ref 1] (zz_nl 41), [], aa_H g) (aa_post aa_Phi aa_k41 [] g) := by
  have hK : aa_met aa_Phi aa_k41 := aa_met_p3 aa_good_free _ (List.mem_of_getElem? (i := 98) rfl)
  refine hK [] g [.ref 1] (⟨rfl, fun i q v hq => by cases hq⟩ : aa_vb [] []) (fun f hf => by cases hf) (fun q hq => by cases hq) ⟨⟨Nat.succ_ne_zero _, 1, rfl, rfl⟩, trivial⟩ hi hφ
theorem ko_178 {g : aa_G} (hi : aa_inv g) (hφ : aa_Phi g)  : zz_fin none 178 (0, zz_in [.ref 540] (zz_nl 178), [], aa_H g) (aa_post aa_Phi aa_m121 [] g) := by
  have hK : aa_met aa_Phi aa_m121 := aa_bells_met
  refine hK [] g [.ref 540] (⟨rfl, fun i q v hq => by cases hq⟩ : aa_vb [] []) (fun f hf => by cases hf) (fun q hq => by cases hq) ⟨⟨Nat.succ_ne_zero _, 540, rfl, rfl⟩, trivial⟩ hi hφ
theorem ko_129 {g : aa_G} {a0 : Int32} (hi : aa_inv g) (hφ : aa_Phi g)  : zz_fin none 129 (0, zz_in [.ref 1, .int a0] (zz_nl 129), [], aa_H g) (aa_post aa_Phi aa_k120 [a0.toInt] g) := by
  have hK : aa_met aa_Phi aa_k120 := aa_met_p3 aa_good_free _ (List.mem_of_getElem? (i := 19) rfl)
  refine hK [a0.toInt] g [.ref 1, .int a0] (aa_vb_new (⟨rfl, fun i q v hq => by cases hq⟩ : aa_vb [] []) (lo := -2147483648) (hi := 2147483647) (gr := 0) (ko_rng a0).1 (ko_rng a0).2 (fun z => absurd rfl z)) (fun f hf => by cases hf) (fun q hq => by cases hq) ⟨⟨Nat.succ_ne_zero _, 1, rfl, rfl⟩, ⟨Nat.one_ne_zero, a0, rfl, aa_id_ev rfl⟩, trivial⟩ hi hφ
theorem ko_237 {g : aa_G} {a0 : Int32} (hi : aa_inv g) (hφ : aa_Phi g)  : zz_fin none 237 (0, zz_in [.ref 540, .int a0] (zz_nl 237), [], aa_H g) (aa_post aa_Phi aa_m87 [a0.toInt] g) := by
  have hK : aa_met aa_Phi aa_m87 := (aa_mL74 aa_hands_met _ List.mem_cons_self)
  refine hK [a0.toInt] g [.ref 540, .int a0] (aa_vb_new (⟨rfl, fun i q v hq => by cases hq⟩ : aa_vb [] []) (lo := -2147483648) (hi := 2147483647) (gr := 0) (ko_rng a0).1 (ko_rng a0).2 (fun z => absurd rfl z)) (fun f hf => by cases hf) (fun q hq => by cases hq) ⟨⟨Nat.succ_ne_zero _, 540, rfl, rfl⟩, ⟨Nat.one_ne_zero, a0, rfl, aa_id_ev rfl⟩, trivial⟩ hi hφ
end
section
/-! METHODS READ (printed by wip/dc/dc.py) -/
-- 13: UnequalHours end
noncomputable def fn_13 (g : aa_G) (a1 : Int32) : Int32 × aa_G := if (fn_14 a1 0 (g 454 0)) ≠ 0 then (a1, zz_w g 454 0 a1) else (-1, g)
theorem dn_13 {v : Option Value} {h : zz_H} {n : Nat} {g : aa_G} {a1 : Int32}  (r : rn_s n 13 (0, zz_in [.ref 1, .int a1] (zz_nl 13), [], aa_H g) v h) : iw_s v h (fn_13 g a1) := by
  have r : rn_s n 13 (0, [some (.ref 1), some (.int a1)], [], aa_H g) v h := r
  unfold fn_13
  obtain ⟨n1, ln1, r⟩ := rn_steps 4 (9, [some (.ref 1), some (.int a1)], [.int (g 454 0), .int 0, .int a1], aa_H g) rfl r
  obtain ⟨_, n2, v1, h1, -, ln2, rc, r⟩ := rn_call (m2 := 14) (as := [.int a1, .int 0, .int (g 454 0)]) (rest := []) rfl rfl r
  obtain ⟨rfl, rfl⟩ := dn_14 rc
  have r : rn_s _ 13 (12, [some (.ref 1), some (.int a1)], [.int (fn_14 a1 0 (g 454 0))], aa_H g) v h := r
  refine rn_if (iw_s v h) rfl decide_eq_true_iff.symm r (fun c4 l5n l5 r => ?_) (fun c4 l5n l5 r => ?_)
  · obtain ⟨n6, ln6, r⟩ := rn_steps 4 (26, [some (.ref 1), some (.int a1)], [.int a1], aa_H (zz_w g 454 0 a1)) rfl r
    exact rn_ire rfl r
  · obtain ⟨n7, ln7, r⟩ := rn_steps 0 (16, [some (.ref 1), some (.int a1)], [.int (-1)], aa_H g) rfl r
    exact rn_ire rfl r
-- 160: UnequalHoursModel end
noncomputable def fn_160 (g : aa_G) (a1 : Int32) : Int32 × aa_G := if (fn_154 a1 0 (g 540 4)) ≠ 0 then (a1, zz_w g 540 4 a1) else (-1, g)
theorem dn_160 {v : Option Value} {h : zz_H} {n : Nat} {g : aa_G} {a1 : Int32}  (r : rn_s n 160 (0, zz_in [.ref 540, .int a1] (zz_nl 160), [], aa_H g) v h) : iw_s v h (fn_160 g a1) := by
  have r : rn_s n 160 (0, [some (.ref 540), some (.int a1)], [], aa_H g) v h := r
  unfold fn_160
  obtain ⟨n1, ln1, r⟩ := rn_steps 3 (6, [some (.ref 540), some (.int a1)], [.int (g 540 4), .int 0, .int a1], aa_H g) rfl r
  obtain ⟨_, n2, v1, h1, -, ln2, rc, r⟩ := rn_call (m2 := 154) (as := [.int a1, .int 0, .int (g 540 4)]) (rest := []) rfl rfl r
  obtain ⟨rfl, rfl⟩ := dn_154 rc
  have r : rn_s _ 160 (9, [some (.ref 540), some (.int a1)], [.int (fn_154 a1 0 (g 540 4))], aa_H g) v h := r
  refine rn_if (iw_s v h) rfl decide_eq_true_iff.symm r (fun c4 l5n l5 r => ?_) (fun c4 l5n l5 r => ?_)
  · obtain ⟨n6, ln6, r⟩ := rn_steps 3 (20, [some (.ref 540), some (.int a1)], [.int a1], aa_H (zz_w g 540 4 a1)) rfl r
    exact rn_ire rfl r
  · obtain ⟨n7, ln7, r⟩ := rn_steps 0 (13, [some (.ref 540), some (.int a1)], [.int (-1)], aa_H g) rfl r
    exact rn_ire rfl r
-- 69: UnequalHours fault
noncomputable def fn_69 (g : aa_G)  : Int32 := g 1 13
theorem dn_69 {v : Option Value} {h : zz_H} {n : Nat} {g : aa_G}   (r : rn_s n 69 (0, zz_in [.ref 1] (zz_nl 69), [], aa_H g) v h) : ir_s g v h (fn_69 g) := by
  have r : rn_s n 69 (0, [some (.ref 1)], [], aa_H g) v h := r
  unfold fn_69
  obtain ⟨n1, ln1, r⟩ := rn_steps 1 (4, [some (.ref 1)], [.int (g 1 13)], aa_H g) rfl r
  exact rn_ire rfl r
-- 161: UnequalHoursModel fault
noncomputable def fn_161 (g : aa_G)  : Int32 := g 540 6
theorem dn_161 {v : Option Value} {h : zz_H} {n : Nat} {g : aa_G}   (r : rn_s n 161 (0, zz_in [.ref 540] (zz_nl 161), [], aa_H g) v h) : ir_s g v h (fn_161 g) := by
  have r : rn_s n 161 (0, [some (.ref 540)], [], aa_H g) v h := r
  unfold fn_161
  obtain ⟨n1, ln1, r⟩ := rn_steps 1 (4, [some (.ref 540)], [.int (g 540 6)], aa_H g) rfl r
  exact rn_ire rfl r
-- 70: UnequalHours ended
noncomputable def fn_70 (g : aa_G)  : Int32 := g 1 14
theorem dn_70 {v : Option Value} {h : zz_H} {n : Nat} {g : aa_G}   (r : rn_s n 70 (0, zz_in [.ref 1] (zz_nl 70), [], aa_H g) v h) : ir_s g v h (fn_70 g) := by
  have r : rn_s n 70 (0, [some (.ref 1)], [], aa_H g) v h := r
  unfold fn_70
  obtain ⟨n1, ln1, r⟩ := rn_steps 1 (4, [some (.ref 1)], [.int (g 1 14)], aa_H g) rfl r
  exact rn_ire rfl r
-- 264: UnequalHoursModel ended
noncomputable def fn_264 (g : aa_G)  : Int32 := g 540 35
theorem dn_264 {v : Option Value} {h : zz_H} {n : Nat} {g : aa_G}   (r : rn_s n 264 (0, zz_in [.ref 540] (zz_nl 264), [], aa_H g) v h) : ir_s g v h (fn_264 g) := by
  have r : rn_s n 264 (0, [some (.ref 540)], [], aa_H g) v h := r
  unfold fn_264
  obtain ⟨n1, ln1, r⟩ := rn_steps 1 (4, [some (.ref 540)], [.int (g 540 35)], aa_H g) rfl r
  exact rn_ire rfl r
-- 12: UnequalHours Tape append
noncomputable def fn_12_35 (g : aa_G) (b1 : Int32) (b2 : Int32) : (aa_G × Int32) ⊕ aa_G := .inl (zz_w g 454 0 ((g 454 0) + 1), b2 + (-8))
theorem dn_12_35 {v : Option Value} {h : zz_H} {n : Nat} {g : aa_G} {b1 : Int32} {b2 : Int32} (P : (aa_G × Int32) ⊕ aa_G → Prop) (hO0 : ∀ n2, n2 < n → ∀ (yg : aa_G) (yb2 : Int32), rn_s n2 12 (3, [some (.ref 454), some (.int b1), some (.int yb2)], [], aa_H yg) v h → P (.inl (yg, yb2))) (hR : ∀ E, ig_s v h E → P (.inr E))  (r : rn_s n 12 (35, [some (.ref 454), some (.int b1), some (.int b2)], [.ref 454, .ref 454], aa_H g) v h) : P (fn_12_35 g b1 b2) := by
  unfold fn_12_35
  obtain ⟨n12, ln12, r⟩ := rn_steps 5 (3, [some (.ref 454), some (.int b1), some (.int (b2 + (-8)))], [], aa_H (zz_w g 454 0 ((g 454 0) + 1))) rfl r
  exact hO0 _ (by omega) (zz_w g 454 0 ((g 454 0) + 1)) (b2 + (-8)) r
noncomputable def fn_12_3b (g : aa_G) (b1 : Int32) (b2 : Int32) : (aa_G × Int32) ⊕ aa_G := if b2 < 0 then .inr g else if 500 ≤ (g 454 0) then .inr g else fn_12_35 (zz_w g 455 (g 454 0).toNatClampNeg (((b1.toUInt32 >>> (b2.toUInt32 &&& Int32.toUInt32 31)).toInt32) &&& 255)) b1 b2
noncomputable def fn_12_3 (g : aa_G) (b1 : Int32) (b2 : Int32) : aa_G := lp_f g (fun z : (aa_G × Int32) => fn_12_3b z.1 b1 z.2) (g, b2)
theorem dn_12_3l {v : Option Value} {h : zz_H} {N : Nat} {b1 : Int32} {d : aa_G} : ∀ (n : Nat), n ≤ N → ∀ (g : aa_G) (b2 : Int32), rn_s n 12 (3, [some (.ref 454), some (.int b1), some (.int b2)], [], aa_H g) v h → (ig_s v h) (lp_f d (fun z : (aa_G × Int32) => fn_12_3b z.1 b1 z.2) (g, b2)) := by
  generalize hf : (fun z : (aa_G × Int32) => fn_12_3b z.1 b1 z.2) = f
  intro n
  induction n using Nat.strongRecOn with
  | _ n ih =>
    intro hN g b2  r
    refine lp_go ?_
    rw [← congrFun hf (g, b2)]
    show lp_q (ig_s v h) d f (fn_12_3b g b1 b2)
    unfold fn_12_3b
    obtain ⟨n2, ln2, r⟩ := rn_steps 0 (4, [some (.ref 454), some (.int b1), some (.int b2)], [.int b2], aa_H g) rfl r
    refine rn_if (lp_q (ig_s v h) d f) rfl decide_eq_true_iff.symm r (fun c3 l4n l4 r => ?_) (fun c3 l4n l4 r => ?_)
    · exact rn_ret 1 rfl r
    · obtain ⟨n5, ln5, r⟩ := rn_steps 2 (14, [some (.ref 454), some (.int b1), some (.int b2)], [.int 500, .int (g 454 0)], aa_H g) rfl r
      refine rn_ic (lp_q (ig_s v h) d f) rfl decide_eq_true_iff.symm r (fun c6 l7n l7 r => ?_) (fun c6 l7n l7 r => ?_)
      · exact rn_ret 1 rfl r
      · obtain ⟨n8, ln8, r⟩ := rn_steps 8 (32, [some (.ref 454), some (.int b1), some (.int b2)], [.int (((b1.toUInt32 >>> (b2.toUInt32 &&& Int32.toUInt32 31)).toInt32) &&& 255), .int (g 454 0), .ref 455], aa_H g) rfl r
        obtain ⟨hb10, n9, ln9, r⟩ := rn_ias (k := 455) rfl ⟨by decide, by decide⟩ rfl r
        have r : rn_s _ 12 (33, [some (.ref 454), some (.int b1), some (.int b2)], [], aa_H (zz_w g 455 (g 454 0).toNatClampNeg (((b1.toUInt32 >>> (b2.toUInt32 &&& Int32.toUInt32 31)).toInt32) &&& 255))) v h := r
        obtain ⟨n11, ln11, r⟩ := rn_steps 1 (35, [some (.ref 454), some (.int b1), some (.int b2)], [.ref 454, .ref 454], aa_H (zz_w g 455 (g 454 0).toNatClampNeg (((b1.toUInt32 >>> (b2.toUInt32 &&& Int32.toUInt32 31)).toInt32) &&& 255))) rfl r
        exact dn_12_35 (lp_q (ig_s v h) d f) (fun n2 l2 => ih n2 (by omega) (by omega)) (fun z hz => hz) r
theorem dn_12_3 {v : Option Value} {h : zz_H} {n : Nat} {g : aa_G} {b1 : Int32} {b2 : Int32}  (r : rn_s n 12 (3, [some (.ref 454), some (.int b1), some (.int b2)], [], aa_H g) v h) : (ig_s v h) (fn_12_3 g b1 b2) := dn_12_3l  n (Nat.le_refl n) g b2 r
noncomputable def fn_12 (g : aa_G) (a1 : Int32) : aa_G := fn_12_3 g a1 24
theorem dn_12 {v : Option Value} {h : zz_H} {n : Nat} {g : aa_G} {a1 : Int32}  (r : rn_s n 12 (0, zz_in [.ref 454, .int a1] (zz_nl 12), [], aa_H g) v h) : ig_s v h (fn_12 g a1) := by
  have r : rn_s n 12 (0, [some (.ref 454), some (.int a1), none], [], aa_H g) v h := r
  unfold fn_12
  obtain ⟨n1, ln1, r⟩ := rn_steps 1 (3, [some (.ref 454), some (.int a1), some (.int 24)], [], aa_H g) rfl r
  exact dn_12_3 r
-- 11: UnequalHours feed
noncomputable def fn_11_64 (g : aa_G)  : Int32 × aa_G := (g 454 0, g)
theorem dn_11_64 {v : Option Value} {h : zz_H} {n : Nat} {g : aa_G}   (x0 x1 x2 x3 x4 x5 : Option Value) (jx0 : rn_jk x0) (jx1 : rn_jk x1) (jx2 : rn_jk x2) (jx3 : rn_jk x3) (jx4 : rn_jk x4) (jx5 : rn_jk x5) (r : rn_s n 11 (64, [x0, x1, x2, x3, x4, x5], [.ref 454], aa_H g) v h) : iw_s v h (fn_11_64 g) := by
  unfold fn_11_64
  obtain ⟨n21, ln21, r⟩ := rn_steps 0 (67, [x0, x1, x2, x3, x4, x5], [.int (g 454 0)], aa_H g) rfl r
  exact rn_ire rfl r
noncomputable def fn_11_51 (g : aa_G) (b5 : Int32) : Int32 × aa_G := fn_11_64 (fn_12 g b5)
theorem dn_11_51 {v : Option Value} {h : zz_H} {n : Nat} {g : aa_G} {b5 : Int32}  (x1 x2 x3 x4 : Option Value) (jx1 : rn_jk x1) (jx2 : rn_jk x2) (jx3 : rn_jk x3) (jx4 : rn_jk x4) (r : rn_s n 11 (51, [some (.ref 1), x1, x2, x3, x4, some (.int b5)], [], aa_H g) v h) : iw_s v h (fn_11_51 g b5) := by
  unfold fn_11_51
  obtain ⟨n17, ln17, r⟩ := rn_steps 2 (57, [some (.ref 1), x1, x2, x3, x4, some (.int b5)], [.int b5, .ref 454], aa_H g) rfl r
  obtain ⟨_, n18, v1, h1, -, ln18, rc, r⟩ := rn_call (m2 := 12) (as := [.ref 454, .int b5]) (rest := []) rfl rfl r
  obtain ⟨rfl, rfl⟩ := dn_12 rc
  have r : rn_s _ 11 (60, [some (.ref 1), x1, x2, x3, x4, some (.int b5)], [], aa_H (fn_12 g b5)) v h := r
  obtain ⟨n20, ln20, r⟩ := rn_steps 1 (64, [some (.ref 1), x1, x2, x3, x4, some (.int b5)], [.ref 454], aa_H (fn_12 g b5)) rfl r
  exact dn_11_64 (some (.ref 1)) x1 x2 x3 x4 (some (.int b5)) rn_jr jx1 jx2 jx3 jx4 rn_ji r
noncomputable def fn_11_42 (g : aa_G) (b4 : Int32) (b5 : Int32) : Int32 × aa_G := fn_11_51 (fn_12 g b4) b5
theorem dn_11_42 {v : Option Value} {h : zz_H} {n : Nat} {g : aa_G} {b4 : Int32} {b5 : Int32}  (x1 x2 x3 : Option Value) (jx1 : rn_jk x1) (jx2 : rn_jk x2) (jx3 : rn_jk x3) (r : rn_s n 11 (42, [some (.ref 1), x1, x2, x3, some (.int b4), some (.int b5)], [], aa_H g) v h) : iw_s v h (fn_11_42 g b4 b5) := by
  unfold fn_11_42
  obtain ⟨n14, ln14, r⟩ := rn_steps 2 (48, [some (.ref 1), x1, x2, x3, some (.int b4), some (.int b5)], [.int b4, .ref 454], aa_H g) rfl r
  obtain ⟨_, n15, v1, h1, -, ln15, rc, r⟩ := rn_call (m2 := 12) (as := [.ref 454, .int b4]) (rest := []) rfl rfl r
  obtain ⟨rfl, rfl⟩ := dn_12 rc
  have r : rn_s _ 11 (51, [some (.ref 1), x1, x2, x3, some (.int b4), some (.int b5)], [], aa_H (fn_12 g b4)) v h := r
  exact dn_11_51 x1 x2 x3 (some (.int b4)) jx1 jx2 jx3 rn_ji r
noncomputable def fn_11_34 (g : aa_G) (b3 : Int32) (b4 : Int32) (b5 : Int32) : Int32 × aa_G := fn_11_42 (fn_12 g b3) b4 b5
theorem dn_11_34 {v : Option Value} {h : zz_H} {n : Nat} {g : aa_G} {b3 : Int32} {b4 : Int32} {b5 : Int32}  (x1 x2 : Option Value) (jx1 : rn_jk x1) (jx2 : rn_jk x2) (r : rn_s n 11 (34, [some (.ref 1), x1, x2, some (.int b3), some (.int b4), some (.int b5)], [], aa_H g) v h) : iw_s v h (fn_11_34 g b3 b4 b5) := by
  unfold fn_11_34
  obtain ⟨n11, ln11, r⟩ := rn_steps 2 (39, [some (.ref 1), x1, x2, some (.int b3), some (.int b4), some (.int b5)], [.int b3, .ref 454], aa_H g) rfl r
  obtain ⟨_, n12, v1, h1, -, ln12, rc, r⟩ := rn_call (m2 := 12) (as := [.ref 454, .int b3]) (rest := []) rfl rfl r
  obtain ⟨rfl, rfl⟩ := dn_12 rc
  have r : rn_s _ 11 (42, [some (.ref 1), x1, x2, some (.int b3), some (.int b4), some (.int b5)], [], aa_H (fn_12 g b3)) v h := r
  exact dn_11_42 x1 x2 (some (.int b3)) jx1 jx2 rn_ji r
noncomputable def fn_11_26 (g : aa_G) (b2 : Int32) (b3 : Int32) (b4 : Int32) (b5 : Int32) : Int32 × aa_G := fn_11_34 (fn_12 g b2) b3 b4 b5
theorem dn_11_26 {v : Option Value} {h : zz_H} {n : Nat} {g : aa_G} {b2 : Int32} {b3 : Int32} {b4 : Int32} {b5 : Int32}  (x1 : Option Value) (jx1 : rn_jk x1) (r : rn_s n 11 (26, [some (.ref 1), x1, some (.int b2), some (.int b3), some (.int b4), some (.int b5)], [], aa_H g) v h) : iw_s v h (fn_11_26 g b2 b3 b4 b5) := by
  unfold fn_11_26
  obtain ⟨n8, ln8, r⟩ := rn_steps 2 (31, [some (.ref 1), x1, some (.int b2), some (.int b3), some (.int b4), some (.int b5)], [.int b2, .ref 454], aa_H g) rfl r
  obtain ⟨_, n9, v1, h1, -, ln9, rc, r⟩ := rn_call (m2 := 12) (as := [.ref 454, .int b2]) (rest := []) rfl rfl r
  obtain ⟨rfl, rfl⟩ := dn_12 rc
  have r : rn_s _ 11 (34, [some (.ref 1), x1, some (.int b2), some (.int b3), some (.int b4), some (.int b5)], [], aa_H (fn_12 g b2)) v h := r
  exact dn_11_34 x1 (some (.int b2)) jx1 rn_ji r
noncomputable def fn_11 (g : aa_G) (a1 : Int32) (a2 : Int32) (a3 : Int32) (a4 : Int32) (a5 : Int32) : Int32 × aa_G := if ((g 454 0) + 20) ≤ 500 then fn_11_26 (fn_12 g a1) a2 a3 a4 a5 else (-1, g)
theorem dn_11 {v : Option Value} {h : zz_H} {n : Nat} {g : aa_G} {a1 : Int32} {a2 : Int32} {a3 : Int32} {a4 : Int32} {a5 : Int32}  (r : rn_s n 11 (0, zz_in [.ref 1, .int a1, .int a2, .int a3, .int a4, .int a5] (zz_nl 11), [], aa_H g) v h) : iw_s v h (fn_11 g a1 a2 a3 a4 a5) := by
  have r : rn_s n 11 (0, [some (.ref 1), some (.int a1), some (.int a2), some (.int a3), some (.int a4), some (.int a5)], [], aa_H g) v h := r
  unfold fn_11
  obtain ⟨n1, ln1, r⟩ := rn_steps 5 (13, [some (.ref 1), some (.int a1), some (.int a2), some (.int a3), some (.int a4), some (.int a5)], [.int 500, .int ((g 454 0) + 20)], aa_H g) rfl r
  refine rn_ic (iw_s v h) rfl decide_eq_true_iff.symm r (fun c2 l3n l3 r => ?_) (fun c2 l3n l3 r => ?_)
  · obtain ⟨n4, ln4, r⟩ := rn_steps 2 (23, [some (.ref 1), some (.int a1), some (.int a2), some (.int a3), some (.int a4), some (.int a5)], [.int a1, .ref 454], aa_H g) rfl r
    obtain ⟨_, n5, v1, h1, -, ln5, rc, r⟩ := rn_call (m2 := 12) (as := [.ref 454, .int a1]) (rest := []) rfl rfl r
    obtain ⟨rfl, rfl⟩ := dn_12 rc
    have r : rn_s _ 11 (26, [some (.ref 1), some (.int a1), some (.int a2), some (.int a3), some (.int a4), some (.int a5)], [], aa_H (fn_12 g a1)) v h := r
    exact dn_11_26 (some (.int a1)) rn_ji r
  · obtain ⟨n7, ln7, r⟩ := rn_steps 0 (17, [some (.ref 1), some (.int a1), some (.int a2), some (.int a3), some (.int a4), some (.int a5)], [.int (-1)], aa_H g) rfl r
    exact rn_ire rfl r
-- 159: UnequalHoursModel four
noncomputable def fn_159_22 (g : aa_G) (b1 : Int32) (b2 : Int32) : (aa_G × Int32) ⊕ aa_G := .inl (zz_w g 540 4 ((g 540 4) + 1), b2 + (-8))
theorem dn_159_22 {v : Option Value} {h : zz_H} {n : Nat} {g : aa_G} {b1 : Int32} {b2 : Int32} (P : (aa_G × Int32) ⊕ aa_G → Prop) (hO0 : ∀ n2, n2 < n → ∀ (yg : aa_G) (yb2 : Int32), rn_s n2 159 (3, [some (.ref 540), some (.int b1), some (.int yb2)], [], aa_H yg) v h → P (.inl (yg, yb2))) (hR : ∀ E, ig_s v h E → P (.inr E))  (r : rn_s n 159 (22, [some (.ref 540), some (.int b1), some (.int b2)], [.ref 540, .ref 540], aa_H g) v h) : P (fn_159_22 g b1 b2) := by
  unfold fn_159_22
  obtain ⟨n9, ln9, r⟩ := rn_steps 5 (3, [some (.ref 540), some (.int b1), some (.int (b2 + (-8)))], [], aa_H (zz_w g 540 4 ((g 540 4) + 1))) rfl r
  exact hO0 _ (by omega) (zz_w g 540 4 ((g 540 4) + 1)) (b2 + (-8)) r
noncomputable def fn_159_3b (g : aa_G) (b1 : Int32) (b2 : Int32) : (aa_G × Int32) ⊕ aa_G := if b2 < 0 then .inr g else fn_159_22 (zz_w g 543 (g 540 4).toNatClampNeg (vp_nar .byte ((b1 >>> (b2 &&& 31)).toInt8.toInt32))) b1 b2
noncomputable def fn_159_3 (g : aa_G) (b1 : Int32) (b2 : Int32) : aa_G := lp_f g (fun z : (aa_G × Int32) => fn_159_3b z.1 b1 z.2) (g, b2)
theorem dn_159_3l {v : Option Value} {h : zz_H} {N : Nat} {b1 : Int32} {d : aa_G} : ∀ (n : Nat), n ≤ N → ∀ (g : aa_G) (b2 : Int32), rn_s n 159 (3, [some (.ref 540), some (.int b1), some (.int b2)], [], aa_H g) v h → (ig_s v h) (lp_f d (fun z : (aa_G × Int32) => fn_159_3b z.1 b1 z.2) (g, b2)) := by
  generalize hf : (fun z : (aa_G × Int32) => fn_159_3b z.1 b1 z.2) = f
  intro n
  induction n using Nat.strongRecOn with
  | _ n ih =>
    intro hN g b2  r
    refine lp_go ?_
    rw [← congrFun hf (g, b2)]
    show lp_q (ig_s v h) d f (fn_159_3b g b1 b2)
    unfold fn_159_3b
    obtain ⟨n2, ln2, r⟩ := rn_steps 0 (4, [some (.ref 540), some (.int b1), some (.int b2)], [.int b2], aa_H g) rfl r
    refine rn_if (lp_q (ig_s v h) d f) rfl decide_eq_true_iff.symm r (fun c3 l4n l4 r => ?_) (fun c3 l4n l4 r => ?_)
    · exact rn_ret 1 rfl r
    · obtain ⟨n5, ln5, r⟩ := rn_steps 7 (19, [some (.ref 540), some (.int b1), some (.int b2)], [.int ((b1 >>> (b2 &&& 31)).toInt8.toInt32), .int (g 540 4), .ref 543], aa_H g) rfl r
      obtain ⟨hb7, n6, ln6, r⟩ := rn_bas (k := 543) rfl ⟨by decide, by decide⟩ rfl (by decide) r
      have r : rn_s _ 159 (20, [some (.ref 540), some (.int b1), some (.int b2)], [], aa_H (zz_w g 543 (g 540 4).toNatClampNeg (vp_nar .byte ((b1 >>> (b2 &&& 31)).toInt8.toInt32)))) v h := r
      obtain ⟨n8, ln8, r⟩ := rn_steps 1 (22, [some (.ref 540), some (.int b1), some (.int b2)], [.ref 540, .ref 540], aa_H (zz_w g 543 (g 540 4).toNatClampNeg (vp_nar .byte ((b1 >>> (b2 &&& 31)).toInt8.toInt32)))) rfl r
      exact dn_159_22 (lp_q (ig_s v h) d f) (fun n2 l2 => ih n2 (by omega) (by omega)) (fun z hz => hz) r
theorem dn_159_3 {v : Option Value} {h : zz_H} {n : Nat} {g : aa_G} {b1 : Int32} {b2 : Int32}  (r : rn_s n 159 (3, [some (.ref 540), some (.int b1), some (.int b2)], [], aa_H g) v h) : (ig_s v h) (fn_159_3 g b1 b2) := dn_159_3l  n (Nat.le_refl n) g b2 r
noncomputable def fn_159 (g : aa_G) (a1 : Int32) : aa_G := fn_159_3 g a1 24
theorem dn_159 {v : Option Value} {h : zz_H} {n : Nat} {g : aa_G} {a1 : Int32}  (r : rn_s n 159 (0, zz_in [.ref 540, .int a1] (zz_nl 159), [], aa_H g) v h) : ig_s v h (fn_159 g a1) := by
  have r : rn_s n 159 (0, [some (.ref 540), some (.int a1), none], [], aa_H g) v h := r
  unfold fn_159
  obtain ⟨n1, ln1, r⟩ := rn_steps 1 (3, [some (.ref 540), some (.int a1), some (.int 24)], [], aa_H g) rfl r
  exact dn_159_3 r
-- 158: UnequalHoursModel feed
noncomputable def fn_158_43 (g : aa_G)  : Int32 × aa_G := (g 540 4, g)
theorem dn_158_43 {v : Option Value} {h : zz_H} {n : Nat} {g : aa_G}   (x0 x1 x2 x3 x4 x5 : Option Value) (jx0 : rn_jk x0) (jx1 : rn_jk x1) (jx2 : rn_jk x2) (jx3 : rn_jk x3) (jx4 : rn_jk x4) (jx5 : rn_jk x5) (r : rn_s n 158 (43, [x0, x1, x2, x3, x4, x5], [.ref 540], aa_H g) v h) : iw_s v h (fn_158_43 g) := by
  unfold fn_158_43
  obtain ⟨n21, ln21, r⟩ := rn_steps 0 (46, [x0, x1, x2, x3, x4, x5], [.int (g 540 4)], aa_H g) rfl r
  exact rn_ire rfl r
noncomputable def fn_158_36 (g : aa_G) (b5 : Int32) : Int32 × aa_G := fn_158_43 (fn_159 g b5)
theorem dn_158_36 {v : Option Value} {h : zz_H} {n : Nat} {g : aa_G} {b5 : Int32}  (x1 x2 x3 x4 : Option Value) (jx1 : rn_jk x1) (jx2 : rn_jk x2) (jx3 : rn_jk x3) (jx4 : rn_jk x4) (r : rn_s n 158 (36, [some (.ref 540), x1, x2, x3, x4, some (.int b5)], [], aa_H g) v h) : iw_s v h (fn_158_36 g b5) := by
  unfold fn_158_36
  obtain ⟨n17, ln17, r⟩ := rn_steps 1 (39, [some (.ref 540), x1, x2, x3, x4, some (.int b5)], [.int b5, .ref 540], aa_H g) rfl r
  obtain ⟨_, n18, v1, h1, -, ln18, rc, r⟩ := rn_call (m2 := 159) (as := [.ref 540, .int b5]) (rest := []) rfl rfl r
  obtain ⟨rfl, rfl⟩ := dn_159 rc
  have r : rn_s _ 158 (42, [some (.ref 540), x1, x2, x3, x4, some (.int b5)], [], aa_H (fn_159 g b5)) v h := r
  obtain ⟨n20, ln20, r⟩ := rn_steps 0 (43, [some (.ref 540), x1, x2, x3, x4, some (.int b5)], [.ref 540], aa_H (fn_159 g b5)) rfl r
  exact dn_158_43 (some (.ref 540)) x1 x2 x3 x4 (some (.int b5)) rn_jr jx1 jx2 jx3 jx4 rn_ji r
noncomputable def fn_158_30 (g : aa_G) (b4 : Int32) (b5 : Int32) : Int32 × aa_G := fn_158_36 (fn_159 g b4) b5
theorem dn_158_30 {v : Option Value} {h : zz_H} {n : Nat} {g : aa_G} {b4 : Int32} {b5 : Int32}  (x1 x2 x3 : Option Value) (jx1 : rn_jk x1) (jx2 : rn_jk x2) (jx3 : rn_jk x3) (r : rn_s n 158 (30, [some (.ref 540), x1, x2, x3, some (.int b4), some (.int b5)], [], aa_H g) v h) : iw_s v h (fn_158_30 g b4 b5) := by
  unfold fn_158_30
  obtain ⟨n14, ln14, r⟩ := rn_steps 1 (33, [some (.ref 540), x1, x2, x3, some (.int b4), some (.int b5)], [.int b4, .ref 540], aa_H g) rfl r
  obtain ⟨_, n15, v1, h1, -, ln15, rc, r⟩ := rn_call (m2 := 159) (as := [.ref 540, .int b4]) (rest := []) rfl rfl r
  obtain ⟨rfl, rfl⟩ := dn_159 rc
  have r : rn_s _ 158 (36, [some (.ref 540), x1, x2, x3, some (.int b4), some (.int b5)], [], aa_H (fn_159 g b4)) v h := r
  exact dn_158_36 x1 x2 x3 (some (.int b4)) jx1 jx2 jx3 rn_ji r
noncomputable def fn_158_25 (g : aa_G) (b3 : Int32) (b4 : Int32) (b5 : Int32) : Int32 × aa_G := fn_158_30 (fn_159 g b3) b4 b5
theorem dn_158_25 {v : Option Value} {h : zz_H} {n : Nat} {g : aa_G} {b3 : Int32} {b4 : Int32} {b5 : Int32}  (x1 x2 : Option Value) (jx1 : rn_jk x1) (jx2 : rn_jk x2) (r : rn_s n 158 (25, [some (.ref 540), x1, x2, some (.int b3), some (.int b4), some (.int b5)], [], aa_H g) v h) : iw_s v h (fn_158_25 g b3 b4 b5) := by
  unfold fn_158_25
  obtain ⟨n11, ln11, r⟩ := rn_steps 1 (27, [some (.ref 540), x1, x2, some (.int b3), some (.int b4), some (.int b5)], [.int b3, .ref 540], aa_H g) rfl r
  obtain ⟨_, n12, v1, h1, -, ln12, rc, r⟩ := rn_call (m2 := 159) (as := [.ref 540, .int b3]) (rest := []) rfl rfl r
  obtain ⟨rfl, rfl⟩ := dn_159 rc
  have r : rn_s _ 158 (30, [some (.ref 540), x1, x2, some (.int b3), some (.int b4), some (.int b5)], [], aa_H (fn_159 g b3)) v h := r
  exact dn_158_30 x1 x2 (some (.int b3)) jx1 jx2 rn_ji r
noncomputable def fn_158_20 (g : aa_G) (b2 : Int32) (b3 : Int32) (b4 : Int32) (b5 : Int32) : Int32 × aa_G := fn_158_25 (fn_159 g b2) b3 b4 b5
theorem dn_158_20 {v : Option Value} {h : zz_H} {n : Nat} {g : aa_G} {b2 : Int32} {b3 : Int32} {b4 : Int32} {b5 : Int32}  (x1 : Option Value) (jx1 : rn_jk x1) (r : rn_s n 158 (20, [some (.ref 540), x1, some (.int b2), some (.int b3), some (.int b4), some (.int b5)], [], aa_H g) v h) : iw_s v h (fn_158_20 g b2 b3 b4 b5) := by
  unfold fn_158_20
  obtain ⟨n8, ln8, r⟩ := rn_steps 1 (22, [some (.ref 540), x1, some (.int b2), some (.int b3), some (.int b4), some (.int b5)], [.int b2, .ref 540], aa_H g) rfl r
  obtain ⟨_, n9, v1, h1, -, ln9, rc, r⟩ := rn_call (m2 := 159) (as := [.ref 540, .int b2]) (rest := []) rfl rfl r
  obtain ⟨rfl, rfl⟩ := dn_159 rc
  have r : rn_s _ 158 (25, [some (.ref 540), x1, some (.int b2), some (.int b3), some (.int b4), some (.int b5)], [], aa_H (fn_159 g b2)) v h := r
  exact dn_158_25 x1 (some (.int b2)) jx1 rn_ji r
noncomputable def fn_158 (g : aa_G) (a1 : Int32) (a2 : Int32) (a3 : Int32) (a4 : Int32) (a5 : Int32) : Int32 × aa_G := if ((g 540 4) + 20) ≤ 500 then fn_158_20 (fn_159 g a1) a2 a3 a4 a5 else (-1, g)
theorem dn_158 {v : Option Value} {h : zz_H} {n : Nat} {g : aa_G} {a1 : Int32} {a2 : Int32} {a3 : Int32} {a4 : Int32} {a5 : Int32}  (r : rn_s n 158 (0, zz_in [.ref 540, .int a1, .int a2, .int a3, .int a4, .int a5] (zz_nl 158), [], aa_H g) v h) : iw_s v h (fn_158 g a1 a2 a3 a4 a5) := by
  have r : rn_s n 158 (0, [some (.ref 540), some (.int a1), some (.int a2), some (.int a3), some (.int a4), some (.int a5)], [], aa_H g) v h := r
  unfold fn_158
  obtain ⟨n1, ln1, r⟩ := rn_steps 4 (10, [some (.ref 540), some (.int a1), some (.int a2), some (.int a3), some (.int a4), some (.int a5)], [.int 500, .int ((g 540 4) + 20)], aa_H g) rfl r
  refine rn_ic (iw_s v h) rfl decide_eq_true_iff.symm r (fun c2 l3n l3 r => ?_) (fun c2 l3n l3 r => ?_)
  · obtain ⟨n4, ln4, r⟩ := rn_steps 1 (17, [some (.ref 540), some (.int a1), some (.int a2), some (.int a3), some (.int a4), some (.int a5)], [.int a1, .ref 540], aa_H g) rfl r
    obtain ⟨_, n5, v1, h1, -, ln5, rc, r⟩ := rn_call (m2 := 159) (as := [.ref 540, .int a1]) (rest := []) rfl rfl r
    obtain ⟨rfl, rfl⟩ := dn_159 rc
    have r : rn_s _ 158 (20, [some (.ref 540), some (.int a1), some (.int a2), some (.int a3), some (.int a4), some (.int a5)], [], aa_H (fn_159 g a1)) v h := r
    exact dn_158_20 (some (.int a1)) rn_ji r
  · obtain ⟨n7, ln7, r⟩ := rn_steps 0 (14, [some (.ref 540), some (.int a1), some (.int a2), some (.int a3), some (.int a4), some (.int a5)], [.int (-1)], aa_H g) rfl r
    exact rn_ire rfl r
end
section
/-! THE LAW WITH THE STATES ALIKE: what a case of it needs -/
theorem zz_fin.xal {L : Nat} {xs : Nat → Int32} {m pc : Nat} {lv : zz_V} {h : zz_H} {φ : Option Value → zz_H → Prop} {i : Int32} {r : List Value} {x y u w : Nat} {vv : Value} {sw : List (Int × Nat)} (hT : zz_T m pc = some (.iaload, (x, y, u, w), vv, sw)) (hin : zz_inb i L = true) (kk : zz_fin (some (L, xs)) m (pc + 1, lv, .int (xs i.toNatClampNeg) :: r, h) φ) : zz_fin (some (L, xs)) m (pc, lv, .int i :: .ref 0 :: r, h) φ := by
  refine zz_fin.step1 hT ?_ kk
  show zz_ial (some (L, xs)) pc lv (.int i :: .ref 0 :: r) h = _
  unfold zz_ial
  dsimp only
  rw [if_pos hin]
  rfl
def lr_B : rq_Q := fun _ _ _ _ => True
theorem lr_cp : rq_cp lr_B := fun _ _ _ _ _ _ _ _ _ _ _ _ _ => trivial
theorem lr_bf : rq_bf lr_B := fun _ _ _ _ _ _ _ _ _ => trivial
theorem lr_bf2 : ∀ (gc gc' gm gm' : aa_G), cp_bl gc gc' 4 4 → (∀ q, q < 399 → (q = 2 ∨ 203 ≤ q) → gm' 541 q = gm 541 q) → lr_B gc gm 2 0 → lr_B gc' gm' 2 0 := fun _ _ _ _ _ _ _ => trivial
/-- the states of both sides are alike, and what is ended -/
def lr_R (g : aa_G) : Prop := rr_g (qb_s lr_B) g g ∧ g 1 14 = g 540 35
/-- the class's writes: nothing of the model -/
def lk_c (ws : aa_W) : Bool := [540, 541, 542, 543, 546, 553].all fun k => ws.all fun w => !(Nat.beq w.1 (aa_gc k))
/-- the model's writes: nothing of the class -/
def lk_m (ws : aa_W) : Bool := ((List.range 540).all fun k => ws.all fun w => !(Nat.beq w.1 (aa_gc k))) && ws.all fun w => !(Nat.beq w.1 (aa_gc 546))
theorem lk_ce {ws : aa_W} (h : lk_c ws = true) {g g' : aa_G} (hf : aa_fr ws g g') {k : Nat} (hk : k ∈ [540, 541, 542, 543, 546, 553]) (j : Nat) : g' k j = g k j := ko_ne hf (List.all_eq_true.mp h k hk) j
theorem lk_me {ws : aa_W} (h : lk_m ws = true) {g g' : aa_G} (hf : aa_fr ws g g') {k : Nat} (hk : k < 540) (j : Nat) : g' k j = g k j := by
  have h := (Bool.and_eq_true _ _ ▸ h : _ ∧ _).1
  exact ko_ne hf (List.all_eq_true.mp h k (List.mem_range.mpr hk)) j
theorem lk_mx {ws : aa_W} (h : lk_m ws = true) {g g' : aa_G} (hf : aa_fr ws g g') (j : Nat) : g' 546 j = g 546 j := by
  have h := (Bool.and_eq_true _ _ ▸ h : _ ∧ _).2
  exact ko_ne hf h j
/-- behind the class's run the model's cells are as before it: the states of before and behind are alike, class to model -/
theorem lk_mid {ws : aa_W} (h : lk_c ws = true) {g g1 : aa_G} (hi : aa_inv g) (hR : lr_R g) (hf : aa_fr ws g g1) : rr_g (qb_s lr_B) g g1 ∧ g 1 14 = g1 540 35 ∧ ∀ j, g1 546 j = g 546 j := by
  refine ⟨rr_m (qb_cp lr_cp) hi hR.1 (fun k j _ z => ?_), hR.2.trans (lk_ce h hf (by decide) 35).symm, fun j => lk_ce h hf (by decide) j⟩
  rcases z with ⟨rfl, -⟩ | rfl | rfl | rfl | ⟨rfl, -⟩ <;> exact lk_ce h hf (by decide) j
theorem lk_end {ws : aa_W} (h : lk_m ws = true) {g g1 g2 : aa_G} (hi : aa_inv g2) (hf : aa_fr ws g1 g2) (hR : rr_g (qb_s lr_B) g1 g2) (h14 : g1 1 14 = g2 540 35) (hx : ∀ j, g1 546 j = g 546 j) : lr_R g2 ∧ ∀ j, g2 546 j = g 546 j :=
  ⟨⟨rr_c (qb_cp lr_cp) hi hR (fun k j hk _ => lk_me h hf hk j), (lk_me h hf (by omega) 14).trans h14⟩, fun j => (lk_mx h hf j).trans (hx j)⟩
def lq_end (eq : Bool) (x : Int32) (g : aa_G) (v : Option Value) (h : zz_H) : Prop := ∃ y g2, v = some (.int y) ∧ (eq = true → y = x) ∧ h = aa_H g2 ∧ aa_inv g2 ∧ aa_Phi g2 ∧ lr_R g2 ∧ ∀ j, g2 546 j = g 546 j
/-- a call on the class, then the like on the model: the states stay alike; with 'true' the answers are the same -/
def lq_ok (eq : Bool) (mc mm : Nat) (as : List Value) (g : aa_G) : Prop := zz_fin none mc (0, zz_in (.ref 1 :: as) (zz_nl mc), [], aa_H g) (fun v h => ∃ x g1, v = some (.int x) ∧ h = aa_H g1 ∧ zz_fin none mm (0, zz_in (.ref 540 :: as) (zz_nl mm), [], aa_H g1) (lq_end eq x g))
theorem lq_mk {eq : Bool} {mc mm : Nat} {as : List Value} {g : aa_G} {wc wm : aa_W} {x y : Int32 × aa_G} (hi : aa_inv g) (hR : lr_R g)
    (c : zz_fin none mc (0, zz_in (.ref 1 :: as) (zz_nl mc), [], aa_H g) (fun v h => v = some (.int x.1) ∧ h = aa_H x.2 ∧ aa_inv x.2 ∧ aa_Phi x.2 ∧ aa_fr wc g x.2))
    (m : aa_inv x.2 → aa_Phi x.2 → zz_fin none mm (0, zz_in (.ref 540 :: as) (zz_nl mm), [], aa_H x.2) (fun v h => v = some (.int y.1) ∧ h = aa_H y.2 ∧ aa_inv y.2 ∧ aa_Phi y.2 ∧ aa_fr wm x.2 y.2))
    (hc : lk_c wc = true) (hm : lk_m wm = true)
    (mu : aa_inv x.2 → aa_Phi x.2 → rr_g (qb_s lr_B) g x.2 → g 1 14 = x.2 540 35 → aa_fr wc g x.2 → aa_fr wm x.2 y.2 → ((eq = true → x.1 = y.1) ∧ rr_g (qb_s lr_B) x.2 y.2) ∧ x.2 1 14 = y.2 540 35) : lq_ok eq mc mm as g := by
  refine zz_fin.mono c ?_
  rintro v h ⟨e1, e2, i1, p1, f1⟩
  refine ⟨x.1, x.2, e1, e2, zz_fin.mono (m i1 p1) ?_⟩
  rintro v h ⟨k1, k2, i2, p2, f2⟩
  obtain ⟨q1, q2, q3⟩ := lk_mid hc hi hR f1
  obtain ⟨⟨m1, m2⟩, m3⟩ := mu i1 p1 q1 q2 f1 f2
  obtain ⟨r1, r2⟩ := lk_end hm i2 f2 m2 m3 q3
  exact ⟨y.1, y.2, k1, fun z => (m1 z).symm, k2, i2, p2, r1, r2⟩
/-- that neither writes what is ended -/
def lk_e (wc wm : aa_W) : Bool := (wc.all fun w => !(Nat.beq w.1 (aa_gc 1)) || !(decide (w.2.1 ≤ ((14 : Nat) : Int)) && decide (((14 : Nat) : Int) ≤ w.2.2))) && (wm.all fun w => !(Nat.beq w.1 (aa_gc 540)) || !(decide (w.2.1 ≤ ((35 : Nat) : Int)) && decide (((35 : Nat) : Int) ≤ w.2.2)))
theorem lk_ee {wc wm : aa_W} (h : lk_e wc wm = true) {g g1 g2 : aa_G} (f1 : aa_fr wc g g1) (f2 : aa_fr wm g1 g2) (e : g 1 14 = g1 540 35) : g1 1 14 = g2 540 35 := by
  have h := (Bool.and_eq_true _ _ ▸ h : _ ∧ _)
  exact (ko_at f1 h.1).trans (e.trans (ko_at f2 h.2).symm)
theorem lq_mks {mc mm : Nat} {as : List Value} {g : aa_G} {wc wm : aa_W} {x y : Int32 × aa_G} (hi : aa_inv g) (hR : lr_R g)
    (c : zz_fin none mc (0, zz_in (.ref 1 :: as) (zz_nl mc), [], aa_H g) (fun v h => v = some (.int x.1) ∧ h = aa_H x.2 ∧ aa_inv x.2 ∧ aa_Phi x.2 ∧ aa_fr wc g x.2))
    (m : aa_inv x.2 → aa_Phi x.2 → zz_fin none mm (0, zz_in (.ref 540 :: as) (zz_nl mm), [], aa_H x.2) (fun v h => v = some (.int y.1) ∧ h = aa_H y.2 ∧ aa_inv y.2 ∧ aa_Phi y.2 ∧ aa_fr wm x.2 y.2))
    (hc : lk_c wc = true) (hm : lk_m wm = true) (he : lk_e wc wm = true)
    (mu : aa_inv x.2 → aa_Phi x.2 → rr_g (qb_s lr_B) g x.2 → x.1 = y.1 ∧ rr_g (qb_s lr_B) x.2 y.2) : lq_ok true mc mm as g :=
  lq_mk hi hR c m hc hm fun i1 p1 q1 q2 f1 f2 => ⟨⟨fun _ => (mu i1 p1 q1).1, (mu i1 p1 q1).2⟩, lk_ee he f1 f2 q2⟩
theorem lq_as {mc mm : Nat} {as : List Value} {g : aa_G} {x y : Int32} (hi : aa_inv g) (hφ : aa_Phi g) (hR : lr_R g) (c : zz_fin none mc (0, zz_in (.ref 1 :: as) (zz_nl mc), [], aa_H g) (fun v h => v = some (.int x) ∧ h = aa_H g)) (m : zz_fin none mm (0, zz_in (.ref 540 :: as) (zz_nl mm), [], aa_H g) (fun v h => v = some (.int y) ∧ h = aa_H g)) (e : x = y) : lq_ok true mc mm as g := by
  refine zz_fin.mono c ?_
  rintro v h ⟨e1, e2⟩
  refine ⟨x, g, e1, e2, zz_fin.mono m ?_⟩
  rintro v h ⟨k1, k2⟩
  exact ⟨y, g, k1, fun _ => e.symm, k2, hi, hφ, hR, fun _ => rfl⟩
theorem lq_any {eq : Bool} {mc mm : Nat} {as : List Value} {g : aa_G} (h : lq_ok true mc mm as g) : lq_ok eq mc mm as g := by
  refine zz_fin.mono h ?_
  rintro v h ⟨x, g1, e1, e2, k⟩
  refine ⟨x, g1, e1, e2, zz_fin.mono k ?_⟩
  rintro v h ⟨y, g2, k1, k2, k3⟩
  exact ⟨y, g2, k1, fun _ => k2 rfl, k3⟩
end
section
/-! THE PAIRS OF CALLS: the states stay alike, the answers are the same -/
theorem lr_w {g : aa_G} (hi : aa_inv g) : 0 ≤ (g 540 37).toInt ∧ (g 540 37).toInt ≤ 260 := by
  have k := hi 540 37
  rw [show aa_iv (aa_gc 540) 37 = (0, 260) from by decide +kernel] at k
  exact k
theorem lq_60 {g : aa_G} {a0 a1 : Int32} (hi : aa_inv g) (hφ : aa_Phi g) (hR : lr_R g) : lq_ok true 60 254 [.int a0, .int a1] g :=
  lq_mks (y := fn_254 (fn_60 g a0 a1).2 a0 a1) hi hR (ko_fw (ko_60 hi hφ) fun _ _ _ r => dn_60 (ko_ring hi) r) (fun i1 p1 => ko_fw (ko_254 i1 p1) fun _ _ _ r => dn_254 r) (by decide +kernel) (by decide +kernel) (by decide +kernel) fun i1 p1 q => mu_offset lr_cp lr_bf i1 q a0 a1
theorem lq_61 {g : aa_G} {a0 : Int32} (hi : aa_inv g) (hφ : aa_Phi g) (hR : lr_R g) : lq_ok true 61 256 [.int a0] g :=
  lq_mks (y := fn_256 (fn_61 g a0).2 a0) hi hR (ko_fw (ko_61 hi hφ) fun _ _ _ r => dn_61 (ko_ring hi) r) (fun i1 p1 => ko_fw (ko_256 i1 p1) fun _ _ _ r => dn_256 r) (by decide +kernel) (by decide +kernel) (by decide +kernel) fun i1 p1 q => mu_parts lr_cp lr_bf i1 q a0
theorem lq_62 {g : aa_G} {a0 a1 : Int32} (hi : aa_inv g) (hφ : aa_Phi g) (hR : lr_R g) : lq_ok true 62 259 [.int a0, .int a1] g :=
  lq_mks (y := fn_259 (fn_62 g a0 a1).2 a0 a1) hi hR (ko_fw (ko_62 hi hφ) fun _ _ _ r => dn_62 (ko_ring hi) r) (fun i1 p1 => ko_fw (ko_259 i1 p1) fun _ _ _ r => dn_259 r) (by decide +kernel) (by decide +kernel) (by decide +kernel) fun i1 p1 q => mu_remove lr_cp lr_bf i1 q a0 a1
theorem lq_65 {g : aa_G} {a0 a1 a2 a3 : Int32} (hi : aa_inv g) (hφ : aa_Phi g) (hR : lr_R g) : lq_ok true 65 257 [.int a0, .int a1, .int a2, .int a3] g :=
  lq_mks (y := fn_257 (fn_65 g a0 a1 a2 a3).2 a0 a1 a2 a3) hi hR (ko_fw (ko_65 hi hφ) fun _ _ _ r => dn_65 (ko_ring hi) r) (fun i1 p1 => ko_fw (ko_257 i1 p1) fun _ _ _ r => dn_257 r) (by decide +kernel) (by decide +kernel) (by decide +kernel) fun i1 p1 q => mu_set lr_cp lr_bf i1 q a0 a1 a2 a3
theorem lq_141 {g : aa_G} (hi : aa_inv g) (hφ : aa_Phi g) (hR : lr_R g) : lq_ok true 141 151 [] g :=
  lq_mks (y := fn_151 (fn_141 g ).2 ) hi hR (ko_fw (ko_141 hi hφ) fun _ _ _ r => dn_141 (ko_ring hi) r) (fun i1 p1 => ko_fw (ko_151 i1 p1) fun _ _ _ r => dn_151 r) (by decide +kernel) (by decide +kernel) (by decide +kernel) fun i1 p1 q => mu_undo (qb_cp lr_cp) i1 q
theorem lq_143 {g : aa_G} {a0 : Int32} (hi : aa_inv g) (hφ : aa_Phi g) (hR : lr_R g) : lq_ok true 143 153 [.int a0] g :=
  lq_mks (y := fn_153 (fn_143 g a0).2 a0) hi hR (ko_fw (ko_143 hi hφ) fun _ _ _ r => dn_143 r) (fun i1 p1 => ko_fw (ko_153 i1 p1) fun _ _ _ r => dn_153 r) (by decide +kernel) (by decide +kernel) (by decide +kernel) fun i1 p1 q => mu_keep (qb_cp lr_cp) i1 q a0
theorem lq_144 {g : aa_G} {a0 : Int32} (hi : aa_inv g) (hφ : aa_Phi g) (hR : lr_R g) : lq_ok true 144 155 [.int a0] g :=
  lq_mks (y := fn_155 (fn_144 g a0).2 a0) hi hR (ko_fw (ko_144 hi hφ) fun _ _ _ r => dn_144 (ko_ring hi) r) (fun i1 p1 => ko_fw (ko_155 i1 p1) fun _ _ _ r => dn_155 r) (by decide +kernel) (by decide +kernel) (by decide +kernel) fun i1 p1 q => mu_restore lr_cp i1 q a0
theorem lq_145 {g : aa_G} {a0 : Int32} (hi : aa_inv g) (hφ : aa_Phi g) (hR : lr_R g) : lq_ok true 145 265 [.int a0] g :=
  lq_mks (y := fn_265 (fn_145 g a0).2 a0) hi hR (ko_fw (ko_145 hi hφ) fun _ _ _ r => dn_145 r) (fun i1 p1 => ko_fw (ko_265 i1 p1) fun _ _ _ r => dn_265 r) (by decide +kernel) (by decide +kernel) (by decide +kernel) fun i1 p1 q => mu_write lr_cp i1 p1 q a0
theorem lq_53 {g : aa_G} (hi : aa_inv g) (hφ : aa_Phi g) (hR : lr_R g) : lq_ok true 53 260 [] g :=
  lq_mk (y := fn_260 (fn_53 g).2) hi hR (ko_fw (ko_53 hi hφ) fun _ _ _ r => dn_53 hi hφ r) (fun i1 p1 => ko_fw (ko_260 i1 p1) fun _ _ _ r => dn_260 r) (by decide +kernel) (by decide +kernel) fun i1 p1 q q2 _ _ => ⟨⟨fun _ => (mu_acts lr_cp lr_bf hi hφ i1 p1 q q2).1.1, (mu_acts lr_cp lr_bf hi hφ i1 p1 q q2).1.2⟩, (mu_acts lr_cp lr_bf hi hφ i1 p1 q q2).2⟩
theorem lq_149 {g : aa_G} {a0 : Int32} (hi : aa_inv g) (hφ : aa_Phi g) (hR : lr_R g) : lq_ok true 149 269 [.int a0] g :=
  lq_as hi hφ hR (ko_fi (ko_149 hi hφ) fun _ _ _ r => dn_149 r) (ko_fi (ko_269 hi hφ) fun _ _ _ r => dn_269 r) (oc_all hR.1 (lr_w hi).1 a0)
theorem lq_69 {g : aa_G} (hi : aa_inv g) (hφ : aa_Phi g) (hR : lr_R g) : lq_ok true 69 161 [] g :=
  lq_as hi hφ hR (ko_fi (ko_69 hi hφ) fun _ _ _ r => dn_69 r) (ko_fi (ko_161 hi hφ) fun _ _ _ r => dn_161 r) hR.1.2.2.2.2.2.1
theorem lq_70 {g : aa_G} (hi : aa_inv g) (hφ : aa_Phi g) (hR : lr_R g) : lq_ok true 70 264 [] g :=
  lq_as hi hφ hR (ko_fi (ko_70 hi hφ) fun _ _ _ r => dn_70 r) (ko_fi (ko_264 hi hφ) fun _ _ _ r => dn_264 r) hR.2
end
section
/-! THE PAIRS OF CALLS: text, bells, end, feed -/
theorem lr_tape {g : aa_G} (hi : aa_inv g) (hR : lr_R g) : ∃ n, n ≤ 500 ∧ g 454 0 = Int32.ofNat n ∧ g 540 4 = Int32.ofNat n := by
  have k := hi 454 0
  rw [show aa_iv (aa_gc 454) 0 = (0, 500) from by decide +kernel] at k
  have k : (0 : Int) ≤ (g 454 0).toInt ∧ (g 454 0).toInt ≤ 500 := k
  have e : g 454 0 = Int32.ofNat (g 454 0).toInt.toNat := aa_eqN (by omega) (by omega)
  exact ⟨(g 454 0).toInt.toNat, by omega, e, hR.1.2.2.2.1.symm.trans e⟩
theorem lr_nat {a : Int32} {c d : Nat} (h : a = Int32.ofNat c) (k : a = Int32.ofNat d) (hc : c < 2147483648) (hd : d < 2147483648) : c = d := by
  have e := congrArg Int32.toInt (h.symm.trans k)
  rw [zz_ofN hc, zz_ofN hd] at e
  omega
theorem lr_rd {Q : rq_Q} {g g1 : aa_G} {c e : Nat} (q : rr_g Q g g1) (hc : c ≤ 12) (he : e < 12) (r0 : g 66 0 = Int32.ofNat c) (r1 : g 66 1 = Int32.ofNat e) : rd_g Q g g1 c e := by
  obtain ⟨-, -, ⟨c2, e2, ⟨w1, w2⟩, ⟨w3, w4, w5⟩, w6⟩, -⟩ := q
  have x1 := lr_nat w3 r0 (by omega) (by omega)
  have x2 := lr_nat w5 r1 (by omega) (by omega)
  subst x1
  subst x2
  exact ⟨⟨w1, w2⟩, ⟨w3, w4, w5⟩, w6⟩
theorem lq_15 {g : aa_G} (hi : aa_inv g) (hφ : aa_Phi g) (hR : lr_R g) : lq_ok true 15 162 [] g := by
  obtain ⟨n, hn, t0, t1⟩ := lr_tape hi hR
  have hR0 := hR.1
  obtain ⟨h0, -, ⟨c, e, ⟨hc, he⟩, ⟨r0, r1, r2⟩, -⟩, s1, s2, -⟩ := hR0
  have hA := (av_cs hi h0.1).1
  refine zz_fin.mono ((ct_text (g := g) (b := g 455) (n := n) ⟨t0, hn, fun j _ => rfl⟩ hA he hc r0 r2).and (ko_15 hi hφ)) ?_
  rintro v h ⟨⟨g1, rfl, a1, a2, a3⟩, g1', q, i1, p1, f1, -⟩
  cases ep_H q
  have wc : lk_c aa_k29.1.2.2 = true := by decide +kernel
  obtain ⟨q1, q2, q3⟩ := lk_mid wc hi hR f1
  obtain ⟨x, hv, hx⟩ : ∃ x, v = some (.int x) ∧ xt_c (g 455) n e c (av_A g) g g1 x := by
    rcases a3 with ⟨f, b1, b2, b3⟩ | ⟨c', A', b1, b2, b3⟩
    · exact ⟨-1, b2, a1, a2, .inl ⟨f, b1, rfl, b3⟩⟩
    · exact ⟨_, b2, a1, a2, .inr ⟨c', A', b1, rfl, b3⟩⟩
  have e541 : g1 541 = g 541 := funext fun j => lk_ce wc f1 (by decide) j
  have eA : av_A g1 = av_A g := by unfold av_A; rw [e541]
  rw [← eA] at hx
  have hd := lr_rd q1 hc he r0 r2
  refine ⟨x, g1, hv, rfl, ?_⟩
  refine zz_fin.mono ((mt_text (g := g1) (b := g 455) (n := n) (c := c) (A := av_A g1) ⟨(lk_ce wc f1 (by decide) 4).trans t1, hn, fun j hj => by rw [lk_ce wc f1 (k := 543) (by decide) j]; exact s2 j (by omega)⟩ (av_m i1) ((lk_ce wc f1 (by decide) 1).trans r1) hc).and (ko_162 i1 p1)) ?_
  rintro v h ⟨⟨g2, rfl, b1, b2, b3⟩, g2', q', i2, p2, f2, -⟩
  cases ep_H q'
  obtain ⟨y, hy, hm⟩ : ∃ y, v = some (.int y) ∧ xt_m (g 455) n c (av_A g1) g1 g2 y := by
    rcases b3 with ⟨f, k1, k2, k3⟩ | ⟨c', A', k1, k2, k3⟩
    · exact ⟨-1, k2, b1, b2, .inl ⟨f, k1, rfl, k3⟩⟩
    · exact ⟨_, k2, b1, b2, .inr ⟨c', A', k1, rfl, k3⟩⟩
  obtain ⟨z1, z2⟩ := mu_text lr_cp lr_bf2 i1 q1 hd hx hm
  obtain ⟨w1, w2⟩ := lk_end (by decide +kernel) i2 f2 z2 (lk_ee (by decide +kernel) f1 f2 q2) q3
  exact ⟨y, g2, hy, fun _ => z1.symm, rfl, i2, p2, w1, w2⟩
theorem lq_41 {g : aa_G} (hi : aa_inv g) (hφ : aa_Phi g) (hR : lr_R g) : lq_ok true 41 178 [] g := by
  obtain ⟨n, hn, t0, t1⟩ := lr_tape hi hR
  have hR0 := hR.1
  obtain ⟨h0, -, ⟨c, e, ⟨hc, he⟩, ⟨r0, r1, r2⟩, -⟩, s1, s2, -⟩ := hR0
  refine zz_fin.mono ((cb_bells2 (g := g) (b := g 455) (n := n) ⟨t0, hn, fun j _ => rfl⟩ he hc r0 r2).and (ko_41 hi hφ)) ?_
  rintro v h ⟨⟨g1, rfl, hv, hx⟩, g1', q, i1, p1, f1, -⟩
  cases ep_H q
  have wc : lk_c aa_k41.1.2.2 = true := by decide +kernel
  obtain ⟨q1, q2, q3⟩ := lk_mid wc hi hR f1
  have hd := lr_rd q1 hc he r0 r2
  refine ⟨_, g1, hv, rfl, ?_⟩
  obtain ⟨m1, m2⟩ := bm_all (g := g1) (b := g 455) (n := n) (c := c) ⟨(lk_ce wc f1 (by decide) 4).trans t1, hn, fun j hj => by rw [lk_ce wc f1 (k := 543) (by decide) j]; exact s2 j (by omega)⟩ ((lk_ce wc f1 (by decide) 1).trans r1) hc
  refine zz_fin.mono (ko_fw (ko_178 i1 p1) fun _ _ _ r => dn_178 r) ?_
  rintro v h ⟨k1, k2, i2, p2, f2⟩
  have z2 := mu_bells lr_cp i1 q1 hd hx m2 (fun _ _ => trivial)
  obtain ⟨w1, w2⟩ := lk_end (by decide +kernel) i2 f2 z2 (lk_ee (by decide +kernel) f1 f2 q2) q3
  refine ⟨_, _, k1, fun _ => ?_, k2, i2, p2, w1, w2⟩
  rw [m1, cl_ml (n + 1) 0 0 0 (by omega)]
/-- other bytes on both tapes -/
theorem rr_tape {Q : rq_Q} (hQ : rq_cp Q) {gc gc' gm gm' : aa_G} (hi : aa_inv gm) (h : rr_g Q gc gm) (fc : ∀ k j, k < 540 → k ≠ 455 → ¬ (k = 454 ∧ j = 0) → gc' k j = gc k j) (fm : ∀ k j, 540 ≤ k → k ≠ 543 → ¬ (k = 540 ∧ j = 4) → gm' k j = gm k j) (t1 : gc' 454 0 = gm' 540 4) (t2 : ∀ k, k < 500 → gm' 543 k &&& 255 = gc' 455 k) : rr_g Q gc' gm' := by
  obtain ⟨h1, h2, ⟨c, e, h3, h4, h5⟩, -, -, s3, s4, s5, s6, s7⟩ := h
  have m541 : ∀ j, gm' 541 j = gm 541 j := fun j => fm 541 j (by omega) (by omega) (by omega)
  refine ⟨rq_same hQ hi (by omega) (fun k j a b => fc k j (by omega) (by omega) (by omega)) (fun q hq => m541 _) h1, fun k hk => ⟨?_, fun z => rq_same hQ hi (by omega) (fun k' j a b => fc k' j (by omega) (by omega) (by omega)) (fun q hq => m541 _) ((h2 k hk).2 ?_)⟩, ⟨c, e, h3, ⟨(fc 66 0 (by omega) (by omega) (by omega)).trans h4.1, (fm 540 1 (by omega) (by omega) (by omega)).trans h4.2.1, (fc 66 1 (by omega) (by omega) (by omega)).trans h4.2.2⟩, fun i hi' => rq_same hQ hi (by omega) (fun k j a b => fc k j (by omega) (by omega) (by omega)) (fun q hq => m541 _) (h5 i hi')⟩, t1, t2, ?_, ?_, ?_, ?_, fun j hj => ?_⟩
  · rw [fc 453 k (by omega) (by omega) (by omega), fm 542 k (by omega) (by omega) (by omega)]; exact (h2 k hk).1
  · rw [fm 542 k (by omega) (by omega) (by omega)] at z; exact z
  · rw [fc 1 13 (by omega) (by omega) (by omega), fm 540 6 (by omega) (by omega) (by omega)]; exact s3
  · rw [fc 1 14 (by omega) (by omega) (by omega), fm 540 35 (by omega) (by omega) (by omega)]; exact s4
  · rw [fm 540 16 (by omega) (by omega) (by omega)]; exact s5
  · rw [fc 459 0 (by omega) (by omega) (by omega), fm 540 37 (by omega) (by omega) (by omega)]; exact s6
  · rw [fm 540 37 (by omega) (by omega) (by omega)] at hj
    rw [fc 460 j (by omega) (by omega) (by omega), fm 553 j (by omega) (by omega) (by omega)]; exact s7 j hj
theorem lq_13 {g : aa_G} {a0 : Int32} (hi : aa_inv g) (hφ : aa_Phi g) (hR : lr_R g) : lq_ok true 13 160 [.int a0] g :=
  lq_mks (y := fn_160 (fn_13 g a0).2 a0) hi hR (ko_fw (ko_13 hi hφ) fun _ _ _ r => dn_13 r) (fun i1 p1 => ko_fw (ko_160 i1 p1) fun _ _ _ r => dn_160 r) (by decide +kernel) (by decide +kernel) (by decide +kernel) fun i1 p1 q => by
    have s1 : g 454 0 = (fn_13 g a0).2 540 4 := q.2.2.2.1
    have s2 := q.2.2.2.2.1
    have e1 : fn_154 a0 0 ((fn_13 g a0).2 540 4) = fn_14 a0 0 (g 454 0) := by rw [← s1]; rfl
    unfold fn_160
    rw [e1]
    generalize hx : fn_13 g a0 = x at q s1 s2 i1
    unfold fn_13 at hx
    by_cases hz : fn_14 a0 0 (g 454 0) ≠ 0
    · rw [if_pos (c := fn_14 a0 0 (g 454 0) ≠ 0) hz] at hx ⊢
      subst hx
      refine ⟨rfl, rr_tape (qb_cp lr_cp) i1 q (fun k j k1 k2 k3 => ?_) (fun k j k1 k2 k3 => ?_) ?_ fun k hk => ?_⟩
      · show zz_w g 454 0 a0 k j = g k j
        exact aa_w_ne _ _ (by omega)
      · show zz_w (zz_w g 454 0 a0) 540 4 a0 k j = zz_w g 454 0 a0 k j
        exact aa_w_ne _ _ (by omega)
      · show zz_w g 454 0 a0 454 0 = zz_w (zz_w g 454 0 a0) 540 4 a0 540 4
        rw [aa_w_at, aa_w_at]
      · have z : zz_w (zz_w g 454 0 a0) 540 4 a0 543 k = zz_w g 454 0 a0 543 k := aa_w_ne _ _ (by omega)
        have z2 : zz_w g 454 0 a0 455 k = g 455 k := aa_w_ne _ _ (by omega)
        show zz_w (zz_w g 454 0 a0) 540 4 a0 543 k &&& 255 = zz_w g 454 0 a0 455 k
        rw [z, z2]
        exact s2 k hk
    · rw [if_neg (c := fn_14 a0 0 (g 454 0) ≠ 0) hz] at hx ⊢
      subst hx
      exact ⟨rfl, q⟩
theorem lq_11 {g : aa_G} {a0 a1 a2 a3 a4 : Int32} (hi : aa_inv g) (hφ : aa_Phi g) (hR : lr_R g) : lq_ok false 11 158 [.int a0, .int a1, .int a2, .int a3, .int a4] g := by
  obtain ⟨n, hn, t0, t1⟩ := lr_tape hi hR
  refine zz_fin.mono ((fd_feedc (a0 := a0) (a1 := a1) (a2 := a2) (a3 := a3) (a4 := a4) hn t0).and (ko_fw (ko_11 hi hφ) fun _ _ _ r => dn_11 r)) ?_
  rintro v h ⟨⟨g1, rfl, r1⟩, kv, q, i1, p1, f1⟩
  have q := (ep_H q).symm
  rw [q] at i1 p1 f1
  have wc : lk_c aa_k1.1.2.2 = true := by decide +kernel
  obtain ⟨q1, q2, q3⟩ := lk_mid wc hi hR f1
  refine ⟨_, g1, kv, rfl, ?_⟩
  have t1' : g1 540 4 = Int32.ofNat n := (lk_ce wc f1 (by decide) 4).trans t1
  refine zz_fin.mono ((fd_feedm (a0 := a0) (a1 := a1) (a2 := a2) (a3 := a3) (a4 := a4) hn t1').and (ko_fw (ko_158 i1 p1) fun _ _ _ r => dn_158 r)) ?_
  rintro v h ⟨⟨g2, rfl, r2⟩, kv2, q', i2, p2, f2⟩
  have q' := (ep_H q').symm
  rw [q'] at i2 p2 f2
  have z2 : rr_g (qb_s lr_B) g1 g2 := by
    rcases r1 with ⟨n1, rfl⟩ | ⟨n1, r1⟩
    · rcases r2 with ⟨n2, rfl⟩ | ⟨n2, r2⟩
      · exact hR.1
      · omega
    · rcases r2 with ⟨n2, rfl⟩ | ⟨n2, r2⟩
      · omega
      · refine rr_tape (qb_cp lr_cp) i1 q1 (fun k j k1 k2 k3 => r1.2.2 k j (by omega) (by omega)) (fun k j k1 k2 k3 => r2.2.2 k j (by omega) (by omega)) (r1.1.trans r2.1.symm) fun k hk => ?_
        rw [← r2.2.2 455 k (by omega) (by omega)]
        exact fd_R.feed (c := n) (fun k hk => hR.1.2.2.2.2.1 k hk) r1 r2 k hk
  obtain ⟨w1, w2⟩ := lk_end (by decide +kernel) i2 f2 z2 (lk_ee (by decide +kernel) f1 f2 q2) q3
  exact ⟨_, g2, kv2, fun z => absurd z (by decide), rfl, i2, p2, w1, w2⟩
end
section
/-! SPARE leaves nothing behind; what an asking call writes is nothing of the states -/
def aa_x237 : aa_K := ((237, 1, [(35, 13, 13), (35, 13, 15), (35, 16, 16)]), (((([(-2147483648, 2147483647, 0)], []), ([(((540, []), (16, [])), (-1, []))], [(3, (540, [])), (1, (0, [(0, 1)]))])), [(0, 1)]), ([((([(-2147483648, 2147483647, 0)], []), ([(((540, []), (16, [])), (-1, []))], [(1, (-1, []))])), []), ((([(-2147483648, 2147483647, 0), (1, 4, 0), (-2147483648, 2147483647, 0)], [(0, [(0, 1)]), (3, [(0, -1)])]), ([(((541, []), (0, [])), (0, [(1, 1)])), (((540, []), (16, [])), (-1, []))], [(1, (0, [(2, 1)]))])), [(1, 0), (0, 0)])], [(14, ((([(0, 3, 0), (-2147483648, 2147483647, 0), (0, 12, 0), (1, 4, 0)], []), ([(((541, []), (0, [])), (0, [(3, 1)])), (((540, []), (16, [])), (-1, []))], [(3, (540, [])), (1, (0, [(0, 1)])), (1, (0, [(1, 1)])), (1, (0, [(2, 1)])), (0, (0, [])), (0, (0, []))])), [(0, 2), (0, 3), (1, 0)]), (12, [(2, -1)]))])))
set_option maxRecDepth 100000 in
theorem aa_xe237 : aa_chk aa_L73 aa_mfree aa_hook (fun _ => false) 400 aa_x237 = true := by decide +kernel
theorem aa_xm237 : aa_met aa_Phi aa_x237 := aa_chk_ok aa_model_good (aa_mL73 aa_hands_met) (fun _ _ q => by cases q) aa_xe237
theorem kx_vh {τ : List Int} {g : aa_G} {l : aa_C} (h : aa_vh l τ g) (hq : (((540, []), (16, [])), (-1, [])) ∈ l) : g 540 16 = -1 := by
  obtain ⟨a, b, v, h1, h2, h3, h4⟩ := h _ hq
  have h1 : (540 : Int) = (a : Int) := Option.some.inj h1
  have h2 : (16 : Int) = (b : Int) := Option.some.inj h2
  have h3 : (-1 : Int) = v := Option.some.inj h3
  have ea : a = 540 := by omega
  have eb : b = 16 := by omega
  subst ea
  subst eb
  rw [aa_rd_of (by decide)] at h4
  exact Int32.toInt_inj.mp (by rw [h4, ← h3]; rfl)
theorem kx_237 {g : aa_G} {a0 : Int32} (hi : aa_inv g) (hφ : aa_Phi g) (hl : g 540 16 = -1) : zz_fin none 237 (0, zz_in [.ref 540, .int a0] (zz_nl 237), [], aa_H g) (fun v h => ∃ y g', v = some (.int y) ∧ h = aa_H g' ∧ aa_inv g' ∧ aa_Phi g' ∧ aa_fr aa_x237.1.2.2 g g' ∧ g' 540 16 = -1) := by
  refine (aa_xm237 [a0.toInt] g [.ref 540, .int a0] (aa_vb_new (⟨rfl, fun i q v hq => by cases hq⟩ : aa_vb [] []) (lo := -2147483648) (hi := 2147483647) (gr := 0) (ko_rng a0).1 (ko_rng a0).2 (fun z => absurd rfl z)) (fun f hf => by cases hf) ?_ ⟨⟨Nat.succ_ne_zero _, 540, rfl, rfl⟩, ⟨Nat.one_ne_zero, a0, rfl, aa_id_ev rfl⟩, trivial⟩ hi hφ).mono ?_
  · intro q hq
    have hq := List.mem_singleton.mp hq
    subst hq
    exact ⟨540, 16, -1, rfl, rfl, rfl, by rw [aa_rd_of (by decide), hl]; rfl⟩
  · rintro v h ⟨g', rfl, k1, k2, k3, A, hA, ρ, -, -, vh, hr⟩
    rcases List.mem_cons.mp hA with rfl | hA
    · match v, hr with
      | some w, hr =>
        obtain ⟨-, z, hz, -⟩ := hr
        exact ⟨z, g', congrArg some (Option.some.inj hz), rfl, k1, k2, k3, kx_vh vh List.mem_cons_self⟩
    · rcases List.mem_cons.mp hA with rfl | hA
      · match v, hr with
        | some w, hr =>
          obtain ⟨-, z, hz, -⟩ := hr
          exact ⟨z, g', congrArg some (Option.some.inj hz), rfl, k1, k2, k3, kx_vh vh (List.mem_cons_of_mem _ List.mem_cons_self)⟩
      · cases hA
/-- a cell of a state, of what is kept, of the tapes -/
def lk_in (k : Nat) : Bool := (Nat.ble 2 k && Nat.ble k 33) || Nat.beq k 66 || (Nat.ble 68 k && Nat.ble k 451) || Nat.beq k 453 || (Nat.ble 476 k && Nat.ble k 539) || Nat.beq k 454 || Nat.beq k 455 || Nat.beq k 1 || Nat.beq k 459 || Nat.beq k 460
def lk_a (ws : aa_W) : Bool := ((List.range 540).all fun k => !(lk_in k) || ws.all fun w => !(Nat.beq w.1 (aa_gc k)))
def lk_b (ws : aa_W) : Bool := ([541, 542, 543, 553].all fun k => ws.all fun w => !(Nat.beq w.1 (aa_gc k))) && ([1, 4, 6, 35, 37].all fun j : Nat => ws.all fun w => !(Nat.beq w.1 (aa_gc 540)) || !(decide (w.2.1 ≤ (j : Int)) && decide ((j : Int) ≤ w.2.2)))
theorem lk_ae {ws : aa_W} (h : lk_a ws = true) {g g' : aa_G} (hf : aa_fr ws g g') {k : Nat} (hk : k < 540) (hj : lk_in k = true) (j : Nat) : g' k j = g k j := by
  have h := List.all_eq_true.mp h k (List.mem_range.mpr hk)
  rw [hj] at h
  exact ko_ne hf h j
theorem lk_is {k : Nat} (h : (2 ≤ k ∧ k ≤ 33) ∨ k = 66 ∨ (68 ≤ k ∧ k ≤ 451) ∨ k = 453 ∨ (476 ≤ k ∧ k ≤ 539) ∨ k = 454 ∨ k = 455 ∨ k = 1 ∨ k = 459 ∨ k = 460) : lk_in k = true := by
  unfold lk_in
  simp only [Bool.or_eq_true, Bool.and_eq_true, Nat.ble_eq, Nat.beq_eq]
  omega
theorem lk_ar {Q : rq_Q} (hQ : rq_cp Q) {ws : aa_W} (h : lk_a ws = true) {gc gc' gm : aa_G} (hi : aa_inv gm) (hR : rr_g Q gc gm) (hf : aa_fr ws gc gc') : rr_g Q gc' gm :=
  rr_c hQ hi hR fun k j hk z => lk_ae h hf hk (lk_is (by omega)) j
theorem lk_br {Q : rq_Q} (hQ : rq_cp Q) {ws : aa_W} (h : lk_b ws = true) {gc gm gm' : aa_G} (hi : aa_inv gm) (hR : rr_g Q gc gm) (hf : aa_fr ws gm gm') (hl : gm' 540 16 = gm 540 16) : rr_g Q gc gm' := by
  have h := (Bool.and_eq_true _ _ ▸ h : _ ∧ _)
  have e1 : ∀ k, k ∈ [541, 542, 543, 553] → ∀ j, gm' k j = gm k j := fun k hk j => ko_ne hf (List.all_eq_true.mp h.1 k hk) j
  have e2 : ∀ j, j ∈ [1, 4, 6, 35, 37] → gm' 540 j = gm 540 j := fun j hj => ko_at hf (List.all_eq_true.mp h.2 j hj)
  refine rr_m hQ hi hR fun k j hk z => ?_
  rcases z with ⟨rfl, -⟩ | rfl | rfl | rfl | ⟨rfl, z⟩
  · exact e1 541 (by decide) j
  · exact e1 542 (by decide) j
  · exact e1 543 (by decide) j
  · exact e1 553 (by decide) j
  · rcases z with rfl | rfl | rfl | rfl | rfl | rfl
    · exact e2 1 (by decide)
    · exact e2 4 (by decide)
    · exact e2 6 (by decide)
    · exact hl
    · exact e2 35 (by decide)
    · exact e2 37 (by decide)
theorem lq_129 {g : aa_G} {a0 : Int32} (hi : aa_inv g) (hφ : aa_Phi g) (hR : lr_R g) : lq_ok false 129 237 [.int a0] g := by
  refine zz_fin.mono (ko_fw (ko_129 hi hφ) fun _ _ _ r => dn_129 r) ?_
  rintro v h ⟨e1, e2, i1, p1, f1⟩
  have wc : lk_c aa_k120.1.2.2 = true := by decide +kernel
  obtain ⟨q1, q2, q3⟩ := lk_mid wc hi hR f1
  have hl : (fn_129 g a0).2 540 16 = -1 := q1.2.2.2.2.2.2.2.1
  refine ⟨_, _, e1, e2, zz_fin.mono (kx_237 i1 p1 hl) ?_⟩
  rintro v h ⟨y, g2, hy, rfl, i2, p2, f2, h16⟩
  have z2 : rr_g (qb_s lr_B) (fn_129 g a0).2 g2 := lk_ar (qb_cp lr_cp) (by decide +kernel) i2 (lk_br (qb_cp lr_cp) (by decide +kernel) i1 q1 f2 (h16.trans hl.symm)) f1
  obtain ⟨w1, w2⟩ := lk_end (by decide +kernel) i2 f2 z2 (lk_ee (by decide +kernel) f1 f2 q2) q3
  exact ⟨y, g2, hy, fun z => absurd z (by decide), rfl, i2, p2, w1, w2⟩
/-- both sides' writes at once, as the law's list has them -/
theorem lr_fr {ws : aa_W} (ha : lk_a ws = true) (hb : lk_b ws = true) (h16 : (ws.all fun w => !(Nat.beq w.1 (aa_gc 540)) || !(decide (w.2.1 ≤ ((16 : Nat) : Int)) && decide (((16 : Nat) : Int) ≤ w.2.2))) = true) {g g' : aa_G} (hi : aa_inv g) (hf : aa_fr ws g g') (h : lr_R g) : lr_R g' := by
  have hb' := (Bool.and_eq_true _ _ ▸ hb : _ ∧ _)
  refine ⟨?_, (lk_ae ha hf (by omega) (by decide) 14).trans (h.2.trans (ko_at hf (List.all_eq_true.mp hb'.2 35 (by decide))).symm)⟩
  have m : rr_g (qb_s lr_B) g' g := lk_ar (qb_cp lr_cp) ha hi h.1 hf
  exact lk_br (qb_cp lr_cp) hb hi m hf (ko_at hf h16)
end
section
/-! THE LAW'S LOOP, with a relation that is kept from call to call: cases by the checker, or by hand -/
section AV
variable {Φ : aa_G → Prop} {fr : aa_W} {hk : aa_Hk} {Ks : List aa_K} {K : aa_K} {L : Nat} {xs : Nat → Int32} {sp : Nat → Bool} {φ : Option Value → zz_H → Prop} {R : aa_G → Prop}
def aa_kept (Φ R : aa_G → Prop) (L : Nat) (xs : Nat → Int32) (τ : List Int) (g : aa_G) : Prop := (∃ ρ, τ = [(L : Int)] ++ ρ) ∧ aa_inv g ∧ Φ g ∧ (∀ j, j < L → g 546 (10000 + j) = xs j) ∧ R g
def aa_runY (Φ R : aa_G → Prop) (L : Nat) (xs : Nat → Int32) (K : aa_K) (φ : Option Value → zz_H → Prop) (c : Nat × (aa_T × aa_Wh) × aa_F) (y : Int) : Prop := ∀ (τ : List Int) (g : aa_G) (lv : zz_V), aa_vb c.2.1.1.1.1 τ → aa_vc c.2.1.1.1.2 τ → aa_vh c.2.1.1.2.1 τ g → aa_ml τ c.2.1.1.2.2 lv → aa_kept Φ R L xs τ g → aa_ev τ c.2.2 = some y → zz_fin (some (L, xs)) K.1.1 (c.1, lv, [], aa_H g) φ
theorem aa_loopZ (hL : L < 2147483648) (hG : aa_good Φ fr hk) (hKs : ∀ K ∈ Ks, aa_met Φ K) (hws : ∀ w ∈ K.1.2.2, w.1 = 41 → w.2.2 < 10000) (hν : K.1.2.1 = 1) (hR : ∀ g g', aa_inv g → aa_fr K.1.2.2 g g' → R g → R g') (hφ : ∀ g0 v h, aa_post Φ K [(L : Int)] g0 v h → φ v h) {n : Nat} (by_hand : Nat → Bool) (h4 : ∀ c ∈ K.2.2.2, (by_hand c.1 || aa_exX Ks K fr hk sp n false (some c.2.2) c.1 (c.2.1.1.1, (c.2.1.1.2.1, (c.2.1.1.2.2, [])))) = true) (hsp : ∀ c ∈ K.2.2.2, by_hand c.1 = true → ∀ y : Int, 0 ≤ y → (∀ c' ∈ K.2.2.2, ∀ y' : Int, 0 ≤ y' → y' < y → aa_runY Φ R L xs K φ c' y') → aa_runY Φ R L xs K φ c y) : ∀ c ∈ K.2.2.2, ∀ y : Int, 0 ≤ y → aa_runY Φ R L xs K φ c y := by
  have loop : ∀ (N : Nat), ∀ c ∈ K.2.2.2, ∀ y : Int, 0 ≤ y → y < N → aa_runY Φ R L xs K φ c y := by
    intro N
    induction N with
    | zero => intro c _ y q1 q2; omega
    | succ N ih =>
      intro c hc y q1 q2
      have h5 := h4 c hc
      rw [Bool.or_eq_true] at h5
      rcases h5 with h5 | h5
      · exact hsp c hc h5 y q1 fun c' hc' y' p1 p2 => ih c' hc' y' p1 (by omega)
      · intro τ g lv t1 t2 t3 t4 t5 t6
        obtain ⟨⟨ρ, rfl⟩, k1, k2, k3, k4⟩ := t5
        refine aa_exY_ok (b := y) (ν0 := [(L : Int)]) (g0 := g) (hφ g) hL rfl k3 hws hG hKs hν.symm n false (some c.2.2) c.1 _ _ g lv [] h5 ⟨t1, t2, t3, t4, trivial⟩ ⟨⟨ρ, rfl⟩, k1, k2, aa_fr.rf⟩ (fun f hf => by cases hf; exact t6) ?_
        intro c' hc' y' p1 p2 τ' g' lv' u1 u2 u3 u4 u5 u6
        have := p2 _ rfl
        obtain ⟨w1, w2, w3, w4⟩ := u5
        refine ih c' hc' y' p1 (by omega) τ' g' lv' u1 u2 u3 u4 ⟨w1, w2, w3, fun j hj => ?_, hR g g' k1 w4 k4⟩ u6
        rcases w4.1 546 (10000 + j) with e | ⟨w, hw, e1, e2, e3⟩
        · exact e.trans (k3 j hj)
        · have := hws w hw e1
          omega
  intro c hc y p1
  exact loop (y.toNat + 1) c hc y p1 (by omega)
end AV
end
section
/-! THE FRESH STATES ARE ALIKE -/
theorem lr_0 : rr_g (qb_s lr_B) zz_g0 zz_g0 := by
  refine ⟨⟨⟨by decide +kernel, by decide +kernel, by decide +kernel, fun t ht => ?_⟩, trivial⟩, fun k hk => ⟨?_, fun z => absurd ?_ z⟩, ⟨0, (zz_g0 66 1).toInt.toNat, ⟨by omega, by decide +kernel⟩, ⟨by decide +kernel, by decide +kernel, by decide +kernel⟩, fun i hi => by omega⟩, by decide +kernel, fun k hk => ?_, by decide +kernel, .inl (by decide +kernel), by decide +kernel, by decide +kernel, fun j hj => ?_⟩
  · have e : (zz_g0 541 (399 * 0)).toInt = 0 := by decide +kernel
    rw [e] at ht
    omega
  · have h : ∀ k, k < 2 → zz_g0 453 k = zz_g0 542 k := by decide +kernel
    exact h k hk
  · have h : ∀ k, k < 2 → zz_g0 542 k = 0 := by decide +kernel
    exact h k hk
  · have h1 : ∀ q ∈ zz_gk, q.1 ≠ 543 ∧ q.1 ≠ 455 := by decide +kernel
    rw [fr_out (fun h => (h1 _ h).1 rfl), fr_out (fun h => (h1 _ h).2 rfl)]
    rfl
  · have e : (zz_g0 540 37).toInt = 0 := by decide +kernel
    rw [e] at hj
    omega
end
section
/-! CONTRACTS AT A CALL (printed by wip/dc/kon.py) -/
theorem ko_71 {g : aa_G} {a0 : Int32} (hi : aa_inv g) (hφ : aa_Phi g)  : zz_fin none 71 (0, zz_in [.ref 1, .int a0] (zz_nl 71), [], aa_H g) (aa_post aa_Phi aa_k62 [a0.toInt] g) := by
  have hK : aa_met aa_Phi aa_k62 := aa_met_p3 aa_good_free _ (List.mem_of_getElem? (i := 77) rfl)
  refine hK [a0.toInt] g [.ref 1, .int a0] (aa_vb_new (⟨rfl, fun i q v hq => by cases hq⟩ : aa_vb [] []) (lo := -2147483648) (hi := 2147483647) (gr := 0) (ko_rng a0).1 (ko_rng a0).2 (fun z => absurd rfl z)) (fun f hf => by cases hf) (fun q hq => by cases hq) ⟨⟨Nat.succ_ne_zero _, 1, rfl, rfl⟩, ⟨Nat.one_ne_zero, a0, rfl, aa_id_ev rfl⟩, trivial⟩ hi hφ
theorem ko_252 {g : aa_G} {a0 : Int32} (hi : aa_inv g) (hφ : aa_Phi g)  : zz_fin none 252 (0, zz_in [.ref 540, .int a0] (zz_nl 252), [], aa_H g) (aa_post aa_Phi aa_m102 [a0.toInt] g) := by
  have hK : aa_met aa_Phi aa_m102 := (aa_mL89 aa_hands_met _ List.mem_cons_self)
  refine hK [a0.toInt] g [.ref 540, .int a0] (aa_vb_new (⟨rfl, fun i q v hq => by cases hq⟩ : aa_vb [] []) (lo := -2147483648) (hi := 2147483647) (gr := 0) (ko_rng a0).1 (ko_rng a0).2 (fun z => absurd rfl z)) (fun f hf => by cases hf) (fun q hq => by cases hq) ⟨⟨Nat.succ_ne_zero _, 540, rfl, rfl⟩, ⟨Nat.one_ne_zero, a0, rfl, aa_id_ev rfl⟩, trivial⟩ hi hφ
theorem ko_74 {g : aa_G} {a0 a1 : Int32} (hi : aa_inv g) (hφ : aa_Phi g)  : zz_fin none 74 (0, zz_in [.ref 1, .int a0, .int a1] (zz_nl 74), [], aa_H g) (aa_post aa_Phi aa_k64 [a0.toInt, a1.toInt] g) := by
  have hK : aa_met aa_Phi aa_k64 := aa_met_p3 aa_good_free _ (List.mem_of_getElem? (i := 75) rfl)
  refine hK [a0.toInt, a1.toInt] g [.ref 1, .int a0, .int a1] (aa_vb_new (aa_vb_new (⟨rfl, fun i q v hq => by cases hq⟩ : aa_vb [] []) (lo := -2147483648) (hi := 2147483647) (gr := 0) (ko_rng a0).1 (ko_rng a0).2 (fun z => absurd rfl z)) (lo := -2147483648) (hi := 2147483647) (gr := 0) (ko_rng a1).1 (ko_rng a1).2 (fun z => absurd rfl z)) (fun f hf => by cases hf) (fun q hq => by cases hq) ⟨⟨Nat.succ_ne_zero _, 1, rfl, rfl⟩, ⟨Nat.one_ne_zero, a0, rfl, aa_id_ev rfl⟩, ⟨Nat.one_ne_zero, a1, rfl, aa_id_ev rfl⟩, trivial⟩ hi hφ
theorem ko_253 {g : aa_G} {a0 a1 : Int32} (hi : aa_inv g) (hφ : aa_Phi g)  : zz_fin none 253 (0, zz_in [.ref 540, .int a0, .int a1] (zz_nl 253), [], aa_H g) (aa_post aa_Phi aa_m103 [a0.toInt, a1.toInt] g) := by
  have hK : aa_met aa_Phi aa_m103 := (aa_mL90 aa_hands_met _ List.mem_cons_self)
  refine hK [a0.toInt, a1.toInt] g [.ref 540, .int a0, .int a1] (aa_vb_new (aa_vb_new (⟨rfl, fun i q v hq => by cases hq⟩ : aa_vb [] []) (lo := -2147483648) (hi := 2147483647) (gr := 0) (ko_rng a0).1 (ko_rng a0).2 (fun z => absurd rfl z)) (lo := -2147483648) (hi := 2147483647) (gr := 0) (ko_rng a1).1 (ko_rng a1).2 (fun z => absurd rfl z)) (fun f hf => by cases hf) (fun q hq => by cases hq) ⟨⟨Nat.succ_ne_zero _, 540, rfl, rfl⟩, ⟨Nat.one_ne_zero, a0, rfl, aa_id_ev rfl⟩, ⟨Nat.one_ne_zero, a1, rfl, aa_id_ev rfl⟩, trivial⟩ hi hφ
theorem ko_76 {g : aa_G} {a0 a1 a2 : Int32} (hi : aa_inv g) (hφ : aa_Phi g)  : zz_fin none 76 (0, zz_in [.ref 1, .int a0, .int a1, .int a2] (zz_nl 76), [], aa_H g) (aa_post aa_Phi aa_k71 [a0.toInt, a1.toInt, a2.toInt] g) := by
  have hK : aa_met aa_Phi aa_k71 := aa_met_p3 aa_good_free _ (List.mem_of_getElem? (i := 68) rfl)
  refine hK [a0.toInt, a1.toInt, a2.toInt] g [.ref 1, .int a0, .int a1, .int a2] (aa_vb_new (aa_vb_new (aa_vb_new (⟨rfl, fun i q v hq => by cases hq⟩ : aa_vb [] []) (lo := -2147483648) (hi := 2147483647) (gr := 0) (ko_rng a0).1 (ko_rng a0).2 (fun z => absurd rfl z)) (lo := -2147483648) (hi := 2147483647) (gr := 0) (ko_rng a1).1 (ko_rng a1).2 (fun z => absurd rfl z)) (lo := -2147483648) (hi := 2147483647) (gr := 0) (ko_rng a2).1 (ko_rng a2).2 (fun z => absurd rfl z)) (fun f hf => by cases hf) (fun q hq => by cases hq) ⟨⟨Nat.succ_ne_zero _, 1, rfl, rfl⟩, ⟨Nat.one_ne_zero, a0, rfl, aa_id_ev rfl⟩, ⟨Nat.one_ne_zero, a1, rfl, aa_id_ev rfl⟩, ⟨Nat.one_ne_zero, a2, rfl, aa_id_ev rfl⟩, trivial⟩ hi hφ
theorem ko_190 {g : aa_G} {a0 a1 a2 : Int32} (hi : aa_inv g) (hφ : aa_Phi g)  : zz_fin none 190 (0, zz_in [.ref 540, .int a0, .int a1, .int a2] (zz_nl 190), [], aa_H g) (aa_post aa_Phi aa_m49 [a0.toInt, a1.toInt, a2.toInt] g) := by
  have hK : aa_met aa_Phi aa_m49 := (aa_mL36 aa_hands_met _ List.mem_cons_self)
  refine hK [a0.toInt, a1.toInt, a2.toInt] g [.ref 540, .int a0, .int a1, .int a2] (aa_vb_new (aa_vb_new (aa_vb_new (⟨rfl, fun i q v hq => by cases hq⟩ : aa_vb [] []) (lo := -2147483648) (hi := 2147483647) (gr := 0) (ko_rng a0).1 (ko_rng a0).2 (fun z => absurd rfl z)) (lo := -2147483648) (hi := 2147483647) (gr := 0) (ko_rng a1).1 (ko_rng a1).2 (fun z => absurd rfl z)) (lo := -2147483648) (hi := 2147483647) (gr := 0) (ko_rng a2).1 (ko_rng a2).2 (fun z => absurd rfl z)) (fun f hf => by cases hf) (fun q hq => by cases hq) ⟨⟨Nat.succ_ne_zero _, 540, rfl, rfl⟩, ⟨Nat.one_ne_zero, a0, rfl, aa_id_ev rfl⟩, ⟨Nat.one_ne_zero, a1, rfl, aa_id_ev rfl⟩, ⟨Nat.one_ne_zero, a2, rfl, aa_id_ev rfl⟩, trivial⟩ hi hφ
theorem ko_85 {g : aa_G} {a0 a1 a2 a3 : Int32} (hi : aa_inv g) (hφ : aa_Phi g)  : zz_fin none 85 (0, zz_in [.ref 1, .int a0, .int a1, .int a2, .int a3] (zz_nl 85), [], aa_H g) (aa_post aa_Phi aa_k78 [a0.toInt, a1.toInt, a2.toInt, a3.toInt] g) := by
  have hK : aa_met aa_Phi aa_k78 := aa_met_p3 aa_good_free _ (List.mem_of_getElem? (i := 61) rfl)
  refine hK [a0.toInt, a1.toInt, a2.toInt, a3.toInt] g [.ref 1, .int a0, .int a1, .int a2, .int a3] (aa_vb_new (aa_vb_new (aa_vb_new (aa_vb_new (⟨rfl, fun i q v hq => by cases hq⟩ : aa_vb [] []) (lo := -2147483648) (hi := 2147483647) (gr := 0) (ko_rng a0).1 (ko_rng a0).2 (fun z => absurd rfl z)) (lo := -2147483648) (hi := 2147483647) (gr := 0) (ko_rng a1).1 (ko_rng a1).2 (fun z => absurd rfl z)) (lo := -2147483648) (hi := 2147483647) (gr := 0) (ko_rng a2).1 (ko_rng a2).2 (fun z => absurd rfl z)) (lo := -2147483648) (hi := 2147483647) (gr := 0) (ko_rng a3).1 (ko_rng a3).2 (fun z => absurd rfl z)) (fun f hf => by cases hf) (fun q hq => by cases hq) ⟨⟨Nat.succ_ne_zero _, 1, rfl, rfl⟩, ⟨Nat.one_ne_zero, a0, rfl, aa_id_ev rfl⟩, ⟨Nat.one_ne_zero, a1, rfl, aa_id_ev rfl⟩, ⟨Nat.one_ne_zero, a2, rfl, aa_id_ev rfl⟩, ⟨Nat.one_ne_zero, a3, rfl, aa_id_ev rfl⟩, trivial⟩ hi hφ
theorem ko_198 {g : aa_G} {a0 a1 a2 a3 : Int32} (hi : aa_inv g) (hφ : aa_Phi g)  : zz_fin none 198 (0, zz_in [.ref 540, .int a0, .int a1, .int a2, .int a3] (zz_nl 198), [], aa_H g) (aa_post aa_Phi aa_m54 [a0.toInt, a1.toInt, a2.toInt, a3.toInt] g) := by
  have hK : aa_met aa_Phi aa_m54 := (aa_mL41 aa_hands_met _ List.mem_cons_self)
  refine hK [a0.toInt, a1.toInt, a2.toInt, a3.toInt] g [.ref 540, .int a0, .int a1, .int a2, .int a3] (aa_vb_new (aa_vb_new (aa_vb_new (aa_vb_new (⟨rfl, fun i q v hq => by cases hq⟩ : aa_vb [] []) (lo := -2147483648) (hi := 2147483647) (gr := 0) (ko_rng a0).1 (ko_rng a0).2 (fun z => absurd rfl z)) (lo := -2147483648) (hi := 2147483647) (gr := 0) (ko_rng a1).1 (ko_rng a1).2 (fun z => absurd rfl z)) (lo := -2147483648) (hi := 2147483647) (gr := 0) (ko_rng a2).1 (ko_rng a2).2 (fun z => absurd rfl z)) (lo := -2147483648) (hi := 2147483647) (gr := 0) (ko_rng a3).1 (ko_rng a3).2 (fun z => absurd rfl z)) (fun f hf => by cases hf) (fun q hq => by cases hq) ⟨⟨Nat.succ_ne_zero _, 540, rfl, rfl⟩, ⟨Nat.one_ne_zero, a0, rfl, aa_id_ev rfl⟩, ⟨Nat.one_ne_zero, a1, rfl, aa_id_ev rfl⟩, ⟨Nat.one_ne_zero, a2, rfl, aa_id_ev rfl⟩, ⟨Nat.one_ne_zero, a3, rfl, aa_id_ev rfl⟩, trivial⟩ hi hφ
theorem ko_90 {g : aa_G} {a0 a1 a2 a3 : Int32} (hi : aa_inv g) (hφ : aa_Phi g)  : zz_fin none 90 (0, zz_in [.ref 1, .int a0, .int a1, .int a2, .int a3] (zz_nl 90), [], aa_H g) (aa_post aa_Phi aa_k81 [a0.toInt, a1.toInt, a2.toInt, a3.toInt] g) := by
  have hK : aa_met aa_Phi aa_k81 := aa_met_p3 aa_good_free _ (List.mem_of_getElem? (i := 58) rfl)
  refine hK [a0.toInt, a1.toInt, a2.toInt, a3.toInt] g [.ref 1, .int a0, .int a1, .int a2, .int a3] (aa_vb_new (aa_vb_new (aa_vb_new (aa_vb_new (⟨rfl, fun i q v hq => by cases hq⟩ : aa_vb [] []) (lo := -2147483648) (hi := 2147483647) (gr := 0) (ko_rng a0).1 (ko_rng a0).2 (fun z => absurd rfl z)) (lo := -2147483648) (hi := 2147483647) (gr := 0) (ko_rng a1).1 (ko_rng a1).2 (fun z => absurd rfl z)) (lo := -2147483648) (hi := 2147483647) (gr := 0) (ko_rng a2).1 (ko_rng a2).2 (fun z => absurd rfl z)) (lo := -2147483648) (hi := 2147483647) (gr := 0) (ko_rng a3).1 (ko_rng a3).2 (fun z => absurd rfl z)) (fun f hf => by cases hf) (fun q hq => by cases hq) ⟨⟨Nat.succ_ne_zero _, 1, rfl, rfl⟩, ⟨Nat.one_ne_zero, a0, rfl, aa_id_ev rfl⟩, ⟨Nat.one_ne_zero, a1, rfl, aa_id_ev rfl⟩, ⟨Nat.one_ne_zero, a2, rfl, aa_id_ev rfl⟩, ⟨Nat.one_ne_zero, a3, rfl, aa_id_ev rfl⟩, trivial⟩ hi hφ
theorem ko_203 {g : aa_G} {a0 a1 a2 a3 : Int32} (hi : aa_inv g) (hφ : aa_Phi g)  : zz_fin none 203 (0, zz_in [.ref 540, .int a0, .int a1, .int a2, .int a3] (zz_nl 203), [], aa_H g) (aa_post aa_Phi aa_m58 [a0.toInt, a1.toInt, a2.toInt, a3.toInt] g) := by
  have hK : aa_met aa_Phi aa_m58 := (aa_mL45 aa_hands_met _ List.mem_cons_self)
  refine hK [a0.toInt, a1.toInt, a2.toInt, a3.toInt] g [.ref 540, .int a0, .int a1, .int a2, .int a3] (aa_vb_new (aa_vb_new (aa_vb_new (aa_vb_new (⟨rfl, fun i q v hq => by cases hq⟩ : aa_vb [] []) (lo := -2147483648) (hi := 2147483647) (gr := 0) (ko_rng a0).1 (ko_rng a0).2 (fun z => absurd rfl z)) (lo := -2147483648) (hi := 2147483647) (gr := 0) (ko_rng a1).1 (ko_rng a1).2 (fun z => absurd rfl z)) (lo := -2147483648) (hi := 2147483647) (gr := 0) (ko_rng a2).1 (ko_rng a2).2 (fun z => absurd rfl z)) (lo := -2147483648) (hi := 2147483647) (gr := 0) (ko_rng a3).1 (ko_rng a3).2 (fun z => absurd rfl z)) (fun f hf => by cases hf) (fun q hq => by cases hq) ⟨⟨Nat.succ_ne_zero _, 540, rfl, rfl⟩, ⟨Nat.one_ne_zero, a0, rfl, aa_id_ev rfl⟩, ⟨Nat.one_ne_zero, a1, rfl, aa_id_ev rfl⟩, ⟨Nat.one_ne_zero, a2, rfl, aa_id_ev rfl⟩, ⟨Nat.one_ne_zero, a3, rfl, aa_id_ev rfl⟩, trivial⟩ hi hφ
theorem ko_93 {g : aa_G} {a0 a1 a2 a3 a4 : Int32} (hi : aa_inv g) (hφ : aa_Phi g)  : zz_fin none 93 (0, zz_in [.ref 1, .int a0, .int a1, .int a2, .int a3, .int a4] (zz_nl 93), [], aa_H g) (aa_post aa_Phi aa_k83 [a0.toInt, a1.toInt, a2.toInt, a3.toInt, a4.toInt] g) := by
  have hK : aa_met aa_Phi aa_k83 := aa_met_p3 aa_good_free _ (List.mem_of_getElem? (i := 56) rfl)
  refine hK [a0.toInt, a1.toInt, a2.toInt, a3.toInt, a4.toInt] g [.ref 1, .int a0, .int a1, .int a2, .int a3, .int a4] (aa_vb_new (aa_vb_new (aa_vb_new (aa_vb_new (aa_vb_new (⟨rfl, fun i q v hq => by cases hq⟩ : aa_vb [] []) (lo := -2147483648) (hi := 2147483647) (gr := 0) (ko_rng a0).1 (ko_rng a0).2 (fun z => absurd rfl z)) (lo := -2147483648) (hi := 2147483647) (gr := 0) (ko_rng a1).1 (ko_rng a1).2 (fun z => absurd rfl z)) (lo := -2147483648) (hi := 2147483647) (gr := 0) (ko_rng a2).1 (ko_rng a2).2 (fun z => absurd rfl z)) (lo := -2147483648) (hi := 2147483647) (gr := 0) (ko_rng a3).1 (ko_rng a3).2 (fun z => absurd rfl z)) (lo := -2147483648) (hi := 2147483647) (gr := 0) (ko_rng a4).1 (ko_rng a4).2 (fun z => absurd rfl z)) (fun f hf => by cases hf) (fun q hq => by cases hq) ⟨⟨Nat.succ_ne_zero _, 1, rfl, rfl⟩, ⟨Nat.one_ne_zero, a0, rfl, aa_id_ev rfl⟩, ⟨Nat.one_ne_zero, a1, rfl, aa_id_ev rfl⟩, ⟨Nat.one_ne_zero, a2, rfl, aa_id_ev rfl⟩, ⟨Nat.one_ne_zero, a3, rfl, aa_id_ev rfl⟩, ⟨Nat.one_ne_zero, a4, rfl, aa_id_ev rfl⟩, trivial⟩ hi hφ
theorem ko_207 {g : aa_G} {a0 a1 a2 a3 a4 : Int32} (hi : aa_inv g) (hφ : aa_Phi g)  : zz_fin none 207 (0, zz_in [.ref 540, .int a0, .int a1, .int a2, .int a3, .int a4] (zz_nl 207), [], aa_H g) (aa_post aa_Phi aa_m61 [a0.toInt, a1.toInt, a2.toInt, a3.toInt, a4.toInt] g) := by
  have hK : aa_met aa_Phi aa_m61 := (aa_mL48 aa_hands_met _ List.mem_cons_self)
  refine hK [a0.toInt, a1.toInt, a2.toInt, a3.toInt, a4.toInt] g [.ref 540, .int a0, .int a1, .int a2, .int a3, .int a4] (aa_vb_new (aa_vb_new (aa_vb_new (aa_vb_new (aa_vb_new (⟨rfl, fun i q v hq => by cases hq⟩ : aa_vb [] []) (lo := -2147483648) (hi := 2147483647) (gr := 0) (ko_rng a0).1 (ko_rng a0).2 (fun z => absurd rfl z)) (lo := -2147483648) (hi := 2147483647) (gr := 0) (ko_rng a1).1 (ko_rng a1).2 (fun z => absurd rfl z)) (lo := -2147483648) (hi := 2147483647) (gr := 0) (ko_rng a2).1 (ko_rng a2).2 (fun z => absurd rfl z)) (lo := -2147483648) (hi := 2147483647) (gr := 0) (ko_rng a3).1 (ko_rng a3).2 (fun z => absurd rfl z)) (lo := -2147483648) (hi := 2147483647) (gr := 0) (ko_rng a4).1 (ko_rng a4).2 (fun z => absurd rfl z)) (fun f hf => by cases hf) (fun q hq => by cases hq) ⟨⟨Nat.succ_ne_zero _, 540, rfl, rfl⟩, ⟨Nat.one_ne_zero, a0, rfl, aa_id_ev rfl⟩, ⟨Nat.one_ne_zero, a1, rfl, aa_id_ev rfl⟩, ⟨Nat.one_ne_zero, a2, rfl, aa_id_ev rfl⟩, ⟨Nat.one_ne_zero, a3, rfl, aa_id_ev rfl⟩, ⟨Nat.one_ne_zero, a4, rfl, aa_id_ev rfl⟩, trivial⟩ hi hφ
theorem ko_95 {g : aa_G} {a0 a1 a2 a3 : Int32} (hi : aa_inv g) (hφ : aa_Phi g)  : zz_fin none 95 (0, zz_in [.ref 1, .int a0, .int a1, .int a2, .int a3] (zz_nl 95), [], aa_H g) (aa_post aa_Phi aa_k84 [a0.toInt, a1.toInt, a2.toInt, a3.toInt] g) := by
  have hK : aa_met aa_Phi aa_k84 := aa_met_p3 aa_good_free _ (List.mem_of_getElem? (i := 55) rfl)
  refine hK [a0.toInt, a1.toInt, a2.toInt, a3.toInt] g [.ref 1, .int a0, .int a1, .int a2, .int a3] (aa_vb_new (aa_vb_new (aa_vb_new (aa_vb_new (⟨rfl, fun i q v hq => by cases hq⟩ : aa_vb [] []) (lo := -2147483648) (hi := 2147483647) (gr := 0) (ko_rng a0).1 (ko_rng a0).2 (fun z => absurd rfl z)) (lo := -2147483648) (hi := 2147483647) (gr := 0) (ko_rng a1).1 (ko_rng a1).2 (fun z => absurd rfl z)) (lo := -2147483648) (hi := 2147483647) (gr := 0) (ko_rng a2).1 (ko_rng a2).2 (fun z => absurd rfl z)) (lo := -2147483648) (hi := 2147483647) (gr := 0) (ko_rng a3).1 (ko_rng a3).2 (fun z => absurd rfl z)) (fun f hf => by cases hf) (fun q hq => by cases hq) ⟨⟨Nat.succ_ne_zero _, 1, rfl, rfl⟩, ⟨Nat.one_ne_zero, a0, rfl, aa_id_ev rfl⟩, ⟨Nat.one_ne_zero, a1, rfl, aa_id_ev rfl⟩, ⟨Nat.one_ne_zero, a2, rfl, aa_id_ev rfl⟩, ⟨Nat.one_ne_zero, a3, rfl, aa_id_ev rfl⟩, trivial⟩ hi hφ
theorem ko_210 {g : aa_G} {a0 a1 a2 a3 : Int32} (hi : aa_inv g) (hφ : aa_Phi g)  : zz_fin none 210 (0, zz_in [.ref 540, .int a0, .int a1, .int a2, .int a3] (zz_nl 210), [], aa_H g) (aa_post aa_Phi aa_m62 [a0.toInt, a1.toInt, a2.toInt, a3.toInt] g) := by
  have hK : aa_met aa_Phi aa_m62 := (aa_mL49 aa_hands_met _ List.mem_cons_self)
  refine hK [a0.toInt, a1.toInt, a2.toInt, a3.toInt] g [.ref 540, .int a0, .int a1, .int a2, .int a3] (aa_vb_new (aa_vb_new (aa_vb_new (aa_vb_new (⟨rfl, fun i q v hq => by cases hq⟩ : aa_vb [] []) (lo := -2147483648) (hi := 2147483647) (gr := 0) (ko_rng a0).1 (ko_rng a0).2 (fun z => absurd rfl z)) (lo := -2147483648) (hi := 2147483647) (gr := 0) (ko_rng a1).1 (ko_rng a1).2 (fun z => absurd rfl z)) (lo := -2147483648) (hi := 2147483647) (gr := 0) (ko_rng a2).1 (ko_rng a2).2 (fun z => absurd rfl z)) (lo := -2147483648) (hi := 2147483647) (gr := 0) (ko_rng a3).1 (ko_rng a3).2 (fun z => absurd rfl z)) (fun f hf => by cases hf) (fun q hq => by cases hq) ⟨⟨Nat.succ_ne_zero _, 540, rfl, rfl⟩, ⟨Nat.one_ne_zero, a0, rfl, aa_id_ev rfl⟩, ⟨Nat.one_ne_zero, a1, rfl, aa_id_ev rfl⟩, ⟨Nat.one_ne_zero, a2, rfl, aa_id_ev rfl⟩, ⟨Nat.one_ne_zero, a3, rfl, aa_id_ev rfl⟩, trivial⟩ hi hφ
theorem ko_120 {g : aa_G} {a0 a1 a2 a3 a4 : Int32} (hi : aa_inv g) (hφ : aa_Phi g)  : zz_fin none 120 (0, zz_in [.ref 1, .int a0, .int a1, .int a2, .int a3, .int a4] (zz_nl 120), [], aa_H g) (aa_post aa_Phi aa_k110 [a0.toInt, a1.toInt, a2.toInt, a3.toInt, a4.toInt] g) := by
  have hK : aa_met aa_Phi aa_k110 := aa_met_p3 aa_good_free _ (List.mem_of_getElem? (i := 29) rfl)
  refine hK [a0.toInt, a1.toInt, a2.toInt, a3.toInt, a4.toInt] g [.ref 1, .int a0, .int a1, .int a2, .int a3, .int a4] (aa_vb_new (aa_vb_new (aa_vb_new (aa_vb_new (aa_vb_new (⟨rfl, fun i q v hq => by cases hq⟩ : aa_vb [] []) (lo := -2147483648) (hi := 2147483647) (gr := 0) (ko_rng a0).1 (ko_rng a0).2 (fun z => absurd rfl z)) (lo := -2147483648) (hi := 2147483647) (gr := 0) (ko_rng a1).1 (ko_rng a1).2 (fun z => absurd rfl z)) (lo := -2147483648) (hi := 2147483647) (gr := 0) (ko_rng a2).1 (ko_rng a2).2 (fun z => absurd rfl z)) (lo := -2147483648) (hi := 2147483647) (gr := 0) (ko_rng a3).1 (ko_rng a3).2 (fun z => absurd rfl z)) (lo := -2147483648) (hi := 2147483647) (gr := 0) (ko_rng a4).1 (ko_rng a4).2 (fun z => absurd rfl z)) (fun f hf => by cases hf) (fun q hq => by cases hq) ⟨⟨Nat.succ_ne_zero _, 1, rfl, rfl⟩, ⟨Nat.one_ne_zero, a0, rfl, aa_id_ev rfl⟩, ⟨Nat.one_ne_zero, a1, rfl, aa_id_ev rfl⟩, ⟨Nat.one_ne_zero, a2, rfl, aa_id_ev rfl⟩, ⟨Nat.one_ne_zero, a3, rfl, aa_id_ev rfl⟩, ⟨Nat.one_ne_zero, a4, rfl, aa_id_ev rfl⟩, trivial⟩ hi hφ
theorem ko_221 {g : aa_G} {a0 a1 a2 a3 a4 : Int32} (hi : aa_inv g) (hφ : aa_Phi g)  : zz_fin none 221 (0, zz_in [.ref 540, .int a0, .int a1, .int a2, .int a3, .int a4] (zz_nl 221), [], aa_H g) (aa_post aa_Phi aa_m72 [a0.toInt, a1.toInt, a2.toInt, a3.toInt, a4.toInt] g) := by
  have hK : aa_met aa_Phi aa_m72 := (aa_mL59 aa_hands_met _ List.mem_cons_self)
  refine hK [a0.toInt, a1.toInt, a2.toInt, a3.toInt, a4.toInt] g [.ref 540, .int a0, .int a1, .int a2, .int a3, .int a4] (aa_vb_new (aa_vb_new (aa_vb_new (aa_vb_new (aa_vb_new (⟨rfl, fun i q v hq => by cases hq⟩ : aa_vb [] []) (lo := -2147483648) (hi := 2147483647) (gr := 0) (ko_rng a0).1 (ko_rng a0).2 (fun z => absurd rfl z)) (lo := -2147483648) (hi := 2147483647) (gr := 0) (ko_rng a1).1 (ko_rng a1).2 (fun z => absurd rfl z)) (lo := -2147483648) (hi := 2147483647) (gr := 0) (ko_rng a2).1 (ko_rng a2).2 (fun z => absurd rfl z)) (lo := -2147483648) (hi := 2147483647) (gr := 0) (ko_rng a3).1 (ko_rng a3).2 (fun z => absurd rfl z)) (lo := -2147483648) (hi := 2147483647) (gr := 0) (ko_rng a4).1 (ko_rng a4).2 (fun z => absurd rfl z)) (fun f hf => by cases hf) (fun q hq => by cases hq) ⟨⟨Nat.succ_ne_zero _, 540, rfl, rfl⟩, ⟨Nat.one_ne_zero, a0, rfl, aa_id_ev rfl⟩, ⟨Nat.one_ne_zero, a1, rfl, aa_id_ev rfl⟩, ⟨Nat.one_ne_zero, a2, rfl, aa_id_ev rfl⟩, ⟨Nat.one_ne_zero, a3, rfl, aa_id_ev rfl⟩, ⟨Nat.one_ne_zero, a4, rfl, aa_id_ev rfl⟩, trivial⟩ hi hφ
theorem ko_121 {g : aa_G} {a0 a1 a2 a3 a4 : Int32} (hi : aa_inv g) (hφ : aa_Phi g)  : zz_fin none 121 (0, zz_in [.ref 1, .int a0, .int a1, .int a2, .int a3, .int a4] (zz_nl 121), [], aa_H g) (aa_post aa_Phi aa_k111 [a0.toInt, a1.toInt, a2.toInt, a3.toInt, a4.toInt] g) := by
  have hK : aa_met aa_Phi aa_k111 := aa_met_p3 aa_good_free _ (List.mem_of_getElem? (i := 28) rfl)
  refine hK [a0.toInt, a1.toInt, a2.toInt, a3.toInt, a4.toInt] g [.ref 1, .int a0, .int a1, .int a2, .int a3, .int a4] (aa_vb_new (aa_vb_new (aa_vb_new (aa_vb_new (aa_vb_new (⟨rfl, fun i q v hq => by cases hq⟩ : aa_vb [] []) (lo := -2147483648) (hi := 2147483647) (gr := 0) (ko_rng a0).1 (ko_rng a0).2 (fun z => absurd rfl z)) (lo := -2147483648) (hi := 2147483647) (gr := 0) (ko_rng a1).1 (ko_rng a1).2 (fun z => absurd rfl z)) (lo := -2147483648) (hi := 2147483647) (gr := 0) (ko_rng a2).1 (ko_rng a2).2 (fun z => absurd rfl z)) (lo := -2147483648) (hi := 2147483647) (gr := 0) (ko_rng a3).1 (ko_rng a3).2 (fun z => absurd rfl z)) (lo := -2147483648) (hi := 2147483647) (gr := 0) (ko_rng a4).1 (ko_rng a4).2 (fun z => absurd rfl z)) (fun f hf => by cases hf) (fun q hq => by cases hq) ⟨⟨Nat.succ_ne_zero _, 1, rfl, rfl⟩, ⟨Nat.one_ne_zero, a0, rfl, aa_id_ev rfl⟩, ⟨Nat.one_ne_zero, a1, rfl, aa_id_ev rfl⟩, ⟨Nat.one_ne_zero, a2, rfl, aa_id_ev rfl⟩, ⟨Nat.one_ne_zero, a3, rfl, aa_id_ev rfl⟩, ⟨Nat.one_ne_zero, a4, rfl, aa_id_ev rfl⟩, trivial⟩ hi hφ
theorem ko_223 {g : aa_G} {a0 a1 a2 a3 a4 : Int32} (hi : aa_inv g) (hφ : aa_Phi g)  : zz_fin none 223 (0, zz_in [.ref 540, .int a0, .int a1, .int a2, .int a3, .int a4] (zz_nl 223), [], aa_H g) (aa_post aa_Phi aa_m75 [a0.toInt, a1.toInt, a2.toInt, a3.toInt, a4.toInt] g) := by
  have hK : aa_met aa_Phi aa_m75 := (aa_mL62 aa_hands_met _ List.mem_cons_self)
  refine hK [a0.toInt, a1.toInt, a2.toInt, a3.toInt, a4.toInt] g [.ref 540, .int a0, .int a1, .int a2, .int a3, .int a4] (aa_vb_new (aa_vb_new (aa_vb_new (aa_vb_new (aa_vb_new (⟨rfl, fun i q v hq => by cases hq⟩ : aa_vb [] []) (lo := -2147483648) (hi := 2147483647) (gr := 0) (ko_rng a0).1 (ko_rng a0).2 (fun z => absurd rfl z)) (lo := -2147483648) (hi := 2147483647) (gr := 0) (ko_rng a1).1 (ko_rng a1).2 (fun z => absurd rfl z)) (lo := -2147483648) (hi := 2147483647) (gr := 0) (ko_rng a2).1 (ko_rng a2).2 (fun z => absurd rfl z)) (lo := -2147483648) (hi := 2147483647) (gr := 0) (ko_rng a3).1 (ko_rng a3).2 (fun z => absurd rfl z)) (lo := -2147483648) (hi := 2147483647) (gr := 0) (ko_rng a4).1 (ko_rng a4).2 (fun z => absurd rfl z)) (fun f hf => by cases hf) (fun q hq => by cases hq) ⟨⟨Nat.succ_ne_zero _, 540, rfl, rfl⟩, ⟨Nat.one_ne_zero, a0, rfl, aa_id_ev rfl⟩, ⟨Nat.one_ne_zero, a1, rfl, aa_id_ev rfl⟩, ⟨Nat.one_ne_zero, a2, rfl, aa_id_ev rfl⟩, ⟨Nat.one_ne_zero, a3, rfl, aa_id_ev rfl⟩, ⟨Nat.one_ne_zero, a4, rfl, aa_id_ev rfl⟩, trivial⟩ hi hφ
end
section
/-! IS: both sides count the same -/
def sm_f (f : Nat → Nat) : Nat → Nat → Nat
  | _, 0 => 0
  | i, k + 1 => f i + sm_f f (i + 1) k
theorem ls_sum {ρ : Type} {d : ρ} {B : Int32 × Int32 → (Int32 × Int32) ⊕ ρ} {f : Nat → Nat} {n : Nat} {E : Int32 → ρ} (h1 : ∀ (s : Int32) (i : Nat), i < n → B (s, Int32.ofNat i) = .inl (s + Int32.ofNat (f i), Int32.ofNat (i + 1))) (h2 : ∀ s, B (s, Int32.ofNat n) = .inr (E s)) : ∀ (k i : Nat) (s : Int32), i + k = n → lp_f d B (s, Int32.ofNat i) = E (s + Int32.ofNat (sm_f f i k)) := by
  intro k
  induction k with
  | zero =>
    intro i s e
    obtain rfl : i = n := by omega
    rw [lp_r (h2 s)]
    show E s = E (s + 0)
    rw [Int32.add_zero]
  | succ k ih =>
    intro i s e
    rw [lp_l (h1 s i (by omega)), ih (i + 1) _ (by omega), Int32.add_assoc, mb_add (f i) _ rfl]
    rfl
/-- points of a town, those that are no polar ones -/
def is_c (g : aa_G) (t : Nat) : Nat := (g 541 (50 * t + 4)).toInt.toNat
noncomputable def is_p (g : aa_G) (t i : Nat) : Nat := if g 541 (50 * t + 4 * i + 8) = -1 then 0 else 1
theorem is_cc {g : aa_G} (hi : aa_inv g) {t : Nat} (ht : t < 4) : is_c g t ≤ 12 ∧ g 541 (50 * t + 4) = Int32.ofNat (is_c g t) := by
  obtain ⟨c, hc, hc1⟩ := tq_count hi ht
  have e : is_c g t = c := by
    unfold is_c
    rw [hc1, i_12 hc]
    omega
  rw [e]
  exact ⟨hc, hc1⟩
theorem is_73 {g : aa_G} (hi : aa_inv g) (q : q1_s g g 2 0) {t : Nat} (ht : t < 4) (ht2 : (t : Int) < (g 541 0).toInt) : fn_73 g (5 * t + 14) = Int32.ofNat (sm_f (is_p g t) 0 (is_c g t)) := by
  obtain ⟨q1, q2, q3, -⟩ := q.2.2.2 t ht2
  obtain ⟨hc, hc1⟩ := is_cc hi ht
  have E1 : 5 * t + (2 + 12) = 5 * t + 14 := by omega
  have E2 : 399 * 0 + 50 * t + 3 = 50 * t + 3 := by omega
  rw [E1, E2] at q2 q3
  have hc2 : g (5 * t + 14) 1 = Int32.ofNat (is_c g t) := q2.trans hc1
  have hc3 : (g 541 (50 * t + 3 + 1)).toInt = is_c g t := by
    show (g 541 (50 * t + 4)).toInt = _
    rw [hc1, i_12 hc]
  unfold fn_73 fn_73_4
  have k := ls_sum (d := (0 : Int32)) (B := fun z : (Int32 × Int32) => fn_73_4b g (5 * t + 14) z.1 z.2) (f := is_p g t) (n := is_c g t) (E := id) (fun s i h => ?_) (fun s => ?_) (is_c g t) 0 0 (by omega)
  · exact k.trans (Int32.zero_add _)
  · show fn_73_4b g (5 * t + 14) s (Int32.ofNat i) = _
    unfold fn_73_4b fn_73_25
    rw [hc2, if_neg (c := Int32.ofNat (is_c g t) ≤ Int32.ofNat i) (fun z => by have := (i_le (by omega) (by omega)).mp z; omega), zz_toN (by omega), mb_add i 1 (v := 1) rfl, q3 i (by rw [hc3]; omega) 4 (by omega) (by omega), show 50 * t + 3 + 1 + 4 * i + 4 = 50 * t + 4 * i + 8 by omega]
    unfold is_p
    by_cases z : g 541 (50 * t + 4 * i + 8) = -1
    · rw [if_pos z, if_pos z]
      show Sum.inl (s, _) = Sum.inl (s + 0, _)
      rw [Int32.add_zero]
    · rw [if_neg z, if_neg z]
      rfl
  · show fn_73_4b g (5 * t + 14) s (Int32.ofNat (is_c g t)) = _
    unfold fn_73_4b
    rw [hc2, if_pos (c := Int32.ofNat (is_c g t) ≤ Int32.ofNat (is_c g t)) ((i_le (by omega) (by omega)).mpr (Nat.le_refl _))]
    rfl
theorem is_n {g : aa_G} (hi : aa_inv g) : ∃ n, n ≤ 4 ∧ g 541 0 = Int32.ofNat n ∧ (g 541 0).toInt = n := by
  have n4 : 0 ≤ (g 541 0).toInt ∧ (g 541 0).toInt ≤ 4 := iv_n hi (r := 0)
  exact ⟨(g 541 0).toInt.toNat, by omega, aa_eqN (by omega) (by omega), by omega⟩
theorem is_72 {g : aa_G} (hi : aa_inv g) (q : q1_s g g 2 0) {n : Nat} (hn : n ≤ 4) (h1 : g 541 0 = Int32.ofNat n) (h2 : (g 541 0).toInt = n) : fn_72 g 0 = Int32.ofNat (sm_f (is_c g) 0 n) ∧ fn_72 g 1 = Int32.ofNat (sm_f (fun t => sm_f (is_p g t) 0 (is_c g t)) 0 n) := by
  have e20 : g 2 0 = Int32.ofNat n := q.1.trans h1
  unfold fn_72 fn_72_4
  constructor
  · have k := ls_sum (d := (0 : Int32)) (B := fun z : (Int32 × Int32) => fn_72_4b g 0 z.1 z.2) (f := is_c g) (n := n) (E := id) (fun s i h => ?_) (fun s => ?_) n 0 0 (by omega)
    · exact k.trans (Int32.zero_add _)
    · show fn_72_4b g 0 s (Int32.ofNat i) = _
      obtain ⟨-, q2, -, -⟩ := q.2.2.2 i (by show (i : Int) < (g 541 0).toInt; omega)
      have q2 : g (5 * i + 14) 1 = g 541 (399 * 0 + 50 * i + 3 + 1) := q2
      unfold fn_72_4b fn_72_38
      rw [e20, if_neg (c := Int32.ofNat n ≤ Int32.ofNat i) (fun z => by have := (i_le (by omega) (by omega)).mp z; omega), if_pos (c := (0 : Int32) = 0) rfl, zz_toN (by omega), mb_add i 1 (v := 1) rfl, q2, show 399 * 0 + 50 * i + 3 + 1 = 50 * i + 4 by omega, ← (is_cc hi (t := i) (by omega)).2]
    · show fn_72_4b g 0 s (Int32.ofNat n) = _
      unfold fn_72_4b
      rw [e20, if_pos (c := Int32.ofNat n ≤ Int32.ofNat n) ((i_le (by omega) (by omega)).mpr (Nat.le_refl _))]
      rfl
  · have k := ls_sum (d := (0 : Int32)) (B := fun z : (Int32 × Int32) => fn_72_4b g 1 z.1 z.2) (f := fun t => sm_f (is_p g t) 0 (is_c g t)) (n := n) (E := id) (fun s i h => ?_) (fun s => ?_) n 0 0 (by omega)
    · exact k.trans (Int32.zero_add _)
    · show fn_72_4b g 1 s (Int32.ofNat i) = _
      unfold fn_72_4b fn_72_38
      rw [e20, if_neg (c := Int32.ofNat n ≤ Int32.ofNat i) (fun z => by have := (i_le (by omega) (by omega)).mp z; omega), if_neg (c := (1 : Int32) = 0) (by decide), zz_toN (by omega), mb_add i 1 (v := 1) rfl, is_73 hi q (t := i) (by omega) (by omega)]
    · show fn_72_4b g 1 s (Int32.ofNat n) = _
      unfold fn_72_4b
      rw [e20, if_pos (c := Int32.ofNat n ≤ Int32.ofNat n) ((i_le (by omega) (by omega)).mpr (Nat.le_refl _))]
      rfl
theorem is_163 {g : aa_G} (hi : aa_inv g) {n : Nat} (hn : n ≤ 4) (h1 : g 541 0 = Int32.ofNat n) : fn_163 g = Int32.ofNat (sm_f (is_c g) 0 n) := by
  have z0 : (0 : Int32).toNatClampNeg = 0 := rfl
  unfold fn_163 fn_163_4
  have k := ls_sum (d := (0 : Int32)) (B := fun z : (Int32 × Int32) => fn_163_4b g z.1 z.2) (f := is_c g) (n := n) (E := id) (fun s i h => ?_) (fun s => ?_) n 0 0 (by omega)
  · exact k.trans (Int32.zero_add _)
  · show fn_163_4b g s (Int32.ofNat i) = _
    unfold fn_163_4b
    rw [z0, h1, if_neg (c := Int32.ofNat n ≤ Int32.ofNat i) (fun z => by have := (i_le (by omega) (by omega)).mp z; omega), ml_ta i, mb_add _ 1 (v := 1) rfl, mb_add i 1 (v := 1) rfl, zz_toN (by omega), show 50 * i + 3 + 1 = 50 * i + 4 by omega, ← (is_cc hi (t := i) (by omega)).2]
  · show fn_163_4b g s (Int32.ofNat n) = _
    unfold fn_163_4b
    rw [z0, h1, if_pos (c := Int32.ofNat n ≤ Int32.ofNat n) ((i_le (by omega) (by omega)).mpr (Nat.le_refl _))]
    rfl
theorem is_252 {g : aa_G} (hi : aa_inv g) {n : Nat} (hn : n ≤ 4) (h1 : g 541 0 = Int32.ofNat n) (a : Int32) : fn_252 g a = if a.toInt = 0 then g 541 a.toNatClampNeg else if a.toInt = 1 then g 541 a.toNatClampNeg else if a.toInt = 2 then g 541 a.toNatClampNeg else if a.toInt = 3 then g 540 1 else if a.toInt = 4 then g 540 4 else if a.toInt = 5 then fn_163 g else if a.toInt = 6 then Int32.ofNat (sm_f (fun t => sm_f (is_p g t) 0 (is_c g t)) 0 n) else -1 := by
  have z0 : (0 : Int32).toNatClampNeg = 0 := rfl
  unfold fn_252 fn_252_4
  have k := ls_sum (d := (0 : Int32)) (B := fun z : (Int32 × Int32) => fn_252_4b g a z.1 z.2) (f := fun t => sm_f (is_p g t) 0 (is_c g t)) (n := n) (E := fun s => if a.toInt = 0 then g 541 a.toNatClampNeg else if a.toInt = 1 then g 541 a.toNatClampNeg else if a.toInt = 2 then g 541 a.toNatClampNeg else if a.toInt = 3 then g 540 1 else if a.toInt = 4 then g 540 4 else if a.toInt = 5 then fn_163 g else if a.toInt = 6 then s else -1) (fun s i h => ?_) (fun s => ?_) n 0 0 (by omega)
  · refine k.trans ?_
    rw [Int32.zero_add]
  · show fn_252_4b g a s (Int32.ofNat i) = _
    obtain ⟨hc, hc1⟩ := is_cc hi (t := i) (by omega)
    unfold fn_252_4b
    rw [z0, h1, if_neg (c := Int32.ofNat n ≤ Int32.ofNat i) (fun z => by have := (i_le (by omega) (by omega)).mp z; omega)]
    unfold fn_252_17
    have k := ls_sum (d := (.inr 0 : (Int32 × Int32) ⊕ Int32)) (B := fun z : (Int32 × Int32) => fn_252_17b g a z.1 (Int32.ofNat i) z.2) (f := is_p g i) (n := is_c g i) (E := fun s => .inl (s, Int32.ofNat (i + 1))) (fun s j h => ?_) (fun s => ?_) (is_c g i) 0 s (by omega)
    · exact k
    · show fn_252_17b g a s (Int32.ofNat i) (Int32.ofNat j) = _
      unfold fn_252_17b fn_252_56
      rw [ml_ta i, mb_add _ 1 (v := 1) rfl, zz_toN (by omega), show 50 * i + 3 + 1 = 50 * i + 4 by omega, hc1, if_neg (c := Int32.ofNat (is_c g i) ≤ Int32.ofNat j) (fun z => by have := (i_le (by omega) (by omega)).mp z; omega), ml_pa, mb_add _ 3 (v := 3) rfl, zz_toN (by omega), show 50 * i + 4 * j + 5 + 3 = 50 * i + 4 * j + 8 by omega, mb_add j 1 (v := 1) rfl]
      unfold is_p
      by_cases z : g 541 (50 * i + 4 * j + 8) = -1
      · rw [if_pos z, if_pos z]
        rfl
      · rw [if_neg z, if_neg z]
        rfl
    · show fn_252_17b g a s (Int32.ofNat i) (Int32.ofNat (is_c g i)) = _
      unfold fn_252_17b
      rw [ml_ta i, mb_add _ 1 (v := 1) rfl, zz_toN (by omega), show 50 * i + 3 + 1 = 50 * i + 4 by omega, hc1, if_pos (c := Int32.ofNat (is_c g i) ≤ Int32.ofNat (is_c g i)) ((i_le (by omega) (by omega)).mpr (Nat.le_refl _)), mb_add i 1 (v := 1) rfl]
  · show fn_252_4b g a s (Int32.ofNat n) = _
    unfold fn_252_4b
    rw [z0, h1, if_pos (c := Int32.ofNat n ≤ Int32.ofNat n) ((i_le (by omega) (by omega)).mpr (Nat.le_refl _))]
    repeat' split
    all_goals rfl
theorem ak_71 {g : aa_G} (hi : aa_inv g) (hR : lr_R g) (a : Int32) : fn_71 g a = fn_252 g a := by
  obtain ⟨n, hn, h1, h2⟩ := is_n hi
  have hR0 := hR.1
  obtain ⟨⟨q, -⟩, -, ⟨c, e, ⟨hc, he⟩, ⟨r0, r1, r2⟩, -⟩, s1, -⟩ := hR0
  obtain ⟨k1, k2⟩ := is_72 hi q hn h1 h2
  rw [is_252 hi hn h1 a, is_163 hi hn h1]
  unfold fn_71
  rw [k1, k2]
  have q1 : g 2 0 = g 541 0 := q.1
  have q2 : g 2 1 = g 541 1 := q.2.1
  have q3 : g 4 0 = g 541 2 := q.2.2.1
  have n0 : a.toNatClampNeg = a.toInt.toNat := ti_n
  by_cases z0 : a.toInt = 0
  · rw [if_pos z0, if_pos z0, n0, z0]; exact q1
  · rw [if_neg z0, if_neg z0]
    by_cases z1 : a.toInt = 1
    · rw [if_pos z1, if_pos z1, n0, z1]; exact q2
    · rw [if_neg z1, if_neg z1]
      by_cases z2 : a.toInt = 2
      · rw [if_pos z2, if_pos z2, n0, z2]; exact q3
      · rw [if_neg z2, if_neg z2, r0.trans r1.symm, s1]
theorem lq_71 {g : aa_G} {a0 : Int32} (hi : aa_inv g) (hφ : aa_Phi g) (hR : lr_R g) : lq_ok true 71 252 [.int a0] g :=
  lq_as hi hφ hR (ko_fi (ko_71 hi hφ) fun _ _ _ r => dn_71 r) (ko_fi (ko_252 hi hφ) fun _ _ _ r => dn_252 r) (ak_71 hi hR a0)
end
section
/-! TOWN: both sides read the same -/
theorem ak_75 {g : aa_G} {T p i o c : Nat} (ho : o < 4) (hi : i < 2147483648) (hc : c ≤ 12) (h1 : g T 1 = Int32.ofNat c) (h : i < c → ∀ o, 1 ≤ o → o ≤ 4 → g (T + o) i = g 541 (p + 4 * i + o)) : fn_75 g T (Int32.ofNat i) (Int32.ofNat o) = if i < c then g 541 (p + 4 * i + (o + 1)) else -1000000 := by
  have e1 : (g T 1 - 1).toInt = (c : Int) - 1 := by
    rw [h1, aa_sub32 (by rw [zz_ofN (by omega), show (1 : Int32).toInt = 1 from rfl]; omega) (by rw [zz_ofN (by omega), show (1 : Int32).toInt = 1 from rfl]; omega), zz_ofN (by omega)]
    rfl
  have e2 : fn_14 (Int32.ofNat i) 0 (g T 1 - 1) ≠ 0 ↔ i < c := by
    rw [ti_14n, zz_ofN hi, e1, show (0 : Int32).toInt = 0 from rfl]
    omega
  unfold fn_75
  by_cases z : i < c
  · rw [if_pos (e2.mpr z), if_pos z, zz_toN hi, zz_ofN (by omega), ← h z (o + 1) (by omega) (by omega)]
    have ho : o = 0 ∨ o = 1 ∨ o = 2 ∨ o = 3 := by omega
    rcases ho with rfl | rfl | rfl | rfl
    · rw [if_pos (by decide)]
    · rw [if_neg (by decide), if_pos (by decide)]
    · rw [if_neg (by decide), if_neg (by decide), if_pos (by decide)]
    · rw [if_neg (by decide), if_neg (by decide), if_neg (by decide)]
  · rw [if_neg (mt e2.mp z), if_neg z]
theorem ak_74 {g : aa_G} (hi : aa_inv g) (W : wd_g g) (q : q1_s g g 2 0) (a b : Int32) : fn_74 g a b = fn_253 g a b := by
  rcases ct_at W a with ⟨t, ht, rfl, ht2, e1, e2⟩ | ⟨-, e1, e2⟩
  · obtain ⟨q1, q2, q3, -⟩ := q.2.2.2 t ht2
    obtain ⟨c, hc, hc1⟩ := tq_count hi ht
    have E1 : 5 * t + (2 + 12) = 5 * t + 14 := by omega
    have E2 : 399 * 0 + 50 * t + 3 = 50 * t + 3 := by omega
    rw [E1, E2] at q1 q2 q3
    have hc2 : g (5 * t + 14) 1 = Int32.ofNat c := q2.trans hc1
    have hc3 : (g 541 (50 * t + 3 + 1)).toInt = c := by
      show (g 541 (50 * t + 4)).toInt = c
      rw [hc1, i_12 hc]
    have x1 : ((Int32.ofNat (50 * t + 3)) + 1).toNatClampNeg = 50 * t + 4 := by rw [mb_add _ 1 (v := 1) rfl, zz_toN (by omega)]
    have x4 : (9 + 4 * Int32.ofNat c : Int32).toInt = 9 + 4 * (c : Int) := by
      have y : (4 * Int32.ofNat c : Int32).toInt = 4 * (c : Int) := by
        rw [ti_mul (by rw [zz_ofN (by omega), show (4 : Int32).toInt = 4 from rfl]; omega) (by rw [zz_ofN (by omega), show (4 : Int32).toInt = 4 from rfl]; omega), zz_ofN (by omega)]
        rfl
      rw [aa_add32 (by rw [y, show (9 : Int32).toInt = 9 from rfl]; omega) (by rw [y, show (9 : Int32).toInt = 9 from rfl]; omega), y]
      rfl
    unfold fn_74 fn_253
    rw [e1, e2, ml_ta t, x1, hc1]
    dsimp only
    rw [if_pos (c := (1 : Int32) ≠ 0) (by decide)]
    by_cases b0 : b = 0
    · subst b0
      rw [if_neg (c := ((0 : Int32) ≠ 0)) (by decide), if_neg (c := fn_154 0 0 1 = 0) (by decide), mb_add _ 0 (v := 0) rfl, zz_toN (by omega)]
      exact q1
    · rw [if_pos (c := b ≠ 0) b0]
      by_cases b1 : b = 1
      · subst b1
        rw [if_neg (c := ((1 : Int32) ≠ 1)) (by decide), if_neg (c := fn_154 1 0 1 = 0) (by decide), x1]
        exact q2
      · rw [if_pos (c := b ≠ 1) b1]
        have n0 := ti_ne.mp b0
        have n1 := ti_ne.mp b1
        have n0 : b.toInt ≠ 0 := n0
        have n1 : b.toInt ≠ 1 := n1
        have y1 : fn_154 b 0 1 = 0 := ti_154z.mpr (by rw [show (0 : Int32).toInt = 0 from rfl, show (1 : Int32).toInt = 1 from rfl]; omega)
        rw [if_pos (c := fn_154 b 0 1 = 0) y1]
        by_cases hb : 10 ≤ b
        · rw [if_pos (c := 10 ≤ b) hb]
          have hb := aa_le32.mp hb
          have hb : (10 : Int) ≤ b.toInt := hb
          obtain ⟨n, hn, rfl, hn2⟩ := ti_nat (a := b) (by omega)
          have hn10 : 10 ≤ n := by omega
          have s1 : (Int32.ofNat n - 10 : Int32).toInt = (n : Int) - 10 := by
            rw [aa_sub32 (by rw [zz_ofN (by omega), show (10 : Int32).toInt = 10 from rfl]; omega) (by rw [zz_ofN (by omega), show (10 : Int32).toInt = 10 from rfl]; omega), zz_ofN (by omega)]
            rfl
          have s2 : (Int32.ofNat n - 10 : Int32) / 4 = Int32.ofNat ((n - 10) / 4) := aa_eqN (by
            rw [ti_div (by rw [s1]; omega) (by decide), s1, show (4 : Int32).toInt = 4 from rfl]; omega) (by omega)
          have s3 : (Int32.ofNat n - 10 : Int32) - (Int32.ofNat n - 10) / 4 * 4 = Int32.ofNat ((n - 10) % 4) := aa_eqN (by
            rw [ti_rem (by rw [s1]; omega) (by decide), s1, show (4 : Int32).toInt = 4 from rfl]; omega) (by omega)
          rw [s3, s2, ak_75 (p := 50 * t + 4) (by omega) (by omega) hc hc2 (fun z o o1 o2 => q3 _ (by rw [hc3]; omega) o o1 o2)]
          by_cases z : n ≤ 9 + 4 * c
          · have y2 : ¬ fn_154 (Int32.ofNat n) 10 (9 + 4 * Int32.ofNat c) = 0 := fun e => ti_154z.mp e (by rw [x4, zz_ofN (by omega), show (10 : Int32).toInt = 10 from rfl]; omega)
            rw [if_neg y2, if_pos (by omega), mb_add _ 2 (v := 2) rfl, mb_add _ n rfl]
            have s4 : (Int32.ofNat (50 * t + 3 + 2 + n) - 10 : Int32) = Int32.ofNat (50 * t + n - 5) := aa_eqN (by
              rw [aa_sub32 (by rw [zz_ofN (by omega), show (10 : Int32).toInt = 10 from rfl]; omega) (by rw [zz_ofN (by omega), show (10 : Int32).toInt = 10 from rfl]; omega), zz_ofN (by omega), show (10 : Int32).toInt = 10 from rfl]; omega) (by omega)
            rw [s4, zz_toN (by omega)]
            congr 1
            omega
          · have y2 : fn_154 (Int32.ofNat n) 10 (9 + 4 * Int32.ofNat c) = 0 := ti_154z.mpr (by rw [x4, zz_ofN (by omega), show (10 : Int32).toInt = 10 from rfl]; omega)
            rw [if_pos y2, if_neg (by omega)]
        · rw [if_neg (c := 10 ≤ b) hb]
          have hb := mt aa_le32.mpr hb
          have hb : ¬ (10 : Int) ≤ b.toInt := hb
          rw [if_pos (c := fn_154 b 10 (9 + 4 * Int32.ofNat c) = 0) (ti_154z.mpr (by rw [show (10 : Int32).toInt = 10 from rfl]; omega))]
  · unfold fn_74 fn_253
    rw [e1, e2]
    rw [if_neg (c := (0 : Int32) ≠ 0) (by decide)]
theorem lr_wd {g : aa_G} (hi : aa_inv g) (hφ : aa_Phi g) (hR : lr_R g) : wd_g g ∧ q1_s g g 2 0 := ⟨wd_mk hi hφ hR.1.1.1 hR.1.2.2.2.2.2.2.2.1, hR.1.1.1⟩
theorem lq_74 {g : aa_G} {a0 a1 : Int32} (hi : aa_inv g) (hφ : aa_Phi g) (hR : lr_R g) : lq_ok true 74 253 [.int a0, .int a1] g :=
  lq_as hi hφ hR (ko_fi (ko_74 hi hφ) fun _ _ _ r => dn_74 r) (ko_fi (ko_253 hi hφ) fun _ _ _ r => dn_253 r) (ak_74 hi (lr_wd hi hφ hR).1 (lr_wd hi hφ hR).2 a0 a1)
end
section
/-! ASKING CALLS: like answers, the states as they were -/
theorem lq_ask {mc mm : Nat} {as : List Value} {g : aa_G} {wc wm : aa_W} {x y : Int32 × aa_G} (hi : aa_inv g) (hφ : aa_Phi g) (hR : lr_R g)
    (c : zz_fin none mc (0, zz_in (.ref 1 :: as) (zz_nl mc), [], aa_H g) (fun v h => v = some (.int x.1) ∧ h = aa_H x.2 ∧ aa_inv x.2 ∧ aa_Phi x.2 ∧ aa_fr wc g x.2))
    (m : aa_inv x.2 → aa_Phi x.2 → zz_fin none mm (0, zz_in (.ref 540 :: as) (zz_nl mm), [], aa_H x.2) (fun v h => v = some (.int y.1) ∧ h = aa_H y.2 ∧ aa_inv y.2 ∧ aa_Phi y.2 ∧ aa_fr wm x.2 y.2))
    (hc : lk_c wc = true) (hm : lk_m wm = true) (he : lk_e wc wm = true) (ha : lk_a wc = true) (hb : lk_b wm = true) (h16 : (wm.all fun w => !(Nat.beq w.1 (aa_gc 540)) || !(decide (w.2.1 ≤ ((16 : Nat) : Int)) && decide (((16 : Nat) : Int) ≤ w.2.2))) = true)
    (eq : wd_g g → wd_g x.2 → x.2 541 = g 541 → x.1 = y.1) : lq_ok true mc mm as g := by
  refine lq_mk hi hR c m hc hm fun i1 p1 q1 q2 f1 f2 => ?_
  have r1 : rr_g (qb_s lr_B) x.2 x.2 := lk_ar (qb_cp lr_cp) ha i1 q1 f1
  refine ⟨⟨fun _ => eq (lr_wd hi hφ hR).1 (wd_mk i1 p1 r1.1.1 r1.2.2.2.2.2.2.2.1) (funext fun j => lk_ce hc f1 (by decide) j), ?_⟩, lk_ee he f1 f2 q2⟩
  exact lk_br (qb_cp lr_cp) hb i1 r1 f2 (ko_at f2 h16)
theorem hv_pv {T : Nat → Int32} {t : Nat} {d h : Int} {r : Int × Int} (e : hv_t T t d h = some r) : pv_t T t (d % 360) = -1 := by
  unfold hv_t tw_H at e
  unfold pv_t
  by_cases z1 : ¬ (0 ≤ d ∧ d ≤ 35999)
  · rw [if_pos z1] at e; cases e
  · rw [if_neg z1] at e
    by_cases z2 : h = 1 ∧ d = 35999
    · rw [if_pos z2] at e; cases e
    · rw [if_neg z2] at e
      by_cases z3 : tw_P (av_t T t) (d % 360) (av_c T t) ≠ -1
      · rw [if_pos z3] at e; cases e
      · exact Decidable.not_not.mp z3
theorem ti_191 {g : aa_G} {a b : Int32} : fn_191 g a b = 0 ↔ (fn_192 g a = 0 ∨ ¬ (0 ≤ b.toInt ∧ b.toInt ≤ 35999)) := by
  unfold fn_191
  by_cases z : fn_192 g a = 0
  · rw [if_pos z]
    exact ⟨fun _ => .inl z, fun _ => rfl⟩
  · rw [if_neg z]
    by_cases z2 : fn_193 b = 0
    · rw [if_pos z2]
      exact ⟨fun _ => .inr (ti_193z.mp z2), fun _ => rfl⟩
    · rw [if_neg z2]
      exact ⟨fun e => absurd e (by decide), fun e => e.elim (fun h => absurd h z) (fun h => absurd (ti_193z.mpr h) z2)⟩
end
