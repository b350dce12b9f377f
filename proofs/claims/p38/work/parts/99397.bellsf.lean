/-! METHODS READ (printed by wip/dc/dc.py) -/
-- 188: UnequalHoursModel does
noncomputable def fn_188_12 (g : aa_G)  : aa_G := zz_w g 540 11 ((g 540 11) + 1)
theorem dn_188_12 {v : Option Value} {h : zz_H} {n : Nat} {g : aa_G}   (x0 x1 : Option Value) (jx0 : rn_jk x0) (jx1 : rn_jk x1) (r : rn_s n 188 (12, [x0, x1], [.ref 540, .ref 540], aa_H g) v h) : ig_s v h (fn_188_12 g) := by
  unfold fn_188_12
  obtain ⟨n5, ln5, r⟩ := rn_steps 3 (20, [x0, x1], [], aa_H (zz_w g 540 11 ((g 540 11) + 1))) rfl r
  exact rn_ret 1 rfl r
noncomputable def fn_188 (g : aa_G) (a1 : Int32) : aa_G := fn_188_12 (zz_w g 545 (g 540 11).toNatClampNeg a1)
theorem dn_188 {v : Option Value} {h : zz_H} {n : Nat} {g : aa_G} {a1 : Int32}  (r : rn_s n 188 (0, zz_in [.ref 540, .int a1] (zz_nl 188), [], aa_H g) v h) : ig_s v h (fn_188 g a1) := by
  have r : rn_s n 188 (0, [some (.ref 540), some (.int a1)], [], aa_H g) v h := r
  unfold fn_188
  obtain ⟨n1, ln1, r⟩ := rn_steps 4 (9, [some (.ref 540), some (.int a1)], [.int a1, .int (g 540 11), .ref 545], aa_H g) rfl r
  obtain ⟨hb3, n2, ln2, r⟩ := rn_ias (k := 545) rfl ⟨by decide, by decide⟩ rfl r
  have r : rn_s _ 188 (10, [some (.ref 540), some (.int a1)], [], aa_H (zz_w g 545 (g 540 11).toNatClampNeg a1)) v h := r
  obtain ⟨n4, ln4, r⟩ := rn_steps 1 (12, [some (.ref 540), some (.int a1)], [.ref 540, .ref 540], aa_H (zz_w g 545 (g 540 11).toNatClampNeg a1)) rfl r
  exact dn_188_12 (some (.ref 540)) (some (.int a1)) rn_jr rn_ji r
-- 187: UnequalHoursModel nameOf
noncomputable def fn_187 (a0 : Int32) : Int32 := if a0 ≠ 119 then if a0 ≠ 121 then if a0 ≠ 108 then if a0 ≠ 116 then if a0 ≠ 122 then -1 else 4 else 3 else 2 else 1 else 0
theorem dn_187 {v : Option Value} {h : zz_H} {n : Nat} {g : aa_G} {a0 : Int32}  (r : rn_s n 187 (0, zz_in [.int a0] (zz_nl 187), [], aa_H g) v h) : ir_s g v h (fn_187 a0) := by
  have r : rn_s n 187 (0, [some (.int a0)], [], aa_H g) v h := r
  unfold fn_187
  obtain ⟨n1, ln1, r⟩ := rn_steps 1 (3, [some (.int a0)], [.int 119, .int a0], aa_H g) rfl r
  refine rn_ic (ir_s g v h) rfl decide_eq_true_iff.symm r (fun c2 l3n l3 r => ?_) (fun c2 l3n l3 r => ?_)
  · obtain ⟨n4, ln4, r⟩ := rn_steps 1 (13, [some (.int a0)], [.int 121, .int a0], aa_H g) rfl r
    refine rn_ic (ir_s g v h) rfl decide_eq_true_iff.symm r (fun c5 l6n l6 r => ?_) (fun c5 l6n l6 r => ?_)
    · obtain ⟨n7, ln7, r⟩ := rn_steps 1 (23, [some (.int a0)], [.int 108, .int a0], aa_H g) rfl r
      refine rn_ic (ir_s g v h) rfl decide_eq_true_iff.symm r (fun c8 l9n l9 r => ?_) (fun c8 l9n l9 r => ?_)
      · obtain ⟨n10, ln10, r⟩ := rn_steps 1 (33, [some (.int a0)], [.int 116, .int a0], aa_H g) rfl r
        refine rn_ic (ir_s g v h) rfl decide_eq_true_iff.symm r (fun c11 l12n l12 r => ?_) (fun c11 l12n l12 r => ?_)
        · obtain ⟨n13, ln13, r⟩ := rn_steps 1 (43, [some (.int a0)], [.int 122, .int a0], aa_H g) rfl r
          refine rn_ic (ir_s g v h) rfl decide_eq_true_iff.symm r (fun c14 l15n l15 r => ?_) (fun c14 l15n l15 r => ?_)
          · obtain ⟨n16, ln16, r⟩ := rn_steps 0 (51, [some (.int a0)], [.int (-1)], aa_H g) rfl r
            exact rn_ire rfl r
          · obtain ⟨n17, ln17, r⟩ := rn_steps 1 (51, [some (.int a0)], [.int 4], aa_H g) rfl r
            exact rn_ire rfl r
        · obtain ⟨n18, ln18, r⟩ := rn_steps 1 (51, [some (.int a0)], [.int 3], aa_H g) rfl r
          exact rn_ire rfl r
      · obtain ⟨n19, ln19, r⟩ := rn_steps 1 (51, [some (.int a0)], [.int 2], aa_H g) rfl r
        exact rn_ire rfl r
    · obtain ⟨n20, ln20, r⟩ := rn_steps 1 (51, [some (.int a0)], [.int 1], aa_H g) rfl r
      exact rn_ire rfl r
  · obtain ⟨n21, ln21, r⟩ := rn_steps 1 (51, [some (.int a0)], [.int 0], aa_H g) rfl r
    exact rn_ire rfl r
-- 186: UnequalHoursModel readThing
noncomputable def fn_186_29 (g : aa_G)  : Int32 × aa_G := ((fn_169 g (g 540 5)).1, (fn_169 g (g 540 5)).2)
theorem dn_186_29 {v : Option Value} {h : zz_H} {n : Nat} {g : aa_G}   (x1 : Option Value) (jx1 : rn_jk x1) (r : rn_s n 186 (29, [some (.ref 540), x1], [], aa_H g) v h) : iw_s v h (fn_186_29 g) := by
  unfold fn_186_29
  obtain ⟨n33, ln33, r⟩ := rn_steps 2 (34, [some (.ref 540), x1], [.int (g 540 5), .ref 540], aa_H g) rfl r
  obtain ⟨_, n34, v1, h1, -, ln34, rc, r⟩ := rn_call (m2 := 169) (as := [.ref 540, .int (g 540 5)]) (rest := []) rfl rfl r
  obtain ⟨rfl, rfl⟩ := dn_169 rc
  have r : rn_s _ 186 (37, [some (.ref 540), x1], [.int ((fn_169 g (g 540 5)).1)], aa_H ((fn_169 g (g 540 5)).2)) v h := r
  exact rn_ire rfl r
noncomputable def fn_186_59 (g : aa_G) (s0 : Int32) : Int32 × aa_G := if s0 ≠ 0 then (1, fn_188 g (g 540 7)) else (0, g)
theorem dn_186_59 {v : Option Value} {h : zz_H} {n : Nat} {g : aa_G} {s0 : Int32}  (x1 : Option Value) (jx1 : rn_jk x1) (r : rn_s n 186 (59, [some (.ref 540), x1], [.int s0], aa_H g) v h) : iw_s v h (fn_186_59 g s0) := by
  unfold fn_186_59
  refine rn_if (iw_s v h) rfl decide_eq_true_iff.symm r (fun c37 l38n l38 r => ?_) (fun c37 l38n l38 r => ?_)
  · obtain ⟨n39, ln39, r⟩ := rn_steps 2 (69, [some (.ref 540), x1], [.int (g 540 7), .ref 540], aa_H g) rfl r
    obtain ⟨_, n40, v1, h1, -, ln40, rc, r⟩ := rn_call (m2 := 188) (as := [.ref 540, .int (g 540 7)]) (rest := []) rfl rfl r
    obtain ⟨rfl, rfl⟩ := dn_188 rc
    have r : rn_s _ 186 (72, [some (.ref 540), x1], [], aa_H (fn_188 g (g 540 7))) v h := r
    obtain ⟨n42, ln42, r⟩ := rn_steps 0 (73, [some (.ref 540), x1], [.int 1], aa_H (fn_188 g (g 540 7))) rfl r
    exact rn_ire rfl r
  · obtain ⟨n43, ln43, r⟩ := rn_steps 0 (63, [some (.ref 540), x1], [.int 0], aa_H g) rfl r
    exact rn_ire rfl r
noncomputable def fn_186_87 (g : aa_G)  : Int32 × aa_G := (1, zz_w g 540 5 ((g 540 5) + 1))
theorem dn_186_87 {v : Option Value} {h : zz_H} {n : Nat} {g : aa_G}   (x0 x1 : Option Value) (jx0 : rn_jk x0) (jx1 : rn_jk x1) (r : rn_s n 186 (87, [x0, x1], [.ref 540, .ref 540], aa_H g) v h) : iw_s v h (fn_186_87 g) := by
  unfold fn_186_87
  obtain ⟨n36, ln36, r⟩ := rn_steps 4 (96, [x0, x1], [.int 1], aa_H (zz_w g 540 5 ((g 540 5) + 1))) rfl r
  exact rn_ire rfl r
noncomputable def fn_186_20 (g : aa_G) (b1 : Int32) : Int32 × aa_G := if (g 540 12) ≠ 40 then if (fn_172 b1) = 0 then fn_186_87 (fn_188 (zz_w g 540 12 ((g 540 12) + 1)) (100000 + (fn_187 b1))) else fn_186_59 ((fn_171 (zz_w g 540 12 ((g 540 12) + 1))).2) ((fn_171 (zz_w g 540 12 ((g 540 12) + 1))).1) else fn_186_29 g
theorem dn_186_20 {v : Option Value} {h : zz_H} {n : Nat} {g : aa_G} {b1 : Int32}  (r : rn_s n 186 (20, [some (.ref 540), some (.int b1)], [], aa_H g) v h) : iw_s v h (fn_186_20 g b1) := by
  unfold fn_186_20
  obtain ⟨n15, ln15, r⟩ := rn_steps 2 (26, [some (.ref 540), some (.int b1)], [.int 40, .int (g 540 12)], aa_H g) rfl r
  refine rn_ic (iw_s v h) rfl decide_eq_true_iff.symm r (fun c16 l17n l17 r => ?_) (fun c16 l17n l17 r => ?_)
  · obtain ⟨n18, ln18, r⟩ := rn_steps 6 (49, [some (.ref 540), some (.int b1)], [.int b1], aa_H (zz_w g 540 12 ((g 540 12) + 1))) rfl r
    obtain ⟨_, n19, v1, h1, -, ln19, rc, r⟩ := rn_call (m2 := 172) (as := [.int b1]) (rest := []) rfl rfl r
    obtain ⟨rfl, rfl⟩ := dn_172 rc
    have r : rn_s _ 186 (52, [some (.ref 540), some (.int b1)], [.int (fn_172 b1)], aa_H (zz_w g 540 12 ((g 540 12) + 1))) v h := r
    refine rn_if (iw_s v h) rfl decide_eq_true_iff.symm r (fun c21 l22n l22 r => ?_) (fun c21 l22n l22 r => ?_)
    · obtain ⟨n23, ln23, r⟩ := rn_steps 2 (78, [some (.ref 540), some (.int b1)], [.int b1, .int 100000, .ref 540], aa_H (zz_w g 540 12 ((g 540 12) + 1))) rfl r
      obtain ⟨_, n24, v1, h1, -, ln24, rc, r⟩ := rn_call (m2 := 187) (as := [.int b1]) (rest := [.int 100000, .ref 540]) rfl rfl r
      obtain ⟨rfl, rfl⟩ := dn_187 rc
      have r : rn_s _ 186 (81, [some (.ref 540), some (.int b1)], [.int (fn_187 b1), .int 100000, .ref 540], aa_H (zz_w g 540 12 ((g 540 12) + 1))) v h := r
      obtain ⟨n26, ln26, r⟩ := rn_steps 0 (82, [some (.ref 540), some (.int b1)], [.int (100000 + (fn_187 b1)), .ref 540], aa_H (zz_w g 540 12 ((g 540 12) + 1))) rfl r
      obtain ⟨_, n27, v1, h1, -, ln27, rc, r⟩ := rn_call (m2 := 188) (as := [.ref 540, .int (100000 + (fn_187 b1))]) (rest := []) rfl rfl r
      obtain ⟨rfl, rfl⟩ := dn_188 rc
      have r : rn_s _ 186 (85, [some (.ref 540), some (.int b1)], [], aa_H (fn_188 (zz_w g 540 12 ((g 540 12) + 1)) (100000 + (fn_187 b1)))) v h := r
      obtain ⟨n29, ln29, r⟩ := rn_steps 1 (87, [some (.ref 540), some (.int b1)], [.ref 540, .ref 540], aa_H (fn_188 (zz_w g 540 12 ((g 540 12) + 1)) (100000 + (fn_187 b1)))) rfl r
      exact dn_186_87 (some (.ref 540)) (some (.int b1)) rn_jr rn_ji r
    · obtain ⟨n30, ln30, r⟩ := rn_steps 0 (56, [some (.ref 540), some (.int b1)], [.ref 540], aa_H (zz_w g 540 12 ((g 540 12) + 1))) rfl r
      obtain ⟨_, n31, v1, h1, -, ln31, rc, r⟩ := rn_call (m2 := 171) (as := [.ref 540]) (rest := []) rfl rfl r
      obtain ⟨rfl, rfl⟩ := dn_171 rc
      have r : rn_s _ 186 (59, [some (.ref 540), some (.int b1)], [.int ((fn_171 (zz_w g 540 12 ((g 540 12) + 1))).1)], aa_H ((fn_171 (zz_w g 540 12 ((g 540 12) + 1))).2)) v h := r
      exact dn_186_59 (some (.int b1)) rn_ji r
  · exact dn_186_29 (some (.int b1)) rn_ji r
noncomputable def fn_186 (g : aa_G)  : Int32 × aa_G := if (fn_172 (fn_167 g)) ≠ 0 then fn_186_20 g (fn_167 g) else if (fn_187 (fn_167 g)) = (-1) then fn_186_29 g else fn_186_20 g (fn_167 g)
theorem dn_186 {v : Option Value} {h : zz_H} {n : Nat} {g : aa_G}   (r : rn_s n 186 (0, zz_in [.ref 540] (zz_nl 186), [], aa_H g) v h) : iw_s v h (fn_186 g) := by
  have r : rn_s n 186 (0, [some (.ref 540), none], [], aa_H g) v h := r
  unfold fn_186
  obtain ⟨n1, ln1, r⟩ := rn_steps 0 (1, [some (.ref 540), none], [.ref 540], aa_H g) rfl r
  obtain ⟨_, n2, v1, h1, -, ln2, rc, r⟩ := rn_call (m2 := 167) (as := [.ref 540]) (rest := []) rfl rfl r
  obtain ⟨rfl, rfl⟩ := dn_167 rc
  have r : rn_s _ 186 (4, [some (.ref 540), none], [.int (fn_167 g)], aa_H g) v h := r
  obtain ⟨n4, ln4, r⟩ := rn_steps 1 (6, [some (.ref 540), some (.int (fn_167 g))], [.int (fn_167 g)], aa_H g) rfl r
  obtain ⟨_, n5, v1, h1, -, ln5, rc, r⟩ := rn_call (m2 := 172) (as := [.int (fn_167 g)]) (rest := []) rfl rfl r
  obtain ⟨rfl, rfl⟩ := dn_172 rc
  have r : rn_s _ 186 (9, [some (.ref 540), some (.int (fn_167 g))], [.int (fn_172 (fn_167 g))], aa_H g) v h := r
  refine rn_if (iw_s v h) rfl decide_eq_true_iff.symm r (fun c7 l8n l8 r => ?_) (fun c7 l8n l8 r => ?_)
  · exact dn_186_20 r
  · obtain ⟨n9, ln9, r⟩ := rn_steps 0 (13, [some (.ref 540), some (.int (fn_167 g))], [.int (fn_167 g)], aa_H g) rfl r
    obtain ⟨_, n10, v1, h1, -, ln10, rc, r⟩ := rn_call (m2 := 187) (as := [.int (fn_167 g)]) (rest := []) rfl rfl r
    obtain ⟨rfl, rfl⟩ := dn_187 rc
    have r : rn_s _ 186 (16, [some (.ref 540), some (.int (fn_167 g))], [.int (fn_187 (fn_167 g))], aa_H g) v h := r
    obtain ⟨n12, ln12, r⟩ := rn_steps 0 (17, [some (.ref 540), some (.int (fn_167 g))], [.int (-1), .int (fn_187 (fn_167 g))], aa_H g) rfl r
    refine rn_ic (iw_s v h) rfl decide_eq_true_iff.symm r (fun c13 l14n l14 r => ?_) (fun c13 l14n l14 r => ?_)
    · exact dn_186_29 (some (.int (fn_167 g))) rn_ji r
    · exact dn_186_20 r
-- 185: UnequalHoursModel readProduct
noncomputable def fn_185_59 (g : aa_G)  : aa_G ⊕ (Int32 × aa_G) := .inl g
theorem dn_185_59 {v : Option Value} {h : zz_H} {n : Nat} {g : aa_G}  (P : aa_G ⊕ (Int32 × aa_G) → Prop) (hO0 : ∀ n2, n2 < n → ∀ (yg : aa_G) (yx1 : Option Value) (_ : rn_jk yx1), rn_s n2 185 (9, [some (.ref 540), yx1], [], aa_H yg) v h → P (.inl yg)) (hR : ∀ E, iw_s v h E → P (.inr E))  (x1 : Option Value) (jx1 : rn_jk x1) (r : rn_s n 185 (59, [some (.ref 540), x1], [], aa_H g) v h) : P (fn_185_59 g) := by
  unfold fn_185_59
  obtain ⟨n32, ln32, r⟩ := rn_steps 0 (9, [some (.ref 540), x1], [], aa_H g) rfl r
  exact hO0 _ (by omega) g x1 jx1 r
noncomputable def fn_185_46 (g : aa_G) (b1 : Int32) (s0 : Int32) : aa_G ⊕ (Int32 × aa_G) := if s0 ≠ 0 then fn_185_59 (fn_188 g (200000 + b1)) else .inr (0, g)
theorem dn_185_46 {v : Option Value} {h : zz_H} {n : Nat} {g : aa_G} {b1 : Int32} {s0 : Int32} (P : aa_G ⊕ (Int32 × aa_G) → Prop) (hO0 : ∀ n2, n2 < n → ∀ (yg : aa_G) (yx1 : Option Value) (_ : rn_jk yx1), rn_s n2 185 (9, [some (.ref 540), yx1], [], aa_H yg) v h → P (.inl yg)) (hR : ∀ E, iw_s v h E → P (.inr E))  (r : rn_s n 185 (46, [some (.ref 540), some (.int b1)], [.int s0], aa_H g) v h) : P (fn_185_46 g b1 s0) := by
  unfold fn_185_46
  refine rn_if (P) rfl decide_eq_true_iff.symm r (fun c26 l27n l27 r => ?_) (fun c26 l27n l27 r => ?_)
  · obtain ⟨n28, ln28, r⟩ := rn_steps 3 (56, [some (.ref 540), some (.int b1)], [.int (200000 + b1), .ref 540], aa_H g) rfl r
    obtain ⟨_, n29, v1, h1, -, ln29, rc, r⟩ := rn_call (m2 := 188) (as := [.ref 540, .int (200000 + b1)]) (rest := []) rfl rfl r
    obtain ⟨rfl, rfl⟩ := dn_188 rc
    have r : rn_s _ 185 (59, [some (.ref 540), some (.int b1)], [], aa_H (fn_188 g (200000 + b1))) v h := r
    exact dn_185_59 (P) (fun n2 l2 => hO0 n2 (by omega)) (fun z hz => hR _ hz) (some (.int b1)) rn_ji r
  · obtain ⟨n31, ln31, r⟩ := rn_steps 0 (50, [some (.ref 540), some (.int b1)], [.int 0], aa_H g) rfl r
    exact hR _ (rn_ire rfl r)
noncomputable def fn_185_27 (g : aa_G)  : aa_G ⊕ (Int32 × aa_G) := fn_185_46 ((fn_186 (zz_w g 540 5 ((g 540 5) + 1))).2) (fn_167 g) ((fn_186 (zz_w g 540 5 ((g 540 5) + 1))).1)
theorem dn_185_27 {v : Option Value} {h : zz_H} {n : Nat} {g : aa_G}  (P : aa_G ⊕ (Int32 × aa_G) → Prop) (hO0 : ∀ n2, n2 < n → ∀ (yg : aa_G) (yx1 : Option Value) (_ : rn_jk yx1), rn_s n2 185 (9, [some (.ref 540), yx1], [], aa_H yg) v h → P (.inl yg)) (hR : ∀ E, iw_s v h E → P (.inr E))  (x1 : Option Value) (jx1 : rn_jk x1) (r : rn_s n 185 (27, [some (.ref 540), x1], [], aa_H g) v h) : P (fn_185_27 g) := by
  unfold fn_185_27
  obtain ⟨n20, ln20, r⟩ := rn_steps 0 (28, [some (.ref 540), x1], [.ref 540], aa_H g) rfl r
  obtain ⟨_, n21, v1, h1, -, ln21, rc, r⟩ := rn_call (m2 := 167) (as := [.ref 540]) (rest := []) rfl rfl r
  obtain ⟨rfl, rfl⟩ := dn_167 rc
  have r : rn_s _ 185 (31, [some (.ref 540), x1], [.int (fn_167 g)], aa_H g) v h := r
  obtain ⟨n23, ln23, r⟩ := rn_steps 7 (43, [some (.ref 540), some (.int (fn_167 g))], [.ref 540], aa_H (zz_w g 540 5 ((g 540 5) + 1))) rfl r
  obtain ⟨_, n24, v1, h1, -, ln24, rc, r⟩ := rn_call (m2 := 186) (as := [.ref 540]) (rest := []) rfl rfl r
  obtain ⟨rfl, rfl⟩ := dn_186 rc
  have r : rn_s _ 185 (46, [some (.ref 540), some (.int (fn_167 g))], [.int ((fn_186 (zz_w g 540 5 ((g 540 5) + 1))).1)], aa_H ((fn_186 (zz_w g 540 5 ((g 540 5) + 1))).2)) v h := r
  exact dn_185_46 (P) (fun n2 l2 => hO0 n2 (by omega)) (fun z hz => hR _ hz) r
noncomputable def fn_185_9b (g : aa_G)  : aa_G ⊕ (Int32 × aa_G) := if (fn_167 g) = 42 then fn_185_27 g else if (fn_167 g) ≠ 47 then .inr (1, g) else fn_185_27 g
noncomputable def fn_185_9 (g : aa_G)  : Int32 × aa_G := lp_f (0, g) (fun z : aa_G => fn_185_9b z) g
theorem dn_185_9l {v : Option Value} {h : zz_H} {N : Nat}  {d : Int32 × aa_G} : ∀ (n : Nat), n ≤ N → ∀ (g : aa_G) (x1 : Option Value) (jx1 : rn_jk x1), rn_s n 185 (9, [some (.ref 540), x1], [], aa_H g) v h → (iw_s v h) (lp_f d (fun z : aa_G => fn_185_9b z) g) := by
  generalize hf : (fun z : aa_G => fn_185_9b z) = f
  intro n
  induction n using Nat.strongRecOn with
  | _ n ih =>
    intro hN g x1 jx1 r
    refine lp_go ?_
    rw [← congrFun hf g]
    show lp_q (iw_s v h) d f (fn_185_9b g)
    unfold fn_185_9b
    obtain ⟨n7, ln7, r⟩ := rn_steps 0 (10, [some (.ref 540), x1], [.ref 540], aa_H g) rfl r
    obtain ⟨_, n8, v1, h1, -, ln8, rc, r⟩ := rn_call (m2 := 167) (as := [.ref 540]) (rest := []) rfl rfl r
    obtain ⟨rfl, rfl⟩ := dn_167 rc
    have r : rn_s _ 185 (13, [some (.ref 540), x1], [.int (fn_167 g)], aa_H g) v h := r
    obtain ⟨n10, ln10, r⟩ := rn_steps 0 (15, [some (.ref 540), x1], [.int 42, .int (fn_167 g)], aa_H g) rfl r
    refine rn_ic (lp_q (iw_s v h) d f) rfl decide_eq_true_iff.symm r (fun c11 l12n l12 r => ?_) (fun c11 l12n l12 r => ?_)
    · exact dn_185_27 (lp_q (iw_s v h) d f) (fun n2 l2 => ih n2 (by omega) (by omega)) (fun z hz => hz) x1 jx1 r
    · obtain ⟨n13, ln13, r⟩ := rn_steps 0 (19, [some (.ref 540), x1], [.ref 540], aa_H g) rfl r
      obtain ⟨_, n14, v1, h1, -, ln14, rc, r⟩ := rn_call (m2 := 167) (as := [.ref 540]) (rest := []) rfl rfl r
      obtain ⟨rfl, rfl⟩ := dn_167 rc
      have r : rn_s _ 185 (22, [some (.ref 540), x1], [.int (fn_167 g)], aa_H g) v h := r
      obtain ⟨n16, ln16, r⟩ := rn_steps 0 (24, [some (.ref 540), x1], [.int 47, .int (fn_167 g)], aa_H g) rfl r
      refine rn_ic (lp_q (iw_s v h) d f) rfl decide_eq_true_iff.symm r (fun c17 l18n l18 r => ?_) (fun c17 l18n l18 r => ?_)
      · obtain ⟨n19, ln19, r⟩ := rn_steps 0 (63, [some (.ref 540), x1], [.int 1], aa_H g) rfl r
        exact rn_ire rfl r
      · exact dn_185_27 (lp_q (iw_s v h) d f) (fun n2 l2 => ih n2 (by omega) (by omega)) (fun z hz => hz) x1 jx1 r
theorem dn_185_9 {v : Option Value} {h : zz_H} {n : Nat} {g : aa_G}   (x1 : Option Value) (jx1 : rn_jk x1) (r : rn_s n 185 (9, [some (.ref 540), x1], [], aa_H g) v h) : (iw_s v h) (fn_185_9 g) := dn_185_9l  n (Nat.le_refl n) g x1 jx1 r
noncomputable def fn_185_4 (g : aa_G) (s0 : Int32) : Int32 × aa_G := if s0 ≠ 0 then fn_185_9 g else (0, g)
theorem dn_185_4 {v : Option Value} {h : zz_H} {n : Nat} {g : aa_G} {s0 : Int32}  (x1 : Option Value) (jx1 : rn_jk x1) (r : rn_s n 185 (4, [some (.ref 540), x1], [.int s0], aa_H g) v h) : iw_s v h (fn_185_4 g s0) := by
  unfold fn_185_4
  refine rn_if (iw_s v h) rfl decide_eq_true_iff.symm r (fun c4 l5n l5 r => ?_) (fun c4 l5n l5 r => ?_)
  · exact dn_185_9 x1 jx1 r
  · obtain ⟨n6, ln6, r⟩ := rn_steps 0 (8, [some (.ref 540), x1], [.int 0], aa_H g) rfl r
    exact rn_ire rfl r
noncomputable def fn_185 (g : aa_G)  : Int32 × aa_G := fn_185_4 ((fn_186 g).2) ((fn_186 g).1)
theorem dn_185 {v : Option Value} {h : zz_H} {n : Nat} {g : aa_G}   (r : rn_s n 185 (0, zz_in [.ref 540] (zz_nl 185), [], aa_H g) v h) : iw_s v h (fn_185 g) := by
  have r : rn_s n 185 (0, [some (.ref 540), none], [], aa_H g) v h := r
  unfold fn_185
  obtain ⟨n1, ln1, r⟩ := rn_steps 0 (1, [some (.ref 540), none], [.ref 540], aa_H g) rfl r
  obtain ⟨_, n2, v1, h1, -, ln2, rc, r⟩ := rn_call (m2 := 186) (as := [.ref 540]) (rest := []) rfl rfl r
  obtain ⟨rfl, rfl⟩ := dn_186 rc
  have r : rn_s _ 185 (4, [some (.ref 540), none], [.int ((fn_186 g).1)], aa_H ((fn_186 g).2)) v h := r
  exact dn_185_4 none rn_jn r
-- 184: UnequalHoursModel readSum
noncomputable def fn_184_59 (g : aa_G)  : aa_G ⊕ (Int32 × aa_G) := .inl g
theorem dn_184_59 {v : Option Value} {h : zz_H} {n : Nat} {g : aa_G}  (P : aa_G ⊕ (Int32 × aa_G) → Prop) (hO0 : ∀ n2, n2 < n → ∀ (yg : aa_G) (yx1 : Option Value) (_ : rn_jk yx1), rn_s n2 184 (9, [some (.ref 540), yx1], [], aa_H yg) v h → P (.inl yg)) (hR : ∀ E, iw_s v h E → P (.inr E))  (x1 : Option Value) (jx1 : rn_jk x1) (r : rn_s n 184 (59, [some (.ref 540), x1], [], aa_H g) v h) : P (fn_184_59 g) := by
  unfold fn_184_59
  obtain ⟨n32, ln32, r⟩ := rn_steps 0 (9, [some (.ref 540), x1], [], aa_H g) rfl r
  exact hO0 _ (by omega) g x1 jx1 r
noncomputable def fn_184_46 (g : aa_G) (b1 : Int32) (s0 : Int32) : aa_G ⊕ (Int32 × aa_G) := if s0 ≠ 0 then fn_184_59 (fn_188 g (200000 + b1)) else .inr (0, g)
theorem dn_184_46 {v : Option Value} {h : zz_H} {n : Nat} {g : aa_G} {b1 : Int32} {s0 : Int32} (P : aa_G ⊕ (Int32 × aa_G) → Prop) (hO0 : ∀ n2, n2 < n → ∀ (yg : aa_G) (yx1 : Option Value) (_ : rn_jk yx1), rn_s n2 184 (9, [some (.ref 540), yx1], [], aa_H yg) v h → P (.inl yg)) (hR : ∀ E, iw_s v h E → P (.inr E))  (r : rn_s n 184 (46, [some (.ref 540), some (.int b1)], [.int s0], aa_H g) v h) : P (fn_184_46 g b1 s0) := by
  unfold fn_184_46
  refine rn_if (P) rfl decide_eq_true_iff.symm r (fun c26 l27n l27 r => ?_) (fun c26 l27n l27 r => ?_)
  · obtain ⟨n28, ln28, r⟩ := rn_steps 3 (56, [some (.ref 540), some (.int b1)], [.int (200000 + b1), .ref 540], aa_H g) rfl r
    obtain ⟨_, n29, v1, h1, -, ln29, rc, r⟩ := rn_call (m2 := 188) (as := [.ref 540, .int (200000 + b1)]) (rest := []) rfl rfl r
    obtain ⟨rfl, rfl⟩ := dn_188 rc
    have r : rn_s _ 184 (59, [some (.ref 540), some (.int b1)], [], aa_H (fn_188 g (200000 + b1))) v h := r
    exact dn_184_59 (P) (fun n2 l2 => hO0 n2 (by omega)) (fun z hz => hR _ hz) (some (.int b1)) rn_ji r
  · obtain ⟨n31, ln31, r⟩ := rn_steps 0 (50, [some (.ref 540), some (.int b1)], [.int 0], aa_H g) rfl r
    exact hR _ (rn_ire rfl r)
noncomputable def fn_184_27 (g : aa_G)  : aa_G ⊕ (Int32 × aa_G) := fn_184_46 ((fn_185 (zz_w g 540 5 ((g 540 5) + 1))).2) (fn_167 g) ((fn_185 (zz_w g 540 5 ((g 540 5) + 1))).1)
theorem dn_184_27 {v : Option Value} {h : zz_H} {n : Nat} {g : aa_G}  (P : aa_G ⊕ (Int32 × aa_G) → Prop) (hO0 : ∀ n2, n2 < n → ∀ (yg : aa_G) (yx1 : Option Value) (_ : rn_jk yx1), rn_s n2 184 (9, [some (.ref 540), yx1], [], aa_H yg) v h → P (.inl yg)) (hR : ∀ E, iw_s v h E → P (.inr E))  (x1 : Option Value) (jx1 : rn_jk x1) (r : rn_s n 184 (27, [some (.ref 540), x1], [], aa_H g) v h) : P (fn_184_27 g) := by
  unfold fn_184_27
  obtain ⟨n20, ln20, r⟩ := rn_steps 0 (28, [some (.ref 540), x1], [.ref 540], aa_H g) rfl r
  obtain ⟨_, n21, v1, h1, -, ln21, rc, r⟩ := rn_call (m2 := 167) (as := [.ref 540]) (rest := []) rfl rfl r
  obtain ⟨rfl, rfl⟩ := dn_167 rc
  have r : rn_s _ 184 (31, [some (.ref 540), x1], [.int (fn_167 g)], aa_H g) v h := r
  obtain ⟨n23, ln23, r⟩ := rn_steps 7 (43, [some (.ref 540), some (.int (fn_167 g))], [.ref 540], aa_H (zz_w g 540 5 ((g 540 5) + 1))) rfl r
  obtain ⟨_, n24, v1, h1, -, ln24, rc, r⟩ := rn_call (m2 := 185) (as := [.ref 540]) (rest := []) rfl rfl r
  obtain ⟨rfl, rfl⟩ := dn_185 rc
  have r : rn_s _ 184 (46, [some (.ref 540), some (.int (fn_167 g))], [.int ((fn_185 (zz_w g 540 5 ((g 540 5) + 1))).1)], aa_H ((fn_185 (zz_w g 540 5 ((g 540 5) + 1))).2)) v h := r
  exact dn_184_46 (P) (fun n2 l2 => hO0 n2 (by omega)) (fun z hz => hR _ hz) r
noncomputable def fn_184_9b (g : aa_G)  : aa_G ⊕ (Int32 × aa_G) := if (fn_167 g) = 43 then fn_184_27 g else if (fn_167 g) ≠ 45 then .inr (1, g) else fn_184_27 g
noncomputable def fn_184_9 (g : aa_G)  : Int32 × aa_G := lp_f (0, g) (fun z : aa_G => fn_184_9b z) g
theorem dn_184_9l {v : Option Value} {h : zz_H} {N : Nat}  {d : Int32 × aa_G} : ∀ (n : Nat), n ≤ N → ∀ (g : aa_G) (x1 : Option Value) (jx1 : rn_jk x1), rn_s n 184 (9, [some (.ref 540), x1], [], aa_H g) v h → (iw_s v h) (lp_f d (fun z : aa_G => fn_184_9b z) g) := by
  generalize hf : (fun z : aa_G => fn_184_9b z) = f
  intro n
  induction n using Nat.strongRecOn with
  | _ n ih =>
    intro hN g x1 jx1 r
    refine lp_go ?_
    rw [← congrFun hf g]
    show lp_q (iw_s v h) d f (fn_184_9b g)
    unfold fn_184_9b
    obtain ⟨n7, ln7, r⟩ := rn_steps 0 (10, [some (.ref 540), x1], [.ref 540], aa_H g) rfl r
    obtain ⟨_, n8, v1, h1, -, ln8, rc, r⟩ := rn_call (m2 := 167) (as := [.ref 540]) (rest := []) rfl rfl r
    obtain ⟨rfl, rfl⟩ := dn_167 rc
    have r : rn_s _ 184 (13, [some (.ref 540), x1], [.int (fn_167 g)], aa_H g) v h := r
    obtain ⟨n10, ln10, r⟩ := rn_steps 0 (15, [some (.ref 540), x1], [.int 43, .int (fn_167 g)], aa_H g) rfl r
    refine rn_ic (lp_q (iw_s v h) d f) rfl decide_eq_true_iff.symm r (fun c11 l12n l12 r => ?_) (fun c11 l12n l12 r => ?_)
    · exact dn_184_27 (lp_q (iw_s v h) d f) (fun n2 l2 => ih n2 (by omega) (by omega)) (fun z hz => hz) x1 jx1 r
    · obtain ⟨n13, ln13, r⟩ := rn_steps 0 (19, [some (.ref 540), x1], [.ref 540], aa_H g) rfl r
      obtain ⟨_, n14, v1, h1, -, ln14, rc, r⟩ := rn_call (m2 := 167) (as := [.ref 540]) (rest := []) rfl rfl r
      obtain ⟨rfl, rfl⟩ := dn_167 rc
      have r : rn_s _ 184 (22, [some (.ref 540), x1], [.int (fn_167 g)], aa_H g) v h := r
      obtain ⟨n16, ln16, r⟩ := rn_steps 0 (24, [some (.ref 540), x1], [.int 45, .int (fn_167 g)], aa_H g) rfl r
      refine rn_ic (lp_q (iw_s v h) d f) rfl decide_eq_true_iff.symm r (fun c17 l18n l18 r => ?_) (fun c17 l18n l18 r => ?_)
      · obtain ⟨n19, ln19, r⟩ := rn_steps 0 (63, [some (.ref 540), x1], [.int 1], aa_H g) rfl r
        exact rn_ire rfl r
      · exact dn_184_27 (lp_q (iw_s v h) d f) (fun n2 l2 => ih n2 (by omega) (by omega)) (fun z hz => hz) x1 jx1 r
theorem dn_184_9 {v : Option Value} {h : zz_H} {n : Nat} {g : aa_G}   (x1 : Option Value) (jx1 : rn_jk x1) (r : rn_s n 184 (9, [some (.ref 540), x1], [], aa_H g) v h) : (iw_s v h) (fn_184_9 g) := dn_184_9l  n (Nat.le_refl n) g x1 jx1 r
noncomputable def fn_184_4 (g : aa_G) (s0 : Int32) : Int32 × aa_G := if s0 ≠ 0 then fn_184_9 g else (0, g)
theorem dn_184_4 {v : Option Value} {h : zz_H} {n : Nat} {g : aa_G} {s0 : Int32}  (x1 : Option Value) (jx1 : rn_jk x1) (r : rn_s n 184 (4, [some (.ref 540), x1], [.int s0], aa_H g) v h) : iw_s v h (fn_184_4 g s0) := by
  unfold fn_184_4
  refine rn_if (iw_s v h) rfl decide_eq_true_iff.symm r (fun c4 l5n l5 r => ?_) (fun c4 l5n l5 r => ?_)
  · exact dn_184_9 x1 jx1 r
  · obtain ⟨n6, ln6, r⟩ := rn_steps 0 (8, [some (.ref 540), x1], [.int 0], aa_H g) rfl r
    exact rn_ire rfl r
noncomputable def fn_184 (g : aa_G)  : Int32 × aa_G := fn_184_4 ((fn_185 g).2) ((fn_185 g).1)
theorem dn_184 {v : Option Value} {h : zz_H} {n : Nat} {g : aa_G}   (r : rn_s n 184 (0, zz_in [.ref 540] (zz_nl 184), [], aa_H g) v h) : iw_s v h (fn_184 g) := by
  have r : rn_s n 184 (0, [some (.ref 540), none], [], aa_H g) v h := r
  unfold fn_184
  obtain ⟨n1, ln1, r⟩ := rn_steps 0 (1, [some (.ref 540), none], [.ref 540], aa_H g) rfl r
  obtain ⟨_, n2, v1, h1, -, ln2, rc, r⟩ := rn_call (m2 := 185) (as := [.ref 540]) (rest := []) rfl rfl r
  obtain ⟨rfl, rfl⟩ := dn_185 rc
  have r : rn_s _ 184 (4, [some (.ref 540), none], [.int ((fn_185 g).1)], aa_H ((fn_185 g).2)) v h := r
  exact dn_184_4 none rn_jn r
-- 183: UnequalHoursModel readTest
noncomputable def fn_183_55 (g : aa_G) (b1 : Int32) (s0 : Int32) : Int32 × aa_G := if s0 ≠ 0 then (1, fn_188 g (200000 + b1)) else (0, g)
theorem dn_183_55 {v : Option Value} {h : zz_H} {n : Nat} {g : aa_G} {b1 : Int32} {s0 : Int32}  (r : rn_s n 183 (55, [some (.ref 540), some (.int b1)], [.int s0], aa_H g) v h) : iw_s v h (fn_183_55 g b1 s0) := by
  unfold fn_183_55
  refine rn_if (iw_s v h) rfl decide_eq_true_iff.symm r (fun c25 l26n l26 r => ?_) (fun c25 l26n l26 r => ?_)
  · obtain ⟨n27, ln27, r⟩ := rn_steps 3 (65, [some (.ref 540), some (.int b1)], [.int (200000 + b1), .ref 540], aa_H g) rfl r
    obtain ⟨_, n28, v1, h1, -, ln28, rc, r⟩ := rn_call (m2 := 188) (as := [.ref 540, .int (200000 + b1)]) (rest := []) rfl rfl r
    obtain ⟨rfl, rfl⟩ := dn_188 rc
    have r : rn_s _ 183 (68, [some (.ref 540), some (.int b1)], [], aa_H (fn_188 g (200000 + b1))) v h := r
    obtain ⟨n30, ln30, r⟩ := rn_steps 0 (69, [some (.ref 540), some (.int b1)], [.int 1], aa_H (fn_188 g (200000 + b1))) rfl r
    exact rn_ire rfl r
  · obtain ⟨n31, ln31, r⟩ := rn_steps 0 (59, [some (.ref 540), some (.int b1)], [.int 0], aa_H g) rfl r
    exact rn_ire rfl r
noncomputable def fn_183_41 (g : aa_G) (b1 : Int32) : Int32 × aa_G := fn_183_55 ((fn_184 (zz_w g 540 5 ((g 540 5) + 1))).2) b1 ((fn_184 (zz_w g 540 5 ((g 540 5) + 1))).1)
theorem dn_183_41 {v : Option Value} {h : zz_H} {n : Nat} {g : aa_G} {b1 : Int32}  (r : rn_s n 183 (41, [some (.ref 540), some (.int b1)], [], aa_H g) v h) : iw_s v h (fn_183_41 g b1) := by
  unfold fn_183_41
  obtain ⟨n22, ln22, r⟩ := rn_steps 6 (52, [some (.ref 540), some (.int b1)], [.ref 540], aa_H (zz_w g 540 5 ((g 540 5) + 1))) rfl r
  obtain ⟨_, n23, v1, h1, -, ln23, rc, r⟩ := rn_call (m2 := 184) (as := [.ref 540]) (rest := []) rfl rfl r
  obtain ⟨rfl, rfl⟩ := dn_184 rc
  have r : rn_s _ 183 (55, [some (.ref 540), some (.int b1)], [.int ((fn_184 (zz_w g 540 5 ((g 540 5) + 1))).1)], aa_H ((fn_184 (zz_w g 540 5 ((g 540 5) + 1))).2)) v h := r
  exact dn_183_55 r
noncomputable def fn_183_4 (g : aa_G) (s0 : Int32) : Int32 × aa_G := if s0 ≠ 0 then if (fn_167 g) = 60 then fn_183_41 g (fn_167 g) else if (fn_167 g) = 62 then fn_183_41 g (fn_167 g) else if (fn_167 g) = 61 then fn_183_41 g (fn_167 g) else ((fn_169 g (g 540 5)).1, (fn_169 g (g 540 5)).2) else (0, g)
theorem dn_183_4 {v : Option Value} {h : zz_H} {n : Nat} {g : aa_G} {s0 : Int32}  (x1 : Option Value) (jx1 : rn_jk x1) (r : rn_s n 183 (4, [some (.ref 540), x1], [.int s0], aa_H g) v h) : iw_s v h (fn_183_4 g s0) := by
  unfold fn_183_4
  refine rn_if (iw_s v h) rfl decide_eq_true_iff.symm r (fun c4 l5n l5 r => ?_) (fun c4 l5n l5 r => ?_)
  · obtain ⟨n6, ln6, r⟩ := rn_steps 0 (10, [some (.ref 540), x1], [.ref 540], aa_H g) rfl r
    obtain ⟨_, n7, v1, h1, -, ln7, rc, r⟩ := rn_call (m2 := 167) (as := [.ref 540]) (rest := []) rfl rfl r
    obtain ⟨rfl, rfl⟩ := dn_167 rc
    have r : rn_s _ 183 (13, [some (.ref 540), x1], [.int (fn_167 g)], aa_H g) v h := r
    obtain ⟨n9, ln9, r⟩ := rn_steps 2 (17, [some (.ref 540), some (.int (fn_167 g))], [.int 60, .int (fn_167 g)], aa_H g) rfl r
    refine rn_ic (iw_s v h) rfl decide_eq_true_iff.symm r (fun c10 l11n l11 r => ?_) (fun c10 l11n l11 r => ?_)
    · exact dn_183_41 r
    · obtain ⟨n12, ln12, r⟩ := rn_steps 1 (23, [some (.ref 540), some (.int (fn_167 g))], [.int 62, .int (fn_167 g)], aa_H g) rfl r
      refine rn_ic (iw_s v h) rfl decide_eq_true_iff.symm r (fun c13 l14n l14 r => ?_) (fun c13 l14n l14 r => ?_)
      · exact dn_183_41 r
      · obtain ⟨n15, ln15, r⟩ := rn_steps 1 (29, [some (.ref 540), some (.int (fn_167 g))], [.int 61, .int (fn_167 g)], aa_H g) rfl r
        refine rn_ic (iw_s v h) rfl decide_eq_true_iff.symm r (fun c16 l17n l17 r => ?_) (fun c16 l17n l17 r => ?_)
        · exact dn_183_41 r
        · obtain ⟨n18, ln18, r⟩ := rn_steps 2 (37, [some (.ref 540), some (.int (fn_167 g))], [.int (g 540 5), .ref 540], aa_H g) rfl r
          obtain ⟨_, n19, v1, h1, -, ln19, rc, r⟩ := rn_call (m2 := 169) (as := [.ref 540, .int (g 540 5)]) (rest := []) rfl rfl r
          obtain ⟨rfl, rfl⟩ := dn_169 rc
          have r : rn_s _ 183 (40, [some (.ref 540), some (.int (fn_167 g))], [.int ((fn_169 g (g 540 5)).1)], aa_H ((fn_169 g (g 540 5)).2)) v h := r
          exact rn_ire rfl r
  · obtain ⟨n21, ln21, r⟩ := rn_steps 0 (8, [some (.ref 540), x1], [.int 0], aa_H g) rfl r
    exact rn_ire rfl r
noncomputable def fn_183 (g : aa_G)  : Int32 × aa_G := fn_183_4 ((fn_184 g).2) ((fn_184 g).1)
theorem dn_183 {v : Option Value} {h : zz_H} {n : Nat} {g : aa_G}   (r : rn_s n 183 (0, zz_in [.ref 540] (zz_nl 183), [], aa_H g) v h) : iw_s v h (fn_183 g) := by
  have r : rn_s n 183 (0, [some (.ref 540), none], [], aa_H g) v h := r
  unfold fn_183
  obtain ⟨n1, ln1, r⟩ := rn_steps 0 (1, [some (.ref 540), none], [.ref 540], aa_H g) rfl r
  obtain ⟨_, n2, v1, h1, -, ln2, rc, r⟩ := rn_call (m2 := 184) (as := [.ref 540]) (rest := []) rfl rfl r
  obtain ⟨rfl, rfl⟩ := dn_184 rc
  have r : rn_s _ 183 (4, [some (.ref 540), none], [.int ((fn_184 g).1)], aa_H ((fn_184 g).2)) v h := r
  exact dn_183_4 none rn_jn r
-- 182: UnequalHoursModel readBoth
noncomputable def fn_182_43 (g : aa_G)  : aa_G ⊕ (Int32 × aa_G) := .inl g
theorem dn_182_43 {v : Option Value} {h : zz_H} {n : Nat} {g : aa_G}  (P : aa_G ⊕ (Int32 × aa_G) → Prop) (hO0 : ∀ n2, n2 < n → ∀ (yg : aa_G), rn_s n2 182 (9, [some (.ref 540)], [], aa_H yg) v h → P (.inl yg)) (hR : ∀ E, iw_s v h E → P (.inr E))  (r : rn_s n 182 (43, [some (.ref 540)], [], aa_H g) v h) : P (fn_182_43 g) := by
  unfold fn_182_43
  obtain ⟨n23, ln23, r⟩ := rn_steps 0 (9, [some (.ref 540)], [], aa_H g) rfl r
  exact hO0 _ (by omega) g r
noncomputable def fn_182_32 (g : aa_G) (s0 : Int32) : aa_G ⊕ (Int32 × aa_G) := if s0 ≠ 0 then fn_182_43 (fn_188 g 200038) else .inr (0, g)
theorem dn_182_32 {v : Option Value} {h : zz_H} {n : Nat} {g : aa_G} {s0 : Int32} (P : aa_G ⊕ (Int32 × aa_G) → Prop) (hO0 : ∀ n2, n2 < n → ∀ (yg : aa_G), rn_s n2 182 (9, [some (.ref 540)], [], aa_H yg) v h → P (.inl yg)) (hR : ∀ E, iw_s v h E → P (.inr E))  (r : rn_s n 182 (32, [some (.ref 540)], [.int s0], aa_H g) v h) : P (fn_182_32 g s0) := by
  unfold fn_182_32
  refine rn_if (P) rfl decide_eq_true_iff.symm r (fun c17 l18n l18 r => ?_) (fun c17 l18n l18 r => ?_)
  · obtain ⟨n19, ln19, r⟩ := rn_steps 1 (40, [some (.ref 540)], [.int 200038, .ref 540], aa_H g) rfl r
    obtain ⟨_, n20, v1, h1, -, ln20, rc, r⟩ := rn_call (m2 := 188) (as := [.ref 540, .int 200038]) (rest := []) rfl rfl r
    obtain ⟨rfl, rfl⟩ := dn_188 rc
    have r : rn_s _ 182 (43, [some (.ref 540)], [], aa_H (fn_188 g 200038)) v h := r
    exact dn_182_43 (P) (fun n2 l2 => hO0 n2 (by omega)) (fun z hz => hR _ hz) r
  · obtain ⟨n22, ln22, r⟩ := rn_steps 0 (36, [some (.ref 540)], [.int 0], aa_H g) rfl r
    exact hR _ (rn_ire rfl r)
noncomputable def fn_182_9b (g : aa_G)  : aa_G ⊕ (Int32 × aa_G) := if (fn_167 g) ≠ 38 then .inr (1, g) else fn_182_32 ((fn_183 (zz_w g 540 5 ((g 540 5) + 1))).2) ((fn_183 (zz_w g 540 5 ((g 540 5) + 1))).1)
noncomputable def fn_182_9 (g : aa_G)  : Int32 × aa_G := lp_f (0, g) (fun z : aa_G => fn_182_9b z) g
theorem dn_182_9l {v : Option Value} {h : zz_H} {N : Nat}  {d : Int32 × aa_G} : ∀ (n : Nat), n ≤ N → ∀ (g : aa_G), rn_s n 182 (9, [some (.ref 540)], [], aa_H g) v h → (iw_s v h) (lp_f d (fun z : aa_G => fn_182_9b z) g) := by
  generalize hf : (fun z : aa_G => fn_182_9b z) = f
  intro n
  induction n using Nat.strongRecOn with
  | _ n ih =>
    intro hN g  r
    refine lp_go ?_
    rw [← congrFun hf g]
    show lp_q (iw_s v h) d f (fn_182_9b g)
    unfold fn_182_9b
    obtain ⟨n7, ln7, r⟩ := rn_steps 0 (10, [some (.ref 540)], [.ref 540], aa_H g) rfl r
    obtain ⟨_, n8, v1, h1, -, ln8, rc, r⟩ := rn_call (m2 := 167) (as := [.ref 540]) (rest := []) rfl rfl r
    obtain ⟨rfl, rfl⟩ := dn_167 rc
    have r : rn_s _ 182 (13, [some (.ref 540)], [.int (fn_167 g)], aa_H g) v h := r
    obtain ⟨n10, ln10, r⟩ := rn_steps 0 (15, [some (.ref 540)], [.int 38, .int (fn_167 g)], aa_H g) rfl r
    refine rn_ic (lp_q (iw_s v h) d f) rfl decide_eq_true_iff.symm r (fun c11 l12n l12 r => ?_) (fun c11 l12n l12 r => ?_)
    · obtain ⟨n13, ln13, r⟩ := rn_steps 0 (47, [some (.ref 540)], [.int 1], aa_H g) rfl r
      exact rn_ire rfl r
    · obtain ⟨n14, ln14, r⟩ := rn_steps 6 (29, [some (.ref 540)], [.ref 540], aa_H (zz_w g 540 5 ((g 540 5) + 1))) rfl r
      obtain ⟨_, n15, v1, h1, -, ln15, rc, r⟩ := rn_call (m2 := 183) (as := [.ref 540]) (rest := []) rfl rfl r
      obtain ⟨rfl, rfl⟩ := dn_183 rc
      have r : rn_s _ 182 (32, [some (.ref 540)], [.int ((fn_183 (zz_w g 540 5 ((g 540 5) + 1))).1)], aa_H ((fn_183 (zz_w g 540 5 ((g 540 5) + 1))).2)) v h := r
      exact dn_182_32 (lp_q (iw_s v h) d f) (fun n2 l2 => ih n2 (by omega) (by omega)) (fun z hz => hz) r
theorem dn_182_9 {v : Option Value} {h : zz_H} {n : Nat} {g : aa_G}   (r : rn_s n 182 (9, [some (.ref 540)], [], aa_H g) v h) : (iw_s v h) (fn_182_9 g) := dn_182_9l  n (Nat.le_refl n) g r
noncomputable def fn_182_4 (g : aa_G) (s0 : Int32) : Int32 × aa_G := if s0 ≠ 0 then fn_182_9 g else (0, g)
theorem dn_182_4 {v : Option Value} {h : zz_H} {n : Nat} {g : aa_G} {s0 : Int32}  (r : rn_s n 182 (4, [some (.ref 540)], [.int s0], aa_H g) v h) : iw_s v h (fn_182_4 g s0) := by
  unfold fn_182_4
  refine rn_if (iw_s v h) rfl decide_eq_true_iff.symm r (fun c4 l5n l5 r => ?_) (fun c4 l5n l5 r => ?_)
  · exact dn_182_9 r
  · obtain ⟨n6, ln6, r⟩ := rn_steps 0 (8, [some (.ref 540)], [.int 0], aa_H g) rfl r
    exact rn_ire rfl r
noncomputable def fn_182 (g : aa_G)  : Int32 × aa_G := fn_182_4 ((fn_183 g).2) ((fn_183 g).1)
theorem dn_182 {v : Option Value} {h : zz_H} {n : Nat} {g : aa_G}   (r : rn_s n 182 (0, zz_in [.ref 540] (zz_nl 182), [], aa_H g) v h) : iw_s v h (fn_182 g) := by
  have r : rn_s n 182 (0, [some (.ref 540)], [], aa_H g) v h := r
  unfold fn_182
  obtain ⟨n1, ln1, r⟩ := rn_steps 0 (1, [some (.ref 540)], [.ref 540], aa_H g) rfl r
  obtain ⟨_, n2, v1, h1, -, ln2, rc, r⟩ := rn_call (m2 := 183) (as := [.ref 540]) (rest := []) rfl rfl r
  obtain ⟨rfl, rfl⟩ := dn_183 rc
  have r : rn_s _ 182 (4, [some (.ref 540)], [.int ((fn_183 g).1)], aa_H ((fn_183 g).2)) v h := r
  exact dn_182_4 r
-- 181: UnequalHoursModel readCond
noncomputable def fn_181_43 (g : aa_G)  : aa_G ⊕ (Int32 × aa_G) := .inl g
theorem dn_181_43 {v : Option Value} {h : zz_H} {n : Nat} {g : aa_G}  (P : aa_G ⊕ (Int32 × aa_G) → Prop) (hO0 : ∀ n2, n2 < n → ∀ (yg : aa_G), rn_s n2 181 (9, [some (.ref 540)], [], aa_H yg) v h → P (.inl yg)) (hR : ∀ E, iw_s v h E → P (.inr E))  (r : rn_s n 181 (43, [some (.ref 540)], [], aa_H g) v h) : P (fn_181_43 g) := by
  unfold fn_181_43
  obtain ⟨n23, ln23, r⟩ := rn_steps 0 (9, [some (.ref 540)], [], aa_H g) rfl r
  exact hO0 _ (by omega) g r
noncomputable def fn_181_32 (g : aa_G) (s0 : Int32) : aa_G ⊕ (Int32 × aa_G) := if s0 ≠ 0 then fn_181_43 (fn_188 g 200124) else .inr (0, g)
theorem dn_181_32 {v : Option Value} {h : zz_H} {n : Nat} {g : aa_G} {s0 : Int32} (P : aa_G ⊕ (Int32 × aa_G) → Prop) (hO0 : ∀ n2, n2 < n → ∀ (yg : aa_G), rn_s n2 181 (9, [some (.ref 540)], [], aa_H yg) v h → P (.inl yg)) (hR : ∀ E, iw_s v h E → P (.inr E))  (r : rn_s n 181 (32, [some (.ref 540)], [.int s0], aa_H g) v h) : P (fn_181_32 g s0) := by
  unfold fn_181_32
  refine rn_if (P) rfl decide_eq_true_iff.symm r (fun c17 l18n l18 r => ?_) (fun c17 l18n l18 r => ?_)
  · obtain ⟨n19, ln19, r⟩ := rn_steps 1 (40, [some (.ref 540)], [.int 200124, .ref 540], aa_H g) rfl r
    obtain ⟨_, n20, v1, h1, -, ln20, rc, r⟩ := rn_call (m2 := 188) (as := [.ref 540, .int 200124]) (rest := []) rfl rfl r
    obtain ⟨rfl, rfl⟩ := dn_188 rc
    have r : rn_s _ 181 (43, [some (.ref 540)], [], aa_H (fn_188 g 200124)) v h := r
    exact dn_181_43 (P) (fun n2 l2 => hO0 n2 (by omega)) (fun z hz => hR _ hz) r
  · obtain ⟨n22, ln22, r⟩ := rn_steps 0 (36, [some (.ref 540)], [.int 0], aa_H g) rfl r
    exact hR _ (rn_ire rfl r)
noncomputable def fn_181_9b (g : aa_G)  : aa_G ⊕ (Int32 × aa_G) := if (fn_167 g) ≠ 124 then .inr (1, g) else fn_181_32 ((fn_182 (zz_w g 540 5 ((g 540 5) + 1))).2) ((fn_182 (zz_w g 540 5 ((g 540 5) + 1))).1)
noncomputable def fn_181_9 (g : aa_G)  : Int32 × aa_G := lp_f (0, g) (fun z : aa_G => fn_181_9b z) g
theorem dn_181_9l {v : Option Value} {h : zz_H} {N : Nat}  {d : Int32 × aa_G} : ∀ (n : Nat), n ≤ N → ∀ (g : aa_G), rn_s n 181 (9, [some (.ref 540)], [], aa_H g) v h → (iw_s v h) (lp_f d (fun z : aa_G => fn_181_9b z) g) := by
  generalize hf : (fun z : aa_G => fn_181_9b z) = f
  intro n
  induction n using Nat.strongRecOn with
  | _ n ih =>
    intro hN g  r
    refine lp_go ?_
    rw [← congrFun hf g]
    show lp_q (iw_s v h) d f (fn_181_9b g)
    unfold fn_181_9b
    obtain ⟨n7, ln7, r⟩ := rn_steps 0 (10, [some (.ref 540)], [.ref 540], aa_H g) rfl r
    obtain ⟨_, n8, v1, h1, -, ln8, rc, r⟩ := rn_call (m2 := 167) (as := [.ref 540]) (rest := []) rfl rfl r
    obtain ⟨rfl, rfl⟩ := dn_167 rc
    have r : rn_s _ 181 (13, [some (.ref 540)], [.int (fn_167 g)], aa_H g) v h := r
    obtain ⟨n10, ln10, r⟩ := rn_steps 0 (15, [some (.ref 540)], [.int 124, .int (fn_167 g)], aa_H g) rfl r
    refine rn_ic (lp_q (iw_s v h) d f) rfl decide_eq_true_iff.symm r (fun c11 l12n l12 r => ?_) (fun c11 l12n l12 r => ?_)
    · obtain ⟨n13, ln13, r⟩ := rn_steps 0 (47, [some (.ref 540)], [.int 1], aa_H g) rfl r
      exact rn_ire rfl r
    · obtain ⟨n14, ln14, r⟩ := rn_steps 6 (29, [some (.ref 540)], [.ref 540], aa_H (zz_w g 540 5 ((g 540 5) + 1))) rfl r
      obtain ⟨_, n15, v1, h1, -, ln15, rc, r⟩ := rn_call (m2 := 182) (as := [.ref 540]) (rest := []) rfl rfl r
      obtain ⟨rfl, rfl⟩ := dn_182 rc
      have r : rn_s _ 181 (32, [some (.ref 540)], [.int ((fn_182 (zz_w g 540 5 ((g 540 5) + 1))).1)], aa_H ((fn_182 (zz_w g 540 5 ((g 540 5) + 1))).2)) v h := r
      exact dn_181_32 (lp_q (iw_s v h) d f) (fun n2 l2 => ih n2 (by omega) (by omega)) (fun z hz => hz) r
theorem dn_181_9 {v : Option Value} {h : zz_H} {n : Nat} {g : aa_G}   (r : rn_s n 181 (9, [some (.ref 540)], [], aa_H g) v h) : (iw_s v h) (fn_181_9 g) := dn_181_9l  n (Nat.le_refl n) g r
noncomputable def fn_181_4 (g : aa_G) (s0 : Int32) : Int32 × aa_G := if s0 ≠ 0 then fn_181_9 g else (0, g)
theorem dn_181_4 {v : Option Value} {h : zz_H} {n : Nat} {g : aa_G} {s0 : Int32}  (r : rn_s n 181 (4, [some (.ref 540)], [.int s0], aa_H g) v h) : iw_s v h (fn_181_4 g s0) := by
  unfold fn_181_4
  refine rn_if (iw_s v h) rfl decide_eq_true_iff.symm r (fun c4 l5n l5 r => ?_) (fun c4 l5n l5 r => ?_)
  · exact dn_181_9 r
  · obtain ⟨n6, ln6, r⟩ := rn_steps 0 (8, [some (.ref 540)], [.int 0], aa_H g) rfl r
    exact rn_ire rfl r
noncomputable def fn_181 (g : aa_G)  : Int32 × aa_G := fn_181_4 ((fn_182 g).2) ((fn_182 g).1)
theorem dn_181 {v : Option Value} {h : zz_H} {n : Nat} {g : aa_G}   (r : rn_s n 181 (0, zz_in [.ref 540] (zz_nl 181), [], aa_H g) v h) : iw_s v h (fn_181 g) := by
  have r : rn_s n 181 (0, [some (.ref 540)], [], aa_H g) v h := r
  unfold fn_181
  obtain ⟨n1, ln1, r⟩ := rn_steps 0 (1, [some (.ref 540)], [.ref 540], aa_H g) rfl r
  obtain ⟨_, n2, v1, h1, -, ln2, rc, r⟩ := rn_call (m2 := 182) (as := [.ref 540]) (rest := []) rfl rfl r
  obtain ⟨rfl, rfl⟩ := dn_182 rc
  have r : rn_s _ 181 (4, [some (.ref 540)], [.int ((fn_182 g).1)], aa_H ((fn_182 g).2)) v h := r
  exact dn_181_4 r
-- 180: UnequalHoursModel readPlain
noncomputable def fn_180_29 (g : aa_G) (s0 : Int32) : Int32 × aa_G := if s0 = 0 then (0, g) else (1, g)
theorem dn_180_29 {v : Option Value} {h : zz_H} {n : Nat} {g : aa_G} {s0 : Int32}  (x0 x1 x2 x3 : Option Value) (jx0 : rn_jk x0) (jx1 : rn_jk x1) (jx2 : rn_jk x2) (jx3 : rn_jk x3) (r : rn_s n 180 (29, [x0, x1, x2, x3], [.int s0], aa_H g) v h) : iw_s v h (fn_180_29 g s0) := by
  unfold fn_180_29
  refine rn_if (iw_s v h) rfl decide_eq_true_iff.symm r (fun c16 l17n l17 r => ?_) (fun c16 l17n l17 r => ?_)
  · obtain ⟨n18, ln18, r⟩ := rn_steps 0 (37, [x0, x1, x2, x3], [.int 0], aa_H g) rfl r
    exact rn_ire rfl r
  · obtain ⟨n19, ln19, r⟩ := rn_steps 1 (37, [x0, x1, x2, x3], [.int 1], aa_H g) rfl r
    exact rn_ire rfl r
noncomputable def fn_180_9 (g : aa_G) (b1 : Int32) (b2 : Int32) (b3 : Int32) (s0 : Int32) : Int32 × aa_G := if s0 = 0 then (0, g) else if (fn_154 (g 540 7) b1 b2) ≠ 0 then (1, g) else fn_180_29 ((fn_169 g b3).2) ((fn_169 g b3).1)
theorem dn_180_9 {v : Option Value} {h : zz_H} {n : Nat} {g : aa_G} {b1 : Int32} {b2 : Int32} {b3 : Int32} {s0 : Int32}  (r : rn_s n 180 (9, [some (.ref 540), some (.int b1), some (.int b2), some (.int b3)], [.int s0], aa_H g) v h) : iw_s v h (fn_180_9 g b1 b2 b3 s0) := by
  unfold fn_180_9
  refine rn_if (iw_s v h) rfl decide_eq_true_iff.symm r (fun c4 l5n l5 r => ?_) (fun c4 l5n l5 r => ?_)
  · obtain ⟨n6, ln6, r⟩ := rn_steps 0 (37, [some (.ref 540), some (.int b1), some (.int b2), some (.int b3)], [.int 0], aa_H g) rfl r
    exact rn_ire rfl r
  · obtain ⟨n7, ln7, r⟩ := rn_steps 3 (18, [some (.ref 540), some (.int b1), some (.int b2), some (.int b3)], [.int b2, .int b1, .int (g 540 7)], aa_H g) rfl r
    obtain ⟨_, n8, v1, h1, -, ln8, rc, r⟩ := rn_call (m2 := 154) (as := [.int (g 540 7), .int b1, .int b2]) (rest := []) rfl rfl r
    obtain ⟨rfl, rfl⟩ := dn_154 rc
    have r : rn_s _ 180 (21, [some (.ref 540), some (.int b1), some (.int b2), some (.int b3)], [.int (fn_154 (g 540 7) b1 b2)], aa_H g) v h := r
    refine rn_if (iw_s v h) rfl decide_eq_true_iff.symm r (fun c10 l11n l11 r => ?_) (fun c10 l11n l11 r => ?_)
    · obtain ⟨n12, ln12, r⟩ := rn_steps 1 (37, [some (.ref 540), some (.int b1), some (.int b2), some (.int b3)], [.int 1], aa_H g) rfl r
      exact rn_ire rfl r
    · obtain ⟨n13, ln13, r⟩ := rn_steps 1 (26, [some (.ref 540), some (.int b1), some (.int b2), some (.int b3)], [.int b3, .ref 540], aa_H g) rfl r
      obtain ⟨_, n14, v1, h1, -, ln14, rc, r⟩ := rn_call (m2 := 169) (as := [.ref 540, .int b3]) (rest := []) rfl rfl r
      obtain ⟨rfl, rfl⟩ := dn_169 rc
      have r : rn_s _ 180 (29, [some (.ref 540), some (.int b1), some (.int b2), some (.int b3)], [.int ((fn_169 g b3).1)], aa_H ((fn_169 g b3).2)) v h := r
      exact dn_180_29 (some (.ref 540)) (some (.int b1)) (some (.int b2)) (some (.int b3)) rn_jr rn_ji rn_ji rn_ji r
noncomputable def fn_180 (g : aa_G) (a1 : Int32) (a2 : Int32) : Int32 × aa_G := fn_180_9 ((fn_171 g).2) a1 a2 (g 540 5) ((fn_171 g).1)
theorem dn_180 {v : Option Value} {h : zz_H} {n : Nat} {g : aa_G} {a1 : Int32} {a2 : Int32}  (r : rn_s n 180 (0, zz_in [.ref 540, .int a1, .int a2] (zz_nl 180), [], aa_H g) v h) : iw_s v h (fn_180 g a1 a2) := by
  have r : rn_s n 180 (0, [some (.ref 540), some (.int a1), some (.int a2), none], [], aa_H g) v h := r
  unfold fn_180
  obtain ⟨n1, ln1, r⟩ := rn_steps 3 (6, [some (.ref 540), some (.int a1), some (.int a2), some (.int (g 540 5))], [.ref 540], aa_H g) rfl r
  obtain ⟨_, n2, v1, h1, -, ln2, rc, r⟩ := rn_call (m2 := 171) (as := [.ref 540]) (rest := []) rfl rfl r
  obtain ⟨rfl, rfl⟩ := dn_171 rc
  have r : rn_s _ 180 (9, [some (.ref 540), some (.int a1), some (.int a2), some (.int (g 540 5))], [.int ((fn_171 g).1)], aa_H ((fn_171 g).2)) v h := r
  exact dn_180_9 r
-- 179: UnequalHoursModel readBell
noncomputable def fn_179_42 (g : aa_G)  : Int32 × aa_G := ((fn_169 g (g 540 5)).1, (fn_169 g (g 540 5)).2)
theorem dn_179_42 {v : Option Value} {h : zz_H} {n : Nat} {g : aa_G}   (x1 x2 x3 : Option Value) (jx1 : rn_jk x1) (jx2 : rn_jk x2) (jx3 : rn_jk x3) (r : rn_s n 179 (42, [some (.ref 540), x1, x2, x3], [], aa_H g) v h) : iw_s v h (fn_179_42 g) := by
  unfold fn_179_42
  obtain ⟨n28, ln28, r⟩ := rn_steps 2 (47, [some (.ref 540), x1, x2, x3], [.int (g 540 5), .ref 540], aa_H g) rfl r
  obtain ⟨_, n29, v1, h1, -, ln29, rc, r⟩ := rn_call (m2 := 169) (as := [.ref 540, .int (g 540 5)]) (rest := []) rfl rfl r
  obtain ⟨rfl, rfl⟩ := dn_169 rc
  have r : rn_s _ 179 (50, [some (.ref 540), x1, x2, x3], [.int ((fn_169 g (g 540 5)).1)], aa_H ((fn_169 g (g 540 5)).2)) v h := r
  exact rn_ire rfl r
noncomputable def fn_179_256 (g : aa_G)  : Int32 × aa_G := ((fn_173 (zz_w g 540 10 ((g 540 10) + 1)) 59).1, (fn_173 (zz_w g 540 10 ((g 540 10) + 1)) 59).2)
theorem dn_179_256 {v : Option Value} {h : zz_H} {n : Nat} {g : aa_G}   (x1 x2 x3 : Option Value) (jx1 : rn_jk x1) (jx2 : rn_jk x2) (jx3 : rn_jk x3) (r : rn_s n 179 (256, [some (.ref 540), x1, x2, x3], [.ref 540, .ref 540], aa_H g) v h) : iw_s v h (fn_179_256 g) := by
  unfold fn_179_256
  obtain ⟨n93, ln93, r⟩ := rn_steps 5 (267, [some (.ref 540), x1, x2, x3], [.int 59, .ref 540], aa_H (zz_w g 540 10 ((g 540 10) + 1))) rfl r
  obtain ⟨_, n94, v1, h1, -, ln94, rc, r⟩ := rn_call (m2 := 173) (as := [.ref 540, .int 59]) (rest := []) rfl rfl r
  obtain ⟨rfl, rfl⟩ := dn_173 rc
  have r : rn_s _ 179 (270, [some (.ref 540), x1, x2, x3], [.int ((fn_173 (zz_w g 540 10 ((g 540 10) + 1)) 59).1)], aa_H ((fn_173 (zz_w g 540 10 ((g 540 10) + 1)) 59).2)) v h := r
  exact rn_ire rfl r
noncomputable def fn_179_250 (g : aa_G) (s1 : Int32) : Int32 × aa_G := fn_179_256 (zz_w g 544 s1.toNatClampNeg (g 540 11))
theorem dn_179_250 {v : Option Value} {h : zz_H} {n : Nat} {g : aa_G} {s1 : Int32}  (x1 x2 x3 : Option Value) (jx1 : rn_jk x1) (jx2 : rn_jk x2) (jx3 : rn_jk x3) (r : rn_s n 179 (250, [some (.ref 540), x1, x2, x3], [.ref 540, .int s1, .ref 544], aa_H g) v h) : iw_s v h (fn_179_250 g s1) := by
  unfold fn_179_250
  obtain ⟨n89, ln89, r⟩ := rn_steps 0 (253, [some (.ref 540), x1, x2, x3], [.int (g 540 11), .int s1, .ref 544], aa_H g) rfl r
  obtain ⟨hb91, n90, ln90, r⟩ := rn_ias (k := 544) rfl ⟨by decide, by decide⟩ rfl r
  have r : rn_s _ 179 (254, [some (.ref 540), x1, x2, x3], [], aa_H (zz_w g 544 s1.toNatClampNeg (g 540 11))) v h := r
  obtain ⟨n92, ln92, r⟩ := rn_steps 1 (256, [some (.ref 540), x1, x2, x3], [.ref 540, .ref 540], aa_H (zz_w g 544 s1.toNatClampNeg (g 540 11))) rfl r
  exact dn_179_256 x1 x2 x3 jx1 jx2 jx3 r
noncomputable def fn_179_227 (g : aa_G) (b2 : Int32) (b3 : Int32) : Int32 × aa_G := fn_179_250 (zz_w g 544 (b2 + 4).toNatClampNeg ((g 540 12) - b3)) (b2 + 6)
theorem dn_179_227 {v : Option Value} {h : zz_H} {n : Nat} {g : aa_G} {b2 : Int32} {b3 : Int32}  (x1 : Option Value) (jx1 : rn_jk x1) (r : rn_s n 179 (227, [some (.ref 540), x1, some (.int b2), some (.int b3)], [], aa_H g) v h) : iw_s v h (fn_179_227 g b2 b3) := by
  unfold fn_179_227
  obtain ⟨n82, ln82, r⟩ := rn_steps 8 (240, [some (.ref 540), x1, some (.int b2), some (.int b3)], [.int ((g 540 12) - b3), .int (b2 + 4), .ref 544], aa_H g) rfl r
  obtain ⟨hb84, n83, ln83, r⟩ := rn_ias (k := 544) rfl ⟨by decide, by decide⟩ rfl r
  have r : rn_s _ 179 (241, [some (.ref 540), x1, some (.int b2), some (.int b3)], [], aa_H (zz_w g 544 (b2 + 4).toNatClampNeg ((g 540 12) - b3))) v h := r
  obtain ⟨n85, ln85, r⟩ := rn_steps 5 (250, [some (.ref 540), x1, some (.int b2), some (.int b3)], [.ref 540, .int (b2 + 6), .ref 544], aa_H (zz_w g 544 (b2 + 4).toNatClampNeg ((g 540 12) - b3))) rfl r
  exact dn_179_250 x1 (some (.int b2)) (some (.int b3)) jx1 rn_ji rn_ji r
noncomputable def fn_179_222 (g : aa_G) (b2 : Int32) (b3 : Int32) (s0 : Int32) : Int32 × aa_G := if s0 ≠ 0 then fn_179_227 g b2 b3 else (0, g)
theorem dn_179_222 {v : Option Value} {h : zz_H} {n : Nat} {g : aa_G} {b2 : Int32} {b3 : Int32} {s0 : Int32}  (x1 : Option Value) (jx1 : rn_jk x1) (r : rn_s n 179 (222, [some (.ref 540), x1, some (.int b2), some (.int b3)], [.int s0], aa_H g) v h) : iw_s v h (fn_179_222 g b2 b3 s0) := by
  unfold fn_179_222
  refine rn_if (iw_s v h) rfl decide_eq_true_iff.symm r (fun c86 l87n l87 r => ?_) (fun c86 l87n l87 r => ?_)
  · exact dn_179_227 x1 jx1 r
  · obtain ⟨n88, ln88, r⟩ := rn_steps 0 (226, [some (.ref 540), x1, some (.int b2), some (.int b3)], [.int 0], aa_H g) rfl r
    exact rn_ire rfl r
noncomputable def fn_179_195 (g : aa_G) (b2 : Int32) : Int32 × aa_G := if (fn_167 g) ≠ 63 then fn_179_227 g b2 (g 540 12) else fn_179_222 ((fn_181 (zz_w g 540 5 ((g 540 5) + 1))).2) b2 (g 540 12) ((fn_181 (zz_w g 540 5 ((g 540 5) + 1))).1)
theorem dn_179_195 {v : Option Value} {h : zz_H} {n : Nat} {g : aa_G} {b2 : Int32}  (x1 x3 : Option Value) (jx1 : rn_jk x1) (jx3 : rn_jk x3) (r : rn_s n 179 (195, [some (.ref 540), x1, some (.int b2), x3], [.ref 540], aa_H g) v h) : iw_s v h (fn_179_195 g b2) := by
  unfold fn_179_195
  obtain ⟨n73, ln73, r⟩ := rn_steps 2 (200, [some (.ref 540), x1, some (.int b2), some (.int (g 540 12))], [.ref 540], aa_H g) rfl r
  obtain ⟨_, n74, v1, h1, -, ln74, rc, r⟩ := rn_call (m2 := 167) (as := [.ref 540]) (rest := []) rfl rfl r
  obtain ⟨rfl, rfl⟩ := dn_167 rc
  have r : rn_s _ 179 (203, [some (.ref 540), x1, some (.int b2), some (.int (g 540 12))], [.int (fn_167 g)], aa_H g) v h := r
  obtain ⟨n76, ln76, r⟩ := rn_steps 0 (205, [some (.ref 540), x1, some (.int b2), some (.int (g 540 12))], [.int 63, .int (fn_167 g)], aa_H g) rfl r
  refine rn_ic (iw_s v h) rfl decide_eq_true_iff.symm r (fun c77 l78n l78 r => ?_) (fun c77 l78n l78 r => ?_)
  · exact dn_179_227 x1 jx1 r
  · obtain ⟨n79, ln79, r⟩ := rn_steps 6 (219, [some (.ref 540), x1, some (.int b2), some (.int (g 540 12))], [.ref 540], aa_H (zz_w g 540 5 ((g 540 5) + 1))) rfl r
    obtain ⟨_, n80, v1, h1, -, ln80, rc, r⟩ := rn_call (m2 := 181) (as := [.ref 540]) (rest := []) rfl rfl r
    obtain ⟨rfl, rfl⟩ := dn_181 rc
    have r : rn_s _ 179 (222, [some (.ref 540), x1, some (.int b2), some (.int (g 540 12))], [.int ((fn_181 (zz_w g 540 5 ((g 540 5) + 1))).1)], aa_H ((fn_181 (zz_w g 540 5 ((g 540 5) + 1))).2)) v h := r
    exact dn_179_222 x1 jx1 r
noncomputable def fn_179_190 (g : aa_G) (b2 : Int32) (s1 : Int32) : Int32 × aa_G := fn_179_195 (zz_w g 544 s1.toNatClampNeg (g 540 11)) b2
theorem dn_179_190 {v : Option Value} {h : zz_H} {n : Nat} {g : aa_G} {b2 : Int32} {s1 : Int32}  (x1 x3 : Option Value) (jx1 : rn_jk x1) (jx3 : rn_jk x3) (r : rn_s n 179 (190, [some (.ref 540), x1, some (.int b2), x3], [.ref 540, .int s1, .ref 544], aa_H g) v h) : iw_s v h (fn_179_190 g b2 s1) := by
  unfold fn_179_190
  obtain ⟨n69, ln69, r⟩ := rn_steps 0 (193, [some (.ref 540), x1, some (.int b2), x3], [.int (g 540 11), .int s1, .ref 544], aa_H g) rfl r
  obtain ⟨hb71, n70, ln70, r⟩ := rn_ias (k := 544) rfl ⟨by decide, by decide⟩ rfl r
  have r : rn_s _ 179 (194, [some (.ref 540), x1, some (.int b2), x3], [], aa_H (zz_w g 544 s1.toNatClampNeg (g 540 11))) v h := r
  obtain ⟨n72, ln72, r⟩ := rn_steps 0 (195, [some (.ref 540), x1, some (.int b2), x3], [.ref 540], aa_H (zz_w g 544 s1.toNatClampNeg (g 540 11))) rfl r
  exact dn_179_195 x1 x3 jx1 jx3 r
noncomputable def fn_179_165 (g : aa_G) (b2 : Int32) (s0 : Int32) : Int32 × aa_G := if s0 ≠ 0 then fn_179_190 (zz_w g 544 (b2 + 3).toNatClampNeg (g 540 7)) b2 (b2 + 5) else (0, g)
theorem dn_179_165 {v : Option Value} {h : zz_H} {n : Nat} {g : aa_G} {b2 : Int32} {s0 : Int32}  (x1 x3 : Option Value) (jx1 : rn_jk x1) (jx3 : rn_jk x3) (r : rn_s n 179 (165, [some (.ref 540), x1, some (.int b2), x3], [.int s0], aa_H g) v h) : iw_s v h (fn_179_165 g b2 s0) := by
  unfold fn_179_165
  refine rn_if (iw_s v h) rfl decide_eq_true_iff.symm r (fun c62 l63n l63 r => ?_) (fun c62 l63n l63 r => ?_)
  · obtain ⟨n64, ln64, r⟩ := rn_steps 6 (181, [some (.ref 540), x1, some (.int b2), x3], [.int (g 540 7), .int (b2 + 3), .ref 544], aa_H g) rfl r
    obtain ⟨hb66, n65, ln65, r⟩ := rn_ias (k := 544) rfl ⟨by decide, by decide⟩ rfl r
    have r : rn_s _ 179 (182, [some (.ref 540), x1, some (.int b2), x3], [], aa_H (zz_w g 544 (b2 + 3).toNatClampNeg (g 540 7))) v h := r
    obtain ⟨n67, ln67, r⟩ := rn_steps 5 (190, [some (.ref 540), x1, some (.int b2), x3], [.ref 540, .int (b2 + 5), .ref 544], aa_H (zz_w g 544 (b2 + 3).toNatClampNeg (g 540 7))) rfl r
    exact dn_179_190 x1 x3 jx1 jx3 r
  · obtain ⟨n68, ln68, r⟩ := rn_steps 0 (169, [some (.ref 540), x1, some (.int b2), x3], [.int 0], aa_H g) rfl r
    exact rn_ire rfl r
noncomputable def fn_179_155 (g : aa_G) (b2 : Int32) (s0 : Int32) : Int32 × aa_G := if s0 = 0 then (0, g) else fn_179_165 ((fn_180 g 1 24).2) b2 ((fn_180 g 1 24).1)
theorem dn_179_155 {v : Option Value} {h : zz_H} {n : Nat} {g : aa_G} {b2 : Int32} {s0 : Int32}  (x1 x3 : Option Value) (jx1 : rn_jk x1) (jx3 : rn_jk x3) (r : rn_s n 179 (155, [some (.ref 540), x1, some (.int b2), x3], [.int s0], aa_H g) v h) : iw_s v h (fn_179_155 g b2 s0) := by
  unfold fn_179_155
  refine rn_if (iw_s v h) rfl decide_eq_true_iff.symm r (fun c53 l54n l54 r => ?_) (fun c53 l54n l54 r => ?_)
  · obtain ⟨n55, ln55, r⟩ := rn_steps 0 (169, [some (.ref 540), x1, some (.int b2), x3], [.int 0], aa_H g) rfl r
    exact rn_ire rfl r
  · obtain ⟨n56, ln56, r⟩ := rn_steps 2 (162, [some (.ref 540), x1, some (.int b2), x3], [.int 24, .int 1, .ref 540], aa_H g) rfl r
    obtain ⟨_, n57, v1, h1, -, ln57, rc, r⟩ := rn_call (m2 := 180) (as := [.ref 540, .int 1, .int 24]) (rest := []) rfl rfl r
    obtain ⟨rfl, rfl⟩ := dn_180 rc
    have r : rn_s _ 179 (165, [some (.ref 540), x1, some (.int b2), x3], [.int ((fn_180 g 1 24).1)], aa_H ((fn_180 g 1 24).2)) v h := r
    exact dn_179_165 x1 x3 jx1 jx3 r
noncomputable def fn_179_137 (g : aa_G) (b2 : Int32) : Int32 × aa_G := fn_179_155 ((fn_173 (zz_w g 544 (b2 + 2).toNatClampNeg (g 540 7)) 42).2) b2 ((fn_173 (zz_w g 544 (b2 + 2).toNatClampNeg (g 540 7)) 42).1)
theorem dn_179_137 {v : Option Value} {h : zz_H} {n : Nat} {g : aa_G} {b2 : Int32}  (x1 x3 : Option Value) (jx1 : rn_jk x1) (jx3 : rn_jk x3) (r : rn_s n 179 (137, [some (.ref 540), x1, some (.int b2), x3], [], aa_H g) v h) : iw_s v h (fn_179_137 g b2) := by
  unfold fn_179_137
  obtain ⟨n44, ln44, r⟩ := rn_steps 6 (148, [some (.ref 540), x1, some (.int b2), x3], [.int (g 540 7), .int (b2 + 2), .ref 544], aa_H g) rfl r
  obtain ⟨hb46, n45, ln45, r⟩ := rn_ias (k := 544) rfl ⟨by decide, by decide⟩ rfl r
  have r : rn_s _ 179 (149, [some (.ref 540), x1, some (.int b2), x3], [], aa_H (zz_w g 544 (b2 + 2).toNatClampNeg (g 540 7))) v h := r
  obtain ⟨n47, ln47, r⟩ := rn_steps 1 (152, [some (.ref 540), x1, some (.int b2), x3], [.int 42, .ref 540], aa_H (zz_w g 544 (b2 + 2).toNatClampNeg (g 540 7))) rfl r
  obtain ⟨_, n48, v1, h1, -, ln48, rc, r⟩ := rn_call (m2 := 173) (as := [.ref 540, .int 42]) (rest := []) rfl rfl r
  obtain ⟨rfl, rfl⟩ := dn_173 rc
  have r : rn_s _ 179 (155, [some (.ref 540), x1, some (.int b2), x3], [.int ((fn_173 (zz_w g 544 (b2 + 2).toNatClampNeg (g 540 7)) 42).1)], aa_H ((fn_173 (zz_w g 544 (b2 + 2).toNatClampNeg (g 540 7)) 42).2)) v h := r
  exact dn_179_155 x1 x3 jx1 jx3 r
noncomputable def fn_179_132 (g : aa_G) (b2 : Int32) (s0 : Int32) : Int32 × aa_G := if s0 ≠ 0 then fn_179_137 g b2 else (0, g)
theorem dn_179_132 {v : Option Value} {h : zz_H} {n : Nat} {g : aa_G} {b2 : Int32} {s0 : Int32}  (x1 x3 : Option Value) (jx1 : rn_jk x1) (jx3 : rn_jk x3) (r : rn_s n 179 (132, [some (.ref 540), x1, some (.int b2), x3], [.int s0], aa_H g) v h) : iw_s v h (fn_179_132 g b2 s0) := by
  unfold fn_179_132
  refine rn_if (iw_s v h) rfl decide_eq_true_iff.symm r (fun c59 l60n l60 r => ?_) (fun c59 l60n l60 r => ?_)
  · exact dn_179_137 x1 x3 jx1 jx3 r
  · obtain ⟨n61, ln61, r⟩ := rn_steps 0 (136, [some (.ref 540), x1, some (.int b2), x3], [.int 0], aa_H g) rfl r
    exact rn_ire rfl r
noncomputable def fn_179_116 (g : aa_G) (b2 : Int32) : Int32 × aa_G := fn_179_132 ((fn_180 (zz_w g 540 5 ((g 540 5) + 1)) 0 3599).2) b2 ((fn_180 (zz_w g 540 5 ((g 540 5) + 1)) 0 3599).1)
theorem dn_179_116 {v : Option Value} {h : zz_H} {n : Nat} {g : aa_G} {b2 : Int32}  (x1 x3 : Option Value) (jx1 : rn_jk x1) (jx3 : rn_jk x3) (r : rn_s n 179 (116, [some (.ref 540), x1, some (.int b2), x3], [.ref 540, .ref 540], aa_H g) v h) : iw_s v h (fn_179_116 g b2) := by
  unfold fn_179_116
  obtain ⟨n50, ln50, r⟩ := rn_steps 6 (129, [some (.ref 540), x1, some (.int b2), x3], [.int 3599, .int 0, .ref 540], aa_H (zz_w g 540 5 ((g 540 5) + 1))) rfl r
  obtain ⟨_, n51, v1, h1, -, ln51, rc, r⟩ := rn_call (m2 := 180) (as := [.ref 540, .int 0, .int 3599]) (rest := []) rfl rfl r
  obtain ⟨rfl, rfl⟩ := dn_180 rc
  have r : rn_s _ 179 (132, [some (.ref 540), x1, some (.int b2), x3], [.int ((fn_180 (zz_w g 540 5 ((g 540 5) + 1)) 0 3599).1)], aa_H ((fn_180 (zz_w g 540 5 ((g 540 5) + 1)) 0 3599).2)) v h := r
  exact dn_179_132 x1 x3 jx1 jx3 r
noncomputable def fn_179_83 (g : aa_G) (b2 : Int32) (s0 : Int32) : Int32 × aa_G := if s0 ≠ 0 then if (fn_167 (zz_w (zz_w g 544 (b2 + 1).toNatClampNeg (g 540 7)) 540 7 0)) ≠ 46 then fn_179_137 (zz_w (zz_w g 544 (b2 + 1).toNatClampNeg (g 540 7)) 540 7 0) b2 else fn_179_116 (zz_w (zz_w g 544 (b2 + 1).toNatClampNeg (g 540 7)) 540 7 0) b2 else (0, g)
theorem dn_179_83 {v : Option Value} {h : zz_H} {n : Nat} {g : aa_G} {b2 : Int32} {s0 : Int32}  (x1 x3 : Option Value) (jx1 : rn_jk x1) (jx3 : rn_jk x3) (r : rn_s n 179 (83, [some (.ref 540), x1, some (.int b2), x3], [.int s0], aa_H g) v h) : iw_s v h (fn_179_83 g b2 s0) := by
  unfold fn_179_83
  refine rn_if (iw_s v h) rfl decide_eq_true_iff.symm r (fun c31 l32n l32 r => ?_) (fun c31 l32n l32 r => ?_)
  · obtain ⟨n33, ln33, r⟩ := rn_steps 6 (99, [some (.ref 540), x1, some (.int b2), x3], [.int (g 540 7), .int (b2 + 1), .ref 544], aa_H g) rfl r
    obtain ⟨hb35, n34, ln34, r⟩ := rn_ias (k := 544) rfl ⟨by decide, by decide⟩ rfl r
    have r : rn_s _ 179 (100, [some (.ref 540), x1, some (.int b2), x3], [], aa_H (zz_w g 544 (b2 + 1).toNatClampNeg (g 540 7))) v h := r
    obtain ⟨n36, ln36, r⟩ := rn_steps 3 (106, [some (.ref 540), x1, some (.int b2), x3], [.ref 540], aa_H (zz_w (zz_w g 544 (b2 + 1).toNatClampNeg (g 540 7)) 540 7 0)) rfl r
    obtain ⟨_, n37, v1, h1, -, ln37, rc, r⟩ := rn_call (m2 := 167) (as := [.ref 540]) (rest := []) rfl rfl r
    obtain ⟨rfl, rfl⟩ := dn_167 rc
    have r : rn_s _ 179 (109, [some (.ref 540), x1, some (.int b2), x3], [.int (fn_167 (zz_w (zz_w g 544 (b2 + 1).toNatClampNeg (g 540 7)) 540 7 0))], aa_H (zz_w (zz_w g 544 (b2 + 1).toNatClampNeg (g 540 7)) 540 7 0)) v h := r
    obtain ⟨n39, ln39, r⟩ := rn_steps 0 (111, [some (.ref 540), x1, some (.int b2), x3], [.int 46, .int (fn_167 (zz_w (zz_w g 544 (b2 + 1).toNatClampNeg (g 540 7)) 540 7 0))], aa_H (zz_w (zz_w g 544 (b2 + 1).toNatClampNeg (g 540 7)) 540 7 0)) rfl r
    refine rn_ic (iw_s v h) rfl decide_eq_true_iff.symm r (fun c40 l41n l41 r => ?_) (fun c40 l41n l41 r => ?_)
    · exact dn_179_137 x1 x3 jx1 jx3 r
    · obtain ⟨n42, ln42, r⟩ := rn_steps 1 (116, [some (.ref 540), x1, some (.int b2), x3], [.ref 540, .ref 540], aa_H (zz_w (zz_w g 544 (b2 + 1).toNatClampNeg (g 540 7)) 540 7 0)) rfl r
      exact dn_179_116 x1 x3 jx1 jx3 r
  · obtain ⟨n43, ln43, r⟩ := rn_steps 0 (87, [some (.ref 540), x1, some (.int b2), x3], [.int 0], aa_H g) rfl r
    exact rn_ire rfl r
noncomputable def fn_179_27 (g : aa_G) (s0 : Int32) : Int32 × aa_G := if s0 = (-1) then fn_179_42 g else if (g 540 10) ≠ 8 then fn_179_83 ((fn_180 (zz_w (zz_w g 540 5 ((g 540 5) + 1)) 544 (7 * (g 540 10)).toNatClampNeg s0) 0 11).2) (7 * (g 540 10)) ((fn_180 (zz_w (zz_w g 540 5 ((g 540 5) + 1)) 544 (7 * (g 540 10)).toNatClampNeg s0) 0 11).1) else fn_179_42 g
theorem dn_179_27 {v : Option Value} {h : zz_H} {n : Nat} {g : aa_G} {s0 : Int32}  (x1 x2 x3 : Option Value) (jx1 : rn_jk x1) (jx2 : rn_jk x2) (jx3 : rn_jk x3) (r : rn_s n 179 (27, [some (.ref 540), x1, x2, x3], [.int s0], aa_H g) v h) : iw_s v h (fn_179_27 g s0) := by
  unfold fn_179_27
  obtain ⟨n16, ln16, r⟩ := rn_steps 2 (30, [some (.ref 540), some (.int s0), x2, x3], [.int (-1), .int s0], aa_H g) rfl r
  refine rn_ic (iw_s v h) rfl decide_eq_true_iff.symm r (fun c17 l18n l18 r => ?_) (fun c17 l18n l18 r => ?_)
  · exact dn_179_42 (some (.int s0)) x2 x3 rn_ji jx2 jx3 r
  · obtain ⟨n19, ln19, r⟩ := rn_steps 2 (39, [some (.ref 540), some (.int s0), x2, x3], [.int 8, .int (g 540 10)], aa_H g) rfl r
    refine rn_ic (iw_s v h) rfl decide_eq_true_iff.symm r (fun c20 l21n l21 r => ?_) (fun c20 l21n l21 r => ?_)
    · obtain ⟨n22, ln22, r⟩ := rn_steps 14 (75, [some (.ref 540), some (.int s0), some (.int (7 * (g 540 10))), x3], [.int s0, .int (7 * (g 540 10)), .ref 544], aa_H (zz_w g 540 5 ((g 540 5) + 1))) rfl r
      obtain ⟨hb24, n23, ln23, r⟩ := rn_ias (k := 544) rfl ⟨by decide, by decide⟩ rfl r
      have r : rn_s _ 179 (76, [some (.ref 540), some (.int s0), some (.int (7 * (g 540 10))), x3], [], aa_H (zz_w (zz_w g 540 5 ((g 540 5) + 1)) 544 (7 * (g 540 10)).toNatClampNeg s0)) v h := r
      obtain ⟨n25, ln25, r⟩ := rn_steps 2 (80, [some (.ref 540), some (.int s0), some (.int (7 * (g 540 10))), x3], [.int 11, .int 0, .ref 540], aa_H (zz_w (zz_w g 540 5 ((g 540 5) + 1)) 544 (7 * (g 540 10)).toNatClampNeg s0)) rfl r
      obtain ⟨_, n26, v1, h1, -, ln26, rc, r⟩ := rn_call (m2 := 180) (as := [.ref 540, .int 0, .int 11]) (rest := []) rfl rfl r
      obtain ⟨rfl, rfl⟩ := dn_180 rc
      have r : rn_s _ 179 (83, [some (.ref 540), some (.int s0), some (.int (7 * (g 540 10))), x3], [.int ((fn_180 (zz_w (zz_w g 540 5 ((g 540 5) + 1)) 544 (7 * (g 540 10)).toNatClampNeg s0) 0 11).1)], aa_H ((fn_180 (zz_w (zz_w g 540 5 ((g 540 5) + 1)) 544 (7 * (g 540 10)).toNatClampNeg s0) 0 11).2)) v h := r
      exact dn_179_83 (some (.int s0)) x3 rn_ji jx3 r
    · exact dn_179_42 (some (.int s0)) x2 x3 rn_ji jx2 jx3 r
noncomputable def fn_179 (g : aa_G)  : Int32 × aa_G := if (fn_167 g) ≠ 100 then if (fn_167 g) ≠ 110 then fn_179_27 g (-1) else fn_179_27 g 1 else fn_179_27 g 0
theorem dn_179 {v : Option Value} {h : zz_H} {n : Nat} {g : aa_G}   (r : rn_s n 179 (0, zz_in [.ref 540] (zz_nl 179), [], aa_H g) v h) : iw_s v h (fn_179 g) := by
  have r : rn_s n 179 (0, [some (.ref 540), none, none, none], [], aa_H g) v h := r
  unfold fn_179
  obtain ⟨n1, ln1, r⟩ := rn_steps 0 (1, [some (.ref 540), none, none, none], [.ref 540], aa_H g) rfl r
  obtain ⟨_, n2, v1, h1, -, ln2, rc, r⟩ := rn_call (m2 := 167) (as := [.ref 540]) (rest := []) rfl rfl r
  obtain ⟨rfl, rfl⟩ := dn_167 rc
  have r : rn_s _ 179 (4, [some (.ref 540), none, none, none], [.int (fn_167 g)], aa_H g) v h := r
  obtain ⟨n4, ln4, r⟩ := rn_steps 0 (6, [some (.ref 540), none, none, none], [.int 100, .int (fn_167 g)], aa_H g) rfl r
  refine rn_ic (iw_s v h) rfl decide_eq_true_iff.symm r (fun c5 l6n l6 r => ?_) (fun c5 l6n l6 r => ?_)
  · obtain ⟨n7, ln7, r⟩ := rn_steps 0 (14, [some (.ref 540), none, none, none], [.ref 540], aa_H g) rfl r
    obtain ⟨_, n8, v1, h1, -, ln8, rc, r⟩ := rn_call (m2 := 167) (as := [.ref 540]) (rest := []) rfl rfl r
    obtain ⟨rfl, rfl⟩ := dn_167 rc
    have r : rn_s _ 179 (17, [some (.ref 540), none, none, none], [.int (fn_167 g)], aa_H g) v h := r
    obtain ⟨n10, ln10, r⟩ := rn_steps 0 (19, [some (.ref 540), none, none, none], [.int 110, .int (fn_167 g)], aa_H g) rfl r
    refine rn_ic (iw_s v h) rfl decide_eq_true_iff.symm r (fun c11 l12n l12 r => ?_) (fun c11 l12n l12 r => ?_)
    · obtain ⟨n13, ln13, r⟩ := rn_steps 0 (27, [some (.ref 540), none, none, none], [.int (-1)], aa_H g) rfl r
      exact dn_179_27 none none none rn_jn rn_jn rn_jn r
    · obtain ⟨n14, ln14, r⟩ := rn_steps 1 (27, [some (.ref 540), none, none, none], [.int 1], aa_H g) rfl r
      exact dn_179_27 none none none rn_jn rn_jn rn_jn r
  · obtain ⟨n15, ln15, r⟩ := rn_steps 1 (27, [some (.ref 540), none, none, none], [.int 0], aa_H g) rfl r
    exact dn_179_27 none none none rn_jn rn_jn rn_jn r
-- 178: UnequalHoursModel bells
noncomputable def fn_178_40 (g : aa_G) (s0 : Int32) : (aa_G × Int32) ⊕ (Int32 × aa_G) := .inl (g, s0)
theorem dn_178_40 {v : Option Value} {h : zz_H} {n : Nat} {g : aa_G} {s0 : Int32} (P : (aa_G × Int32) ⊕ (Int32 × aa_G) → Prop) (hO0 : ∀ n2, n2 < n → ∀ (yg : aa_G) (yb1 : Int32) (yx2 : Option Value) (_ : rn_jk yx2), rn_s n2 178 (21, [some (.ref 540), some (.int yb1), yx2], [], aa_H yg) v h → P (.inl (yg, yb1))) (hR : ∀ E, iw_s v h E → P (.inr E))  (x1 x2 : Option Value) (jx1 : rn_jk x1) (jx2 : rn_jk x2) (r : rn_s n 178 (40, [some (.ref 540), x1, x2], [.int s0], aa_H g) v h) : P (fn_178_40 g s0) := by
  unfold fn_178_40
  obtain ⟨n21, ln21, r⟩ := rn_steps 1 (21, [some (.ref 540), some (.int s0), x2], [], aa_H g) rfl r
  exact hO0 _ (by omega) g s0 x2 jx2 r
noncomputable def fn_178_106b (g : aa_G) (b2 : Int32) : (aa_G × Int32) ⊕ (Int32 × aa_G) := if (g 540 11) ≤ b2 then .inr (g 540 10, g) else .inl (zz_w g 541 (259 + b2).toNatClampNeg (g 545 b2.toNatClampNeg), b2 + 1)
noncomputable def fn_178_106 (g : aa_G) (b2 : Int32) : Int32 × aa_G := lp_f (0, g) (fun z : (aa_G × Int32) => fn_178_106b z.1 z.2) (g, b2)
theorem dn_178_106l {v : Option Value} {h : zz_H} {N : Nat}  {d : Int32 × aa_G} : ∀ (n : Nat), n ≤ N → ∀ (g : aa_G) (b2 : Int32) (x1 : Option Value) (jx1 : rn_jk x1), rn_s n 178 (106, [some (.ref 540), x1, some (.int b2)], [], aa_H g) v h → (iw_s v h) (lp_f d (fun z : (aa_G × Int32) => fn_178_106b z.1 z.2) (g, b2)) := by
  generalize hf : (fun z : (aa_G × Int32) => fn_178_106b z.1 z.2) = f
  intro n
  induction n using Nat.strongRecOn with
  | _ n ih =>
    intro hN g b2 x1 jx1 r
    refine lp_go ?_
    rw [← congrFun hf (g, b2)]
    show lp_q (iw_s v h) d f (fn_178_106b g b2)
    unfold fn_178_106b
    obtain ⟨n39, ln39, r⟩ := rn_steps 2 (111, [some (.ref 540), x1, some (.int b2)], [.int (g 540 11), .int b2], aa_H g) rfl r
    refine rn_ic (lp_q (iw_s v h) d f) rfl decide_eq_true_iff.symm r (fun c40 l41n l41 r => ?_) (fun c40 l41n l41 r => ?_)
    · obtain ⟨n42, ln42, r⟩ := rn_steps 1 (140, [some (.ref 540), x1, some (.int b2)], [.int (g 540 10)], aa_H g) rfl r
      exact rn_ire rfl r
    · obtain ⟨n43, ln43, r⟩ := rn_steps 7 (128, [some (.ref 540), x1, some (.int b2)], [.int b2, .ref 545, .int (259 + b2), .ref 541], aa_H g) rfl r
      obtain ⟨hb45, n44, ln44, r⟩ := rn_ial (k := 545) rfl ⟨by decide, by decide⟩ rfl r
      have r : rn_s _ 178 (129, [some (.ref 540), x1, some (.int b2)], [.int (g 545 b2.toNatClampNeg), .int (259 + b2), .ref 541], aa_H g) v h := r
      obtain ⟨hb47, n46, ln46, r⟩ := rn_ias (k := 541) rfl ⟨by decide, by decide⟩ rfl r
      have r : rn_s _ 178 (130, [some (.ref 540), x1, some (.int b2)], [], aa_H (zz_w g 541 (259 + b2).toNatClampNeg (g 545 b2.toNatClampNeg))) v h := r
      obtain ⟨n48, ln48, r⟩ := rn_iin (i := 2) rfl rfl jx1 rfl rfl ⟨Nat.le_of_ble_eq_true rfl, Nat.le_of_ble_eq_true rfl⟩ r
      have r : rn_s _ 178 (133, [some (.ref 540), x1, some (.int (b2 + 1))], [], aa_H (zz_w g 541 (259 + b2).toNatClampNeg (g 545 b2.toNatClampNeg))) v h := r
      obtain ⟨n49, ln49, r⟩ := rn_steps 0 (106, [some (.ref 540), x1, some (.int (b2 + 1))], [], aa_H (zz_w g 541 (259 + b2).toNatClampNeg (g 545 b2.toNatClampNeg))) rfl r
      exact ih _ (by omega) (by omega) (zz_w g 541 (259 + b2).toNatClampNeg (g 545 b2.toNatClampNeg)) (b2 + 1) x1 jx1 r
theorem dn_178_106 {v : Option Value} {h : zz_H} {n : Nat} {g : aa_G} {b2 : Int32}  (x1 : Option Value) (jx1 : rn_jk x1) (r : rn_s n 178 (106, [some (.ref 540), x1, some (.int b2)], [], aa_H g) v h) : (iw_s v h) (fn_178_106 g b2) := dn_178_106l  n (Nat.le_refl n) g b2 x1 jx1 r
noncomputable def fn_178_71b (g : aa_G) (b2 : Int32) : (aa_G × Int32) ⊕ (Int32 × aa_G) := if (7 * (g 540 10)) ≤ b2 then .inr (fn_178_106 g 0) else .inl (zz_w g 541 (203 + b2).toNatClampNeg (g 544 b2.toNatClampNeg), b2 + 1)
noncomputable def fn_178_71 (g : aa_G) (b2 : Int32) : Int32 × aa_G := lp_f (0, g) (fun z : (aa_G × Int32) => fn_178_71b z.1 z.2) (g, b2)
theorem dn_178_71l {v : Option Value} {h : zz_H} {N : Nat}  {d : Int32 × aa_G} : ∀ (n : Nat), n ≤ N → ∀ (g : aa_G) (b2 : Int32) (x1 : Option Value) (jx1 : rn_jk x1), rn_s n 178 (71, [some (.ref 540), x1, some (.int b2)], [], aa_H g) v h → (iw_s v h) (lp_f d (fun z : (aa_G × Int32) => fn_178_71b z.1 z.2) (g, b2)) := by
  generalize hf : (fun z : (aa_G × Int32) => fn_178_71b z.1 z.2) = f
  intro n
  induction n using Nat.strongRecOn with
  | _ n ih =>
    intro hN g b2 x1 jx1 r
    refine lp_go ?_
    rw [← congrFun hf (g, b2)]
    show lp_q (iw_s v h) d f (fn_178_71b g b2)
    unfold fn_178_71b
    obtain ⟨n27, ln27, r⟩ := rn_steps 4 (79, [some (.ref 540), x1, some (.int b2)], [.int (7 * (g 540 10)), .int b2], aa_H g) rfl r
    refine rn_ic (lp_q (iw_s v h) d f) rfl decide_eq_true_iff.symm r (fun c28 l29n l29 r => ?_) (fun c28 l29n l29 r => ?_)
    · obtain ⟨n30, ln30, r⟩ := rn_steps 0 (105, [some (.ref 540), x1, some (.int b2)], [.int 0], aa_H g) rfl r
      obtain ⟨n31, ln31, r⟩ := rn_isn (i := 2) rfl rfl jx1 rfl ⟨Nat.le_of_ble_eq_true rfl, Nat.le_of_ble_eq_true rfl⟩ r
      have r : rn_s _ 178 (106, [some (.ref 540), x1, some (.int 0)], [], aa_H g) v h := r
      exact dn_178_106 x1 jx1 r
    · obtain ⟨n32, ln32, r⟩ := rn_steps 7 (96, [some (.ref 540), x1, some (.int b2)], [.int b2, .ref 544, .int (203 + b2), .ref 541], aa_H g) rfl r
      obtain ⟨hb34, n33, ln33, r⟩ := rn_ial (k := 544) rfl ⟨by decide, by decide⟩ rfl r
      have r : rn_s _ 178 (97, [some (.ref 540), x1, some (.int b2)], [.int (g 544 b2.toNatClampNeg), .int (203 + b2), .ref 541], aa_H g) v h := r
      obtain ⟨hb36, n35, ln35, r⟩ := rn_ias (k := 541) rfl ⟨by decide, by decide⟩ rfl r
      have r : rn_s _ 178 (98, [some (.ref 540), x1, some (.int b2)], [], aa_H (zz_w g 541 (203 + b2).toNatClampNeg (g 544 b2.toNatClampNeg))) v h := r
      obtain ⟨n37, ln37, r⟩ := rn_iin (i := 2) rfl rfl jx1 rfl rfl ⟨Nat.le_of_ble_eq_true rfl, Nat.le_of_ble_eq_true rfl⟩ r
      have r : rn_s _ 178 (101, [some (.ref 540), x1, some (.int (b2 + 1))], [], aa_H (zz_w g 541 (203 + b2).toNatClampNeg (g 544 b2.toNatClampNeg))) v h := r
      obtain ⟨n38, ln38, r⟩ := rn_steps 0 (71, [some (.ref 540), x1, some (.int (b2 + 1))], [], aa_H (zz_w g 541 (203 + b2).toNatClampNeg (g 544 b2.toNatClampNeg))) rfl r
      exact ih _ (by omega) (by omega) (zz_w g 541 (203 + b2).toNatClampNeg (g 544 b2.toNatClampNeg)) (b2 + 1) x1 jx1 r
theorem dn_178_71 {v : Option Value} {h : zz_H} {n : Nat} {g : aa_G} {b2 : Int32}  (x1 : Option Value) (jx1 : rn_jk x1) (r : rn_s n 178 (71, [some (.ref 540), x1, some (.int b2)], [], aa_H g) v h) : (iw_s v h) (fn_178_71 g b2) := dn_178_71l  n (Nat.le_refl n) g b2 x1 jx1 r
noncomputable def fn_178_59 (g : aa_G)  : Int32 × aa_G := fn_178_71 (zz_w g 541 (2 : Int32).toNatClampNeg (g 540 10)) 0
theorem dn_178_59 {v : Option Value} {h : zz_H} {n : Nat} {g : aa_G}   (x1 x2 : Option Value) (jx1 : rn_jk x1) (jx2 : rn_jk x2) (r : rn_s n 178 (59, [some (.ref 540), x1, x2], [], aa_H g) v h) : iw_s v h (fn_178_59 g) := by
  unfold fn_178_59
  obtain ⟨n22, ln22, r⟩ := rn_steps 4 (68, [some (.ref 540), x1, x2], [.int (g 540 10), .int 2, .ref 541], aa_H g) rfl r
  obtain ⟨hb24, n23, ln23, r⟩ := rn_ias (k := 541) rfl ⟨by decide, by decide⟩ rfl r
  have r : rn_s _ 178 (69, [some (.ref 540), x1, x2], [], aa_H (zz_w g 541 (2 : Int32).toNatClampNeg (g 540 10))) v h := r
  obtain ⟨n25, ln25, r⟩ := rn_steps 0 (70, [some (.ref 540), x1, x2], [.int 0], aa_H (zz_w g 541 (2 : Int32).toNatClampNeg (g 540 10))) rfl r
  obtain ⟨n26, ln26, r⟩ := rn_isn (i := 2) rfl rfl jx1 rfl ⟨Nat.le_of_ble_eq_true rfl, Nat.le_of_ble_eq_true rfl⟩ r
  have r : rn_s _ 178 (71, [some (.ref 540), x1, some (.int 0)], [], aa_H (zz_w g 541 (2 : Int32).toNatClampNeg (g 540 10))) v h := r
  exact dn_178_71 x1 jx1 r
noncomputable def fn_178_44 (g : aa_G) (b1 : Int32) : Int32 × aa_G := if b1 ≠ 0 then fn_178_59 (fn_156 (zz_w g 540 4 0)) else (-1, zz_w g 540 4 0)
theorem dn_178_44 {v : Option Value} {h : zz_H} {n : Nat} {g : aa_G} {b1 : Int32}  (x2 : Option Value) (jx2 : rn_jk x2) (r : rn_s n 178 (44, [some (.ref 540), some (.int b1), x2], [], aa_H g) v h) : iw_s v h (fn_178_44 g b1) := by
  unfold fn_178_44
  obtain ⟨n14, ln14, r⟩ := rn_steps 3 (50, [some (.ref 540), some (.int b1), x2], [.int b1], aa_H (zz_w g 540 4 0)) rfl r
  refine rn_if (iw_s v h) rfl decide_eq_true_iff.symm r (fun c15 l16n l16 r => ?_) (fun c15 l16n l16 r => ?_)
  · obtain ⟨n17, ln17, r⟩ := rn_steps 0 (56, [some (.ref 540), some (.int b1), x2], [.ref 540], aa_H (zz_w g 540 4 0)) rfl r
    obtain ⟨_, n18, v1, h1, -, ln18, rc, r⟩ := rn_call (m2 := 156) (as := [.ref 540]) (rest := []) rfl rfl r
    obtain ⟨rfl, rfl⟩ := dn_156 rc
    have r : rn_s _ 178 (59, [some (.ref 540), some (.int b1), x2], [], aa_H (fn_156 (zz_w g 540 4 0))) v h := r
    exact dn_178_59 (some (.int b1)) x2 rn_ji jx2 r
  · obtain ⟨n20, ln20, r⟩ := rn_steps 0 (54, [some (.ref 540), some (.int b1), x2], [.int (-1)], aa_H (zz_w g 540 4 0)) rfl r
    exact rn_ire rfl r
noncomputable def fn_178_21b (g : aa_G) (b1 : Int32) : (aa_G × Int32) ⊕ (Int32 × aa_G) := if b1 = 0 then .inr (fn_178_44 g b1) else if (g 540 4) ≤ (g 540 5) then .inr (fn_178_44 g b1) else fn_178_40 ((fn_179 g).2) ((fn_179 g).1)
noncomputable def fn_178_21 (g : aa_G) (b1 : Int32) : Int32 × aa_G := lp_f (0, g) (fun z : (aa_G × Int32) => fn_178_21b z.1 z.2) (g, b1)
theorem dn_178_21l {v : Option Value} {h : zz_H} {N : Nat}  {d : Int32 × aa_G} : ∀ (n : Nat), n ≤ N → ∀ (g : aa_G) (b1 : Int32) (x2 : Option Value) (jx2 : rn_jk x2), rn_s n 178 (21, [some (.ref 540), some (.int b1), x2], [], aa_H g) v h → (iw_s v h) (lp_f d (fun z : (aa_G × Int32) => fn_178_21b z.1 z.2) (g, b1)) := by
  generalize hf : (fun z : (aa_G × Int32) => fn_178_21b z.1 z.2) = f
  intro n
  induction n using Nat.strongRecOn with
  | _ n ih =>
    intro hN g b1 x2 jx2 r
    refine lp_go ?_
    rw [← congrFun hf (g, b1)]
    show lp_q (iw_s v h) d f (fn_178_21b g b1)
    unfold fn_178_21b
    obtain ⟨n5, ln5, r⟩ := rn_steps 0 (22, [some (.ref 540), some (.int b1), x2], [.int b1], aa_H g) rfl r
    refine rn_if (lp_q (iw_s v h) d f) rfl decide_eq_true_iff.symm r (fun c6 l7n l7 r => ?_) (fun c6 l7n l7 r => ?_)
    · exact dn_178_44 x2 jx2 r
    · obtain ⟨n8, ln8, r⟩ := rn_steps 3 (33, [some (.ref 540), some (.int b1), x2], [.int (g 540 4), .int (g 540 5)], aa_H g) rfl r
      refine rn_ic (lp_q (iw_s v h) d f) rfl decide_eq_true_iff.symm r (fun c9 l10n l10 r => ?_) (fun c9 l10n l10 r => ?_)
      · exact dn_178_44 x2 jx2 r
      · obtain ⟨n11, ln11, r⟩ := rn_steps 0 (37, [some (.ref 540), some (.int b1), x2], [.ref 540], aa_H g) rfl r
        obtain ⟨_, n12, v1, h1, -, ln12, rc, r⟩ := rn_call (m2 := 179) (as := [.ref 540]) (rest := []) rfl rfl r
        obtain ⟨rfl, rfl⟩ := dn_179 rc
        have r : rn_s _ 178 (40, [some (.ref 540), some (.int b1), x2], [.int ((fn_179 g).1)], aa_H ((fn_179 g).2)) v h := r
        exact dn_178_40 (lp_q (iw_s v h) d f) (fun n2 l2 => ih n2 (by omega) (by omega)) (fun z hz => hz) (some (.int b1)) x2 rn_ji jx2 r
theorem dn_178_21 {v : Option Value} {h : zz_H} {n : Nat} {g : aa_G} {b1 : Int32}  (x2 : Option Value) (jx2 : rn_jk x2) (r : rn_s n 178 (21, [some (.ref 540), some (.int b1), x2], [], aa_H g) v h) : (iw_s v h) (fn_178_21 g b1) := dn_178_21l  n (Nat.le_refl n) g b1 x2 jx2 r
noncomputable def fn_178_4 (g : aa_G)  : Int32 × aa_G := fn_178_21 (zz_w (zz_w (zz_w g 540 10 0) 540 11 0) 540 12 0) 1
theorem dn_178_4 {v : Option Value} {h : zz_H} {n : Nat} {g : aa_G}   (x1 x2 : Option Value) (jx1 : rn_jk x1) (jx2 : rn_jk x2) (r : rn_s n 178 (4, [some (.ref 540), x1, x2], [], aa_H g) v h) : iw_s v h (fn_178_4 g) := by
  unfold fn_178_4
  obtain ⟨n4, ln4, r⟩ := rn_steps 10 (21, [some (.ref 540), some (.int 1), x2], [], aa_H (zz_w (zz_w (zz_w g 540 10 0) 540 11 0) 540 12 0)) rfl r
  exact dn_178_21 x2 jx2 r
noncomputable def fn_178 (g : aa_G)  : Int32 × aa_G := fn_178_4 (fn_165 g)
theorem dn_178 {v : Option Value} {h : zz_H} {n : Nat} {g : aa_G}   (r : rn_s n 178 (0, zz_in [.ref 540] (zz_nl 178), [], aa_H g) v h) : iw_s v h (fn_178 g) := by
  have r : rn_s n 178 (0, [some (.ref 540), none, none], [], aa_H g) v h := r
  unfold fn_178
  obtain ⟨n1, ln1, r⟩ := rn_steps 0 (1, [some (.ref 540), none, none], [.ref 540], aa_H g) rfl r
  obtain ⟨_, n2, v1, h1, -, ln2, rc, r⟩ := rn_call (m2 := 165) (as := [.ref 540]) (rest := []) rfl rfl r
  obtain ⟨rfl, rfl⟩ := dn_165 rc
  have r : rn_s _ 178 (4, [some (.ref 540), none, none], [], aa_H (fn_165 g)) v h := r
  exact dn_178_4 none none rn_jn rn_jn r
