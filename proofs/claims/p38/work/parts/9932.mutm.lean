/-! METHODS READ (printed by wip/dc/dc.py) -/
-- 152: UnequalHoursModel copyRow
noncomputable def fn_152_2b (g : aa_G) (b1 : Int32) (b2 : Int32) (b3 : Int32) : (aa_G × Int32) ⊕ aa_G := if 399 ≤ b3 then .inr g else .inl (zz_w g 541 ((399 * b2) + b3).toNatClampNeg (g 541 ((399 * b1) + b3).toNatClampNeg), b3 + 1)
noncomputable def fn_152_2 (g : aa_G) (b1 : Int32) (b2 : Int32) (b3 : Int32) : aa_G := lp_f g (fun z : (aa_G × Int32) => fn_152_2b z.1 b1 b2 z.2) (g, b3)
theorem dn_152_2l {v : Option Value} {h : zz_H} {N : Nat} {b1 : Int32} {b2 : Int32} {d : aa_G} : ∀ (n : Nat), n ≤ N → ∀ (g : aa_G) (b3 : Int32), rn_s n 152 (2, [some (.ref 540), some (.int b1), some (.int b2), some (.int b3)], [], aa_H g) v h → (ig_s v h) (lp_f d (fun z : (aa_G × Int32) => fn_152_2b z.1 b1 b2 z.2) (g, b3)) := by
  generalize hf : (fun z : (aa_G × Int32) => fn_152_2b z.1 b1 b2 z.2) = f
  intro n
  induction n using Nat.strongRecOn with
  | _ n ih =>
    intro hN g b3  r
    refine lp_go ?_
    rw [← congrFun hf (g, b3)]
    show lp_q (ig_s v h) d f (fn_152_2b g b1 b2 b3)
    unfold fn_152_2b
    obtain ⟨n2, ln2, r⟩ := rn_steps 1 (6, [some (.ref 540), some (.int b1), some (.int b2), some (.int b3)], [.int 399, .int b3], aa_H g) rfl r
    refine rn_ic (lp_q (ig_s v h) d f) rfl decide_eq_true_iff.symm r (fun c3 l4n l4 r => ?_) (fun c3 l4n l4 r => ?_)
    · exact rn_ret 1 rfl r
    · obtain ⟨n5, ln5, r⟩ := rn_steps 13 (31, [some (.ref 540), some (.int b1), some (.int b2), some (.int b3)], [.int ((399 * b1) + b3), .ref 541, .int ((399 * b2) + b3), .ref 541], aa_H g) rfl r
      obtain ⟨hb7, n6, ln6, r⟩ := rn_ial (k := 541) rfl ⟨by decide, by decide⟩ rfl r
      have r : rn_s _ 152 (32, [some (.ref 540), some (.int b1), some (.int b2), some (.int b3)], [.int (g 541 ((399 * b1) + b3).toNatClampNeg), .int ((399 * b2) + b3), .ref 541], aa_H g) v h := r
      obtain ⟨hb9, n8, ln8, r⟩ := rn_ias (k := 541) rfl ⟨by decide, by decide⟩ rfl r
      have r : rn_s _ 152 (33, [some (.ref 540), some (.int b1), some (.int b2), some (.int b3)], [], aa_H (zz_w g 541 ((399 * b2) + b3).toNatClampNeg (g 541 ((399 * b1) + b3).toNatClampNeg))) v h := r
      obtain ⟨n10, ln10, r⟩ := rn_steps 1 (2, [some (.ref 540), some (.int b1), some (.int b2), some (.int (b3 + 1))], [], aa_H (zz_w g 541 ((399 * b2) + b3).toNatClampNeg (g 541 ((399 * b1) + b3).toNatClampNeg))) rfl r
      exact ih _ (by omega) (by omega) (zz_w g 541 ((399 * b2) + b3).toNatClampNeg (g 541 ((399 * b1) + b3).toNatClampNeg)) (b3 + 1) r
theorem dn_152_2 {v : Option Value} {h : zz_H} {n : Nat} {g : aa_G} {b1 : Int32} {b2 : Int32} {b3 : Int32}  (r : rn_s n 152 (2, [some (.ref 540), some (.int b1), some (.int b2), some (.int b3)], [], aa_H g) v h) : (ig_s v h) (fn_152_2 g b1 b2 b3) := dn_152_2l  n (Nat.le_refl n) g b3 r
noncomputable def fn_152 (g : aa_G) (a1 : Int32) (a2 : Int32) : aa_G := fn_152_2 g a1 a2 0
theorem dn_152 {v : Option Value} {h : zz_H} {n : Nat} {g : aa_G} {a1 : Int32} {a2 : Int32}  (r : rn_s n 152 (0, zz_in [.ref 540, .int a1, .int a2] (zz_nl 152), [], aa_H g) v h) : ig_s v h (fn_152 g a1 a2) := by
  have r : rn_s n 152 (0, [some (.ref 540), some (.int a1), some (.int a2), none], [], aa_H g) v h := r
  unfold fn_152
  obtain ⟨n1, ln1, r⟩ := rn_steps 1 (2, [some (.ref 540), some (.int a1), some (.int a2), some (.int 0)], [], aa_H g) rfl r
  exact dn_152_2 r
-- 157: UnequalHoursModel deedOf
noncomputable def fn_157_29 (g : aa_G) (b1 : Int32) (b2 : Int32) : (aa_G × Int32) ⊕ aa_G := .inl (g, b2 + 1)
theorem dn_157_29 {v : Option Value} {h : zz_H} {n : Nat} {g : aa_G} {b1 : Int32} {b2 : Int32} (P : (aa_G × Int32) ⊕ aa_G → Prop) (hO0 : ∀ n2, n2 < n → ∀ (yg : aa_G) (yb2 : Int32), rn_s n2 157 (11, [some (.ref 540), some (.int b1), some (.int yb2)], [], aa_H yg) v h → P (.inl (yg, yb2))) (hR : ∀ E, ig_s v h E → P (.inr E))  (r : rn_s n 157 (29, [some (.ref 540), some (.int b1), some (.int b2)], [], aa_H g) v h) : P (fn_157_29 g b1 b2) := by
  unfold fn_157_29
  obtain ⟨n17, ln17, r⟩ := rn_steps 1 (11, [some (.ref 540), some (.int b1), some (.int (b2 + 1))], [], aa_H g) rfl r
  exact hO0 _ (by omega) g (b2 + 1) r
noncomputable def fn_157_58 (g : aa_G)  : aa_G := zz_w g 540 1 ((g 540 1) + 1)
theorem dn_157_58 {v : Option Value} {h : zz_H} {n : Nat} {g : aa_G}   (x0 x1 x2 : Option Value) (jx0 : rn_jk x0) (jx1 : rn_jk x1) (jx2 : rn_jk x2) (r : rn_s n 157 (58, [x0, x1, x2], [.ref 540, .ref 540], aa_H g) v h) : ig_s v h (fn_157_58 g) := by
  unfold fn_157_58
  obtain ⟨n16, ln16, r⟩ := rn_steps 3 (66, [x0, x1, x2], [], aa_H (zz_w g 540 1 ((g 540 1) + 1))) rfl r
  exact rn_ret 1 rfl r
noncomputable def fn_157_45 (g : aa_G) (b1 : Int32) : aa_G := fn_157_58 (fn_152 g b1 (3 + (g 540 1)))
theorem dn_157_45 {v : Option Value} {h : zz_H} {n : Nat} {g : aa_G} {b1 : Int32}  (x2 : Option Value) (jx2 : rn_jk x2) (r : rn_s n 157 (45, [some (.ref 540), some (.int b1), x2], [], aa_H g) v h) : ig_s v h (fn_157_45 g b1) := by
  unfold fn_157_45
  obtain ⟨n5, ln5, r⟩ := rn_steps 5 (53, [some (.ref 540), some (.int b1), x2], [.int (3 + (g 540 1)), .int b1, .ref 540], aa_H g) rfl r
  obtain ⟨_, n6, v1, h1, -, ln6, rc, r⟩ := rn_call (m2 := 152) (as := [.ref 540, .int b1, .int (3 + (g 540 1))]) (rest := []) rfl rfl r
  obtain ⟨rfl, rfl⟩ := dn_152 rc
  have r : rn_s _ 157 (56, [some (.ref 540), some (.int b1), x2], [], aa_H (fn_152 g b1 (3 + (g 540 1)))) v h := r
  obtain ⟨n8, ln8, r⟩ := rn_steps 1 (58, [some (.ref 540), some (.int b1), x2], [.ref 540, .ref 540], aa_H (fn_152 g b1 (3 + (g 540 1)))) rfl r
  exact dn_157_58 (some (.ref 540)) (some (.int b1)) x2 rn_jr rn_ji jx2 r
noncomputable def fn_157_11b (g : aa_G) (b1 : Int32) (b2 : Int32) : (aa_G × Int32) ⊕ aa_G := if 12 ≤ b2 then .inr (fn_157_45 (zz_w g 540 1 ((g 540 1) - 1)) b1) else fn_157_29 (fn_152 g (3 + b2) ((3 + b2) - 1)) b1 b2
noncomputable def fn_157_11 (g : aa_G) (b1 : Int32) (b2 : Int32) : aa_G := lp_f g (fun z : (aa_G × Int32) => fn_157_11b z.1 b1 z.2) (g, b2)
theorem dn_157_11l {v : Option Value} {h : zz_H} {N : Nat} {b1 : Int32} {d : aa_G} : ∀ (n : Nat), n ≤ N → ∀ (g : aa_G) (b2 : Int32), rn_s n 157 (11, [some (.ref 540), some (.int b1), some (.int b2)], [], aa_H g) v h → (ig_s v h) (lp_f d (fun z : (aa_G × Int32) => fn_157_11b z.1 b1 z.2) (g, b2)) := by
  generalize hf : (fun z : (aa_G × Int32) => fn_157_11b z.1 b1 z.2) = f
  intro n
  induction n using Nat.strongRecOn with
  | _ n ih =>
    intro hN g b2  r
    refine lp_go ?_
    rw [← congrFun hf (g, b2)]
    show lp_q (ig_s v h) d f (fn_157_11b g b1 b2)
    unfold fn_157_11b
    obtain ⟨n9, ln9, r⟩ := rn_steps 1 (14, [some (.ref 540), some (.int b1), some (.int b2)], [.int 12, .int b2], aa_H g) rfl r
    refine rn_ic (lp_q (ig_s v h) d f) rfl decide_eq_true_iff.symm r (fun c10 l11n l11 r => ?_) (fun c10 l11n l11 r => ?_)
    · obtain ⟨n12, ln12, r⟩ := rn_steps 5 (45, [some (.ref 540), some (.int b1), some (.int b2)], [], aa_H (zz_w g 540 1 ((g 540 1) - 1))) rfl r
      exact dn_157_45 (some (.int b2)) rn_ji r
    · obtain ⟨n13, ln13, r⟩ := rn_steps 8 (26, [some (.ref 540), some (.int b1), some (.int b2)], [.int ((3 + b2) - 1), .int (3 + b2), .ref 540], aa_H g) rfl r
      obtain ⟨_, n14, v1, h1, -, ln14, rc, r⟩ := rn_call (m2 := 152) (as := [.ref 540, .int (3 + b2), .int ((3 + b2) - 1)]) (rest := []) rfl rfl r
      obtain ⟨rfl, rfl⟩ := dn_152 rc
      have r : rn_s _ 157 (29, [some (.ref 540), some (.int b1), some (.int b2)], [], aa_H (fn_152 g (3 + b2) ((3 + b2) - 1))) v h := r
      exact dn_157_29 (lp_q (ig_s v h) d f) (fun n2 l2 => ih n2 (by omega) (by omega)) (fun z hz => hz) r
theorem dn_157_11 {v : Option Value} {h : zz_H} {n : Nat} {g : aa_G} {b1 : Int32} {b2 : Int32}  (r : rn_s n 157 (11, [some (.ref 540), some (.int b1), some (.int b2)], [], aa_H g) v h) : (ig_s v h) (fn_157_11 g b1 b2) := dn_157_11l  n (Nat.le_refl n) g b2 r
noncomputable def fn_157 (g : aa_G) (a1 : Int32) : aa_G := if (g 540 1) ≠ 12 then fn_157_45 g a1 else fn_157_11 g a1 1
theorem dn_157 {v : Option Value} {h : zz_H} {n : Nat} {g : aa_G} {a1 : Int32}  (r : rn_s n 157 (0, zz_in [.ref 540, .int a1] (zz_nl 157), [], aa_H g) v h) : ig_s v h (fn_157 g a1) := by
  have r : rn_s n 157 (0, [some (.ref 540), some (.int a1), none], [], aa_H g) v h := r
  unfold fn_157
  obtain ⟨n1, ln1, r⟩ := rn_steps 2 (6, [some (.ref 540), some (.int a1), none], [.int 12, .int (g 540 1)], aa_H g) rfl r
  refine rn_ic (ig_s v h) rfl decide_eq_true_iff.symm r (fun c2 l3n l3 r => ?_) (fun c2 l3n l3 r => ?_)
  · exact dn_157_45 none rn_jn r
  · obtain ⟨n4, ln4, r⟩ := rn_steps 1 (11, [some (.ref 540), some (.int a1), some (.int 1)], [], aa_H g) rfl r
    exact dn_157_11 r
-- 156: UnequalHoursModel deed
noncomputable def fn_156 (g : aa_G)  : aa_G := fn_157 g 0
theorem dn_156 {v : Option Value} {h : zz_H} {n : Nat} {g : aa_G}   (r : rn_s n 156 (0, zz_in [.ref 540] (zz_nl 156), [], aa_H g) v h) : ig_s v h (fn_156 g) := by
  have r : rn_s n 156 (0, [some (.ref 540)], [], aa_H g) v h := r
  unfold fn_156
  obtain ⟨n1, ln1, r⟩ := rn_steps 1 (2, [some (.ref 540)], [.int 0, .ref 540], aa_H g) rfl r
  obtain ⟨_, n2, v1, h1, -, ln2, rc, r⟩ := rn_call (m2 := 157) (as := [.ref 540, .int 0]) (rest := []) rfl rfl r
  obtain ⟨rfl, rfl⟩ := dn_157 rc
  have r : rn_s _ 156 (5, [some (.ref 540)], [], aa_H (fn_157 g 0)) v h := r
  exact rn_ret 1 rfl r
-- 255: UnequalHoursModel become
noncomputable def fn_255_4 (g : aa_G) (b1 : Int32) (b2 : Int32) : Int32 × aa_G := (g 541 b1.toNatClampNeg, zz_w g 541 b1.toNatClampNeg b2)
theorem dn_255_4 {v : Option Value} {h : zz_H} {n : Nat} {g : aa_G} {b1 : Int32} {b2 : Int32}  (x3 : Option Value) (jx3 : rn_jk x3) (r : rn_s n 255 (4, [some (.ref 540), some (.int b1), some (.int b2), x3], [], aa_H g) v h) : iw_s v h (fn_255_4 g b1 b2) := by
  unfold fn_255_4
  obtain ⟨n4, ln4, r⟩ := rn_steps 2 (9, [some (.ref 540), some (.int b1), some (.int b2), x3], [.int b1, .ref 541], aa_H g) rfl r
  obtain ⟨hb6, n5, ln5, r⟩ := rn_ial (k := 541) rfl ⟨by decide, by decide⟩ rfl r
  have r : rn_s _ 255 (10, [some (.ref 540), some (.int b1), some (.int b2), x3], [.int (g 541 b1.toNatClampNeg)], aa_H g) v h := r
  obtain ⟨n7, ln7, r⟩ := rn_steps 4 (17, [some (.ref 540), some (.int b1), some (.int b2), some (.int (g 541 b1.toNatClampNeg))], [.int b2, .int b1, .ref 541], aa_H g) rfl r
  obtain ⟨hb9, n8, ln8, r⟩ := rn_ias (k := 541) rfl ⟨by decide, by decide⟩ rfl r
  have r : rn_s _ 255 (18, [some (.ref 540), some (.int b1), some (.int b2), some (.int (g 541 b1.toNatClampNeg))], [], aa_H (zz_w g 541 b1.toNatClampNeg b2)) v h := r
  obtain ⟨n10, ln10, r⟩ := rn_steps 0 (19, [some (.ref 540), some (.int b1), some (.int b2), some (.int (g 541 b1.toNatClampNeg))], [.int (g 541 b1.toNatClampNeg)], aa_H (zz_w g 541 b1.toNatClampNeg b2)) rfl r
  exact rn_ire rfl r
noncomputable def fn_255 (g : aa_G) (a1 : Int32) (a2 : Int32) : Int32 × aa_G := fn_255_4 (fn_156 g) a1 a2
theorem dn_255 {v : Option Value} {h : zz_H} {n : Nat} {g : aa_G} {a1 : Int32} {a2 : Int32}  (r : rn_s n 255 (0, zz_in [.ref 540, .int a1, .int a2] (zz_nl 255), [], aa_H g) v h) : iw_s v h (fn_255 g a1 a2) := by
  have r : rn_s n 255 (0, [some (.ref 540), some (.int a1), some (.int a2), none], [], aa_H g) v h := r
  unfold fn_255
  obtain ⟨n1, ln1, r⟩ := rn_steps 0 (1, [some (.ref 540), some (.int a1), some (.int a2), none], [.ref 540], aa_H g) rfl r
  obtain ⟨_, n2, v1, h1, -, ln2, rc, r⟩ := rn_call (m2 := 156) (as := [.ref 540]) (rest := []) rfl rfl r
  obtain ⟨rfl, rfl⟩ := dn_156 rc
  have r : rn_s _ 255 (4, [some (.ref 540), some (.int a1), some (.int a2), none], [], aa_H (fn_156 g)) v h := r
  exact dn_255_4 none rn_jn r
-- 254: UnequalHoursModel offset
noncomputable def fn_254 (g : aa_G) (a1 : Int32) (a2 : Int32) : Int32 × aa_G := if (fn_192 g a1) = 0 then (-1000000, g) else if (fn_154 a2 (-43200) 43200) = 0 then (-1000000, g) else ((fn_255 g (fn_164 a1) a2).1, (fn_255 g (fn_164 a1) a2).2)
theorem dn_254 {v : Option Value} {h : zz_H} {n : Nat} {g : aa_G} {a1 : Int32} {a2 : Int32}  (r : rn_s n 254 (0, zz_in [.ref 540, .int a1, .int a2] (zz_nl 254), [], aa_H g) v h) : iw_s v h (fn_254 g a1 a2) := by
  have r : rn_s n 254 (0, [some (.ref 540), some (.int a1), some (.int a2)], [], aa_H g) v h := r
  unfold fn_254
  obtain ⟨n1, ln1, r⟩ := rn_steps 1 (2, [some (.ref 540), some (.int a1), some (.int a2)], [.int a1, .ref 540], aa_H g) rfl r
  obtain ⟨_, n2, v1, h1, -, ln2, rc, r⟩ := rn_call (m2 := 192) (as := [.ref 540, .int a1]) (rest := []) rfl rfl r
  obtain ⟨rfl, rfl⟩ := dn_192 rc
  have r : rn_s _ 254 (5, [some (.ref 540), some (.int a1), some (.int a2)], [.int (fn_192 g a1)], aa_H g) v h := r
  refine rn_if (iw_s v h) rfl decide_eq_true_iff.symm r (fun c4 l5n l5 r => ?_) (fun c4 l5n l5 r => ?_)
  · obtain ⟨n6, ln6, r⟩ := rn_steps 0 (34, [some (.ref 540), some (.int a1), some (.int a2)], [.int (-1000000)], aa_H g) rfl r
    exact rn_ire rfl r
  · obtain ⟨n7, ln7, r⟩ := rn_steps 2 (13, [some (.ref 540), some (.int a1), some (.int a2)], [.int 43200, .int (-43200), .int a2], aa_H g) rfl r
    obtain ⟨_, n8, v1, h1, -, ln8, rc, r⟩ := rn_call (m2 := 154) (as := [.int a2, .int (-43200), .int 43200]) (rest := []) rfl rfl r
    obtain ⟨rfl, rfl⟩ := dn_154 rc
    have r : rn_s _ 254 (16, [some (.ref 540), some (.int a1), some (.int a2)], [.int (fn_154 a2 (-43200) 43200)], aa_H g) v h := r
    refine rn_if (iw_s v h) rfl decide_eq_true_iff.symm r (fun c10 l11n l11 r => ?_) (fun c10 l11n l11 r => ?_)
    · obtain ⟨n12, ln12, r⟩ := rn_steps 0 (34, [some (.ref 540), some (.int a1), some (.int a2)], [.int (-1000000)], aa_H g) rfl r
      exact rn_ire rfl r
    · obtain ⟨n13, ln13, r⟩ := rn_steps 1 (21, [some (.ref 540), some (.int a1), some (.int a2)], [.int a1, .ref 540], aa_H g) rfl r
      obtain ⟨_, n14, v1, h1, -, ln14, rc, r⟩ := rn_call (m2 := 164) (as := [.int a1]) (rest := [.ref 540]) rfl rfl r
      obtain ⟨rfl, rfl⟩ := dn_164 rc
      have r : rn_s _ 254 (24, [some (.ref 540), some (.int a1), some (.int a2)], [.int (fn_164 a1), .ref 540], aa_H g) v h := r
      obtain ⟨n16, ln16, r⟩ := rn_steps 0 (25, [some (.ref 540), some (.int a1), some (.int a2)], [.int a2, .int (fn_164 a1), .ref 540], aa_H g) rfl r
      obtain ⟨_, n17, v1, h1, -, ln17, rc, r⟩ := rn_call (m2 := 255) (as := [.ref 540, .int (fn_164 a1), .int a2]) (rest := []) rfl rfl r
      obtain ⟨rfl, rfl⟩ := dn_255 rc
      have r : rn_s _ 254 (28, [some (.ref 540), some (.int a1), some (.int a2)], [.int ((fn_255 g (fn_164 a1) a2).1)], aa_H ((fn_255 g (fn_164 a1) a2).2)) v h := r
      obtain ⟨n19, ln19, r⟩ := rn_steps 0 (34, [some (.ref 540), some (.int a1), some (.int a2)], [.int ((fn_255 g (fn_164 a1) a2).1)], aa_H ((fn_255 g (fn_164 a1) a2).2)) rfl r
      exact rn_ire rfl r
-- 256: UnequalHoursModel parts
noncomputable def fn_256 (g : aa_G) (a1 : Int32) : Int32 × aa_G := if (fn_154 a1 1 3600) = 0 then (-1, g) else ((fn_255 g 1 a1).1, (fn_255 g 1 a1).2)
theorem dn_256 {v : Option Value} {h : zz_H} {n : Nat} {g : aa_G} {a1 : Int32}  (r : rn_s n 256 (0, zz_in [.ref 540, .int a1] (zz_nl 256), [], aa_H g) v h) : iw_s v h (fn_256 g a1) := by
  have r : rn_s n 256 (0, [some (.ref 540), some (.int a1)], [], aa_H g) v h := r
  unfold fn_256
  obtain ⟨n1, ln1, r⟩ := rn_steps 2 (5, [some (.ref 540), some (.int a1)], [.int 3600, .int 1, .int a1], aa_H g) rfl r
  obtain ⟨_, n2, v1, h1, -, ln2, rc, r⟩ := rn_call (m2 := 154) (as := [.int a1, .int 1, .int 3600]) (rest := []) rfl rfl r
  obtain ⟨rfl, rfl⟩ := dn_154 rc
  have r : rn_s _ 256 (8, [some (.ref 540), some (.int a1)], [.int (fn_154 a1 1 3600)], aa_H g) v h := r
  refine rn_if (iw_s v h) rfl decide_eq_true_iff.symm r (fun c4 l5n l5 r => ?_) (fun c4 l5n l5 r => ?_)
  · obtain ⟨n6, ln6, r⟩ := rn_steps 0 (21, [some (.ref 540), some (.int a1)], [.int (-1)], aa_H g) rfl r
    exact rn_ire rfl r
  · obtain ⟨n7, ln7, r⟩ := rn_steps 2 (14, [some (.ref 540), some (.int a1)], [.int a1, .int 1, .ref 540], aa_H g) rfl r
    obtain ⟨_, n8, v1, h1, -, ln8, rc, r⟩ := rn_call (m2 := 255) (as := [.ref 540, .int 1, .int a1]) (rest := []) rfl rfl r
    obtain ⟨rfl, rfl⟩ := dn_255 rc
    have r : rn_s _ 256 (17, [some (.ref 540), some (.int a1)], [.int ((fn_255 g 1 a1).1)], aa_H ((fn_255 g 1 a1).2)) v h := r
    obtain ⟨n10, ln10, r⟩ := rn_steps 0 (21, [some (.ref 540), some (.int a1)], [.int ((fn_255 g 1 a1).1)], aa_H ((fn_255 g 1 a1).2)) rfl r
    exact rn_ire rfl r
-- 177: UnequalHoursModel layPoint
noncomputable def fn_177 (g : aa_G) (a1 : Int32) (a2 : Int32) (a3 : Int32) (a4 : Int32) : aa_G := zz_w (zz_w (zz_w g 541 (a1 + 1).toNatClampNeg a2) 541 (a1 + 2).toNatClampNeg a3) 541 (a1 + 3).toNatClampNeg a4
theorem dn_177 {v : Option Value} {h : zz_H} {n : Nat} {g : aa_G} {a1 : Int32} {a2 : Int32} {a3 : Int32} {a4 : Int32}  (r : rn_s n 177 (0, zz_in [.ref 540, .int a1, .int a2, .int a3, .int a4] (zz_nl 177), [], aa_H g) v h) : ig_s v h (fn_177 g a1 a2 a3 a4) := by
  have r : rn_s n 177 (0, [some (.ref 540), some (.int a1), some (.int a2), some (.int a3), some (.int a4)], [], aa_H g) v h := r
  unfold fn_177
  obtain ⟨n1, ln1, r⟩ := rn_steps 5 (8, [some (.ref 540), some (.int a1), some (.int a2), some (.int a3), some (.int a4)], [.int a2, .int (a1 + 1), .ref 541], aa_H g) rfl r
  obtain ⟨hb3, n2, ln2, r⟩ := rn_ias (k := 541) rfl ⟨by decide, by decide⟩ rfl r
  have r : rn_s _ 177 (9, [some (.ref 540), some (.int a1), some (.int a2), some (.int a3), some (.int a4)], [], aa_H (zz_w g 541 (a1 + 1).toNatClampNeg a2)) v h := r
  obtain ⟨n4, ln4, r⟩ := rn_steps 5 (17, [some (.ref 540), some (.int a1), some (.int a2), some (.int a3), some (.int a4)], [.int a3, .int (a1 + 2), .ref 541], aa_H (zz_w g 541 (a1 + 1).toNatClampNeg a2)) rfl r
  obtain ⟨hb6, n5, ln5, r⟩ := rn_ias (k := 541) rfl ⟨by decide, by decide⟩ rfl r
  have r : rn_s _ 177 (18, [some (.ref 540), some (.int a1), some (.int a2), some (.int a3), some (.int a4)], [], aa_H (zz_w (zz_w g 541 (a1 + 1).toNatClampNeg a2) 541 (a1 + 2).toNatClampNeg a3)) v h := r
  obtain ⟨n7, ln7, r⟩ := rn_steps 5 (27, [some (.ref 540), some (.int a1), some (.int a2), some (.int a3), some (.int a4)], [.int a4, .int (a1 + 3), .ref 541], aa_H (zz_w (zz_w g 541 (a1 + 1).toNatClampNeg a2) 541 (a1 + 2).toNatClampNeg a3)) rfl r
  obtain ⟨hb9, n8, ln8, r⟩ := rn_ias (k := 541) rfl ⟨by decide, by decide⟩ rfl r
  have r : rn_s _ 177 (28, [some (.ref 540), some (.int a1), some (.int a2), some (.int a3), some (.int a4)], [], aa_H (zz_w (zz_w (zz_w g 541 (a1 + 1).toNatClampNeg a2) 541 (a1 + 2).toNatClampNeg a3) 541 (a1 + 3).toNatClampNeg a4)) v h := r
  exact rn_ret 1 rfl r
-- 258: UnequalHoursModel pointOf
noncomputable def fn_258_2b (g : aa_G) (b1 : Int32) (b2 : Int32) (b3 : Int32) : Int32 ⊕ Int32 := if (g 541 ((fn_164 b1) + 1).toNatClampNeg) ≤ b3 then .inr b3 else if b2 ≤ (g 541 (fn_175 b1 b3).toNatClampNeg) then .inr b3 else .inl (b3 + 1)
noncomputable def fn_258_2 (g : aa_G) (b1 : Int32) (b2 : Int32) (b3 : Int32) : Int32 := lp_f 0 (fun z : Int32 => fn_258_2b g b1 b2 z) b3
theorem dn_258_2l {v : Option Value} {h : zz_H} {N : Nat} {g : aa_G} {b1 : Int32} {b2 : Int32} {d : Int32} : ∀ (n : Nat), n ≤ N → ∀ (b3 : Int32), rn_s n 258 (2, [some (.ref 540), some (.int b1), some (.int b2), some (.int b3)], [], aa_H g) v h → (ir_s g v h) (lp_f d (fun z : Int32 => fn_258_2b g b1 b2 z) b3) := by
  generalize hf : (fun z : Int32 => fn_258_2b g b1 b2 z) = f
  intro n
  induction n using Nat.strongRecOn with
  | _ n ih =>
    intro hN b3  r
    refine lp_go ?_
    rw [← congrFun hf b3]
    show lp_q (ir_s g v h) d f (fn_258_2b g b1 b2 b3)
    unfold fn_258_2b
    obtain ⟨n2, ln2, r⟩ := rn_steps 3 (8, [some (.ref 540), some (.int b1), some (.int b2), some (.int b3)], [.int b1, .ref 541, .int b3], aa_H g) rfl r
    obtain ⟨_, n3, v1, h1, -, ln3, rc, r⟩ := rn_call (m2 := 164) (as := [.int b1]) (rest := [.ref 541, .int b3]) rfl rfl r
    obtain ⟨rfl, rfl⟩ := dn_164 rc
    have r : rn_s _ 258 (11, [some (.ref 540), some (.int b1), some (.int b2), some (.int b3)], [.int (fn_164 b1), .ref 541, .int b3], aa_H g) v h := r
    obtain ⟨n5, ln5, r⟩ := rn_steps 1 (13, [some (.ref 540), some (.int b1), some (.int b2), some (.int b3)], [.int ((fn_164 b1) + 1), .ref 541, .int b3], aa_H g) rfl r
    obtain ⟨hb7, n6, ln6, r⟩ := rn_ial (k := 541) rfl ⟨by decide, by decide⟩ rfl r
    have r : rn_s _ 258 (14, [some (.ref 540), some (.int b1), some (.int b2), some (.int b3)], [.int (g 541 ((fn_164 b1) + 1).toNatClampNeg), .int b3], aa_H g) v h := r
    refine rn_ic (lp_q (ir_s g v h) d f) rfl decide_eq_true_iff.symm r (fun c8 l9n l9 r => ?_) (fun c8 l9n l9 r => ?_)
    · obtain ⟨n10, ln10, r⟩ := rn_steps 0 (38, [some (.ref 540), some (.int b1), some (.int b2), some (.int b3)], [.int b3], aa_H g) rfl r
      exact rn_ire rfl r
    · obtain ⟨n11, ln11, r⟩ := rn_steps 3 (23, [some (.ref 540), some (.int b1), some (.int b2), some (.int b3)], [.int b3, .int b1, .ref 541], aa_H g) rfl r
      obtain ⟨_, n12, v1, h1, -, ln12, rc, r⟩ := rn_call (m2 := 175) (as := [.int b1, .int b3]) (rest := [.ref 541]) rfl rfl r
      obtain ⟨rfl, rfl⟩ := dn_175 rc
      have r : rn_s _ 258 (26, [some (.ref 540), some (.int b1), some (.int b2), some (.int b3)], [.int (fn_175 b1 b3), .ref 541], aa_H g) v h := r
      obtain ⟨hb15, n14, ln14, r⟩ := rn_ial (k := 541) rfl ⟨by decide, by decide⟩ rfl r
      have r : rn_s _ 258 (27, [some (.ref 540), some (.int b1), some (.int b2), some (.int b3)], [.int (g 541 (fn_175 b1 b3).toNatClampNeg)], aa_H g) v h := r
      obtain ⟨n16, ln16, r⟩ := rn_steps 0 (28, [some (.ref 540), some (.int b1), some (.int b2), some (.int b3)], [.int b2, .int (g 541 (fn_175 b1 b3).toNatClampNeg)], aa_H g) rfl r
      refine rn_ic (lp_q (ir_s g v h) d f) rfl decide_eq_true_iff.symm r (fun c17 l18n l18 r => ?_) (fun c17 l18n l18 r => ?_)
      · obtain ⟨n19, ln19, r⟩ := rn_steps 0 (38, [some (.ref 540), some (.int b1), some (.int b2), some (.int b3)], [.int b3], aa_H g) rfl r
        exact rn_ire rfl r
      · obtain ⟨n20, ln20, r⟩ := rn_steps 1 (2, [some (.ref 540), some (.int b1), some (.int b2), some (.int (b3 + 1))], [], aa_H g) rfl r
        exact ih _ (by omega) (by omega) (b3 + 1) r
theorem dn_258_2 {v : Option Value} {h : zz_H} {n : Nat} {g : aa_G} {b1 : Int32} {b2 : Int32} {b3 : Int32}  (r : rn_s n 258 (2, [some (.ref 540), some (.int b1), some (.int b2), some (.int b3)], [], aa_H g) v h) : (ir_s g v h) (fn_258_2 g b1 b2 b3) := dn_258_2l  n (Nat.le_refl n) b3 r
noncomputable def fn_258 (g : aa_G) (a1 : Int32) (a2 : Int32) : Int32 := fn_258_2 g a1 a2 0
theorem dn_258 {v : Option Value} {h : zz_H} {n : Nat} {g : aa_G} {a1 : Int32} {a2 : Int32}  (r : rn_s n 258 (0, zz_in [.ref 540, .int a1, .int a2] (zz_nl 258), [], aa_H g) v h) : ir_s g v h (fn_258 g a1 a2) := by
  have r : rn_s n 258 (0, [some (.ref 540), some (.int a1), some (.int a2), none], [], aa_H g) v h := r
  unfold fn_258
  obtain ⟨n1, ln1, r⟩ := rn_steps 1 (2, [some (.ref 540), some (.int a1), some (.int a2), some (.int 0)], [], aa_H g) rfl r
  exact dn_258_2 r
-- 257: UnequalHoursModel set
noncomputable def fn_257_211 (g : aa_G) (s0 : Int32) : Int32 × aa_G := (g 541 s0.toNatClampNeg, g)
theorem dn_257_211 {v : Option Value} {h : zz_H} {n : Nat} {g : aa_G} {s0 : Int32}  (x0 x1 x2 x3 x4 x5 x6 x7 x8 : Option Value) (jx0 : rn_jk x0) (jx1 : rn_jk x1) (jx2 : rn_jk x2) (jx3 : rn_jk x3) (jx4 : rn_jk x4) (jx5 : rn_jk x5) (jx6 : rn_jk x6) (jx7 : rn_jk x7) (jx8 : rn_jk x8) (r : rn_s n 257 (211, [x0, x1, x2, x3, x4, x5, x6, x7, x8], [.int s0, .ref 541], aa_H g) v h) : iw_s v h (fn_257_211 g s0) := by
  unfold fn_257_211
  obtain ⟨hb104, n103, ln103, r⟩ := rn_ial (k := 541) rfl ⟨by decide, by decide⟩ rfl r
  have r : rn_s _ 257 (212, [x0, x1, x2, x3, x4, x5, x6, x7, x8], [.int (g 541 s0.toNatClampNeg)], aa_H g) v h := r
  exact rn_ire rfl r
noncomputable def fn_257_179 (g : aa_G) (b1 : Int32) (b2 : Int32) (b3 : Int32) (b4 : Int32) (b5 : Int32) (b6 : Int32) : Int32 × aa_G := fn_257_211 (fn_177 (zz_w g 541 (fn_175 b1 b6).toNatClampNeg b2) (fn_175 b1 b6) b3 b4 (-1)) b5
theorem dn_257_179 {v : Option Value} {h : zz_H} {n : Nat} {g : aa_G} {b1 : Int32} {b2 : Int32} {b3 : Int32} {b4 : Int32} {b5 : Int32} {b6 : Int32}  (x7 x8 : Option Value) (jx7 : rn_jk x7) (jx8 : rn_jk x8) (r : rn_s n 257 (179, [some (.ref 540), some (.int b1), some (.int b2), some (.int b3), some (.int b4), some (.int b5), some (.int b6), x7, x8], [], aa_H g) v h) : iw_s v h (fn_257_179 g b1 b2 b3 b4 b5 b6) := by
  unfold fn_257_179
  obtain ⟨n72, ln72, r⟩ := rn_steps 3 (186, [some (.ref 540), some (.int b1), some (.int b2), some (.int b3), some (.int b4), some (.int b5), some (.int b6), x7, x8], [.int b6, .int b1, .ref 541], aa_H g) rfl r
  obtain ⟨_, n73, v1, h1, -, ln73, rc, r⟩ := rn_call (m2 := 175) (as := [.int b1, .int b6]) (rest := [.ref 541]) rfl rfl r
  obtain ⟨rfl, rfl⟩ := dn_175 rc
  have r : rn_s _ 257 (189, [some (.ref 540), some (.int b1), some (.int b2), some (.int b3), some (.int b4), some (.int b5), some (.int b6), x7, x8], [.int (fn_175 b1 b6), .ref 541], aa_H g) v h := r
  obtain ⟨n75, ln75, r⟩ := rn_steps 0 (190, [some (.ref 540), some (.int b1), some (.int b2), some (.int b3), some (.int b4), some (.int b5), some (.int b6), x7, x8], [.int b2, .int (fn_175 b1 b6), .ref 541], aa_H g) rfl r
  obtain ⟨hb77, n76, ln76, r⟩ := rn_ias (k := 541) rfl ⟨by decide, by decide⟩ rfl r
  have r : rn_s _ 257 (191, [some (.ref 540), some (.int b1), some (.int b2), some (.int b3), some (.int b4), some (.int b5), some (.int b6), x7, x8], [], aa_H (zz_w g 541 (fn_175 b1 b6).toNatClampNeg b2)) v h := r
  obtain ⟨n78, ln78, r⟩ := rn_steps 2 (195, [some (.ref 540), some (.int b1), some (.int b2), some (.int b3), some (.int b4), some (.int b5), some (.int b6), x7, x8], [.int b6, .int b1, .ref 540], aa_H (zz_w g 541 (fn_175 b1 b6).toNatClampNeg b2)) rfl r
  obtain ⟨_, n79, v1, h1, -, ln79, rc, r⟩ := rn_call (m2 := 175) (as := [.int b1, .int b6]) (rest := [.ref 540]) rfl rfl r
  obtain ⟨rfl, rfl⟩ := dn_175 rc
  have r : rn_s _ 257 (198, [some (.ref 540), some (.int b1), some (.int b2), some (.int b3), some (.int b4), some (.int b5), some (.int b6), x7, x8], [.int (fn_175 b1 b6), .ref 540], aa_H (zz_w g 541 (fn_175 b1 b6).toNatClampNeg b2)) v h := r
  obtain ⟨n81, ln81, r⟩ := rn_steps 2 (202, [some (.ref 540), some (.int b1), some (.int b2), some (.int b3), some (.int b4), some (.int b5), some (.int b6), x7, x8], [.int (-1), .int b4, .int b3, .int (fn_175 b1 b6), .ref 540], aa_H (zz_w g 541 (fn_175 b1 b6).toNatClampNeg b2)) rfl r
  obtain ⟨_, n82, v1, h1, -, ln82, rc, r⟩ := rn_call (m2 := 177) (as := [.ref 540, .int (fn_175 b1 b6), .int b3, .int b4, .int (-1)]) (rest := []) rfl rfl r
  obtain ⟨rfl, rfl⟩ := dn_177 rc
  have r : rn_s _ 257 (205, [some (.ref 540), some (.int b1), some (.int b2), some (.int b3), some (.int b4), some (.int b5), some (.int b6), x7, x8], [], aa_H (fn_177 (zz_w g 541 (fn_175 b1 b6).toNatClampNeg b2) (fn_175 b1 b6) b3 b4 (-1))) v h := r
  obtain ⟨n84, ln84, r⟩ := rn_steps 2 (211, [some (.ref 540), some (.int b1), some (.int b2), some (.int b3), some (.int b4), some (.int b5), some (.int b6), x7, x8], [.int b5, .ref 541], aa_H (fn_177 (zz_w g 541 (fn_175 b1 b6).toNatClampNeg b2) (fn_175 b1 b6) b3 b4 (-1))) rfl r
  exact dn_257_211 (some (.ref 540)) (some (.int b1)) (some (.int b2)) (some (.int b3)) (some (.int b4)) (some (.int b5)) (some (.int b6)) x7 x8 rn_jr rn_ji rn_ji rn_ji rn_ji rn_ji rn_ji jx7 jx8 r
noncomputable def fn_257_135b (g : aa_G) (b1 : Int32) (b2 : Int32) (b3 : Int32) (b4 : Int32) (b5 : Int32) (b6 : Int32) (b8 : Int32) : (aa_G × Int32) ⊕ (Int32 × aa_G) := if b8 < (fn_175 b1 b6) then .inr (fn_257_179 (zz_w g 541 b5.toNatClampNeg ((g 541 b5.toNatClampNeg) + 1)) b1 b2 b3 b4 b5 b6) else .inl (zz_w g 541 (b8 + 4).toNatClampNeg (g 541 b8.toNatClampNeg), b8 + (-1))
noncomputable def fn_257_135 (g : aa_G) (b1 : Int32) (b2 : Int32) (b3 : Int32) (b4 : Int32) (b5 : Int32) (b6 : Int32) (b8 : Int32) : Int32 × aa_G := lp_f (0, g) (fun z : (aa_G × Int32) => fn_257_135b z.1 b1 b2 b3 b4 b5 b6 z.2) (g, b8)
theorem dn_257_135l {v : Option Value} {h : zz_H} {N : Nat} {b1 : Int32} {b2 : Int32} {b3 : Int32} {b4 : Int32} {b5 : Int32} {b6 : Int32} {d : Int32 × aa_G} : ∀ (n : Nat), n ≤ N → ∀ (g : aa_G) (b8 : Int32) (x7 : Option Value) (jx7 : rn_jk x7), rn_s n 257 (135, [some (.ref 540), some (.int b1), some (.int b2), some (.int b3), some (.int b4), some (.int b5), some (.int b6), x7, some (.int b8)], [], aa_H g) v h → (iw_s v h) (lp_f d (fun z : (aa_G × Int32) => fn_257_135b z.1 b1 b2 b3 b4 b5 b6 z.2) (g, b8)) := by
  generalize hf : (fun z : (aa_G × Int32) => fn_257_135b z.1 b1 b2 b3 b4 b5 b6 z.2) = f
  intro n
  induction n using Nat.strongRecOn with
  | _ n ih =>
    intro hN g b8 x7 jx7 r
    refine lp_go ?_
    rw [← congrFun hf (g, b8)]
    show lp_q (iw_s v h) d f (fn_257_135b g b1 b2 b3 b4 b5 b6 b8)
    unfold fn_257_135b
    obtain ⟨n85, ln85, r⟩ := rn_steps 2 (140, [some (.ref 540), some (.int b1), some (.int b2), some (.int b3), some (.int b4), some (.int b5), some (.int b6), x7, some (.int b8)], [.int b6, .int b1, .int b8], aa_H g) rfl r
    obtain ⟨_, n86, v1, h1, -, ln86, rc, r⟩ := rn_call (m2 := 175) (as := [.int b1, .int b6]) (rest := [.int b8]) rfl rfl r
    obtain ⟨rfl, rfl⟩ := dn_175 rc
    have r : rn_s _ 257 (143, [some (.ref 540), some (.int b1), some (.int b2), some (.int b3), some (.int b4), some (.int b5), some (.int b6), x7, some (.int b8)], [.int (fn_175 b1 b6), .int b8], aa_H g) v h := r
    refine rn_ic (lp_q (iw_s v h) d f) rfl decide_eq_true_iff.symm r (fun c88 l89n l89 r => ?_) (fun c88 l89n l89 r => ?_)
    · obtain ⟨n90, ln90, r⟩ := rn_steps 3 (175, [some (.ref 540), some (.int b1), some (.int b2), some (.int b3), some (.int b4), some (.int b5), some (.int b6), x7, some (.int b8)], [.int b5, .ref 541, .int b5, .ref 541], aa_H g) rfl r
      obtain ⟨hb92, n91, ln91, r⟩ := rn_ial (k := 541) rfl ⟨by decide, by decide⟩ rfl r
      have r : rn_s _ 257 (176, [some (.ref 540), some (.int b1), some (.int b2), some (.int b3), some (.int b4), some (.int b5), some (.int b6), x7, some (.int b8)], [.int (g 541 b5.toNatClampNeg), .int b5, .ref 541], aa_H g) v h := r
      obtain ⟨n93, ln93, r⟩ := rn_steps 1 (178, [some (.ref 540), some (.int b1), some (.int b2), some (.int b3), some (.int b4), some (.int b5), some (.int b6), x7, some (.int b8)], [.int ((g 541 b5.toNatClampNeg) + 1), .int b5, .ref 541], aa_H g) rfl r
      obtain ⟨hb95, n94, ln94, r⟩ := rn_ias (k := 541) rfl ⟨by decide, by decide⟩ rfl r
      have r : rn_s _ 257 (179, [some (.ref 540), some (.int b1), some (.int b2), some (.int b3), some (.int b4), some (.int b5), some (.int b6), x7, some (.int b8)], [], aa_H (zz_w g 541 b5.toNatClampNeg ((g 541 b5.toNatClampNeg) + 1))) v h := r
      exact dn_257_179 x7 (some (.int b8)) jx7 rn_ji r
    · obtain ⟨n96, ln96, r⟩ := rn_steps 7 (160, [some (.ref 540), some (.int b1), some (.int b2), some (.int b3), some (.int b4), some (.int b5), some (.int b6), x7, some (.int b8)], [.int b8, .ref 541, .int (b8 + 4), .ref 541], aa_H g) rfl r
      obtain ⟨hb98, n97, ln97, r⟩ := rn_ial (k := 541) rfl ⟨by decide, by decide⟩ rfl r
      have r : rn_s _ 257 (161, [some (.ref 540), some (.int b1), some (.int b2), some (.int b3), some (.int b4), some (.int b5), some (.int b6), x7, some (.int b8)], [.int (g 541 b8.toNatClampNeg), .int (b8 + 4), .ref 541], aa_H g) v h := r
      obtain ⟨hb100, n99, ln99, r⟩ := rn_ias (k := 541) rfl ⟨by decide, by decide⟩ rfl r
      have r : rn_s _ 257 (162, [some (.ref 540), some (.int b1), some (.int b2), some (.int b3), some (.int b4), some (.int b5), some (.int b6), x7, some (.int b8)], [], aa_H (zz_w g 541 (b8 + 4).toNatClampNeg (g 541 b8.toNatClampNeg))) v h := r
      obtain ⟨n101, ln101, r⟩ := rn_iin (i := 8) rfl rfl jx7 rfl rfl ⟨Nat.le_of_ble_eq_true rfl, Nat.le_of_ble_eq_true rfl⟩ r
      have r : rn_s _ 257 (165, [some (.ref 540), some (.int b1), some (.int b2), some (.int b3), some (.int b4), some (.int b5), some (.int b6), x7, some (.int (b8 + (-1)))], [], aa_H (zz_w g 541 (b8 + 4).toNatClampNeg (g 541 b8.toNatClampNeg))) v h := r
      obtain ⟨n102, ln102, r⟩ := rn_steps 0 (135, [some (.ref 540), some (.int b1), some (.int b2), some (.int b3), some (.int b4), some (.int b5), some (.int b6), x7, some (.int (b8 + (-1)))], [], aa_H (zz_w g 541 (b8 + 4).toNatClampNeg (g 541 b8.toNatClampNeg))) rfl r
      exact ih _ (by omega) (by omega) (zz_w g 541 (b8 + 4).toNatClampNeg (g 541 b8.toNatClampNeg)) (b8 + (-1)) x7 jx7 r
theorem dn_257_135 {v : Option Value} {h : zz_H} {n : Nat} {g : aa_G} {b1 : Int32} {b2 : Int32} {b3 : Int32} {b4 : Int32} {b5 : Int32} {b6 : Int32} {b8 : Int32}  (x7 : Option Value) (jx7 : rn_jk x7) (r : rn_s n 257 (135, [some (.ref 540), some (.int b1), some (.int b2), some (.int b3), some (.int b4), some (.int b5), some (.int b6), x7, some (.int b8)], [], aa_H g) v h) : (iw_s v h) (fn_257_135 g b1 b2 b3 b4 b5 b6 b8) := dn_257_135l  n (Nat.le_refl n) g b8 x7 jx7 r
noncomputable def fn_257_115 (g : aa_G) (b1 : Int32) (b2 : Int32) (b3 : Int32) (b4 : Int32) (b5 : Int32) (b6 : Int32) (b7 : Int32) : Int32 × aa_G := if b7 ≠ 0 then fn_257_179 g b1 b2 b3 b4 b5 b6 else fn_257_135 g b1 b2 b3 b4 b5 b6 ((fn_175 b1 (g 541 b5.toNatClampNeg)) - 1)
theorem dn_257_115 {v : Option Value} {h : zz_H} {n : Nat} {g : aa_G} {b1 : Int32} {b2 : Int32} {b3 : Int32} {b4 : Int32} {b5 : Int32} {b6 : Int32} {b7 : Int32}  (x8 : Option Value) (jx8 : rn_jk x8) (r : rn_s n 257 (115, [some (.ref 540), some (.int b1), some (.int b2), some (.int b3), some (.int b4), some (.int b5), some (.int b6), some (.int b7), x8], [], aa_H g) v h) : iw_s v h (fn_257_115 g b1 b2 b3 b4 b5 b6 b7) := by
  unfold fn_257_115
  obtain ⟨n63, ln63, r⟩ := rn_steps 0 (117, [some (.ref 540), some (.int b1), some (.int b2), some (.int b3), some (.int b4), some (.int b5), some (.int b6), some (.int b7), x8], [.int b7], aa_H g) rfl r
  refine rn_if (iw_s v h) rfl decide_eq_true_iff.symm r (fun c64 l65n l65 r => ?_) (fun c64 l65n l65 r => ?_)
  · exact dn_257_179 (some (.int b7)) x8 rn_ji jx8 r
  · obtain ⟨n66, ln66, r⟩ := rn_steps 3 (127, [some (.ref 540), some (.int b1), some (.int b2), some (.int b3), some (.int b4), some (.int b5), some (.int b6), some (.int b7), x8], [.int b5, .ref 541, .int b1], aa_H g) rfl r
    obtain ⟨hb68, n67, ln67, r⟩ := rn_ial (k := 541) rfl ⟨by decide, by decide⟩ rfl r
    have r : rn_s _ 257 (128, [some (.ref 540), some (.int b1), some (.int b2), some (.int b3), some (.int b4), some (.int b5), some (.int b6), some (.int b7), x8], [.int (g 541 b5.toNatClampNeg), .int b1], aa_H g) v h := r
    obtain ⟨_, n69, v1, h1, -, ln69, rc, r⟩ := rn_call (m2 := 175) (as := [.int b1, .int (g 541 b5.toNatClampNeg)]) (rest := []) rfl rfl r
    obtain ⟨rfl, rfl⟩ := dn_175 rc
    have r : rn_s _ 257 (131, [some (.ref 540), some (.int b1), some (.int b2), some (.int b3), some (.int b4), some (.int b5), some (.int b6), some (.int b7), x8], [.int (fn_175 b1 (g 541 b5.toNatClampNeg))], aa_H g) v h := r
    obtain ⟨n71, ln71, r⟩ := rn_steps 2 (135, [some (.ref 540), some (.int b1), some (.int b2), some (.int b3), some (.int b4), some (.int b5), some (.int b6), some (.int b7), some (.int ((fn_175 b1 (g 541 b5.toNatClampNeg)) - 1))], [], aa_H g) rfl r
    exact dn_257_135 (some (.int b7)) rn_ji r
noncomputable def fn_257_111 (g : aa_G) (b1 : Int32) (b2 : Int32) (b3 : Int32) (b4 : Int32) (b5 : Int32) (b6 : Int32) (b7 : Int32) : Int32 × aa_G := fn_257_115 (fn_156 g) b1 b2 b3 b4 b5 b6 b7
theorem dn_257_111 {v : Option Value} {h : zz_H} {n : Nat} {g : aa_G} {b1 : Int32} {b2 : Int32} {b3 : Int32} {b4 : Int32} {b5 : Int32} {b6 : Int32} {b7 : Int32}  (x8 : Option Value) (jx8 : rn_jk x8) (r : rn_s n 257 (111, [some (.ref 540), some (.int b1), some (.int b2), some (.int b3), some (.int b4), some (.int b5), some (.int b6), some (.int b7), x8], [], aa_H g) v h) : iw_s v h (fn_257_111 g b1 b2 b3 b4 b5 b6 b7) := by
  unfold fn_257_111
  obtain ⟨n60, ln60, r⟩ := rn_steps 0 (112, [some (.ref 540), some (.int b1), some (.int b2), some (.int b3), some (.int b4), some (.int b5), some (.int b6), some (.int b7), x8], [.ref 540], aa_H g) rfl r
  obtain ⟨_, n61, v1, h1, -, ln61, rc, r⟩ := rn_call (m2 := 156) (as := [.ref 540]) (rest := []) rfl rfl r
  obtain ⟨rfl, rfl⟩ := dn_156 rc
  have r : rn_s _ 257 (115, [some (.ref 540), some (.int b1), some (.int b2), some (.int b3), some (.int b4), some (.int b5), some (.int b6), some (.int b7), x8], [], aa_H (fn_156 g)) v h := r
  exact dn_257_115 x8 jx8 r
noncomputable def fn_257_90 (g : aa_G) (b1 : Int32) (b2 : Int32) (b3 : Int32) (b4 : Int32) (b5 : Int32) (b6 : Int32) (s0 : Int32) : Int32 × aa_G := if s0 ≠ 0 then fn_257_111 g b1 b2 b3 b4 b5 b6 s0 else if (g 541 b5.toNatClampNeg) ≠ 12 then fn_257_111 g b1 b2 b3 b4 b5 b6 s0 else (-1, g)
theorem dn_257_90 {v : Option Value} {h : zz_H} {n : Nat} {g : aa_G} {b1 : Int32} {b2 : Int32} {b3 : Int32} {b4 : Int32} {b5 : Int32} {b6 : Int32} {s0 : Int32}  (x7 x8 : Option Value) (jx7 : rn_jk x7) (jx8 : rn_jk x8) (r : rn_s n 257 (90, [some (.ref 540), some (.int b1), some (.int b2), some (.int b3), some (.int b4), some (.int b5), some (.int b6), x7, x8], [.int s0], aa_H g) v h) : iw_s v h (fn_257_90 g b1 b2 b3 b4 b5 b6 s0) := by
  unfold fn_257_90
  obtain ⟨n50, ln50, r⟩ := rn_steps 1 (94, [some (.ref 540), some (.int b1), some (.int b2), some (.int b3), some (.int b4), some (.int b5), some (.int b6), some (.int s0), x8], [.int s0], aa_H g) rfl r
  refine rn_if (iw_s v h) rfl decide_eq_true_iff.symm r (fun c51 l52n l52 r => ?_) (fun c51 l52n l52 r => ?_)
  · exact dn_257_111 x8 jx8 r
  · obtain ⟨n53, ln53, r⟩ := rn_steps 2 (103, [some (.ref 540), some (.int b1), some (.int b2), some (.int b3), some (.int b4), some (.int b5), some (.int b6), some (.int s0), x8], [.int b5, .ref 541], aa_H g) rfl r
    obtain ⟨hb55, n54, ln54, r⟩ := rn_ial (k := 541) rfl ⟨by decide, by decide⟩ rfl r
    have r : rn_s _ 257 (104, [some (.ref 540), some (.int b1), some (.int b2), some (.int b3), some (.int b4), some (.int b5), some (.int b6), some (.int s0), x8], [.int (g 541 b5.toNatClampNeg)], aa_H g) v h := r
    obtain ⟨n56, ln56, r⟩ := rn_steps 0 (106, [some (.ref 540), some (.int b1), some (.int b2), some (.int b3), some (.int b4), some (.int b5), some (.int b6), some (.int s0), x8], [.int 12, .int (g 541 b5.toNatClampNeg)], aa_H g) rfl r
    refine rn_ic (iw_s v h) rfl decide_eq_true_iff.symm r (fun c57 l58n l58 r => ?_) (fun c57 l58n l58 r => ?_)
    · exact dn_257_111 x8 jx8 r
    · obtain ⟨n59, ln59, r⟩ := rn_steps 0 (110, [some (.ref 540), some (.int b1), some (.int b2), some (.int b3), some (.int b4), some (.int b5), some (.int b6), some (.int s0), x8], [.int (-1)], aa_H g) rfl r
      exact rn_ire rfl r
noncomputable def fn_257_89 (g : aa_G) (b1 : Int32) (b2 : Int32) (b3 : Int32) (b4 : Int32) (b5 : Int32) (b6 : Int32) : Int32 × aa_G := fn_257_90 g b1 b2 b3 b4 b5 b6 0
theorem dn_257_89 {v : Option Value} {h : zz_H} {n : Nat} {g : aa_G} {b1 : Int32} {b2 : Int32} {b3 : Int32} {b4 : Int32} {b5 : Int32} {b6 : Int32}  (x7 x8 : Option Value) (jx7 : rn_jk x7) (jx8 : rn_jk x8) (r : rn_s n 257 (89, [some (.ref 540), some (.int b1), some (.int b2), some (.int b3), some (.int b4), some (.int b5), some (.int b6), x7, x8], [], aa_H g) v h) : iw_s v h (fn_257_89 g b1 b2 b3 b4 b5 b6) := by
  unfold fn_257_89
  obtain ⟨n49, ln49, r⟩ := rn_steps 0 (90, [some (.ref 540), some (.int b1), some (.int b2), some (.int b3), some (.int b4), some (.int b5), some (.int b6), x7, x8], [.int 0], aa_H g) rfl r
  exact dn_257_90 x7 x8 jx7 jx8 r
noncomputable def fn_257 (g : aa_G) (a1 : Int32) (a2 : Int32) (a3 : Int32) (a4 : Int32) : Int32 × aa_G := if (fn_192 g a1) = 0 then (-1, g) else if (fn_154 a2 0 359) = 0 then (-1, g) else if (fn_199 a3) = 0 then (-1, g) else if (fn_199 a4) = 0 then (-1, g) else if a3 < a4 then if (g 541 ((fn_164 a1) + 1).toNatClampNeg) ≤ (fn_258 g a1 a2) then fn_257_89 g a1 a2 a3 a4 ((fn_164 a1) + 1) (fn_258 g a1 a2) else if (g 541 (fn_175 a1 (fn_258 g a1 a2)).toNatClampNeg) ≠ a2 then fn_257_89 g a1 a2 a3 a4 ((fn_164 a1) + 1) (fn_258 g a1 a2) else fn_257_90 g a1 a2 a3 a4 ((fn_164 a1) + 1) (fn_258 g a1 a2) 1 else (-1, g)
theorem dn_257 {v : Option Value} {h : zz_H} {n : Nat} {g : aa_G} {a1 : Int32} {a2 : Int32} {a3 : Int32} {a4 : Int32}  (r : rn_s n 257 (0, zz_in [.ref 540, .int a1, .int a2, .int a3, .int a4] (zz_nl 257), [], aa_H g) v h) : iw_s v h (fn_257 g a1 a2 a3 a4) := by
  have r : rn_s n 257 (0, [some (.ref 540), some (.int a1), some (.int a2), some (.int a3), some (.int a4), none, none, none, none], [], aa_H g) v h := r
  unfold fn_257
  obtain ⟨n1, ln1, r⟩ := rn_steps 1 (2, [some (.ref 540), some (.int a1), some (.int a2), some (.int a3), some (.int a4), none, none, none, none], [.int a1, .ref 540], aa_H g) rfl r
  obtain ⟨_, n2, v1, h1, -, ln2, rc, r⟩ := rn_call (m2 := 192) (as := [.ref 540, .int a1]) (rest := []) rfl rfl r
  obtain ⟨rfl, rfl⟩ := dn_192 rc
  have r : rn_s _ 257 (5, [some (.ref 540), some (.int a1), some (.int a2), some (.int a3), some (.int a4), none, none, none, none], [.int (fn_192 g a1)], aa_H g) v h := r
  refine rn_if (iw_s v h) rfl decide_eq_true_iff.symm r (fun c4 l5n l5 r => ?_) (fun c4 l5n l5 r => ?_)
  · obtain ⟨n6, ln6, r⟩ := rn_steps 0 (41, [some (.ref 540), some (.int a1), some (.int a2), some (.int a3), some (.int a4), none, none, none, none], [.int (-1)], aa_H g) rfl r
    exact rn_ire rfl r
  · obtain ⟨n7, ln7, r⟩ := rn_steps 2 (13, [some (.ref 540), some (.int a1), some (.int a2), some (.int a3), some (.int a4), none, none, none, none], [.int 359, .int 0, .int a2], aa_H g) rfl r
    obtain ⟨_, n8, v1, h1, -, ln8, rc, r⟩ := rn_call (m2 := 154) (as := [.int a2, .int 0, .int 359]) (rest := []) rfl rfl r
    obtain ⟨rfl, rfl⟩ := dn_154 rc
    have r : rn_s _ 257 (16, [some (.ref 540), some (.int a1), some (.int a2), some (.int a3), some (.int a4), none, none, none, none], [.int (fn_154 a2 0 359)], aa_H g) v h := r
    refine rn_if (iw_s v h) rfl decide_eq_true_iff.symm r (fun c10 l11n l11 r => ?_) (fun c10 l11n l11 r => ?_)
    · obtain ⟨n12, ln12, r⟩ := rn_steps 0 (41, [some (.ref 540), some (.int a1), some (.int a2), some (.int a3), some (.int a4), none, none, none, none], [.int (-1)], aa_H g) rfl r
      exact rn_ire rfl r
    · obtain ⟨n13, ln13, r⟩ := rn_steps 0 (20, [some (.ref 540), some (.int a1), some (.int a2), some (.int a3), some (.int a4), none, none, none, none], [.int a3], aa_H g) rfl r
      obtain ⟨_, n14, v1, h1, -, ln14, rc, r⟩ := rn_call (m2 := 199) (as := [.int a3]) (rest := []) rfl rfl r
      obtain ⟨rfl, rfl⟩ := dn_199 rc
      have r : rn_s _ 257 (23, [some (.ref 540), some (.int a1), some (.int a2), some (.int a3), some (.int a4), none, none, none, none], [.int (fn_199 a3)], aa_H g) v h := r
      refine rn_if (iw_s v h) rfl decide_eq_true_iff.symm r (fun c16 l17n l17 r => ?_) (fun c16 l17n l17 r => ?_)
      · obtain ⟨n18, ln18, r⟩ := rn_steps 0 (41, [some (.ref 540), some (.int a1), some (.int a2), some (.int a3), some (.int a4), none, none, none, none], [.int (-1)], aa_H g) rfl r
        exact rn_ire rfl r
      · obtain ⟨n19, ln19, r⟩ := rn_steps 0 (28, [some (.ref 540), some (.int a1), some (.int a2), some (.int a3), some (.int a4), none, none, none, none], [.int a4], aa_H g) rfl r
        obtain ⟨_, n20, v1, h1, -, ln20, rc, r⟩ := rn_call (m2 := 199) (as := [.int a4]) (rest := []) rfl rfl r
        obtain ⟨rfl, rfl⟩ := dn_199 rc
        have r : rn_s _ 257 (31, [some (.ref 540), some (.int a1), some (.int a2), some (.int a3), some (.int a4), none, none, none, none], [.int (fn_199 a4)], aa_H g) v h := r
        refine rn_if (iw_s v h) rfl decide_eq_true_iff.symm r (fun c22 l23n l23 r => ?_) (fun c22 l23n l23 r => ?_)
        · obtain ⟨n24, ln24, r⟩ := rn_steps 0 (41, [some (.ref 540), some (.int a1), some (.int a2), some (.int a3), some (.int a4), none, none, none, none], [.int (-1)], aa_H g) rfl r
          exact rn_ire rfl r
        · obtain ⟨n25, ln25, r⟩ := rn_steps 1 (37, [some (.ref 540), some (.int a1), some (.int a2), some (.int a3), some (.int a4), none, none, none, none], [.int a4, .int a3], aa_H g) rfl r
          refine rn_ic (iw_s v h) rfl decide_eq_true_iff.symm r (fun c26 l27n l27 r => ?_) (fun c26 l27n l27 r => ?_)
          · obtain ⟨n28, ln28, r⟩ := rn_steps 0 (43, [some (.ref 540), some (.int a1), some (.int a2), some (.int a3), some (.int a4), none, none, none, none], [.int a1], aa_H g) rfl r
            obtain ⟨_, n29, v1, h1, -, ln29, rc, r⟩ := rn_call (m2 := 164) (as := [.int a1]) (rest := []) rfl rfl r
            obtain ⟨rfl, rfl⟩ := dn_164 rc
            have r : rn_s _ 257 (46, [some (.ref 540), some (.int a1), some (.int a2), some (.int a3), some (.int a4), none, none, none, none], [.int (fn_164 a1)], aa_H g) v h := r
            obtain ⟨n31, ln31, r⟩ := rn_steps 5 (53, [some (.ref 540), some (.int a1), some (.int a2), some (.int a3), some (.int a4), some (.int ((fn_164 a1) + 1)), none, none, none], [.int a2, .int a1, .ref 540], aa_H g) rfl r
            obtain ⟨_, n32, v1, h1, -, ln32, rc, r⟩ := rn_call (m2 := 258) (as := [.ref 540, .int a1, .int a2]) (rest := []) rfl rfl r
            obtain ⟨rfl, rfl⟩ := dn_258 rc
            have r : rn_s _ 257 (56, [some (.ref 540), some (.int a1), some (.int a2), some (.int a3), some (.int a4), some (.int ((fn_164 a1) + 1)), none, none, none], [.int (fn_258 g a1 a2)], aa_H g) v h := r
            obtain ⟨n34, ln34, r⟩ := rn_steps 4 (66, [some (.ref 540), some (.int a1), some (.int a2), some (.int a3), some (.int a4), some (.int ((fn_164 a1) + 1)), some (.int (fn_258 g a1 a2)), none, none], [.int ((fn_164 a1) + 1), .ref 541, .int (fn_258 g a1 a2)], aa_H g) rfl r
            obtain ⟨hb36, n35, ln35, r⟩ := rn_ial (k := 541) rfl ⟨by decide, by decide⟩ rfl r
            have r : rn_s _ 257 (67, [some (.ref 540), some (.int a1), some (.int a2), some (.int a3), some (.int a4), some (.int ((fn_164 a1) + 1)), some (.int (fn_258 g a1 a2)), none, none], [.int (g 541 ((fn_164 a1) + 1).toNatClampNeg), .int (fn_258 g a1 a2)], aa_H g) v h := r
            refine rn_ic (iw_s v h) rfl decide_eq_true_iff.symm r (fun c37 l38n l38 r => ?_) (fun c37 l38n l38 r => ?_)
            · exact dn_257_89 none none rn_jn rn_jn r
            · obtain ⟨n39, ln39, r⟩ := rn_steps 3 (77, [some (.ref 540), some (.int a1), some (.int a2), some (.int a3), some (.int a4), some (.int ((fn_164 a1) + 1)), some (.int (fn_258 g a1 a2)), none, none], [.int (fn_258 g a1 a2), .int a1, .ref 541], aa_H g) rfl r
              obtain ⟨_, n40, v1, h1, -, ln40, rc, r⟩ := rn_call (m2 := 175) (as := [.int a1, .int (fn_258 g a1 a2)]) (rest := [.ref 541]) rfl rfl r
              obtain ⟨rfl, rfl⟩ := dn_175 rc
              have r : rn_s _ 257 (80, [some (.ref 540), some (.int a1), some (.int a2), some (.int a3), some (.int a4), some (.int ((fn_164 a1) + 1)), some (.int (fn_258 g a1 a2)), none, none], [.int (fn_175 a1 (fn_258 g a1 a2)), .ref 541], aa_H g) v h := r
              obtain ⟨hb43, n42, ln42, r⟩ := rn_ial (k := 541) rfl ⟨by decide, by decide⟩ rfl r
              have r : rn_s _ 257 (81, [some (.ref 540), some (.int a1), some (.int a2), some (.int a3), some (.int a4), some (.int ((fn_164 a1) + 1)), some (.int (fn_258 g a1 a2)), none, none], [.int (g 541 (fn_175 a1 (fn_258 g a1 a2)).toNatClampNeg)], aa_H g) v h := r
              obtain ⟨n44, ln44, r⟩ := rn_steps 0 (82, [some (.ref 540), some (.int a1), some (.int a2), some (.int a3), some (.int a4), some (.int ((fn_164 a1) + 1)), some (.int (fn_258 g a1 a2)), none, none], [.int a2, .int (g 541 (fn_175 a1 (fn_258 g a1 a2)).toNatClampNeg)], aa_H g) rfl r
              refine rn_ic (iw_s v h) rfl decide_eq_true_iff.symm r (fun c45 l46n l46 r => ?_) (fun c45 l46n l46 r => ?_)
              · exact dn_257_89 none none rn_jn rn_jn r
              · obtain ⟨n47, ln47, r⟩ := rn_steps 1 (90, [some (.ref 540), some (.int a1), some (.int a2), some (.int a3), some (.int a4), some (.int ((fn_164 a1) + 1)), some (.int (fn_258 g a1 a2)), none, none], [.int 1], aa_H g) rfl r
                exact dn_257_90 none none rn_jn rn_jn r
          · obtain ⟨n48, ln48, r⟩ := rn_steps 0 (41, [some (.ref 540), some (.int a1), some (.int a2), some (.int a3), some (.int a4), none, none, none, none], [.int (-1)], aa_H g) rfl r
            exact rn_ire rfl r
-- 259: UnequalHoursModel remove
noncomputable def fn_259_75b (g : aa_G) (b1 : Int32) (b3 : Int32) (b5 : Int32) : (aa_G × Int32) ⊕ (Int32 × aa_G) := if (fn_175 b1 (g 541 b3.toNatClampNeg)) ≤ b5 then .inr (g 541 b3.toNatClampNeg, g) else .inl (zz_w g 541 b5.toNatClampNeg (g 541 (b5 + 4).toNatClampNeg), b5 + 1)
noncomputable def fn_259_75 (g : aa_G) (b1 : Int32) (b3 : Int32) (b5 : Int32) : Int32 × aa_G := lp_f (0, g) (fun z : (aa_G × Int32) => fn_259_75b z.1 b1 b3 z.2) (g, b5)
theorem dn_259_75l {v : Option Value} {h : zz_H} {N : Nat} {b1 : Int32} {b3 : Int32} {d : Int32 × aa_G} : ∀ (n : Nat), n ≤ N → ∀ (g : aa_G) (b5 : Int32) (x2 x4 : Option Value) (jx2 : rn_jk x2) (jx4 : rn_jk x4), rn_s n 259 (75, [some (.ref 540), some (.int b1), x2, some (.int b3), x4, some (.int b5)], [], aa_H g) v h → (iw_s v h) (lp_f d (fun z : (aa_G × Int32) => fn_259_75b z.1 b1 b3 z.2) (g, b5)) := by
  generalize hf : (fun z : (aa_G × Int32) => fn_259_75b z.1 b1 b3 z.2) = f
  intro n
  induction n using Nat.strongRecOn with
  | _ n ih =>
    intro hN g b5 x2 x4 jx2 jx4 r
    refine lp_go ?_
    rw [← congrFun hf (g, b5)]
    show lp_q (iw_s v h) d f (fn_259_75b g b1 b3 b5)
    unfold fn_259_75b
    obtain ⟨n41, ln41, r⟩ := rn_steps 4 (83, [some (.ref 540), some (.int b1), x2, some (.int b3), x4, some (.int b5)], [.int b3, .ref 541, .int b1, .int b5], aa_H g) rfl r
    obtain ⟨hb43, n42, ln42, r⟩ := rn_ial (k := 541) rfl ⟨by decide, by decide⟩ rfl r
    have r : rn_s _ 259 (84, [some (.ref 540), some (.int b1), x2, some (.int b3), x4, some (.int b5)], [.int (g 541 b3.toNatClampNeg), .int b1, .int b5], aa_H g) v h := r
    obtain ⟨_, n44, v1, h1, -, ln44, rc, r⟩ := rn_call (m2 := 175) (as := [.int b1, .int (g 541 b3.toNatClampNeg)]) (rest := [.int b5]) rfl rfl r
    obtain ⟨rfl, rfl⟩ := dn_175 rc
    have r : rn_s _ 259 (87, [some (.ref 540), some (.int b1), x2, some (.int b3), x4, some (.int b5)], [.int (fn_175 b1 (g 541 b3.toNatClampNeg)), .int b5], aa_H g) v h := r
    refine rn_ic (lp_q (iw_s v h) d f) rfl decide_eq_true_iff.symm r (fun c46 l47n l47 r => ?_) (fun c46 l47n l47 r => ?_)
    · obtain ⟨n48, ln48, r⟩ := rn_steps 2 (117, [some (.ref 540), some (.int b1), x2, some (.int b3), x4, some (.int b5)], [.int b3, .ref 541], aa_H g) rfl r
      obtain ⟨hb50, n49, ln49, r⟩ := rn_ial (k := 541) rfl ⟨by decide, by decide⟩ rfl r
      have r : rn_s _ 259 (118, [some (.ref 540), some (.int b1), x2, some (.int b3), x4, some (.int b5)], [.int (g 541 b3.toNatClampNeg)], aa_H g) v h := r
      exact rn_ire rfl r
    · obtain ⟨n51, ln51, r⟩ := rn_steps 7 (104, [some (.ref 540), some (.int b1), x2, some (.int b3), x4, some (.int b5)], [.int (b5 + 4), .ref 541, .int b5, .ref 541], aa_H g) rfl r
      obtain ⟨hb53, n52, ln52, r⟩ := rn_ial (k := 541) rfl ⟨by decide, by decide⟩ rfl r
      have r : rn_s _ 259 (105, [some (.ref 540), some (.int b1), x2, some (.int b3), x4, some (.int b5)], [.int (g 541 (b5 + 4).toNatClampNeg), .int b5, .ref 541], aa_H g) v h := r
      obtain ⟨hb55, n54, ln54, r⟩ := rn_ias (k := 541) rfl ⟨by decide, by decide⟩ rfl r
      have r : rn_s _ 259 (106, [some (.ref 540), some (.int b1), x2, some (.int b3), x4, some (.int b5)], [], aa_H (zz_w g 541 b5.toNatClampNeg (g 541 (b5 + 4).toNatClampNeg))) v h := r
      obtain ⟨n56, ln56, r⟩ := rn_iin (i := 5) rfl rfl jx4 rfl rfl ⟨Nat.le_of_ble_eq_true rfl, Nat.le_of_ble_eq_true rfl⟩ r
      have r : rn_s _ 259 (109, [some (.ref 540), some (.int b1), x2, some (.int b3), x4, some (.int (b5 + 1))], [], aa_H (zz_w g 541 b5.toNatClampNeg (g 541 (b5 + 4).toNatClampNeg))) v h := r
      obtain ⟨n57, ln57, r⟩ := rn_steps 0 (75, [some (.ref 540), some (.int b1), x2, some (.int b3), x4, some (.int (b5 + 1))], [], aa_H (zz_w g 541 b5.toNatClampNeg (g 541 (b5 + 4).toNatClampNeg))) rfl r
      exact ih _ (by omega) (by omega) (zz_w g 541 b5.toNatClampNeg (g 541 (b5 + 4).toNatClampNeg)) (b5 + 1) x2 x4 jx2 jx4 r
theorem dn_259_75 {v : Option Value} {h : zz_H} {n : Nat} {g : aa_G} {b1 : Int32} {b3 : Int32} {b5 : Int32}  (x2 x4 : Option Value) (jx2 : rn_jk x2) (jx4 : rn_jk x4) (r : rn_s n 259 (75, [some (.ref 540), some (.int b1), x2, some (.int b3), x4, some (.int b5)], [], aa_H g) v h) : (iw_s v h) (fn_259_75 g b1 b3 b5) := dn_259_75l  n (Nat.le_refl n) g b5 x2 x4 jx2 jx4 r
noncomputable def fn_259_57 (g : aa_G) (b1 : Int32) (b3 : Int32) (b4 : Int32) : Int32 × aa_G := fn_259_75 (zz_w g 541 b3.toNatClampNeg ((g 541 b3.toNatClampNeg) - 1)) b1 b3 (fn_175 b1 b4)
theorem dn_259_57 {v : Option Value} {h : zz_H} {n : Nat} {g : aa_G} {b1 : Int32} {b3 : Int32} {b4 : Int32}  (x2 x5 : Option Value) (jx2 : rn_jk x2) (jx5 : rn_jk x5) (r : rn_s n 259 (57, [some (.ref 540), some (.int b1), x2, some (.int b3), some (.int b4), x5], [], aa_H g) v h) : iw_s v h (fn_259_57 g b1 b3 b4) := by
  unfold fn_259_57
  obtain ⟨n31, ln31, r⟩ := rn_steps 3 (63, [some (.ref 540), some (.int b1), x2, some (.int b3), some (.int b4), x5], [.int b3, .ref 541, .int b3, .ref 541], aa_H g) rfl r
  obtain ⟨hb33, n32, ln32, r⟩ := rn_ial (k := 541) rfl ⟨by decide, by decide⟩ rfl r
  have r : rn_s _ 259 (64, [some (.ref 540), some (.int b1), x2, some (.int b3), some (.int b4), x5], [.int (g 541 b3.toNatClampNeg), .int b3, .ref 541], aa_H g) v h := r
  obtain ⟨n34, ln34, r⟩ := rn_steps 1 (66, [some (.ref 540), some (.int b1), x2, some (.int b3), some (.int b4), x5], [.int ((g 541 b3.toNatClampNeg) - 1), .int b3, .ref 541], aa_H g) rfl r
  obtain ⟨hb36, n35, ln35, r⟩ := rn_ias (k := 541) rfl ⟨by decide, by decide⟩ rfl r
  have r : rn_s _ 259 (67, [some (.ref 540), some (.int b1), x2, some (.int b3), some (.int b4), x5], [], aa_H (zz_w g 541 b3.toNatClampNeg ((g 541 b3.toNatClampNeg) - 1))) v h := r
  obtain ⟨n37, ln37, r⟩ := rn_steps 1 (70, [some (.ref 540), some (.int b1), x2, some (.int b3), some (.int b4), x5], [.int b4, .int b1], aa_H (zz_w g 541 b3.toNatClampNeg ((g 541 b3.toNatClampNeg) - 1))) rfl r
  obtain ⟨_, n38, v1, h1, -, ln38, rc, r⟩ := rn_call (m2 := 175) (as := [.int b1, .int b4]) (rest := []) rfl rfl r
  obtain ⟨rfl, rfl⟩ := dn_175 rc
  have r : rn_s _ 259 (73, [some (.ref 540), some (.int b1), x2, some (.int b3), some (.int b4), x5], [.int (fn_175 b1 b4)], aa_H (zz_w g 541 b3.toNatClampNeg ((g 541 b3.toNatClampNeg) - 1))) v h := r
  obtain ⟨n40, ln40, r⟩ := rn_steps 0 (75, [some (.ref 540), some (.int b1), x2, some (.int b3), some (.int b4), some (.int (fn_175 b1 b4))], [], aa_H (zz_w g 541 b3.toNatClampNeg ((g 541 b3.toNatClampNeg) - 1))) rfl r
  exact dn_259_75 x2 (some (.int b4)) jx2 rn_ji r
noncomputable def fn_259 (g : aa_G) (a1 : Int32) (a2 : Int32) : Int32 × aa_G := if (fn_192 g a1) ≠ 0 then if (fn_258 g a1 a2) = (g 541 ((fn_164 a1) + 1).toNatClampNeg) then (-1, g) else if (g 541 (fn_175 a1 (fn_258 g a1 a2)).toNatClampNeg) = a2 then fn_259_57 (fn_156 g) a1 ((fn_164 a1) + 1) (fn_258 g a1 a2) else (-1, g) else (-1, g)
theorem dn_259 {v : Option Value} {h : zz_H} {n : Nat} {g : aa_G} {a1 : Int32} {a2 : Int32}  (r : rn_s n 259 (0, zz_in [.ref 540, .int a1, .int a2] (zz_nl 259), [], aa_H g) v h) : iw_s v h (fn_259 g a1 a2) := by
  have r : rn_s n 259 (0, [some (.ref 540), some (.int a1), some (.int a2), none, none, none], [], aa_H g) v h := r
  unfold fn_259
  obtain ⟨n1, ln1, r⟩ := rn_steps 1 (2, [some (.ref 540), some (.int a1), some (.int a2), none, none, none], [.int a1, .ref 540], aa_H g) rfl r
  obtain ⟨_, n2, v1, h1, -, ln2, rc, r⟩ := rn_call (m2 := 192) (as := [.ref 540, .int a1]) (rest := []) rfl rfl r
  obtain ⟨rfl, rfl⟩ := dn_192 rc
  have r : rn_s _ 259 (5, [some (.ref 540), some (.int a1), some (.int a2), none, none, none], [.int (fn_192 g a1)], aa_H g) v h := r
  refine rn_if (iw_s v h) rfl decide_eq_true_iff.symm r (fun c4 l5n l5 r => ?_) (fun c4 l5n l5 r => ?_)
  · obtain ⟨n6, ln6, r⟩ := rn_steps 0 (11, [some (.ref 540), some (.int a1), some (.int a2), none, none, none], [.int a1], aa_H g) rfl r
    obtain ⟨_, n7, v1, h1, -, ln7, rc, r⟩ := rn_call (m2 := 164) (as := [.int a1]) (rest := []) rfl rfl r
    obtain ⟨rfl, rfl⟩ := dn_164 rc
    have r : rn_s _ 259 (14, [some (.ref 540), some (.int a1), some (.int a2), none, none, none], [.int (fn_164 a1)], aa_H g) v h := r
    obtain ⟨n9, ln9, r⟩ := rn_steps 5 (20, [some (.ref 540), some (.int a1), some (.int a2), some (.int ((fn_164 a1) + 1)), none, none], [.int a2, .int a1, .ref 540], aa_H g) rfl r
    obtain ⟨_, n10, v1, h1, -, ln10, rc, r⟩ := rn_call (m2 := 258) (as := [.ref 540, .int a1, .int a2]) (rest := []) rfl rfl r
    obtain ⟨rfl, rfl⟩ := dn_258 rc
    have r : rn_s _ 259 (23, [some (.ref 540), some (.int a1), some (.int a2), some (.int ((fn_164 a1) + 1)), none, none], [.int (fn_258 g a1 a2)], aa_H g) v h := r
    obtain ⟨n12, ln12, r⟩ := rn_steps 4 (32, [some (.ref 540), some (.int a1), some (.int a2), some (.int ((fn_164 a1) + 1)), some (.int (fn_258 g a1 a2)), none], [.int ((fn_164 a1) + 1), .ref 541, .int (fn_258 g a1 a2)], aa_H g) rfl r
    obtain ⟨hb14, n13, ln13, r⟩ := rn_ial (k := 541) rfl ⟨by decide, by decide⟩ rfl r
    have r : rn_s _ 259 (33, [some (.ref 540), some (.int a1), some (.int a2), some (.int ((fn_164 a1) + 1)), some (.int (fn_258 g a1 a2)), none], [.int (g 541 ((fn_164 a1) + 1).toNatClampNeg), .int (fn_258 g a1 a2)], aa_H g) v h := r
    refine rn_ic (iw_s v h) rfl decide_eq_true_iff.symm r (fun c15 l16n l16 r => ?_) (fun c15 l16n l16 r => ?_)
    · obtain ⟨n17, ln17, r⟩ := rn_steps 0 (52, [some (.ref 540), some (.int a1), some (.int a2), some (.int ((fn_164 a1) + 1)), some (.int (fn_258 g a1 a2)), none], [.int (-1)], aa_H g) rfl r
      exact rn_ire rfl r
    · obtain ⟨n18, ln18, r⟩ := rn_steps 3 (43, [some (.ref 540), some (.int a1), some (.int a2), some (.int ((fn_164 a1) + 1)), some (.int (fn_258 g a1 a2)), none], [.int (fn_258 g a1 a2), .int a1, .ref 541], aa_H g) rfl r
      obtain ⟨_, n19, v1, h1, -, ln19, rc, r⟩ := rn_call (m2 := 175) (as := [.int a1, .int (fn_258 g a1 a2)]) (rest := [.ref 541]) rfl rfl r
      obtain ⟨rfl, rfl⟩ := dn_175 rc
      have r : rn_s _ 259 (46, [some (.ref 540), some (.int a1), some (.int a2), some (.int ((fn_164 a1) + 1)), some (.int (fn_258 g a1 a2)), none], [.int (fn_175 a1 (fn_258 g a1 a2)), .ref 541], aa_H g) v h := r
      obtain ⟨hb22, n21, ln21, r⟩ := rn_ial (k := 541) rfl ⟨by decide, by decide⟩ rfl r
      have r : rn_s _ 259 (47, [some (.ref 540), some (.int a1), some (.int a2), some (.int ((fn_164 a1) + 1)), some (.int (fn_258 g a1 a2)), none], [.int (g 541 (fn_175 a1 (fn_258 g a1 a2)).toNatClampNeg)], aa_H g) v h := r
      obtain ⟨n23, ln23, r⟩ := rn_steps 0 (48, [some (.ref 540), some (.int a1), some (.int a2), some (.int ((fn_164 a1) + 1)), some (.int (fn_258 g a1 a2)), none], [.int a2, .int (g 541 (fn_175 a1 (fn_258 g a1 a2)).toNatClampNeg)], aa_H g) rfl r
      refine rn_ic (iw_s v h) rfl decide_eq_true_iff.symm r (fun c24 l25n l25 r => ?_) (fun c24 l25n l25 r => ?_)
      · obtain ⟨n26, ln26, r⟩ := rn_steps 0 (54, [some (.ref 540), some (.int a1), some (.int a2), some (.int ((fn_164 a1) + 1)), some (.int (fn_258 g a1 a2)), none], [.ref 540], aa_H g) rfl r
        obtain ⟨_, n27, v1, h1, -, ln27, rc, r⟩ := rn_call (m2 := 156) (as := [.ref 540]) (rest := []) rfl rfl r
        obtain ⟨rfl, rfl⟩ := dn_156 rc
        have r : rn_s _ 259 (57, [some (.ref 540), some (.int a1), some (.int a2), some (.int ((fn_164 a1) + 1)), some (.int (fn_258 g a1 a2)), none], [], aa_H (fn_156 g)) v h := r
        exact dn_259_57 (some (.int a2)) none rn_ji rn_jn r
      · obtain ⟨n29, ln29, r⟩ := rn_steps 0 (52, [some (.ref 540), some (.int a1), some (.int a2), some (.int ((fn_164 a1) + 1)), some (.int (fn_258 g a1 a2)), none], [.int (-1)], aa_H g) rfl r
        exact rn_ire rfl r
  · obtain ⟨n30, ln30, r⟩ := rn_steps 0 (9, [some (.ref 540), some (.int a1), some (.int a2), none, none, none], [.int (-1)], aa_H g) rfl r
    exact rn_ire rfl r
-- 266: UnequalHoursModel writes
noncomputable def fn_266_13 (g : aa_G)  : aa_G := zz_w g 540 37 ((g 540 37) + 1)
theorem dn_266_13 {v : Option Value} {h : zz_H} {n : Nat} {g : aa_G}   (x0 x1 : Option Value) (jx0 : rn_jk x0) (jx1 : rn_jk x1) (r : rn_s n 266 (13, [x0, x1], [.ref 540, .ref 540], aa_H g) v h) : ig_s v h (fn_266_13 g) := by
  unfold fn_266_13
  obtain ⟨n5, ln5, r⟩ := rn_steps 3 (21, [x0, x1], [], aa_H (zz_w g 540 37 ((g 540 37) + 1))) rfl r
  exact rn_ret 1 rfl r
noncomputable def fn_266 (g : aa_G) (a1 : Int32) : aa_G := fn_266_13 (zz_w g 553 (g 540 37).toNatClampNeg (vp_nar .byte a1.toInt8.toInt32))
theorem dn_266 {v : Option Value} {h : zz_H} {n : Nat} {g : aa_G} {a1 : Int32}  (r : rn_s n 266 (0, zz_in [.ref 540, .int a1] (zz_nl 266), [], aa_H g) v h) : ig_s v h (fn_266 g a1) := by
  have r : rn_s n 266 (0, [some (.ref 540), some (.int a1)], [], aa_H g) v h := r
  unfold fn_266
  obtain ⟨n1, ln1, r⟩ := rn_steps 5 (10, [some (.ref 540), some (.int a1)], [.int a1.toInt8.toInt32, .int (g 540 37), .ref 553], aa_H g) rfl r
  obtain ⟨hb3, n2, ln2, r⟩ := rn_bas (k := 553) rfl ⟨by decide, by decide⟩ rfl (by decide) r
  have r : rn_s _ 266 (11, [some (.ref 540), some (.int a1)], [], aa_H (zz_w g 553 (g 540 37).toNatClampNeg (vp_nar .byte a1.toInt8.toInt32))) v h := r
  obtain ⟨n4, ln4, r⟩ := rn_steps 1 (13, [some (.ref 540), some (.int a1)], [.ref 540, .ref 540], aa_H (zz_w g 553 (g 540 37).toNatClampNeg (vp_nar .byte a1.toInt8.toInt32))) rfl r
  exact dn_266_13 (some (.ref 540)) (some (.int a1)) rn_jr rn_ji r
-- 267: UnequalHoursModel writeNumber
noncomputable def fn_267_50 (g : aa_G) (b2 : Int32) (b3 : Int32) : (aa_G × Int32) ⊕ aa_G := .inl (g, b3 / 10)
theorem dn_267_50 {v : Option Value} {h : zz_H} {n : Nat} {g : aa_G} {b2 : Int32} {b3 : Int32} (P : (aa_G × Int32) ⊕ aa_G → Prop) (hO0 : ∀ n2, n2 < n → ∀ (yg : aa_G) (yb3 : Int32) (yx1 : Option Value) (_ : rn_jk yx1), rn_s n2 267 (33, [some (.ref 540), yx1, some (.int b2), some (.int yb3)], [], aa_H yg) v h → P (.inl (yg, yb3))) (hR : ∀ E, ig_s v h E → P (.inr E))  (x1 : Option Value) (jx1 : rn_jk x1) (r : rn_s n 267 (50, [some (.ref 540), x1, some (.int b2), some (.int b3)], [], aa_H g) v h) : P (fn_267_50 g b2 b3) := by
  unfold fn_267_50
  obtain ⟨n27, ln27, r⟩ := rn_steps 4 (33, [some (.ref 540), x1, some (.int b2), some (.int (b3 / 10))], [], aa_H g) rfl r
  exact hO0 _ (by omega) g (b3 / 10) x1 jx1 r
noncomputable def fn_267_33b (g : aa_G) (b2 : Int32) (b3 : Int32) : (aa_G × Int32) ⊕ aa_G := if b3 ≤ 0 then .inr g else fn_267_50 (fn_266 g (48 + ((b2 / b3) - (b2 / b3) / 10 * 10))) b2 b3
noncomputable def fn_267_33 (g : aa_G) (b2 : Int32) (b3 : Int32) : aa_G := lp_f g (fun z : (aa_G × Int32) => fn_267_33b z.1 b2 z.2) (g, b3)
theorem dn_267_33l {v : Option Value} {h : zz_H} {N : Nat} {b2 : Int32} {d : aa_G} : ∀ (n : Nat), n ≤ N → ∀ (g : aa_G) (b3 : Int32) (x1 : Option Value) (jx1 : rn_jk x1), rn_s n 267 (33, [some (.ref 540), x1, some (.int b2), some (.int b3)], [], aa_H g) v h → (ig_s v h) (lp_f d (fun z : (aa_G × Int32) => fn_267_33b z.1 b2 z.2) (g, b3)) := by
  generalize hf : (fun z : (aa_G × Int32) => fn_267_33b z.1 b2 z.2) = f
  intro n
  induction n using Nat.strongRecOn with
  | _ n ih =>
    intro hN g b3 x1 jx1 r
    refine lp_go ?_
    rw [← congrFun hf (g, b3)]
    show lp_q (ig_s v h) d f (fn_267_33b g b2 b3)
    unfold fn_267_33b
    obtain ⟨n18, ln18, r⟩ := rn_steps 0 (34, [some (.ref 540), x1, some (.int b2), some (.int b3)], [.int b3], aa_H g) rfl r
    refine rn_if (lp_q (ig_s v h) d f) rfl decide_eq_true_iff.symm r (fun c19 l20n l20 r => ?_) (fun c19 l20n l20 r => ?_)
    · exact rn_ret 1 rfl r
    · obtain ⟨n21, ln21, r⟩ := rn_steps 3 (42, [some (.ref 540), x1, some (.int b2), some (.int b3)], [.int b3, .int b2, .int 48, .ref 540], aa_H g) rfl r
      obtain ⟨hd23, n22, ln22, r⟩ := rn_div rfl r
      have r : rn_s _ 267 (43, [some (.ref 540), x1, some (.int b2), some (.int b3)], [.int (b2 / b3), .int 48, .ref 540], aa_H g) v h := r
      obtain ⟨n24, ln24, r⟩ := rn_steps 2 (47, [some (.ref 540), x1, some (.int b2), some (.int b3)], [.int (48 + ((b2 / b3) - (b2 / b3) / 10 * 10)), .ref 540], aa_H g) rfl r
      obtain ⟨_, n25, v1, h1, -, ln25, rc, r⟩ := rn_call (m2 := 266) (as := [.ref 540, .int (48 + ((b2 / b3) - (b2 / b3) / 10 * 10))]) (rest := []) rfl rfl r
      obtain ⟨rfl, rfl⟩ := dn_266 rc
      have r : rn_s _ 267 (50, [some (.ref 540), x1, some (.int b2), some (.int b3)], [], aa_H (fn_266 g (48 + ((b2 / b3) - (b2 / b3) / 10 * 10)))) v h := r
      exact dn_267_50 (lp_q (ig_s v h) d f) (fun n2 l2 => ih n2 (by omega) (by omega)) (fun z hz => hz) x1 jx1 r
theorem dn_267_33 {v : Option Value} {h : zz_H} {n : Nat} {g : aa_G} {b2 : Int32} {b3 : Int32}  (x1 : Option Value) (jx1 : rn_jk x1) (r : rn_s n 267 (33, [some (.ref 540), x1, some (.int b2), some (.int b3)], [], aa_H g) v h) : (ig_s v h) (fn_267_33 g b2 b3) := dn_267_33l  n (Nat.le_refl n) g b3 x1 jx1 r
noncomputable def fn_267_17b (g : aa_G) (b2 : Int32) (b3 : Int32) : Int32 ⊕ aa_G := if (b2 / b3) ≤ 9 then .inr (fn_267_33 g b2 b3) else .inl (b3 * 10)
noncomputable def fn_267_17 (g : aa_G) (b2 : Int32) (b3 : Int32) : aa_G := lp_f g (fun z : Int32 => fn_267_17b g b2 z) b3
theorem dn_267_17l {v : Option Value} {h : zz_H} {N : Nat} {g : aa_G} {b2 : Int32} {d : aa_G} : ∀ (n : Nat), n ≤ N → ∀ (b3 : Int32) (x1 : Option Value) (jx1 : rn_jk x1), rn_s n 267 (17, [some (.ref 540), x1, some (.int b2), some (.int b3)], [], aa_H g) v h → (ig_s v h) (lp_f d (fun z : Int32 => fn_267_17b g b2 z) b3) := by
  generalize hf : (fun z : Int32 => fn_267_17b g b2 z) = f
  intro n
  induction n using Nat.strongRecOn with
  | _ n ih =>
    intro hN b3 x1 jx1 r
    refine lp_go ?_
    rw [← congrFun hf b3]
    show lp_q (ig_s v h) d f (fn_267_17b g b2 b3)
    unfold fn_267_17b
    obtain ⟨n11, ln11, r⟩ := rn_steps 1 (19, [some (.ref 540), x1, some (.int b2), some (.int b3)], [.int b3, .int b2], aa_H g) rfl r
    obtain ⟨hd13, n12, ln12, r⟩ := rn_div rfl r
    have r : rn_s _ 267 (20, [some (.ref 540), x1, some (.int b2), some (.int b3)], [.int (b2 / b3)], aa_H g) v h := r
    obtain ⟨n14, ln14, r⟩ := rn_steps 0 (22, [some (.ref 540), x1, some (.int b2), some (.int b3)], [.int 9, .int (b2 / b3)], aa_H g) rfl r
    refine rn_ic (lp_q (ig_s v h) d f) rfl decide_eq_true_iff.symm r (fun c15 l16n l16 r => ?_) (fun c15 l16n l16 r => ?_)
    · exact dn_267_33 x1 jx1 r
    · obtain ⟨n17, ln17, r⟩ := rn_steps 4 (17, [some (.ref 540), x1, some (.int b2), some (.int (b3 * 10))], [], aa_H g) rfl r
      exact ih _ (by omega) (by omega) (b3 * 10) x1 jx1 r
theorem dn_267_17 {v : Option Value} {h : zz_H} {n : Nat} {g : aa_G} {b2 : Int32} {b3 : Int32}  (x1 : Option Value) (jx1 : rn_jk x1) (r : rn_s n 267 (17, [some (.ref 540), x1, some (.int b2), some (.int b3)], [], aa_H g) v h) : (ig_s v h) (fn_267_17 g b2 b3) := dn_267_17l  n (Nat.le_refl n) b3 x1 jx1 r
noncomputable def fn_267_15 (g : aa_G) (b2 : Int32) : aa_G := fn_267_17 g b2 1
theorem dn_267_15 {v : Option Value} {h : zz_H} {n : Nat} {g : aa_G} {b2 : Int32}  (x1 x3 : Option Value) (jx1 : rn_jk x1) (jx3 : rn_jk x3) (r : rn_s n 267 (15, [some (.ref 540), x1, some (.int b2), x3], [], aa_H g) v h) : ig_s v h (fn_267_15 g b2) := by
  unfold fn_267_15
  obtain ⟨n10, ln10, r⟩ := rn_steps 1 (17, [some (.ref 540), x1, some (.int b2), some (.int 1)], [], aa_H g) rfl r
  exact dn_267_17 x1 jx1 r
noncomputable def fn_267 (g : aa_G) (a1 : Int32) : aa_G := if 0 ≤ a1 then fn_267_15 g (fn_227 a1) else fn_267_15 (fn_266 g 45) (fn_227 a1)
theorem dn_267 {v : Option Value} {h : zz_H} {n : Nat} {g : aa_G} {a1 : Int32}  (r : rn_s n 267 (0, zz_in [.ref 540, .int a1] (zz_nl 267), [], aa_H g) v h) : ig_s v h (fn_267 g a1) := by
  have r : rn_s n 267 (0, [some (.ref 540), some (.int a1), none, none], [], aa_H g) v h := r
  unfold fn_267
  obtain ⟨n1, ln1, r⟩ := rn_steps 0 (1, [some (.ref 540), some (.int a1), none, none], [.int a1], aa_H g) rfl r
  obtain ⟨_, n2, v1, h1, -, ln2, rc, r⟩ := rn_call (m2 := 227) (as := [.int a1]) (rest := []) rfl rfl r
  obtain ⟨rfl, rfl⟩ := dn_227 rc
  have r : rn_s _ 267 (4, [some (.ref 540), some (.int a1), none, none], [.int (fn_227 a1)], aa_H g) v h := r
  obtain ⟨n4, ln4, r⟩ := rn_steps 1 (6, [some (.ref 540), some (.int a1), some (.int (fn_227 a1)), none], [.int a1], aa_H g) rfl r
  refine rn_if (ig_s v h) rfl decide_eq_true_iff.symm r (fun c5 l6n l6 r => ?_) (fun c5 l6n l6 r => ?_)
  · exact dn_267_15 (some (.int a1)) none rn_ji rn_jn r
  · obtain ⟨n7, ln7, r⟩ := rn_steps 1 (12, [some (.ref 540), some (.int a1), some (.int (fn_227 a1)), none], [.int 45, .ref 540], aa_H g) rfl r
    obtain ⟨_, n8, v1, h1, -, ln8, rc, r⟩ := rn_call (m2 := 266) (as := [.ref 540, .int 45]) (rest := []) rfl rfl r
    obtain ⟨rfl, rfl⟩ := dn_266 rc
    have r : rn_s _ 267 (15, [some (.ref 540), some (.int a1), some (.int (fn_227 a1)), none], [], aa_H (fn_266 g 45)) v h := r
    exact dn_267_15 (some (.int a1)) none rn_ji rn_jn r
-- 268: UnequalHoursModel writePoint
noncomputable def fn_268_98 (g : aa_G)  : aa_G := fn_266 g 59
theorem dn_268_98 {v : Option Value} {h : zz_H} {n : Nat} {g : aa_G}   (x1 x2 : Option Value) (jx1 : rn_jk x1) (jx2 : rn_jk x2) (r : rn_s n 268 (98, [some (.ref 540), x1, x2], [], aa_H g) v h) : ig_s v h (fn_268_98 g) := by
  unfold fn_268_98
  obtain ⟨n42, ln42, r⟩ := rn_steps 1 (101, [some (.ref 540), x1, x2], [.int 59, .ref 540], aa_H g) rfl r
  obtain ⟨_, n43, v1, h1, -, ln43, rc, r⟩ := rn_call (m2 := 266) (as := [.ref 540, .int 59]) (rest := []) rfl rfl r
  obtain ⟨rfl, rfl⟩ := dn_266 rc
  have r : rn_s _ 268 (104, [some (.ref 540), x1, x2], [], aa_H (fn_266 g 59)) v h := r
  exact rn_ret 1 rfl r
noncomputable def fn_268_86 (g : aa_G) (b1 : Int32) : aa_G := fn_268_98 (fn_267 g (g 541 (b1 + 2).toNatClampNeg))
theorem dn_268_86 {v : Option Value} {h : zz_H} {n : Nat} {g : aa_G} {b1 : Int32}  (x2 : Option Value) (jx2 : rn_jk x2) (r : rn_s n 268 (86, [some (.ref 540), some (.int b1), x2], [], aa_H g) v h) : ig_s v h (fn_268_86 g b1) := by
  unfold fn_268_86
  obtain ⟨n45, ln45, r⟩ := rn_steps 5 (94, [some (.ref 540), some (.int b1), x2], [.int (b1 + 2), .ref 541, .ref 540], aa_H g) rfl r
  obtain ⟨hb47, n46, ln46, r⟩ := rn_ial (k := 541) rfl ⟨by decide, by decide⟩ rfl r
  have r : rn_s _ 268 (95, [some (.ref 540), some (.int b1), x2], [.int (g 541 (b1 + 2).toNatClampNeg), .ref 540], aa_H g) v h := r
  obtain ⟨_, n48, v1, h1, -, ln48, rc, r⟩ := rn_call (m2 := 267) (as := [.ref 540, .int (g 541 (b1 + 2).toNatClampNeg)]) (rest := []) rfl rfl r
  obtain ⟨rfl, rfl⟩ := dn_267 rc
  have r : rn_s _ 268 (98, [some (.ref 540), some (.int b1), x2], [], aa_H (fn_267 g (g 541 (b1 + 2).toNatClampNeg))) v h := r
  exact dn_268_98 (some (.int b1)) x2 rn_ji jx2 r
noncomputable def fn_268_76 (g : aa_G) (b1 : Int32) (b2 : Int32) : aa_G := if b2 ≠ 0 then fn_268_98 g else fn_268_86 (fn_266 g 44) b1
theorem dn_268_76 {v : Option Value} {h : zz_H} {n : Nat} {g : aa_G} {b1 : Int32} {b2 : Int32}  (r : rn_s n 268 (76, [some (.ref 540), some (.int b1), some (.int b2)], [], aa_H g) v h) : ig_s v h (fn_268_76 g b1 b2) := by
  unfold fn_268_76
  obtain ⟨n36, ln36, r⟩ := rn_steps 0 (77, [some (.ref 540), some (.int b1), some (.int b2)], [.int b2], aa_H g) rfl r
  refine rn_if (ig_s v h) rfl decide_eq_true_iff.symm r (fun c37 l38n l38 r => ?_) (fun c37 l38n l38 r => ?_)
  · exact dn_268_98 (some (.int b1)) (some (.int b2)) rn_ji rn_ji r
  · obtain ⟨n39, ln39, r⟩ := rn_steps 1 (83, [some (.ref 540), some (.int b1), some (.int b2)], [.int 44, .ref 540], aa_H g) rfl r
    obtain ⟨_, n40, v1, h1, -, ln40, rc, r⟩ := rn_call (m2 := 266) (as := [.ref 540, .int 44]) (rest := []) rfl rfl r
    obtain ⟨rfl, rfl⟩ := dn_266 rc
    have r : rn_s _ 268 (86, [some (.ref 540), some (.int b1), some (.int b2)], [], aa_H (fn_266 g 44)) v h := r
    exact dn_268_86 (some (.int b2)) rn_ji r
noncomputable def fn_268_73 (g : aa_G) (b1 : Int32) (b2 : Int32) (s0 : Int32) : aa_G := fn_268_76 (fn_267 g s0) b1 b2
theorem dn_268_73 {v : Option Value} {h : zz_H} {n : Nat} {g : aa_G} {b1 : Int32} {b2 : Int32} {s0 : Int32}  (r : rn_s n 268 (73, [some (.ref 540), some (.int b1), some (.int b2)], [.int s0, .ref 540], aa_H g) v h) : ig_s v h (fn_268_73 g b1 b2 s0) := by
  unfold fn_268_73
  obtain ⟨_, n34, v1, h1, -, ln34, rc, r⟩ := rn_call (m2 := 267) (as := [.ref 540, .int s0]) (rest := []) rfl rfl r
  obtain ⟨rfl, rfl⟩ := dn_267 rc
  have r : rn_s _ 268 (76, [some (.ref 540), some (.int b1), some (.int b2)], [], aa_H (fn_267 g s0)) v h := r
  exact dn_268_76 r
noncomputable def fn_268_49 (g : aa_G) (b1 : Int32) (b2 : Int32) : aa_G := if b2 = 0 then fn_268_73 g b1 b2 (g 541 (b1 + 1).toNatClampNeg) else fn_268_73 g b1 b2 (g 541 (b1 + 3).toNatClampNeg)
theorem dn_268_49 {v : Option Value} {h : zz_H} {n : Nat} {g : aa_G} {b1 : Int32} {b2 : Int32}  (r : rn_s n 268 (49, [some (.ref 540), some (.int b1), some (.int b2)], [], aa_H g) v h) : ig_s v h (fn_268_49 g b1 b2) := by
  unfold fn_268_49
  obtain ⟨n24, ln24, r⟩ := rn_steps 1 (51, [some (.ref 540), some (.int b1), some (.int b2)], [.int b2, .ref 540], aa_H g) rfl r
  refine rn_if (ig_s v h) rfl decide_eq_true_iff.symm r (fun c25 l26n l26 r => ?_) (fun c25 l26n l26 r => ?_)
  · obtain ⟨n27, ln27, r⟩ := rn_steps 4 (72, [some (.ref 540), some (.int b1), some (.int b2)], [.int (b1 + 1), .ref 541, .ref 540], aa_H g) rfl r
    obtain ⟨hb29, n28, ln28, r⟩ := rn_ial (k := 541) rfl ⟨by decide, by decide⟩ rfl r
    have r : rn_s _ 268 (73, [some (.ref 540), some (.int b1), some (.int b2)], [.int (g 541 (b1 + 1).toNatClampNeg), .ref 540], aa_H g) v h := r
    exact dn_268_73 r
  · obtain ⟨n30, ln30, r⟩ := rn_steps 4 (61, [some (.ref 540), some (.int b1), some (.int b2)], [.int (b1 + 3), .ref 541, .ref 540], aa_H g) rfl r
    obtain ⟨hb32, n31, ln31, r⟩ := rn_ial (k := 541) rfl ⟨by decide, by decide⟩ rfl r
    have r : rn_s _ 268 (62, [some (.ref 540), some (.int b1), some (.int b2)], [.int (g 541 (b1 + 3).toNatClampNeg), .ref 540], aa_H g) v h := r
    obtain ⟨n33, ln33, r⟩ := rn_steps 0 (73, [some (.ref 540), some (.int b1), some (.int b2)], [.int (g 541 (b1 + 3).toNatClampNeg), .ref 540], aa_H g) rfl r
    exact dn_268_73 r
noncomputable def fn_268_43 (g : aa_G) (b1 : Int32) (b2 : Int32) : aa_G := fn_268_49 (fn_266 g 44) b1 b2
theorem dn_268_43 {v : Option Value} {h : zz_H} {n : Nat} {g : aa_G} {b1 : Int32} {b2 : Int32}  (r : rn_s n 268 (43, [some (.ref 540), some (.int b1), some (.int b2)], [], aa_H g) v h) : ig_s v h (fn_268_43 g b1 b2) := by
  unfold fn_268_43
  obtain ⟨n21, ln21, r⟩ := rn_steps 1 (46, [some (.ref 540), some (.int b1), some (.int b2)], [.int 44, .ref 540], aa_H g) rfl r
  obtain ⟨_, n22, v1, h1, -, ln22, rc, r⟩ := rn_call (m2 := 266) (as := [.ref 540, .int 44]) (rest := []) rfl rfl r
  obtain ⟨rfl, rfl⟩ := dn_266 rc
  have r : rn_s _ 268 (49, [some (.ref 540), some (.int b1), some (.int b2)], [], aa_H (fn_266 g 44)) v h := r
  exact dn_268_49 r
noncomputable def fn_268_33 (g : aa_G) (b1 : Int32) (b2 : Int32) : aa_G := fn_268_43 (fn_267 g (g 541 b1.toNatClampNeg)) b1 b2
theorem dn_268_33 {v : Option Value} {h : zz_H} {n : Nat} {g : aa_G} {b1 : Int32} {b2 : Int32}  (r : rn_s n 268 (33, [some (.ref 540), some (.int b1), some (.int b2)], [], aa_H g) v h) : ig_s v h (fn_268_33 g b1 b2) := by
  unfold fn_268_33
  obtain ⟨n16, ln16, r⟩ := rn_steps 3 (39, [some (.ref 540), some (.int b1), some (.int b2)], [.int b1, .ref 541, .ref 540], aa_H g) rfl r
  obtain ⟨hb18, n17, ln17, r⟩ := rn_ial (k := 541) rfl ⟨by decide, by decide⟩ rfl r
  have r : rn_s _ 268 (40, [some (.ref 540), some (.int b1), some (.int b2)], [.int (g 541 b1.toNatClampNeg), .ref 540], aa_H g) v h := r
  obtain ⟨_, n19, v1, h1, -, ln19, rc, r⟩ := rn_call (m2 := 267) (as := [.ref 540, .int (g 541 b1.toNatClampNeg)]) (rest := []) rfl rfl r
  obtain ⟨rfl, rfl⟩ := dn_267 rc
  have r : rn_s _ 268 (43, [some (.ref 540), some (.int b1), some (.int b2)], [], aa_H (fn_267 g (g 541 b1.toNatClampNeg))) v h := r
  exact dn_268_43 r
noncomputable def fn_268_30 (g : aa_G) (b1 : Int32) (b2 : Int32) (s0 : Int32) : aa_G := fn_268_33 (fn_266 g s0) b1 b2
theorem dn_268_30 {v : Option Value} {h : zz_H} {n : Nat} {g : aa_G} {b1 : Int32} {b2 : Int32} {s0 : Int32}  (r : rn_s n 268 (30, [some (.ref 540), some (.int b1), some (.int b2)], [.int s0, .ref 540], aa_H g) v h) : ig_s v h (fn_268_30 g b1 b2 s0) := by
  unfold fn_268_30
  obtain ⟨_, n14, v1, h1, -, ln14, rc, r⟩ := rn_call (m2 := 266) (as := [.ref 540, .int s0]) (rest := []) rfl rfl r
  obtain ⟨rfl, rfl⟩ := dn_266 rc
  have r : rn_s _ 268 (33, [some (.ref 540), some (.int b1), some (.int b2)], [], aa_H (fn_266 g s0)) v h := r
  exact dn_268_33 r
noncomputable def fn_268_17 (g : aa_G) (b1 : Int32) (s0 : Int32) : aa_G := if s0 = 0 then fn_268_30 g b1 s0 112 else fn_268_30 g b1 s0 120
theorem dn_268_17 {v : Option Value} {h : zz_H} {n : Nat} {g : aa_G} {b1 : Int32} {s0 : Int32}  (x2 : Option Value) (jx2 : rn_jk x2) (r : rn_s n 268 (17, [some (.ref 540), some (.int b1), x2], [.int s0], aa_H g) v h) : ig_s v h (fn_268_17 g b1 s0) := by
  unfold fn_268_17
  obtain ⟨n9, ln9, r⟩ := rn_steps 2 (20, [some (.ref 540), some (.int b1), some (.int s0)], [.int s0, .ref 540], aa_H g) rfl r
  refine rn_if (ig_s v h) rfl decide_eq_true_iff.symm r (fun c10 l11n l11 r => ?_) (fun c10 l11n l11 r => ?_)
  · obtain ⟨n12, ln12, r⟩ := rn_steps 0 (30, [some (.ref 540), some (.int b1), some (.int s0)], [.int 112, .ref 540], aa_H g) rfl r
    exact dn_268_30 r
  · obtain ⟨n13, ln13, r⟩ := rn_steps 1 (30, [some (.ref 540), some (.int b1), some (.int s0)], [.int 120, .ref 540], aa_H g) rfl r
    exact dn_268_30 r
noncomputable def fn_268 (g : aa_G) (a1 : Int32) : aa_G := if (g 541 (a1 + 3).toNatClampNeg) = (-1) then fn_268_17 g a1 0 else fn_268_17 g a1 1
theorem dn_268 {v : Option Value} {h : zz_H} {n : Nat} {g : aa_G} {a1 : Int32}  (r : rn_s n 268 (0, zz_in [.ref 540, .int a1] (zz_nl 268), [], aa_H g) v h) : ig_s v h (fn_268 g a1) := by
  have r : rn_s n 268 (0, [some (.ref 540), some (.int a1), none], [], aa_H g) v h := r
  unfold fn_268
  obtain ⟨n1, ln1, r⟩ := rn_steps 4 (7, [some (.ref 540), some (.int a1), none], [.int (a1 + 3), .ref 541], aa_H g) rfl r
  obtain ⟨hb3, n2, ln2, r⟩ := rn_ial (k := 541) rfl ⟨by decide, by decide⟩ rfl r
  have r : rn_s _ 268 (8, [some (.ref 540), some (.int a1), none], [.int (g 541 (a1 + 3).toNatClampNeg)], aa_H g) v h := r
  obtain ⟨n4, ln4, r⟩ := rn_steps 0 (9, [some (.ref 540), some (.int a1), none], [.int (-1), .int (g 541 (a1 + 3).toNatClampNeg)], aa_H g) rfl r
  refine rn_ic (ig_s v h) rfl decide_eq_true_iff.symm r (fun c5 l6n l6 r => ?_) (fun c5 l6n l6 r => ?_)
  · obtain ⟨n7, ln7, r⟩ := rn_steps 0 (17, [some (.ref 540), some (.int a1), none], [.int 0], aa_H g) rfl r
    exact dn_268_17 none rn_jn r
  · obtain ⟨n8, ln8, r⟩ := rn_steps 1 (17, [some (.ref 540), some (.int a1), none], [.int 1], aa_H g) rfl r
    exact dn_268_17 none rn_jn r
-- 265: UnequalHoursModel write
noncomputable def fn_265_62 (g : aa_G) (b1 : Int32) (b2 : Int32) : (aa_G × Int32) ⊕ (Int32 × aa_G) := .inl (g, b2 + 1)
theorem dn_265_62 {v : Option Value} {h : zz_H} {n : Nat} {g : aa_G} {b1 : Int32} {b2 : Int32} (P : (aa_G × Int32) ⊕ (Int32 × aa_G) → Prop) (hO0 : ∀ n2, n2 < n → ∀ (yg : aa_G) (yb2 : Int32), rn_s n2 265 (38, [some (.ref 540), some (.int b1), some (.int yb2)], [], aa_H yg) v h → P (.inl (yg, yb2))) (hR : ∀ E, iw_s v h E → P (.inr E))  (r : rn_s n 265 (62, [some (.ref 540), some (.int b1), some (.int b2)], [], aa_H g) v h) : P (fn_265_62 g b1 b2) := by
  unfold fn_265_62
  obtain ⟨n33, ln33, r⟩ := rn_steps 1 (38, [some (.ref 540), some (.int b1), some (.int (b2 + 1))], [], aa_H g) rfl r
  exact hO0 _ (by omega) g (b2 + 1) r
noncomputable def fn_265_38b (g : aa_G) (b1 : Int32) (b2 : Int32) : (aa_G × Int32) ⊕ (Int32 × aa_G) := if (g 541 ((fn_164 b1) + 1).toNatClampNeg) ≤ b2 then .inr (g 540 37, g) else fn_265_62 (fn_268 g (fn_175 b1 b2)) b1 b2
noncomputable def fn_265_38 (g : aa_G) (b1 : Int32) (b2 : Int32) : Int32 × aa_G := lp_f (0, g) (fun z : (aa_G × Int32) => fn_265_38b z.1 b1 z.2) (g, b2)
theorem dn_265_38l {v : Option Value} {h : zz_H} {N : Nat} {b1 : Int32} {d : Int32 × aa_G} : ∀ (n : Nat), n ≤ N → ∀ (g : aa_G) (b2 : Int32), rn_s n 265 (38, [some (.ref 540), some (.int b1), some (.int b2)], [], aa_H g) v h → (iw_s v h) (lp_f d (fun z : (aa_G × Int32) => fn_265_38b z.1 b1 z.2) (g, b2)) := by
  generalize hf : (fun z : (aa_G × Int32) => fn_265_38b z.1 b1 z.2) = f
  intro n
  induction n using Nat.strongRecOn with
  | _ n ih =>
    intro hN g b2  r
    refine lp_go ?_
    rw [← congrFun hf (g, b2)]
    show lp_q (iw_s v h) d f (fn_265_38b g b1 b2)
    unfold fn_265_38b
    obtain ⟨n19, ln19, r⟩ := rn_steps 3 (44, [some (.ref 540), some (.int b1), some (.int b2)], [.int b1, .ref 541, .int b2], aa_H g) rfl r
    obtain ⟨_, n20, v1, h1, -, ln20, rc, r⟩ := rn_call (m2 := 164) (as := [.int b1]) (rest := [.ref 541, .int b2]) rfl rfl r
    obtain ⟨rfl, rfl⟩ := dn_164 rc
    have r : rn_s _ 265 (47, [some (.ref 540), some (.int b1), some (.int b2)], [.int (fn_164 b1), .ref 541, .int b2], aa_H g) v h := r
    obtain ⟨n22, ln22, r⟩ := rn_steps 1 (49, [some (.ref 540), some (.int b1), some (.int b2)], [.int ((fn_164 b1) + 1), .ref 541, .int b2], aa_H g) rfl r
    obtain ⟨hb24, n23, ln23, r⟩ := rn_ial (k := 541) rfl ⟨by decide, by decide⟩ rfl r
    have r : rn_s _ 265 (50, [some (.ref 540), some (.int b1), some (.int b2)], [.int (g 541 ((fn_164 b1) + 1).toNatClampNeg), .int b2], aa_H g) v h := r
    refine rn_ic (lp_q (iw_s v h) d f) rfl decide_eq_true_iff.symm r (fun c25 l26n l26 r => ?_) (fun c25 l26n l26 r => ?_)
    · obtain ⟨n27, ln27, r⟩ := rn_steps 1 (72, [some (.ref 540), some (.int b1), some (.int b2)], [.int (g 540 37)], aa_H g) rfl r
      exact rn_ire rfl r
    · obtain ⟨n28, ln28, r⟩ := rn_steps 2 (56, [some (.ref 540), some (.int b1), some (.int b2)], [.int b2, .int b1, .ref 540], aa_H g) rfl r
      obtain ⟨_, n29, v1, h1, -, ln29, rc, r⟩ := rn_call (m2 := 175) (as := [.int b1, .int b2]) (rest := [.ref 540]) rfl rfl r
      obtain ⟨rfl, rfl⟩ := dn_175 rc
      have r : rn_s _ 265 (59, [some (.ref 540), some (.int b1), some (.int b2)], [.int (fn_175 b1 b2), .ref 540], aa_H g) v h := r
      obtain ⟨_, n31, v1, h1, -, ln31, rc, r⟩ := rn_call (m2 := 268) (as := [.ref 540, .int (fn_175 b1 b2)]) (rest := []) rfl rfl r
      obtain ⟨rfl, rfl⟩ := dn_268 rc
      have r : rn_s _ 265 (62, [some (.ref 540), some (.int b1), some (.int b2)], [], aa_H (fn_268 g (fn_175 b1 b2))) v h := r
      exact dn_265_62 (lp_q (iw_s v h) d f) (fun n2 l2 => ih n2 (by omega) (by omega)) (fun z hz => hz) r
theorem dn_265_38 {v : Option Value} {h : zz_H} {n : Nat} {g : aa_G} {b1 : Int32} {b2 : Int32}  (r : rn_s n 265 (38, [some (.ref 540), some (.int b1), some (.int b2)], [], aa_H g) v h) : (iw_s v h) (fn_265_38 g b1 b2) := dn_265_38l  n (Nat.le_refl n) g b2 r
noncomputable def fn_265_36 (g : aa_G) (b1 : Int32) : Int32 × aa_G := fn_265_38 g b1 0
theorem dn_265_36 {v : Option Value} {h : zz_H} {n : Nat} {g : aa_G} {b1 : Int32}  (x2 : Option Value) (jx2 : rn_jk x2) (r : rn_s n 265 (36, [some (.ref 540), some (.int b1), x2], [], aa_H g) v h) : iw_s v h (fn_265_36 g b1) := by
  unfold fn_265_36
  obtain ⟨n18, ln18, r⟩ := rn_steps 1 (38, [some (.ref 540), some (.int b1), some (.int 0)], [], aa_H g) rfl r
  exact dn_265_38 r
noncomputable def fn_265_30 (g : aa_G) (b1 : Int32) : Int32 × aa_G := fn_265_36 (fn_266 g 59) b1
theorem dn_265_30 {v : Option Value} {h : zz_H} {n : Nat} {g : aa_G} {b1 : Int32}  (x2 : Option Value) (jx2 : rn_jk x2) (r : rn_s n 265 (30, [some (.ref 540), some (.int b1), x2], [], aa_H g) v h) : iw_s v h (fn_265_30 g b1) := by
  unfold fn_265_30
  obtain ⟨n15, ln15, r⟩ := rn_steps 1 (33, [some (.ref 540), some (.int b1), x2], [.int 59, .ref 540], aa_H g) rfl r
  obtain ⟨_, n16, v1, h1, -, ln16, rc, r⟩ := rn_call (m2 := 266) (as := [.ref 540, .int 59]) (rest := []) rfl rfl r
  obtain ⟨rfl, rfl⟩ := dn_266 rc
  have r : rn_s _ 265 (36, [some (.ref 540), some (.int b1), x2], [], aa_H (fn_266 g 59)) v h := r
  exact dn_265_36 x2 jx2 r
noncomputable def fn_265_21 (g : aa_G) (b1 : Int32) : Int32 × aa_G := fn_265_30 (fn_267 g (fn_209 g b1)) b1
theorem dn_265_21 {v : Option Value} {h : zz_H} {n : Nat} {g : aa_G} {b1 : Int32}  (x2 : Option Value) (jx2 : rn_jk x2) (r : rn_s n 265 (21, [some (.ref 540), some (.int b1), x2], [], aa_H g) v h) : iw_s v h (fn_265_21 g b1) := by
  unfold fn_265_21
  obtain ⟨n10, ln10, r⟩ := rn_steps 2 (24, [some (.ref 540), some (.int b1), x2], [.int b1, .ref 540, .ref 540], aa_H g) rfl r
  obtain ⟨_, n11, v1, h1, -, ln11, rc, r⟩ := rn_call (m2 := 209) (as := [.ref 540, .int b1]) (rest := [.ref 540]) rfl rfl r
  obtain ⟨rfl, rfl⟩ := dn_209 rc
  have r : rn_s _ 265 (27, [some (.ref 540), some (.int b1), x2], [.int (fn_209 g b1), .ref 540], aa_H g) v h := r
  obtain ⟨_, n13, v1, h1, -, ln13, rc, r⟩ := rn_call (m2 := 267) (as := [.ref 540, .int (fn_209 g b1)]) (rest := []) rfl rfl r
  obtain ⟨rfl, rfl⟩ := dn_267 rc
  have r : rn_s _ 265 (30, [some (.ref 540), some (.int b1), x2], [], aa_H (fn_267 g (fn_209 g b1))) v h := r
  exact dn_265_30 x2 jx2 r
noncomputable def fn_265 (g : aa_G) (a1 : Int32) : Int32 × aa_G := if (fn_192 g a1) ≠ 0 then fn_265_21 (fn_266 (zz_w g 540 37 0) 116) a1 else (-1, g)
theorem dn_265 {v : Option Value} {h : zz_H} {n : Nat} {g : aa_G} {a1 : Int32}  (r : rn_s n 265 (0, zz_in [.ref 540, .int a1] (zz_nl 265), [], aa_H g) v h) : iw_s v h (fn_265 g a1) := by
  have r : rn_s n 265 (0, [some (.ref 540), some (.int a1), none], [], aa_H g) v h := r
  unfold fn_265
  obtain ⟨n1, ln1, r⟩ := rn_steps 1 (2, [some (.ref 540), some (.int a1), none], [.int a1, .ref 540], aa_H g) rfl r
  obtain ⟨_, n2, v1, h1, -, ln2, rc, r⟩ := rn_call (m2 := 192) (as := [.ref 540, .int a1]) (rest := []) rfl rfl r
  obtain ⟨rfl, rfl⟩ := dn_192 rc
  have r : rn_s _ 265 (5, [some (.ref 540), some (.int a1), none], [.int (fn_192 g a1)], aa_H g) v h := r
  refine rn_if (iw_s v h) rfl decide_eq_true_iff.symm r (fun c4 l5n l5 r => ?_) (fun c4 l5n l5 r => ?_)
  · obtain ⟨n6, ln6, r⟩ := rn_steps 4 (18, [some (.ref 540), some (.int a1), none], [.int 116, .ref 540], aa_H (zz_w g 540 37 0)) rfl r
    obtain ⟨_, n7, v1, h1, -, ln7, rc, r⟩ := rn_call (m2 := 266) (as := [.ref 540, .int 116]) (rest := []) rfl rfl r
    obtain ⟨rfl, rfl⟩ := dn_266 rc
    have r : rn_s _ 265 (21, [some (.ref 540), some (.int a1), none], [], aa_H (fn_266 (zz_w g 540 37 0) 116)) v h := r
    exact dn_265_21 none rn_jn r
  · obtain ⟨n9, ln9, r⟩ := rn_steps 0 (9, [some (.ref 540), some (.int a1), none], [.int (-1)], aa_H g) rfl r
    exact rn_ire rfl r
-- 269: UnequalHoursModel octet
noncomputable def fn_269 (g : aa_G) (a1 : Int32) : Int32 := if (fn_154 a1 0 ((g 540 37) - 1)) = 0 then -1 else g 553 a1.toNatClampNeg
theorem dn_269 {v : Option Value} {h : zz_H} {n : Nat} {g : aa_G} {a1 : Int32}  (r : rn_s n 269 (0, zz_in [.ref 540, .int a1] (zz_nl 269), [], aa_H g) v h) : ir_s g v h (fn_269 g a1) := by
  have r : rn_s n 269 (0, [some (.ref 540), some (.int a1)], [], aa_H g) v h := r
  unfold fn_269
  obtain ⟨n1, ln1, r⟩ := rn_steps 5 (8, [some (.ref 540), some (.int a1)], [.int ((g 540 37) - 1), .int 0, .int a1], aa_H g) rfl r
  obtain ⟨_, n2, v1, h1, -, ln2, rc, r⟩ := rn_call (m2 := 154) (as := [.int a1, .int 0, .int ((g 540 37) - 1)]) (rest := []) rfl rfl r
  obtain ⟨rfl, rfl⟩ := dn_154 rc
  have r : rn_s _ 269 (11, [some (.ref 540), some (.int a1)], [.int (fn_154 a1 0 ((g 540 37) - 1))], aa_H g) v h := r
  refine rn_if (ir_s g v h) rfl decide_eq_true_iff.symm r (fun c4 l5n l5 r => ?_) (fun c4 l5n l5 r => ?_)
  · obtain ⟨n6, ln6, r⟩ := rn_steps 0 (24, [some (.ref 540), some (.int a1)], [.int (-1)], aa_H g) rfl r
    exact rn_ire rfl r
  · obtain ⟨n7, ln7, r⟩ := rn_steps 2 (19, [some (.ref 540), some (.int a1)], [.int a1, .ref 553], aa_H g) rfl r
    obtain ⟨hb9, n8, ln8, r⟩ := rn_bal (k := 553) rfl ⟨by decide, by decide⟩ rfl (by decide) r
    have r : rn_s _ 269 (20, [some (.ref 540), some (.int a1)], [.int (g 553 a1.toNatClampNeg)], aa_H g) v h := r
    obtain ⟨n10, ln10, r⟩ := rn_steps 0 (24, [some (.ref 540), some (.int a1)], [.int (g 553 a1.toNatClampNeg)], aa_H g) rfl r
    exact rn_ire rfl r
-- 151: UnequalHoursModel undo
noncomputable def fn_151_31 (g : aa_G)  : Int32 × aa_G := (g 540 1, g)
theorem dn_151_31 {v : Option Value} {h : zz_H} {n : Nat} {g : aa_G}   (x0 : Option Value) (jx0 : rn_jk x0) (r : rn_s n 151 (31, [x0], [.ref 540], aa_H g) v h) : iw_s v h (fn_151_31 g) := by
  unfold fn_151_31
  obtain ⟨n9, ln9, r⟩ := rn_steps 0 (34, [x0], [.int (g 540 1)], aa_H g) rfl r
  exact rn_ire rfl r
noncomputable def fn_151 (g : aa_G)  : Int32 × aa_G := if (g 540 1) ≠ 0 then fn_151_31 (fn_152 (zz_w g 540 1 ((g 540 1) - 1)) (3 + ((g 540 1) - 1)) 0) else (-1, g)
theorem dn_151 {v : Option Value} {h : zz_H} {n : Nat} {g : aa_G}   (r : rn_s n 151 (0, zz_in [.ref 540] (zz_nl 151), [], aa_H g) v h) : iw_s v h (fn_151 g) := by
  have r : rn_s n 151 (0, [some (.ref 540)], [], aa_H g) v h := r
  unfold fn_151
  obtain ⟨n1, ln1, r⟩ := rn_steps 1 (4, [some (.ref 540)], [.int (g 540 1)], aa_H g) rfl r
  refine rn_if (iw_s v h) rfl decide_eq_true_iff.symm r (fun c2 l3n l3 r => ?_) (fun c2 l3n l3 r => ?_)
  · obtain ⟨n4, ln4, r⟩ := rn_steps 11 (27, [some (.ref 540)], [.int 0, .int (3 + ((g 540 1) - 1)), .ref 540], aa_H (zz_w g 540 1 ((g 540 1) - 1))) rfl r
    obtain ⟨_, n5, v1, h1, -, ln5, rc, r⟩ := rn_call (m2 := 152) (as := [.ref 540, .int (3 + ((g 540 1) - 1)), .int 0]) (rest := []) rfl rfl r
    obtain ⟨rfl, rfl⟩ := dn_152 rc
    have r : rn_s _ 151 (30, [some (.ref 540)], [], aa_H (fn_152 (zz_w g 540 1 ((g 540 1) - 1)) (3 + ((g 540 1) - 1)) 0)) v h := r
    obtain ⟨n7, ln7, r⟩ := rn_steps 0 (31, [some (.ref 540)], [.ref 540], aa_H (fn_152 (zz_w g 540 1 ((g 540 1) - 1)) (3 + ((g 540 1) - 1)) 0)) rfl r
    exact dn_151_31 (some (.ref 540)) rn_jr r
  · obtain ⟨n8, ln8, r⟩ := rn_steps 0 (8, [some (.ref 540)], [.int (-1)], aa_H g) rfl r
    exact rn_ire rfl r
-- 153: UnequalHoursModel keep
noncomputable def fn_153 (g : aa_G) (a1 : Int32) : Int32 × aa_G := if (fn_154 a1 0 1) ≠ 0 then (1, zz_w (fn_152 g 0 (1 + a1)) 542 a1.toNatClampNeg (vp_nar .boolean 1)) else (0, g)
theorem dn_153 {v : Option Value} {h : zz_H} {n : Nat} {g : aa_G} {a1 : Int32}  (r : rn_s n 153 (0, zz_in [.ref 540, .int a1] (zz_nl 153), [], aa_H g) v h) : iw_s v h (fn_153 g a1) := by
  have r : rn_s n 153 (0, [some (.ref 540), some (.int a1)], [], aa_H g) v h := r
  unfold fn_153
  obtain ⟨n1, ln1, r⟩ := rn_steps 2 (3, [some (.ref 540), some (.int a1)], [.int 1, .int 0, .int a1], aa_H g) rfl r
  obtain ⟨_, n2, v1, h1, -, ln2, rc, r⟩ := rn_call (m2 := 154) (as := [.int a1, .int 0, .int 1]) (rest := []) rfl rfl r
  obtain ⟨rfl, rfl⟩ := dn_154 rc
  have r : rn_s _ 153 (6, [some (.ref 540), some (.int a1)], [.int (fn_154 a1 0 1)], aa_H g) v h := r
  refine rn_if (iw_s v h) rfl decide_eq_true_iff.symm r (fun c4 l5n l5 r => ?_) (fun c4 l5n l5 r => ?_)
  · obtain ⟨n6, ln6, r⟩ := rn_steps 4 (16, [some (.ref 540), some (.int a1)], [.int (1 + a1), .int 0, .ref 540], aa_H g) rfl r
    obtain ⟨_, n7, v1, h1, -, ln7, rc, r⟩ := rn_call (m2 := 152) (as := [.ref 540, .int 0, .int (1 + a1)]) (rest := []) rfl rfl r
    obtain ⟨rfl, rfl⟩ := dn_152 rc
    have r : rn_s _ 153 (19, [some (.ref 540), some (.int a1)], [], aa_H (fn_152 g 0 (1 + a1))) v h := r
    obtain ⟨n9, ln9, r⟩ := rn_steps 3 (25, [some (.ref 540), some (.int a1)], [.int 1, .int a1, .ref 542], aa_H (fn_152 g 0 (1 + a1))) rfl r
    obtain ⟨hb11, n10, ln10, r⟩ := rn_bas (k := 542) rfl ⟨by decide, by decide⟩ rfl (by decide) r
    have r : rn_s _ 153 (26, [some (.ref 540), some (.int a1)], [], aa_H (zz_w (fn_152 g 0 (1 + a1)) 542 a1.toNatClampNeg (vp_nar .boolean 1))) v h := r
    obtain ⟨n12, ln12, r⟩ := rn_steps 0 (27, [some (.ref 540), some (.int a1)], [.int 1], aa_H (zz_w (fn_152 g 0 (1 + a1)) 542 a1.toNatClampNeg (vp_nar .boolean 1))) rfl r
    exact rn_ire rfl r
  · obtain ⟨n13, ln13, r⟩ := rn_steps 0 (10, [some (.ref 540), some (.int a1)], [.int 0], aa_H g) rfl r
    exact rn_ire rfl r
-- 155: UnequalHoursModel restore
noncomputable def fn_155_24 (g : aa_G) (b1 : Int32) : Int32 × aa_G := (1, fn_152 g (1 + b1) 0)
theorem dn_155_24 {v : Option Value} {h : zz_H} {n : Nat} {g : aa_G} {b1 : Int32}  (r : rn_s n 155 (24, [some (.ref 540), some (.int b1)], [], aa_H g) v h) : iw_s v h (fn_155_24 g b1) := by
  unfold fn_155_24
  obtain ⟨n16, ln16, r⟩ := rn_steps 4 (29, [some (.ref 540), some (.int b1)], [.int 0, .int (1 + b1), .ref 540], aa_H g) rfl r
  obtain ⟨_, n17, v1, h1, -, ln17, rc, r⟩ := rn_call (m2 := 152) (as := [.ref 540, .int (1 + b1), .int 0]) (rest := []) rfl rfl r
  obtain ⟨rfl, rfl⟩ := dn_152 rc
  have r : rn_s _ 155 (32, [some (.ref 540), some (.int b1)], [], aa_H (fn_152 g (1 + b1) 0)) v h := r
  obtain ⟨n19, ln19, r⟩ := rn_steps 0 (33, [some (.ref 540), some (.int b1)], [.int 1], aa_H (fn_152 g (1 + b1) 0)) rfl r
  exact rn_ire rfl r
noncomputable def fn_155 (g : aa_G) (a1 : Int32) : Int32 × aa_G := if (fn_154 a1 0 1) = 0 then (0, g) else if (g 542 a1.toNatClampNeg) ≠ 0 then fn_155_24 (fn_156 g) a1 else (0, g)
theorem dn_155 {v : Option Value} {h : zz_H} {n : Nat} {g : aa_G} {a1 : Int32}  (r : rn_s n 155 (0, zz_in [.ref 540, .int a1] (zz_nl 155), [], aa_H g) v h) : iw_s v h (fn_155 g a1) := by
  have r : rn_s n 155 (0, [some (.ref 540), some (.int a1)], [], aa_H g) v h := r
  unfold fn_155
  obtain ⟨n1, ln1, r⟩ := rn_steps 2 (3, [some (.ref 540), some (.int a1)], [.int 1, .int 0, .int a1], aa_H g) rfl r
  obtain ⟨_, n2, v1, h1, -, ln2, rc, r⟩ := rn_call (m2 := 154) (as := [.int a1, .int 0, .int 1]) (rest := []) rfl rfl r
  obtain ⟨rfl, rfl⟩ := dn_154 rc
  have r : rn_s _ 155 (6, [some (.ref 540), some (.int a1)], [.int (fn_154 a1 0 1)], aa_H g) v h := r
  refine rn_if (iw_s v h) rfl decide_eq_true_iff.symm r (fun c4 l5n l5 r => ?_) (fun c4 l5n l5 r => ?_)
  · obtain ⟨n6, ln6, r⟩ := rn_steps 0 (19, [some (.ref 540), some (.int a1)], [.int 0], aa_H g) rfl r
    exact rn_ire rfl r
  · obtain ⟨n7, ln7, r⟩ := rn_steps 2 (14, [some (.ref 540), some (.int a1)], [.int a1, .ref 542], aa_H g) rfl r
    obtain ⟨hb9, n8, ln8, r⟩ := rn_bal (k := 542) rfl ⟨by decide, by decide⟩ rfl (by decide) r
    have r : rn_s _ 155 (15, [some (.ref 540), some (.int a1)], [.int (g 542 a1.toNatClampNeg)], aa_H g) v h := r
    refine rn_if (iw_s v h) rfl decide_eq_true_iff.symm r (fun c10 l11n l11 r => ?_) (fun c10 l11n l11 r => ?_)
    · obtain ⟨n12, ln12, r⟩ := rn_steps 0 (21, [some (.ref 540), some (.int a1)], [.ref 540], aa_H g) rfl r
      obtain ⟨_, n13, v1, h1, -, ln13, rc, r⟩ := rn_call (m2 := 156) (as := [.ref 540]) (rest := []) rfl rfl r
      obtain ⟨rfl, rfl⟩ := dn_156 rc
      have r : rn_s _ 155 (24, [some (.ref 540), some (.int a1)], [], aa_H (fn_156 g)) v h := r
      exact dn_155_24 r
    · obtain ⟨n15, ln15, r⟩ := rn_steps 0 (19, [some (.ref 540), some (.int a1)], [.int 0], aa_H g) rfl r
      exact rn_ire rfl r
