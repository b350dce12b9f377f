/-! METHODS READ (printed by wip/dc/dc.py) -/
-- 13: UnequalHours end
noncomputable def fn_13 (g : aa_G) (a1 : Int32) : Int32 × aa_G := if (fn_14 a1 0 (g 454 0)) ≠ 0 then (a1, zz_w g 454 0 a1) else (-1, g)
theorem dn_13 {v : Option Value} {h : zz_H} {n : Nat} {g : aa_G} {a1 : Int32}  (r : rn_s n 13 (0, zz_in [.ref 1, .int a1] (zz_nl 13), [], aa_H g) v h) : iw_s v h (fn_13 g a1) := by
  have r : rn_s n 13 (0, [some (.ref 1), some (.int a1)], [], aa_H g) v h := r
  unfold fn_13
  obtain ⟨n1, ln1, r⟩ := rn_steps 4 (9, [some (.ref 1), some (.int a1)], [.int (g 454 0), .int 0, .int a1], aa_H g) rfl r
  obtain ⟨_, n2, v1, h1, -, ln2, rc, r⟩ := rn_call (m2 := 14) (as := [.int a1, .int 0, .int (g 454 0)]) (rest := []) rfl rfl r
  obtain ⟨rfl, rfl⟩ := dn_14 rc
  have r : rn_s _ 13 (12, [some (.ref 1), some (.int a1)], [.int (fn_14 a1 0 (g 454 0))], aa_H g) v h := r
  refine rn_if (iw_s v h) rfl decide_eq_true_iff.symm r (fun c4 l5n l5 r => ?_) (fun c4 l5n l5 r => ?_)
  · obtain ⟨n6, ln6, r⟩ := rn_steps 4 (26, [some (.ref 1), some (.int a1)], [.int a1], aa_H (zz_w g 454 0 a1)) rfl r
    exact rn_ire rfl r
  · obtain ⟨n7, ln7, r⟩ := rn_steps 0 (16, [some (.ref 1), some (.int a1)], [.int (-1)], aa_H g) rfl r
    exact rn_ire rfl r
-- 160: UnequalHoursModel end
noncomputable def fn_160 (g : aa_G) (a1 : Int32) : Int32 × aa_G := if (fn_154 a1 0 (g 540 4)) ≠ 0 then (a1, zz_w g 540 4 a1) else (-1, g)
theorem dn_160 {v : Option Value} {h : zz_H} {n : Nat} {g : aa_G} {a1 : Int32}  (r : rn_s n 160 (0, zz_in [.ref 540, .int a1] (zz_nl 160), [], aa_H g) v h) : iw_s v h (fn_160 g a1) := by
  have r : rn_s n 160 (0, [some (.ref 540), some (.int a1)], [], aa_H g) v h := r
  unfold fn_160
  obtain ⟨n1, ln1, r⟩ := rn_steps 3 (6, [some (.ref 540), some (.int a1)], [.int (g 540 4), .int 0, .int a1], aa_H g) rfl r
  obtain ⟨_, n2, v1, h1, -, ln2, rc, r⟩ := rn_call (m2 := 154) (as := [.int a1, .int 0, .int (g 540 4)]) (rest := []) rfl rfl r
  obtain ⟨rfl, rfl⟩ := dn_154 rc
  have r : rn_s _ 160 (9, [some (.ref 540), some (.int a1)], [.int (fn_154 a1 0 (g 540 4))], aa_H g) v h := r
  refine rn_if (iw_s v h) rfl decide_eq_true_iff.symm r (fun c4 l5n l5 r => ?_) (fun c4 l5n l5 r => ?_)
  · obtain ⟨n6, ln6, r⟩ := rn_steps 3 (20, [some (.ref 540), some (.int a1)], [.int a1], aa_H (zz_w g 540 4 a1)) rfl r
    exact rn_ire rfl r
  · obtain ⟨n7, ln7, r⟩ := rn_steps 0 (13, [some (.ref 540), some (.int a1)], [.int (-1)], aa_H g) rfl r
    exact rn_ire rfl r
-- 69: UnequalHours fault
noncomputable def fn_69 (g : aa_G)  : Int32 := g 1 13
theorem dn_69 {v : Option Value} {h : zz_H} {n : Nat} {g : aa_G}   (r : rn_s n 69 (0, zz_in [.ref 1] (zz_nl 69), [], aa_H g) v h) : ir_s g v h (fn_69 g) := by
  have r : rn_s n 69 (0, [some (.ref 1)], [], aa_H g) v h := r
  unfold fn_69
  obtain ⟨n1, ln1, r⟩ := rn_steps 1 (4, [some (.ref 1)], [.int (g 1 13)], aa_H g) rfl r
  exact rn_ire rfl r
-- 161: UnequalHoursModel fault
noncomputable def fn_161 (g : aa_G)  : Int32 := g 540 6
theorem dn_161 {v : Option Value} {h : zz_H} {n : Nat} {g : aa_G}   (r : rn_s n 161 (0, zz_in [.ref 540] (zz_nl 161), [], aa_H g) v h) : ir_s g v h (fn_161 g) := by
  have r : rn_s n 161 (0, [some (.ref 540)], [], aa_H g) v h := r
  unfold fn_161
  obtain ⟨n1, ln1, r⟩ := rn_steps 1 (4, [some (.ref 540)], [.int (g 540 6)], aa_H g) rfl r
  exact rn_ire rfl r
-- 70: UnequalHours ended
noncomputable def fn_70 (g : aa_G)  : Int32 := g 1 14
theorem dn_70 {v : Option Value} {h : zz_H} {n : Nat} {g : aa_G}   (r : rn_s n 70 (0, zz_in [.ref 1] (zz_nl 70), [], aa_H g) v h) : ir_s g v h (fn_70 g) := by
  have r : rn_s n 70 (0, [some (.ref 1)], [], aa_H g) v h := r
  unfold fn_70
  obtain ⟨n1, ln1, r⟩ := rn_steps 1 (4, [some (.ref 1)], [.int (g 1 14)], aa_H g) rfl r
  exact rn_ire rfl r
-- 264: UnequalHoursModel ended
noncomputable def fn_264 (g : aa_G)  : Int32 := g 540 35
theorem dn_264 {v : Option Value} {h : zz_H} {n : Nat} {g : aa_G}   (r : rn_s n 264 (0, zz_in [.ref 540] (zz_nl 264), [], aa_H g) v h) : ir_s g v h (fn_264 g) := by
  have r : rn_s n 264 (0, [some (.ref 540)], [], aa_H g) v h := r
  unfold fn_264
  obtain ⟨n1, ln1, r⟩ := rn_steps 1 (4, [some (.ref 540)], [.int (g 540 35)], aa_H g) rfl r
  exact rn_ire rfl r
