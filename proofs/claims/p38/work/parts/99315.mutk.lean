/-! METHODS READ (printed by wip/dc/dc.py) -/
-- 141: UnequalHours undo
noncomputable def fn_141_11 (g : aa_G) (s0 : Int32) : Int32 × aa_G := if s0 = 0 then (-1, g) else (g 66 0, g)
theorem dn_141_11 {v : Option Value} {h : zz_H} {n : Nat} {g : aa_G} {s0 : Int32}  (r : rn_s n 141 (11, [some (.ref 1)], [.int s0], aa_H g) v h) : iw_s v h (fn_141_11 g s0) := by
  unfold fn_141_11
  refine rn_if (iw_s v h) rfl decide_eq_true_iff.symm r (fun c4 l5n l5 r => ?_) (fun c4 l5n l5 r => ?_)
  · obtain ⟨n6, ln6, r⟩ := rn_steps 0 (25, [some (.ref 1)], [.int (-1)], aa_H g) rfl r
    exact rn_ire rfl r
  · obtain ⟨n7, ln7, r⟩ := rn_steps 3 (25, [some (.ref 1)], [.int (g 66 0)], aa_H g) rfl r
    exact rn_ire rfl r
noncomputable def fn_141 (g : aa_G)  : Int32 × aa_G := fn_141_11 ((fn_142 g).2) ((fn_142 g).1)
theorem dn_141 {v : Option Value} {h : zz_H} {n : Nat} {g : aa_G}  (hi : rem_ok g) (r : rn_s n 141 (0, zz_in [.ref 1] (zz_nl 141), [], aa_H g) v h) : iw_s v h (fn_141 g) := by
  have r : rn_s n 141 (0, [some (.ref 1)], [], aa_H g) v h := r
  unfold fn_141
  obtain ⟨n1, ln1, r⟩ := rn_steps 3 (8, [some (.ref 1)], [.ref 2, .ref 66], aa_H g) rfl r
  obtain ⟨_, n2, v1, h1, -, ln2, rc, r⟩ := rn_call (m2 := 142) (as := [.ref 66, .ref 2]) (rest := []) rfl rfl r
  obtain ⟨rfl, rfl⟩ := dn_142 hi rc
  have r : rn_s _ 141 (11, [some (.ref 1)], [.int ((fn_142 g).1)], aa_H ((fn_142 g).2)) v h := r
  exact dn_141_11 r
-- 143: UnequalHours keep
noncomputable def fn_143 (g : aa_G) (a1 : Int32) : Int32 × aa_G := if (fn_14 a1 0 1) ≠ 0 then (1, zz_w (fn_16 g (32 * a1.toNatClampNeg + 476) 2) 453 a1.toNatClampNeg (vp_nar .boolean 1)) else (0, g)
theorem dn_143 {v : Option Value} {h : zz_H} {n : Nat} {g : aa_G} {a1 : Int32}  (r : rn_s n 143 (0, zz_in [.ref 1, .int a1] (zz_nl 143), [], aa_H g) v h) : iw_s v h (fn_143 g a1) := by
  have r : rn_s n 143 (0, [some (.ref 1), some (.int a1)], [], aa_H g) v h := r
  unfold fn_143
  obtain ⟨n1, ln1, r⟩ := rn_steps 2 (3, [some (.ref 1), some (.int a1)], [.int 1, .int 0, .int a1], aa_H g) rfl r
  obtain ⟨_, n2, v1, h1, -, ln2, rc, r⟩ := rn_call (m2 := 14) (as := [.int a1, .int 0, .int 1]) (rest := []) rfl rfl r
  obtain ⟨rfl, rfl⟩ := dn_14 rc
  have r : rn_s _ 143 (6, [some (.ref 1), some (.int a1)], [.int (fn_14 a1 0 1)], aa_H g) v h := r
  refine rn_if (iw_s v h) rfl decide_eq_true_iff.symm r (fun c4 l5n l5 r => ?_) (fun c4 l5n l5 r => ?_)
  · obtain ⟨n6, ln6, r⟩ := rn_steps 2 (16, [some (.ref 1), some (.int a1)], [.int a1, .ref 452], aa_H g) rfl r
    obtain ⟨hb8, n7, ln7, r⟩ := rn_aal (k := 452) (c := 32) (b := 476) (N := 2) rfl ⟨by decide, by decide⟩ rfl rfl (by decide) (by decide) r
    have ho9 : cs_ok (32 * a1.toNatClampNeg + 476) := rn_stat hb8
    have r : rn_s _ 143 (17, [some (.ref 1), some (.int a1)], [.ref (32 * a1.toNatClampNeg + 476)], aa_H g) v h := r
    obtain ⟨n10, ln10, r⟩ := rn_steps 1 (21, [some (.ref 1), some (.int a1)], [.ref 2, .ref (32 * a1.toNatClampNeg + 476)], aa_H g) rfl r
    obtain ⟨_, n11, v1, h1, -, ln11, rc, r⟩ := rn_cv (k := 32 * a1.toNatClampNeg + 476) (as := [.ref 2]) (rest := []) rfl (st_hk ho9) (st_hl ho9) rfl rfl r
    obtain ⟨rfl, rfl⟩ := dn_16 (ho9) (cs_ok_2) (by omega) rc
    have r : rn_s _ 143 (24, [some (.ref 1), some (.int a1)], [], aa_H (fn_16 g (32 * a1.toNatClampNeg + 476) 2)) v h := r
    obtain ⟨n13, ln13, r⟩ := rn_steps 3 (30, [some (.ref 1), some (.int a1)], [.int 1, .int a1, .ref 453], aa_H (fn_16 g (32 * a1.toNatClampNeg + 476) 2)) rfl r
    obtain ⟨hb15, n14, ln14, r⟩ := rn_bas (k := 453) rfl ⟨by decide, by decide⟩ rfl (by decide) r
    have r : rn_s _ 143 (31, [some (.ref 1), some (.int a1)], [], aa_H (zz_w (fn_16 g (32 * a1.toNatClampNeg + 476) 2) 453 a1.toNatClampNeg (vp_nar .boolean 1))) v h := r
    obtain ⟨n16, ln16, r⟩ := rn_steps 0 (32, [some (.ref 1), some (.int a1)], [.int 1], aa_H (zz_w (fn_16 g (32 * a1.toNatClampNeg + 476) 2) 453 a1.toNatClampNeg (vp_nar .boolean 1))) rfl r
    exact rn_ire rfl r
  · obtain ⟨n17, ln17, r⟩ := rn_steps 0 (10, [some (.ref 1), some (.int a1)], [.int 0], aa_H g) rfl r
    exact rn_ire rfl r
-- 144: UnequalHours restore
noncomputable def fn_144 (g : aa_G) (a1 : Int32) : Int32 × aa_G := if (fn_14 a1 0 1) = 0 then (0, g) else if (g 453 a1.toNatClampNeg) ≠ 0 then (1, fn_39 g (32 * a1.toNatClampNeg + 476)) else (0, g)
theorem dn_144 {v : Option Value} {h : zz_H} {n : Nat} {g : aa_G} {a1 : Int32} (hi : rem_ok g) (r : rn_s n 144 (0, zz_in [.ref 1, .int a1] (zz_nl 144), [], aa_H g) v h) : iw_s v h (fn_144 g a1) := by
  have r : rn_s n 144 (0, [some (.ref 1), some (.int a1)], [], aa_H g) v h := r
  unfold fn_144
  obtain ⟨n1, ln1, r⟩ := rn_steps 2 (3, [some (.ref 1), some (.int a1)], [.int 1, .int 0, .int a1], aa_H g) rfl r
  obtain ⟨_, n2, v1, h1, -, ln2, rc, r⟩ := rn_call (m2 := 14) (as := [.int a1, .int 0, .int 1]) (rest := []) rfl rfl r
  obtain ⟨rfl, rfl⟩ := dn_14 rc
  have r : rn_s _ 144 (6, [some (.ref 1), some (.int a1)], [.int (fn_14 a1 0 1)], aa_H g) v h := r
  refine rn_if (iw_s v h) rfl decide_eq_true_iff.symm r (fun c4 l5n l5 r => ?_) (fun c4 l5n l5 r => ?_)
  · obtain ⟨n6, ln6, r⟩ := rn_steps 0 (19, [some (.ref 1), some (.int a1)], [.int 0], aa_H g) rfl r
    exact rn_ire rfl r
  · obtain ⟨n7, ln7, r⟩ := rn_steps 2 (14, [some (.ref 1), some (.int a1)], [.int a1, .ref 453], aa_H g) rfl r
    obtain ⟨hb9, n8, ln8, r⟩ := rn_bal (k := 453) rfl ⟨by decide, by decide⟩ rfl (by decide) r
    have r : rn_s _ 144 (15, [some (.ref 1), some (.int a1)], [.int (g 453 a1.toNatClampNeg)], aa_H g) v h := r
    refine rn_if (iw_s v h) rfl decide_eq_true_iff.symm r (fun c10 l11n l11 r => ?_) (fun c10 l11n l11 r => ?_)
    · obtain ⟨n12, ln12, r⟩ := rn_steps 3 (26, [some (.ref 1), some (.int a1)], [.int a1, .ref 452, .ref 1], aa_H g) rfl r
      obtain ⟨hb14, n13, ln13, r⟩ := rn_aal (k := 452) (c := 32) (b := 476) (N := 2) rfl ⟨by decide, by decide⟩ rfl rfl (by decide) (by decide) r
      have ho15 : cs_ok (32 * a1.toNatClampNeg + 476) := rn_stat hb14
      have r : rn_s _ 144 (27, [some (.ref 1), some (.int a1)], [.ref (32 * a1.toNatClampNeg + 476), .ref 1], aa_H g) v h := r
      obtain ⟨_, n16, v1, h1, -, ln16, rc, r⟩ := rn_call (m2 := 39) (as := [.ref 1, .ref (32 * a1.toNatClampNeg + 476)]) (rest := []) rfl rfl r
      obtain ⟨rfl, rfl⟩ := dn_39 (ho15) (by omega) hi rc
      have r : rn_s _ 144 (30, [some (.ref 1), some (.int a1)], [], aa_H (fn_39 g (32 * a1.toNatClampNeg + 476))) v h := r
      obtain ⟨n18, ln18, r⟩ := rn_steps 0 (31, [some (.ref 1), some (.int a1)], [.int 1], aa_H (fn_39 g (32 * a1.toNatClampNeg + 476))) rfl r
      exact rn_ire rfl r
    · obtain ⟨n19, ln19, r⟩ := rn_steps 0 (19, [some (.ref 1), some (.int a1)], [.int 0], aa_H g) rfl r
      exact rn_ire rfl r
