/-! METHODS READ (printed by wip/dc/dc.py) -/
-- 190: UnequalHoursModel table
noncomputable def fn_190_32 (g : aa_G) (s0 : Int32) : Int32 × aa_G := if s0 = 0 then (-2, g) else (g 540 18, g)
theorem dn_190_32 {v : Option Value} {h : zz_H} {n : Nat} {g : aa_G} {s0 : Int32}  (x1 x2 x3 x4 : Option Value) (jx1 : rn_jk x1) (jx2 : rn_jk x2) (jx3 : rn_jk x3) (jx4 : rn_jk x4) (r : rn_s n 190 (32, [some (.ref 540), x1, x2, x3, x4], [.int s0], aa_H g) v h) : iw_s v h (fn_190_32 g s0) := by
  unfold fn_190_32
  refine rn_if (iw_s v h) rfl decide_eq_true_iff.symm r (fun c43 l44n l44 r => ?_) (fun c43 l44n l44 r => ?_)
  · obtain ⟨n45, ln45, r⟩ := rn_steps 0 (44, [some (.ref 540), x1, x2, x3, x4], [.int (-2)], aa_H g) rfl r
    exact rn_ire rfl r
  · obtain ⟨n46, ln46, r⟩ := rn_steps 2 (44, [some (.ref 540), x1, x2, x3, x4], [.int (g 540 18)], aa_H g) rfl r
    exact rn_ire rfl r
noncomputable def fn_190_51 (g : aa_G) (b3 : Int32) (s0 : Int32) : Int32 × aa_G := if b3 ≠ 4 then if s0 ≠ 0 then if b3 ≠ 0 then if b3 ≠ 1 then ((g 540 15) - (g 540 14), g) else (g 540 15, g) else (g 540 14, g) else (-2, g) else if s0 = 0 then (g 540 13, g) else (-1, g)
theorem dn_190_51 {v : Option Value} {h : zz_H} {n : Nat} {g : aa_G} {b3 : Int32} {s0 : Int32}  (x1 x2 x4 : Option Value) (jx1 : rn_jk x1) (jx2 : rn_jk x2) (jx4 : rn_jk x4) (r : rn_s n 190 (51, [some (.ref 540), x1, x2, some (.int b3), x4], [.int s0], aa_H g) v h) : iw_s v h (fn_190_51 g b3 s0) := by
  unfold fn_190_51
  obtain ⟨n22, ln22, r⟩ := rn_steps 2 (55, [some (.ref 540), x1, x2, some (.int b3), some (.int s0)], [.int 4, .int b3], aa_H g) rfl r
  refine rn_ic (iw_s v h) rfl decide_eq_true_iff.symm r (fun c23 l24n l24 r => ?_) (fun c23 l24n l24 r => ?_)
  · obtain ⟨n25, ln25, r⟩ := rn_steps 0 (74, [some (.ref 540), x1, x2, some (.int b3), some (.int s0)], [.int s0], aa_H g) rfl r
    refine rn_if (iw_s v h) rfl decide_eq_true_iff.symm r (fun c26 l27n l27 r => ?_) (fun c26 l27n l27 r => ?_)
    · obtain ⟨n28, ln28, r⟩ := rn_steps 0 (83, [some (.ref 540), x1, x2, some (.int b3), some (.int s0)], [.int b3], aa_H g) rfl r
      refine rn_if (iw_s v h) rfl decide_eq_true_iff.symm r (fun c29 l30n l30 r => ?_) (fun c29 l30n l30 r => ?_)
      · obtain ⟨n31, ln31, r⟩ := rn_steps 1 (95, [some (.ref 540), x1, x2, some (.int b3), some (.int s0)], [.int 1, .int b3], aa_H g) rfl r
        refine rn_ic (iw_s v h) rfl decide_eq_true_iff.symm r (fun c32 l33n l33 r => ?_) (fun c32 l33n l33 r => ?_)
        · obtain ⟨n34, ln34, r⟩ := rn_steps 4 (114, [some (.ref 540), x1, x2, some (.int b3), some (.int s0)], [.int ((g 540 15) - (g 540 14))], aa_H g) rfl r
          exact rn_ire rfl r
        · obtain ⟨n35, ln35, r⟩ := rn_steps 2 (114, [some (.ref 540), x1, x2, some (.int b3), some (.int s0)], [.int (g 540 15)], aa_H g) rfl r
          exact rn_ire rfl r
      · obtain ⟨n36, ln36, r⟩ := rn_steps 2 (114, [some (.ref 540), x1, x2, some (.int b3), some (.int s0)], [.int (g 540 14)], aa_H g) rfl r
        exact rn_ire rfl r
    · obtain ⟨n37, ln37, r⟩ := rn_steps 1 (114, [some (.ref 540), x1, x2, some (.int b3), some (.int s0)], [.int (-2)], aa_H g) rfl r
      exact rn_ire rfl r
  · obtain ⟨n38, ln38, r⟩ := rn_steps 0 (60, [some (.ref 540), x1, x2, some (.int b3), some (.int s0)], [.int s0], aa_H g) rfl r
    refine rn_if (iw_s v h) rfl decide_eq_true_iff.symm r (fun c39 l40n l40 r => ?_) (fun c39 l40n l40 r => ?_)
    · obtain ⟨n41, ln41, r⟩ := rn_steps 1 (71, [some (.ref 540), x1, x2, some (.int b3), some (.int s0)], [.int (g 540 13)], aa_H g) rfl r
      exact rn_ire rfl r
    · obtain ⟨n42, ln42, r⟩ := rn_steps 1 (71, [some (.ref 540), x1, x2, some (.int b3), some (.int s0)], [.int (-1)], aa_H g) rfl r
      exact rn_ire rfl r
noncomputable def fn_190 (g : aa_G) (a1 : Int32) (a2 : Int32) (a3 : Int32) : Int32 × aa_G := if (fn_191 g a1 a2) = 0 then (-1, g) else if (fn_154 a3 0 4) ≠ 0 then if a3 ≠ 3 then fn_190_51 ((fn_195 g a1 a2).2) a3 ((fn_195 g a1 a2).1) else fn_190_32 ((fn_194 g a1 a2 1).2) ((fn_194 g a1 a2 1).1) else (-1, g)
theorem dn_190 {v : Option Value} {h : zz_H} {n : Nat} {g : aa_G} {a1 : Int32} {a2 : Int32} {a3 : Int32}  (r : rn_s n 190 (0, zz_in [.ref 540, .int a1, .int a2, .int a3] (zz_nl 190), [], aa_H g) v h) : iw_s v h (fn_190 g a1 a2 a3) := by
  have r : rn_s n 190 (0, [some (.ref 540), some (.int a1), some (.int a2), some (.int a3), none], [], aa_H g) v h := r
  unfold fn_190
  obtain ⟨n1, ln1, r⟩ := rn_steps 2 (3, [some (.ref 540), some (.int a1), some (.int a2), some (.int a3), none], [.int a2, .int a1, .ref 540], aa_H g) rfl r
  obtain ⟨_, n2, v1, h1, -, ln2, rc, r⟩ := rn_call (m2 := 191) (as := [.ref 540, .int a1, .int a2]) (rest := []) rfl rfl r
  obtain ⟨rfl, rfl⟩ := dn_191 rc
  have r : rn_s _ 190 (6, [some (.ref 540), some (.int a1), some (.int a2), some (.int a3), none], [.int (fn_191 g a1 a2)], aa_H g) v h := r
  refine rn_if (iw_s v h) rfl decide_eq_true_iff.symm r (fun c4 l5n l5 r => ?_) (fun c4 l5n l5 r => ?_)
  · obtain ⟨n6, ln6, r⟩ := rn_steps 0 (19, [some (.ref 540), some (.int a1), some (.int a2), some (.int a3), none], [.int (-1)], aa_H g) rfl r
    exact rn_ire rfl r
  · obtain ⟨n7, ln7, r⟩ := rn_steps 2 (12, [some (.ref 540), some (.int a1), some (.int a2), some (.int a3), none], [.int 4, .int 0, .int a3], aa_H g) rfl r
    obtain ⟨_, n8, v1, h1, -, ln8, rc, r⟩ := rn_call (m2 := 154) (as := [.int a3, .int 0, .int 4]) (rest := []) rfl rfl r
    obtain ⟨rfl, rfl⟩ := dn_154 rc
    have r : rn_s _ 190 (15, [some (.ref 540), some (.int a1), some (.int a2), some (.int a3), none], [.int (fn_154 a3 0 4)], aa_H g) v h := r
    refine rn_if (iw_s v h) rfl decide_eq_true_iff.symm r (fun c10 l11n l11 r => ?_) (fun c10 l11n l11 r => ?_)
    · obtain ⟨n12, ln12, r⟩ := rn_steps 1 (22, [some (.ref 540), some (.int a1), some (.int a2), some (.int a3), none], [.int 3, .int a3], aa_H g) rfl r
      refine rn_ic (iw_s v h) rfl decide_eq_true_iff.symm r (fun c13 l14n l14 r => ?_) (fun c13 l14n l14 r => ?_)
      · obtain ⟨n15, ln15, r⟩ := rn_steps 2 (48, [some (.ref 540), some (.int a1), some (.int a2), some (.int a3), none], [.int a2, .int a1, .ref 540], aa_H g) rfl r
        obtain ⟨_, n16, v1, h1, -, ln16, rc, r⟩ := rn_call (m2 := 195) (as := [.ref 540, .int a1, .int a2]) (rest := []) rfl rfl r
        obtain ⟨rfl, rfl⟩ := dn_195 rc
        have r : rn_s _ 190 (51, [some (.ref 540), some (.int a1), some (.int a2), some (.int a3), none], [.int ((fn_195 g a1 a2).1)], aa_H ((fn_195 g a1 a2).2)) v h := r
        exact dn_190_51 (some (.int a1)) (some (.int a2)) none rn_ji rn_ji rn_jn r
      · obtain ⟨n18, ln18, r⟩ := rn_steps 3 (29, [some (.ref 540), some (.int a1), some (.int a2), some (.int a3), none], [.int 1, .int a2, .int a1, .ref 540], aa_H g) rfl r
        obtain ⟨_, n19, v1, h1, -, ln19, rc, r⟩ := rn_call (m2 := 194) (as := [.ref 540, .int a1, .int a2, .int 1]) (rest := []) rfl rfl r
        obtain ⟨rfl, rfl⟩ := dn_194 rc
        have r : rn_s _ 190 (32, [some (.ref 540), some (.int a1), some (.int a2), some (.int a3), none], [.int ((fn_194 g a1 a2 1).1)], aa_H ((fn_194 g a1 a2 1).2)) v h := r
        exact dn_190_32 (some (.int a1)) (some (.int a2)) (some (.int a3)) none rn_ji rn_ji rn_ji rn_jn r
    · obtain ⟨n21, ln21, r⟩ := rn_steps 0 (19, [some (.ref 540), some (.int a1), some (.int a2), some (.int a3), none], [.int (-1)], aa_H g) rfl r
      exact rn_ire rfl r
-- 198: UnequalHoursModel turn
noncomputable def fn_198_35 (g : aa_G) (b4 : Int32) (s0 : Int32) : Int32 × aa_G := if s0 = 0 then (-2, g) else (fn_201 g b4, g)
theorem dn_198_35 {v : Option Value} {h : zz_H} {n : Nat} {g : aa_G} {b4 : Int32} {s0 : Int32}  (x1 x2 x3 : Option Value) (jx1 : rn_jk x1) (jx2 : rn_jk x2) (jx3 : rn_jk x3) (r : rn_s n 198 (35, [some (.ref 540), x1, x2, x3, some (.int b4)], [.int s0], aa_H g) v h) : iw_s v h (fn_198_35 g b4 s0) := by
  unfold fn_198_35
  refine rn_if (iw_s v h) rfl decide_eq_true_iff.symm r (fun c22 l23n l23 r => ?_) (fun c22 l23n l23 r => ?_)
  · obtain ⟨n24, ln24, r⟩ := rn_steps 0 (49, [some (.ref 540), x1, x2, x3, some (.int b4)], [.int (-2)], aa_H g) rfl r
    exact rn_ire rfl r
  · obtain ⟨n25, ln25, r⟩ := rn_steps 1 (41, [some (.ref 540), x1, x2, x3, some (.int b4)], [.int b4, .ref 540], aa_H g) rfl r
    obtain ⟨_, n26, v1, h1, -, ln26, rc, r⟩ := rn_call (m2 := 201) (as := [.ref 540, .int b4]) (rest := []) rfl rfl r
    obtain ⟨rfl, rfl⟩ := dn_201 rc
    have r : rn_s _ 198 (44, [some (.ref 540), x1, x2, x3, some (.int b4)], [.int (fn_201 g b4)], aa_H g) v h := r
    obtain ⟨n28, ln28, r⟩ := rn_steps 0 (49, [some (.ref 540), x1, x2, x3, some (.int b4)], [.int (fn_201 g b4)], aa_H g) rfl r
    exact rn_ire rfl r
noncomputable def fn_198 (g : aa_G) (a1 : Int32) (a2 : Int32) (a3 : Int32) (a4 : Int32) : Int32 × aa_G := if (fn_191 g a1 a2) = 0 then (-1, g) else if (fn_199 a3) = 0 then (-1, g) else if (fn_154 a4 0 5) ≠ 0 then fn_198_35 ((fn_200 g a1 a2 a3).2) a4 ((fn_200 g a1 a2 a3).1) else (-1, g)
theorem dn_198 {v : Option Value} {h : zz_H} {n : Nat} {g : aa_G} {a1 : Int32} {a2 : Int32} {a3 : Int32} {a4 : Int32}  (r : rn_s n 198 (0, zz_in [.ref 540, .int a1, .int a2, .int a3, .int a4] (zz_nl 198), [], aa_H g) v h) : iw_s v h (fn_198 g a1 a2 a3 a4) := by
  have r : rn_s n 198 (0, [some (.ref 540), some (.int a1), some (.int a2), some (.int a3), some (.int a4)], [], aa_H g) v h := r
  unfold fn_198
  obtain ⟨n1, ln1, r⟩ := rn_steps 2 (3, [some (.ref 540), some (.int a1), some (.int a2), some (.int a3), some (.int a4)], [.int a2, .int a1, .ref 540], aa_H g) rfl r
  obtain ⟨_, n2, v1, h1, -, ln2, rc, r⟩ := rn_call (m2 := 191) (as := [.ref 540, .int a1, .int a2]) (rest := []) rfl rfl r
  obtain ⟨rfl, rfl⟩ := dn_191 rc
  have r : rn_s _ 198 (6, [some (.ref 540), some (.int a1), some (.int a2), some (.int a3), some (.int a4)], [.int (fn_191 g a1 a2)], aa_H g) v h := r
  refine rn_if (iw_s v h) rfl decide_eq_true_iff.symm r (fun c4 l5n l5 r => ?_) (fun c4 l5n l5 r => ?_)
  · obtain ⟨n6, ln6, r⟩ := rn_steps 0 (27, [some (.ref 540), some (.int a1), some (.int a2), some (.int a3), some (.int a4)], [.int (-1)], aa_H g) rfl r
    exact rn_ire rfl r
  · obtain ⟨n7, ln7, r⟩ := rn_steps 0 (10, [some (.ref 540), some (.int a1), some (.int a2), some (.int a3), some (.int a4)], [.int a3], aa_H g) rfl r
    obtain ⟨_, n8, v1, h1, -, ln8, rc, r⟩ := rn_call (m2 := 199) (as := [.int a3]) (rest := []) rfl rfl r
    obtain ⟨rfl, rfl⟩ := dn_199 rc
    have r : rn_s _ 198 (13, [some (.ref 540), some (.int a1), some (.int a2), some (.int a3), some (.int a4)], [.int (fn_199 a3)], aa_H g) v h := r
    refine rn_if (iw_s v h) rfl decide_eq_true_iff.symm r (fun c10 l11n l11 r => ?_) (fun c10 l11n l11 r => ?_)
    · obtain ⟨n12, ln12, r⟩ := rn_steps 0 (27, [some (.ref 540), some (.int a1), some (.int a2), some (.int a3), some (.int a4)], [.int (-1)], aa_H g) rfl r
      exact rn_ire rfl r
    · obtain ⟨n13, ln13, r⟩ := rn_steps 2 (20, [some (.ref 540), some (.int a1), some (.int a2), some (.int a3), some (.int a4)], [.int 5, .int 0, .int a4], aa_H g) rfl r
      obtain ⟨_, n14, v1, h1, -, ln14, rc, r⟩ := rn_call (m2 := 154) (as := [.int a4, .int 0, .int 5]) (rest := []) rfl rfl r
      obtain ⟨rfl, rfl⟩ := dn_154 rc
      have r : rn_s _ 198 (23, [some (.ref 540), some (.int a1), some (.int a2), some (.int a3), some (.int a4)], [.int (fn_154 a4 0 5)], aa_H g) v h := r
      refine rn_if (iw_s v h) rfl decide_eq_true_iff.symm r (fun c16 l17n l17 r => ?_) (fun c16 l17n l17 r => ?_)
      · obtain ⟨n18, ln18, r⟩ := rn_steps 3 (32, [some (.ref 540), some (.int a1), some (.int a2), some (.int a3), some (.int a4)], [.int a3, .int a2, .int a1, .ref 540], aa_H g) rfl r
        obtain ⟨_, n19, v1, h1, -, ln19, rc, r⟩ := rn_call (m2 := 200) (as := [.ref 540, .int a1, .int a2, .int a3]) (rest := []) rfl rfl r
        obtain ⟨rfl, rfl⟩ := dn_200 rc
        have r : rn_s _ 198 (35, [some (.ref 540), some (.int a1), some (.int a2), some (.int a3), some (.int a4)], [.int ((fn_200 g a1 a2 a3).1)], aa_H ((fn_200 g a1 a2 a3).2)) v h := r
        exact dn_198_35 (some (.int a1)) (some (.int a2)) (some (.int a3)) rn_ji rn_ji rn_ji r
      · obtain ⟨n21, ln21, r⟩ := rn_steps 0 (27, [some (.ref 540), some (.int a1), some (.int a2), some (.int a3), some (.int a4)], [.int (-1)], aa_H g) rfl r
        exact rn_ire rfl r
-- 203: UnequalHoursModel back
noncomputable def fn_203 (g : aa_G) (a1 : Int32) (a2 : Int32) (a3 : Int32) (a4 : Int32) : Int32 × aa_G := if (fn_191 g a1 a2) = 0 then (-1, g) else if (fn_204 g a3 a4) = 0 then (-1, g) else ((fn_205 g a1 a2 a3 a4).1, (fn_205 g a1 a2 a3 a4).2)
theorem dn_203 {v : Option Value} {h : zz_H} {n : Nat} {g : aa_G} {a1 : Int32} {a2 : Int32} {a3 : Int32} {a4 : Int32}  (r : rn_s n 203 (0, zz_in [.ref 540, .int a1, .int a2, .int a3, .int a4] (zz_nl 203), [], aa_H g) v h) : iw_s v h (fn_203 g a1 a2 a3 a4) := by
  have r : rn_s n 203 (0, [some (.ref 540), some (.int a1), some (.int a2), some (.int a3), some (.int a4)], [], aa_H g) v h := r
  unfold fn_203
  obtain ⟨n1, ln1, r⟩ := rn_steps 2 (3, [some (.ref 540), some (.int a1), some (.int a2), some (.int a3), some (.int a4)], [.int a2, .int a1, .ref 540], aa_H g) rfl r
  obtain ⟨_, n2, v1, h1, -, ln2, rc, r⟩ := rn_call (m2 := 191) (as := [.ref 540, .int a1, .int a2]) (rest := []) rfl rfl r
  obtain ⟨rfl, rfl⟩ := dn_191 rc
  have r : rn_s _ 203 (6, [some (.ref 540), some (.int a1), some (.int a2), some (.int a3), some (.int a4)], [.int (fn_191 g a1 a2)], aa_H g) v h := r
  refine rn_if (iw_s v h) rfl decide_eq_true_iff.symm r (fun c4 l5n l5 r => ?_) (fun c4 l5n l5 r => ?_)
  · obtain ⟨n6, ln6, r⟩ := rn_steps 0 (32, [some (.ref 540), some (.int a1), some (.int a2), some (.int a3), some (.int a4)], [.int (-1)], aa_H g) rfl r
    exact rn_ire rfl r
  · obtain ⟨n7, ln7, r⟩ := rn_steps 2 (13, [some (.ref 540), some (.int a1), some (.int a2), some (.int a3), some (.int a4)], [.int a4, .int a3, .ref 540], aa_H g) rfl r
    obtain ⟨_, n8, v1, h1, -, ln8, rc, r⟩ := rn_call (m2 := 204) (as := [.ref 540, .int a3, .int a4]) (rest := []) rfl rfl r
    obtain ⟨rfl, rfl⟩ := dn_204 rc
    have r : rn_s _ 203 (16, [some (.ref 540), some (.int a1), some (.int a2), some (.int a3), some (.int a4)], [.int (fn_204 g a3 a4)], aa_H g) v h := r
    refine rn_if (iw_s v h) rfl decide_eq_true_iff.symm r (fun c10 l11n l11 r => ?_) (fun c10 l11n l11 r => ?_)
    · obtain ⟨n12, ln12, r⟩ := rn_steps 0 (32, [some (.ref 540), some (.int a1), some (.int a2), some (.int a3), some (.int a4)], [.int (-1)], aa_H g) rfl r
      exact rn_ire rfl r
    · obtain ⟨n13, ln13, r⟩ := rn_steps 4 (25, [some (.ref 540), some (.int a1), some (.int a2), some (.int a3), some (.int a4)], [.int a4, .int a3, .int a2, .int a1, .ref 540], aa_H g) rfl r
      obtain ⟨_, n14, v1, h1, -, ln14, rc, r⟩ := rn_call (m2 := 205) (as := [.ref 540, .int a1, .int a2, .int a3, .int a4]) (rest := []) rfl rfl r
      obtain ⟨rfl, rfl⟩ := dn_205 rc
      have r : rn_s _ 203 (28, [some (.ref 540), some (.int a1), some (.int a2), some (.int a3), some (.int a4)], [.int ((fn_205 g a1 a2 a3 a4).1)], aa_H ((fn_205 g a1 a2 a3 a4).2)) v h := r
      obtain ⟨n16, ln16, r⟩ := rn_steps 0 (32, [some (.ref 540), some (.int a1), some (.int a2), some (.int a3), some (.int a4)], [.int ((fn_205 g a1 a2 a3 a4).1)], aa_H ((fn_205 g a1 a2 a3 a4).2)) rfl r
      exact rn_ire rfl r
-- 210: UnequalHoursModel date
noncomputable def fn_210_61 (g : aa_G) (b2 : Int32) (b3 : Int32) (b4 : Int32) (s0 : Int32) : Int32 × aa_G := if s0 ≠ 0 then if b4 ≠ 1 then if b3 < (g 540 15) then (b2, g) else (b2 + 1, g) else if b3 < (g 540 14) then (b2 - 1, g) else (b2, g) else (-2, g)
theorem dn_210_61 {v : Option Value} {h : zz_H} {n : Nat} {g : aa_G} {b2 : Int32} {b3 : Int32} {b4 : Int32} {s0 : Int32}  (x1 : Option Value) (jx1 : rn_jk x1) (r : rn_s n 210 (61, [some (.ref 540), x1, some (.int b2), some (.int b3), some (.int b4)], [.int s0], aa_H g) v h) : iw_s v h (fn_210_61 g b2 b3 b4 s0) := by
  unfold fn_210_61
  refine rn_if (iw_s v h) rfl decide_eq_true_iff.symm r (fun c34 l35n l35 r => ?_) (fun c34 l35n l35 r => ?_)
  · obtain ⟨n36, ln36, r⟩ := rn_steps 1 (70, [some (.ref 540), x1, some (.int b2), some (.int b3), some (.int b4)], [.int 1, .int b4], aa_H g) rfl r
    refine rn_ic (iw_s v h) rfl decide_eq_true_iff.symm r (fun c37 l38n l38 r => ?_) (fun c37 l38n l38 r => ?_)
    · obtain ⟨n39, ln39, r⟩ := rn_steps 2 (96, [some (.ref 540), x1, some (.int b2), some (.int b3), some (.int b4)], [.int (g 540 15), .int b3], aa_H g) rfl r
      refine rn_ic (iw_s v h) rfl decide_eq_true_iff.symm r (fun c40 l41n l41 r => ?_) (fun c40 l41n l41 r => ?_)
      · obtain ⟨n42, ln42, r⟩ := rn_steps 0 (106, [some (.ref 540), x1, some (.int b2), some (.int b3), some (.int b4)], [.int b2], aa_H g) rfl r
        exact rn_ire rfl r
      · obtain ⟨n43, ln43, r⟩ := rn_steps 3 (106, [some (.ref 540), x1, some (.int b2), some (.int b3), some (.int b4)], [.int (b2 + 1)], aa_H g) rfl r
        exact rn_ire rfl r
    · obtain ⟨n44, ln44, r⟩ := rn_steps 2 (78, [some (.ref 540), x1, some (.int b2), some (.int b3), some (.int b4)], [.int (g 540 14), .int b3], aa_H g) rfl r
      refine rn_ic (iw_s v h) rfl decide_eq_true_iff.symm r (fun c45 l46n l46 r => ?_) (fun c45 l46n l46 r => ?_)
      · obtain ⟨n47, ln47, r⟩ := rn_steps 3 (106, [some (.ref 540), x1, some (.int b2), some (.int b3), some (.int b4)], [.int (b2 - 1)], aa_H g) rfl r
        exact rn_ire rfl r
      · obtain ⟨n48, ln48, r⟩ := rn_steps 1 (106, [some (.ref 540), x1, some (.int b2), some (.int b3), some (.int b4)], [.int b2], aa_H g) rfl r
        exact rn_ire rfl r
  · obtain ⟨n49, ln49, r⟩ := rn_steps 0 (66, [some (.ref 540), x1, some (.int b2), some (.int b3), some (.int b4)], [.int (-2)], aa_H g) rfl r
    exact rn_ire rfl r
noncomputable def fn_210 (g : aa_G) (a1 : Int32) (a2 : Int32) (a3 : Int32) (a4 : Int32) : Int32 × aa_G := if (fn_191 g a1 a2) = 0 then (-1, g) else if (fn_199 a3) = 0 then (-1, g) else if (fn_154 a4 0 3) ≠ 0 then if a4 ≠ 0 then if a4 ≠ 3 then fn_210_61 ((fn_195 g a1 a2).2) a2 a3 a4 ((fn_195 g a1 a2).1) else if a3 < 43200 then (a2 - 1, g) else (a2, g) else (a2, g) else (-1, g)
theorem dn_210 {v : Option Value} {h : zz_H} {n : Nat} {g : aa_G} {a1 : Int32} {a2 : Int32} {a3 : Int32} {a4 : Int32}  (r : rn_s n 210 (0, zz_in [.ref 540, .int a1, .int a2, .int a3, .int a4] (zz_nl 210), [], aa_H g) v h) : iw_s v h (fn_210 g a1 a2 a3 a4) := by
  have r : rn_s n 210 (0, [some (.ref 540), some (.int a1), some (.int a2), some (.int a3), some (.int a4)], [], aa_H g) v h := r
  unfold fn_210
  obtain ⟨n1, ln1, r⟩ := rn_steps 2 (3, [some (.ref 540), some (.int a1), some (.int a2), some (.int a3), some (.int a4)], [.int a2, .int a1, .ref 540], aa_H g) rfl r
  obtain ⟨_, n2, v1, h1, -, ln2, rc, r⟩ := rn_call (m2 := 191) (as := [.ref 540, .int a1, .int a2]) (rest := []) rfl rfl r
  obtain ⟨rfl, rfl⟩ := dn_191 rc
  have r : rn_s _ 210 (6, [some (.ref 540), some (.int a1), some (.int a2), some (.int a3), some (.int a4)], [.int (fn_191 g a1 a2)], aa_H g) v h := r
  refine rn_if (iw_s v h) rfl decide_eq_true_iff.symm r (fun c4 l5n l5 r => ?_) (fun c4 l5n l5 r => ?_)
  · obtain ⟨n6, ln6, r⟩ := rn_steps 0 (27, [some (.ref 540), some (.int a1), some (.int a2), some (.int a3), some (.int a4)], [.int (-1)], aa_H g) rfl r
    exact rn_ire rfl r
  · obtain ⟨n7, ln7, r⟩ := rn_steps 0 (10, [some (.ref 540), some (.int a1), some (.int a2), some (.int a3), some (.int a4)], [.int a3], aa_H g) rfl r
    obtain ⟨_, n8, v1, h1, -, ln8, rc, r⟩ := rn_call (m2 := 199) (as := [.int a3]) (rest := []) rfl rfl r
    obtain ⟨rfl, rfl⟩ := dn_199 rc
    have r : rn_s _ 210 (13, [some (.ref 540), some (.int a1), some (.int a2), some (.int a3), some (.int a4)], [.int (fn_199 a3)], aa_H g) v h := r
    refine rn_if (iw_s v h) rfl decide_eq_true_iff.symm r (fun c10 l11n l11 r => ?_) (fun c10 l11n l11 r => ?_)
    · obtain ⟨n12, ln12, r⟩ := rn_steps 0 (27, [some (.ref 540), some (.int a1), some (.int a2), some (.int a3), some (.int a4)], [.int (-1)], aa_H g) rfl r
      exact rn_ire rfl r
    · obtain ⟨n13, ln13, r⟩ := rn_steps 2 (20, [some (.ref 540), some (.int a1), some (.int a2), some (.int a3), some (.int a4)], [.int 3, .int 0, .int a4], aa_H g) rfl r
      obtain ⟨_, n14, v1, h1, -, ln14, rc, r⟩ := rn_call (m2 := 154) (as := [.int a4, .int 0, .int 3]) (rest := []) rfl rfl r
      obtain ⟨rfl, rfl⟩ := dn_154 rc
      have r : rn_s _ 210 (23, [some (.ref 540), some (.int a1), some (.int a2), some (.int a3), some (.int a4)], [.int (fn_154 a4 0 3)], aa_H g) v h := r
      refine rn_if (iw_s v h) rfl decide_eq_true_iff.symm r (fun c16 l17n l17 r => ?_) (fun c16 l17n l17 r => ?_)
      · obtain ⟨n18, ln18, r⟩ := rn_steps 0 (30, [some (.ref 540), some (.int a1), some (.int a2), some (.int a3), some (.int a4)], [.int a4], aa_H g) rfl r
        refine rn_if (iw_s v h) rfl decide_eq_true_iff.symm r (fun c19 l20n l20 r => ?_) (fun c19 l20n l20 r => ?_)
        · obtain ⟨n21, ln21, r⟩ := rn_steps 1 (38, [some (.ref 540), some (.int a1), some (.int a2), some (.int a3), some (.int a4)], [.int 3, .int a4], aa_H g) rfl r
          refine rn_ic (iw_s v h) rfl decide_eq_true_iff.symm r (fun c22 l23n l23 r => ?_) (fun c22 l23n l23 r => ?_)
          · obtain ⟨n24, ln24, r⟩ := rn_steps 2 (58, [some (.ref 540), some (.int a1), some (.int a2), some (.int a3), some (.int a4)], [.int a2, .int a1, .ref 540], aa_H g) rfl r
            obtain ⟨_, n25, v1, h1, -, ln25, rc, r⟩ := rn_call (m2 := 195) (as := [.ref 540, .int a1, .int a2]) (rest := []) rfl rfl r
            obtain ⟨rfl, rfl⟩ := dn_195 rc
            have r : rn_s _ 210 (61, [some (.ref 540), some (.int a1), some (.int a2), some (.int a3), some (.int a4)], [.int ((fn_195 g a1 a2).1)], aa_H ((fn_195 g a1 a2).2)) v h := r
            exact dn_210_61 (some (.int a1)) rn_ji r
          · obtain ⟨n27, ln27, r⟩ := rn_steps 1 (44, [some (.ref 540), some (.int a1), some (.int a2), some (.int a3), some (.int a4)], [.int 43200, .int a3], aa_H g) rfl r
            refine rn_ic (iw_s v h) rfl decide_eq_true_iff.symm r (fun c28 l29n l29 r => ?_) (fun c28 l29n l29 r => ?_)
            · obtain ⟨n30, ln30, r⟩ := rn_steps 2 (54, [some (.ref 540), some (.int a1), some (.int a2), some (.int a3), some (.int a4)], [.int (a2 - 1)], aa_H g) rfl r
              exact rn_ire rfl r
            · obtain ⟨n31, ln31, r⟩ := rn_steps 1 (54, [some (.ref 540), some (.int a1), some (.int a2), some (.int a3), some (.int a4)], [.int a2], aa_H g) rfl r
              exact rn_ire rfl r
        · obtain ⟨n32, ln32, r⟩ := rn_steps 0 (34, [some (.ref 540), some (.int a1), some (.int a2), some (.int a3), some (.int a4)], [.int a2], aa_H g) rfl r
          exact rn_ire rfl r
      · obtain ⟨n33, ln33, r⟩ := rn_steps 0 (27, [some (.ref 540), some (.int a1), some (.int a2), some (.int a3), some (.int a4)], [.int (-1)], aa_H g) rfl r
        exact rn_ire rfl r
-- 230: UnequalHoursModel middle
noncomputable def fn_230_35 (g : aa_G) (b3 : Int32) (b4 : Int32) (s0 : Int32) : Int32 × aa_G := if s0 ≠ 0 then if b4 ≠ 0 then if b3 ≠ 0 then (((g 540 17) + ((g 540 18) / 2)) - 86400, g) else (((g 540 17) + ((g 540 18) / 2)) - 43200, g) else ((g 540 17) + ((g 540 18) / 2), g) else (-1000000, g)
theorem dn_230_35 {v : Option Value} {h : zz_H} {n : Nat} {g : aa_G} {b3 : Int32} {b4 : Int32} {s0 : Int32}  (x1 x2 x5 : Option Value) (jx1 : rn_jk x1) (jx2 : rn_jk x2) (jx5 : rn_jk x5) (r : rn_s n 230 (35, [some (.ref 540), x1, x2, some (.int b3), some (.int b4), x5], [.int s0], aa_H g) v h) : iw_s v h (fn_230_35 g b3 b4 s0) := by
  unfold fn_230_35
  refine rn_if (iw_s v h) rfl decide_eq_true_iff.symm r (fun c22 l23n l23 r => ?_) (fun c22 l23n l23 r => ?_)
  · obtain ⟨n24, ln24, r⟩ := rn_steps 8 (57, [some (.ref 540), x1, x2, some (.int b3), some (.int b4), some (.int ((g 540 17) + ((g 540 18) / 2)))], [.int b4], aa_H g) rfl r
    refine rn_if (iw_s v h) rfl decide_eq_true_iff.symm r (fun c25 l26n l26 r => ?_) (fun c25 l26n l26 r => ?_)
    · obtain ⟨n27, ln27, r⟩ := rn_steps 1 (68, [some (.ref 540), x1, x2, some (.int b3), some (.int b4), some (.int ((g 540 17) + ((g 540 18) / 2)))], [.int b3, .int ((g 540 17) + ((g 540 18) / 2))], aa_H g) rfl r
      refine rn_if (iw_s v h) rfl decide_eq_true_iff.symm r (fun c28 l29n l29 r => ?_) (fun c28 l29n l29 r => ?_)
      · obtain ⟨n30, ln30, r⟩ := rn_steps 1 (79, [some (.ref 540), x1, x2, some (.int b3), some (.int b4), some (.int ((g 540 17) + ((g 540 18) / 2)))], [.int (((g 540 17) + ((g 540 18) / 2)) - 86400)], aa_H g) rfl r
        exact rn_ire rfl r
      · obtain ⟨n31, ln31, r⟩ := rn_steps 2 (79, [some (.ref 540), x1, x2, some (.int b3), some (.int b4), some (.int ((g 540 17) + ((g 540 18) / 2)))], [.int (((g 540 17) + ((g 540 18) / 2)) - 43200)], aa_H g) rfl r
        exact rn_ire rfl r
    · obtain ⟨n32, ln32, r⟩ := rn_steps 1 (79, [some (.ref 540), x1, x2, some (.int b3), some (.int b4), some (.int ((g 540 17) + ((g 540 18) / 2)))], [.int ((g 540 17) + ((g 540 18) / 2))], aa_H g) rfl r
      exact rn_ire rfl r
  · obtain ⟨n33, ln33, r⟩ := rn_steps 0 (41, [some (.ref 540), x1, x2, some (.int b3), some (.int b4), x5], [.int (-1000000)], aa_H g) rfl r
    exact rn_ire rfl r
noncomputable def fn_230 (g : aa_G) (a1 : Int32) (a2 : Int32) (a3 : Int32) (a4 : Int32) : Int32 × aa_G := if (fn_191 g a1 a2) = 0 then (-1000000, g) else if (fn_154 a3 0 1) = 0 then (-1000000, g) else if (fn_154 a4 0 1) = 0 then (-1000000, g) else fn_230_35 ((fn_194 g a1 a2 a3).2) a3 a4 ((fn_194 g a1 a2 a3).1)
theorem dn_230 {v : Option Value} {h : zz_H} {n : Nat} {g : aa_G} {a1 : Int32} {a2 : Int32} {a3 : Int32} {a4 : Int32}  (r : rn_s n 230 (0, zz_in [.ref 540, .int a1, .int a2, .int a3, .int a4] (zz_nl 230), [], aa_H g) v h) : iw_s v h (fn_230 g a1 a2 a3 a4) := by
  have r : rn_s n 230 (0, [some (.ref 540), some (.int a1), some (.int a2), some (.int a3), some (.int a4), none], [], aa_H g) v h := r
  unfold fn_230
  obtain ⟨n1, ln1, r⟩ := rn_steps 2 (3, [some (.ref 540), some (.int a1), some (.int a2), some (.int a3), some (.int a4), none], [.int a2, .int a1, .ref 540], aa_H g) rfl r
  obtain ⟨_, n2, v1, h1, -, ln2, rc, r⟩ := rn_call (m2 := 191) (as := [.ref 540, .int a1, .int a2]) (rest := []) rfl rfl r
  obtain ⟨rfl, rfl⟩ := dn_191 rc
  have r : rn_s _ 230 (6, [some (.ref 540), some (.int a1), some (.int a2), some (.int a3), some (.int a4), none], [.int (fn_191 g a1 a2)], aa_H g) v h := r
  refine rn_if (iw_s v h) rfl decide_eq_true_iff.symm r (fun c4 l5n l5 r => ?_) (fun c4 l5n l5 r => ?_)
  · obtain ⟨n6, ln6, r⟩ := rn_steps 0 (41, [some (.ref 540), some (.int a1), some (.int a2), some (.int a3), some (.int a4), none], [.int (-1000000)], aa_H g) rfl r
    exact rn_ire rfl r
  · obtain ⟨n7, ln7, r⟩ := rn_steps 2 (12, [some (.ref 540), some (.int a1), some (.int a2), some (.int a3), some (.int a4), none], [.int 1, .int 0, .int a3], aa_H g) rfl r
    obtain ⟨_, n8, v1, h1, -, ln8, rc, r⟩ := rn_call (m2 := 154) (as := [.int a3, .int 0, .int 1]) (rest := []) rfl rfl r
    obtain ⟨rfl, rfl⟩ := dn_154 rc
    have r : rn_s _ 230 (15, [some (.ref 540), some (.int a1), some (.int a2), some (.int a3), some (.int a4), none], [.int (fn_154 a3 0 1)], aa_H g) v h := r
    refine rn_if (iw_s v h) rfl decide_eq_true_iff.symm r (fun c10 l11n l11 r => ?_) (fun c10 l11n l11 r => ?_)
    · obtain ⟨n12, ln12, r⟩ := rn_steps 0 (41, [some (.ref 540), some (.int a1), some (.int a2), some (.int a3), some (.int a4), none], [.int (-1000000)], aa_H g) rfl r
      exact rn_ire rfl r
    · obtain ⟨n13, ln13, r⟩ := rn_steps 2 (22, [some (.ref 540), some (.int a1), some (.int a2), some (.int a3), some (.int a4), none], [.int 1, .int 0, .int a4], aa_H g) rfl r
      obtain ⟨_, n14, v1, h1, -, ln14, rc, r⟩ := rn_call (m2 := 154) (as := [.int a4, .int 0, .int 1]) (rest := []) rfl rfl r
      obtain ⟨rfl, rfl⟩ := dn_154 rc
      have r : rn_s _ 230 (25, [some (.ref 540), some (.int a1), some (.int a2), some (.int a3), some (.int a4), none], [.int (fn_154 a4 0 1)], aa_H g) v h := r
      refine rn_if (iw_s v h) rfl decide_eq_true_iff.symm r (fun c16 l17n l17 r => ?_) (fun c16 l17n l17 r => ?_)
      · obtain ⟨n18, ln18, r⟩ := rn_steps 0 (41, [some (.ref 540), some (.int a1), some (.int a2), some (.int a3), some (.int a4), none], [.int (-1000000)], aa_H g) rfl r
        exact rn_ire rfl r
      · obtain ⟨n19, ln19, r⟩ := rn_steps 3 (32, [some (.ref 540), some (.int a1), some (.int a2), some (.int a3), some (.int a4), none], [.int a3, .int a2, .int a1, .ref 540], aa_H g) rfl r
        obtain ⟨_, n20, v1, h1, -, ln20, rc, r⟩ := rn_call (m2 := 194) (as := [.ref 540, .int a1, .int a2, .int a3]) (rest := []) rfl rfl r
        obtain ⟨rfl, rfl⟩ := dn_194 rc
        have r : rn_s _ 230 (35, [some (.ref 540), some (.int a1), some (.int a2), some (.int a3), some (.int a4), none], [.int ((fn_194 g a1 a2 a3).1)], aa_H ((fn_194 g a1 a2 a3).2)) v h := r
        exact dn_230_35 (some (.int a1)) (some (.int a2)) none rn_ji rn_ji rn_jn r
-- 231: UnequalHoursModel apart
noncomputable def fn_231_53 (g : aa_G) (b6 : Int32) (s0 : Int32) : Int32 × aa_G := if b6 = (-2) then (-1000000, g) else if s0 ≠ (-2) then (s0 - b6, g) else (-1000000, g)
theorem dn_231_53 {v : Option Value} {h : zz_H} {n : Nat} {g : aa_G} {b6 : Int32} {s0 : Int32}  (x0 x1 x2 x3 x4 x5 x7 : Option Value) (jx0 : rn_jk x0) (jx1 : rn_jk x1) (jx2 : rn_jk x2) (jx3 : rn_jk x3) (jx4 : rn_jk x4) (jx5 : rn_jk x5) (jx7 : rn_jk x7) (r : rn_s n 231 (53, [x0, x1, x2, x3, x4, x5, some (.int b6), x7], [.int s0], aa_H g) v h) : iw_s v h (fn_231_53 g b6 s0) := by
  unfold fn_231_53
  obtain ⟨n25, ln25, r⟩ := rn_steps 2 (59, [x0, x1, x2, x3, x4, x5, some (.int b6), some (.int s0)], [.int (-2), .int b6], aa_H g) rfl r
  refine rn_ic (iw_s v h) rfl decide_eq_true_iff.symm r (fun c26 l27n l27 r => ?_) (fun c26 l27n l27 r => ?_)
  · obtain ⟨n28, ln28, r⟩ := rn_steps 1 (80, [x0, x1, x2, x3, x4, x5, some (.int b6), some (.int s0)], [.int (-1000000)], aa_H g) rfl r
    exact rn_ire rfl r
  · obtain ⟨n29, ln29, r⟩ := rn_steps 1 (66, [x0, x1, x2, x3, x4, x5, some (.int b6), some (.int s0)], [.int (-2), .int s0], aa_H g) rfl r
    refine rn_ic (iw_s v h) rfl decide_eq_true_iff.symm r (fun c30 l31n l31 r => ?_) (fun c30 l31n l31 r => ?_)
    · obtain ⟨n32, ln32, r⟩ := rn_steps 2 (80, [x0, x1, x2, x3, x4, x5, some (.int b6), some (.int s0)], [.int (s0 - b6)], aa_H g) rfl r
      exact rn_ire rfl r
    · obtain ⟨n33, ln33, r⟩ := rn_steps 1 (80, [x0, x1, x2, x3, x4, x5, some (.int b6), some (.int s0)], [.int (-1000000)], aa_H g) rfl r
      exact rn_ire rfl r
noncomputable def fn_231_42 (g : aa_G) (b1 : Int32) (b2 : Int32) (b3 : Int32) (b5 : Int32) (s0 : Int32) : Int32 × aa_G := fn_231_53 ((fn_205 g b1 b2 b3 b5).2) s0 ((fn_205 g b1 b2 b3 b5).1)
theorem dn_231_42 {v : Option Value} {h : zz_H} {n : Nat} {g : aa_G} {b1 : Int32} {b2 : Int32} {b3 : Int32} {b5 : Int32} {s0 : Int32}  (x4 x6 x7 : Option Value) (jx4 : rn_jk x4) (jx6 : rn_jk x6) (jx7 : rn_jk x7) (r : rn_s n 231 (42, [some (.ref 540), some (.int b1), some (.int b2), some (.int b3), x4, some (.int b5), x6, x7], [.int s0], aa_H g) v h) : iw_s v h (fn_231_42 g b1 b2 b3 b5 s0) := by
  unfold fn_231_42
  obtain ⟨n22, ln22, r⟩ := rn_steps 5 (50, [some (.ref 540), some (.int b1), some (.int b2), some (.int b3), x4, some (.int b5), some (.int s0), x7], [.int b5, .int b3, .int b2, .int b1, .ref 540], aa_H g) rfl r
  obtain ⟨_, n23, v1, h1, -, ln23, rc, r⟩ := rn_call (m2 := 205) (as := [.ref 540, .int b1, .int b2, .int b3, .int b5]) (rest := []) rfl rfl r
  obtain ⟨rfl, rfl⟩ := dn_205 rc
  have r : rn_s _ 231 (53, [some (.ref 540), some (.int b1), some (.int b2), some (.int b3), x4, some (.int b5), some (.int s0), x7], [.int ((fn_205 g b1 b2 b3 b5).1)], aa_H ((fn_205 g b1 b2 b3 b5).2)) v h := r
  exact dn_231_53 (some (.ref 540)) (some (.int b1)) (some (.int b2)) (some (.int b3)) x4 (some (.int b5)) x7 rn_jr rn_ji rn_ji rn_ji jx4 rn_ji jx7 r
noncomputable def fn_231 (g : aa_G) (a1 : Int32) (a2 : Int32) (a3 : Int32) (a4 : Int32) (a5 : Int32) : Int32 × aa_G := if (fn_191 g a1 a2) = 0 then (-1000000, g) else if (fn_204 g a3 a4) = 0 then (-1000000, g) else if (fn_204 g a3 a5) ≠ 0 then fn_231_42 ((fn_205 g a1 a2 a3 a4).2) a1 a2 a3 a5 ((fn_205 g a1 a2 a3 a4).1) else (-1000000, g)
theorem dn_231 {v : Option Value} {h : zz_H} {n : Nat} {g : aa_G} {a1 : Int32} {a2 : Int32} {a3 : Int32} {a4 : Int32} {a5 : Int32}  (r : rn_s n 231 (0, zz_in [.ref 540, .int a1, .int a2, .int a3, .int a4, .int a5] (zz_nl 231), [], aa_H g) v h) : iw_s v h (fn_231 g a1 a2 a3 a4 a5) := by
  have r : rn_s n 231 (0, [some (.ref 540), some (.int a1), some (.int a2), some (.int a3), some (.int a4), some (.int a5), none, none], [], aa_H g) v h := r
  unfold fn_231
  obtain ⟨n1, ln1, r⟩ := rn_steps 2 (3, [some (.ref 540), some (.int a1), some (.int a2), some (.int a3), some (.int a4), some (.int a5), none, none], [.int a2, .int a1, .ref 540], aa_H g) rfl r
  obtain ⟨_, n2, v1, h1, -, ln2, rc, r⟩ := rn_call (m2 := 191) (as := [.ref 540, .int a1, .int a2]) (rest := []) rfl rfl r
  obtain ⟨rfl, rfl⟩ := dn_191 rc
  have r : rn_s _ 231 (6, [some (.ref 540), some (.int a1), some (.int a2), some (.int a3), some (.int a4), some (.int a5), none, none], [.int (fn_191 g a1 a2)], aa_H g) v h := r
  refine rn_if (iw_s v h) rfl decide_eq_true_iff.symm r (fun c4 l5n l5 r => ?_) (fun c4 l5n l5 r => ?_)
  · obtain ⟨n6, ln6, r⟩ := rn_steps 0 (32, [some (.ref 540), some (.int a1), some (.int a2), some (.int a3), some (.int a4), some (.int a5), none, none], [.int (-1000000)], aa_H g) rfl r
    exact rn_ire rfl r
  · obtain ⟨n7, ln7, r⟩ := rn_steps 2 (13, [some (.ref 540), some (.int a1), some (.int a2), some (.int a3), some (.int a4), some (.int a5), none, none], [.int a4, .int a3, .ref 540], aa_H g) rfl r
    obtain ⟨_, n8, v1, h1, -, ln8, rc, r⟩ := rn_call (m2 := 204) (as := [.ref 540, .int a3, .int a4]) (rest := []) rfl rfl r
    obtain ⟨rfl, rfl⟩ := dn_204 rc
    have r : rn_s _ 231 (16, [some (.ref 540), some (.int a1), some (.int a2), some (.int a3), some (.int a4), some (.int a5), none, none], [.int (fn_204 g a3 a4)], aa_H g) v h := r
    refine rn_if (iw_s v h) rfl decide_eq_true_iff.symm r (fun c10 l11n l11 r => ?_) (fun c10 l11n l11 r => ?_)
    · obtain ⟨n12, ln12, r⟩ := rn_steps 0 (32, [some (.ref 540), some (.int a1), some (.int a2), some (.int a3), some (.int a4), some (.int a5), none, none], [.int (-1000000)], aa_H g) rfl r
      exact rn_ire rfl r
    · obtain ⟨n13, ln13, r⟩ := rn_steps 2 (23, [some (.ref 540), some (.int a1), some (.int a2), some (.int a3), some (.int a4), some (.int a5), none, none], [.int a5, .int a3, .ref 540], aa_H g) rfl r
      obtain ⟨_, n14, v1, h1, -, ln14, rc, r⟩ := rn_call (m2 := 204) (as := [.ref 540, .int a3, .int a5]) (rest := []) rfl rfl r
      obtain ⟨rfl, rfl⟩ := dn_204 rc
      have r : rn_s _ 231 (26, [some (.ref 540), some (.int a1), some (.int a2), some (.int a3), some (.int a4), some (.int a5), none, none], [.int (fn_204 g a3 a5)], aa_H g) v h := r
      refine rn_if (iw_s v h) rfl decide_eq_true_iff.symm r (fun c16 l17n l17 r => ?_) (fun c16 l17n l17 r => ?_)
      · obtain ⟨n18, ln18, r⟩ := rn_steps 4 (39, [some (.ref 540), some (.int a1), some (.int a2), some (.int a3), some (.int a4), some (.int a5), none, none], [.int a4, .int a3, .int a2, .int a1, .ref 540], aa_H g) rfl r
        obtain ⟨_, n19, v1, h1, -, ln19, rc, r⟩ := rn_call (m2 := 205) (as := [.ref 540, .int a1, .int a2, .int a3, .int a4]) (rest := []) rfl rfl r
        obtain ⟨rfl, rfl⟩ := dn_205 rc
        have r : rn_s _ 231 (42, [some (.ref 540), some (.int a1), some (.int a2), some (.int a3), some (.int a4), some (.int a5), none, none], [.int ((fn_205 g a1 a2 a3 a4).1)], aa_H ((fn_205 g a1 a2 a3 a4).2)) v h := r
        exact dn_231_42 (some (.int a4)) none none rn_ji rn_jn rn_jn r
      · obtain ⟨n21, ln21, r⟩ := rn_steps 0 (32, [some (.ref 540), some (.int a1), some (.int a2), some (.int a3), some (.int a4), some (.int a5), none, none], [.int (-1000000)], aa_H g) rfl r
        exact rn_ire rfl r
-- 222: UnequalHoursModel lightOf
noncomputable def fn_222_7 (g : aa_G) (s0 : Int32) : Int32 × aa_G := if s0 = 0 then (-1, g) else (g 540 18, g)
theorem dn_222_7 {v : Option Value} {h : zz_H} {n : Nat} {g : aa_G} {s0 : Int32}  (x1 x2 : Option Value) (jx1 : rn_jk x1) (jx2 : rn_jk x2) (r : rn_s n 222 (7, [some (.ref 540), x1, x2], [.int s0], aa_H g) v h) : iw_s v h (fn_222_7 g s0) := by
  unfold fn_222_7
  refine rn_if (iw_s v h) rfl decide_eq_true_iff.symm r (fun c4 l5n l5 r => ?_) (fun c4 l5n l5 r => ?_)
  · obtain ⟨n6, ln6, r⟩ := rn_steps 0 (18, [some (.ref 540), x1, x2], [.int (-1)], aa_H g) rfl r
    exact rn_ire rfl r
  · obtain ⟨n7, ln7, r⟩ := rn_steps 2 (18, [some (.ref 540), x1, x2], [.int (g 540 18)], aa_H g) rfl r
    exact rn_ire rfl r
noncomputable def fn_222 (g : aa_G) (a1 : Int32) (a2 : Int32) : Int32 × aa_G := fn_222_7 ((fn_194 g a1 a2 0).2) ((fn_194 g a1 a2 0).1)
theorem dn_222 {v : Option Value} {h : zz_H} {n : Nat} {g : aa_G} {a1 : Int32} {a2 : Int32}  (r : rn_s n 222 (0, zz_in [.ref 540, .int a1, .int a2] (zz_nl 222), [], aa_H g) v h) : iw_s v h (fn_222 g a1 a2) := by
  have r : rn_s n 222 (0, [some (.ref 540), some (.int a1), some (.int a2)], [], aa_H g) v h := r
  unfold fn_222
  obtain ⟨n1, ln1, r⟩ := rn_steps 3 (4, [some (.ref 540), some (.int a1), some (.int a2)], [.int 0, .int a2, .int a1, .ref 540], aa_H g) rfl r
  obtain ⟨_, n2, v1, h1, -, ln2, rc, r⟩ := rn_call (m2 := 194) (as := [.ref 540, .int a1, .int a2, .int 0]) (rest := []) rfl rfl r
  obtain ⟨rfl, rfl⟩ := dn_194 rc
  have r : rn_s _ 222 (7, [some (.ref 540), some (.int a1), some (.int a2)], [.int ((fn_194 g a1 a2 0).1)], aa_H ((fn_194 g a1 a2 0).2)) v h := r
  exact dn_222_7 (some (.int a1)) (some (.int a2)) rn_ji rn_ji r
-- 221: UnequalHoursModel jar
noncomputable def fn_221_117 (g : aa_G) (b4 : Int32) (b5 : Int32) (s0 : Int32) : Int32 × aa_G := if b5 ≠ 0 then (s0 - (((b4 - (g 540 17)) * 12) / (g 540 18)), g) else (s0, g)
theorem dn_221_117 {v : Option Value} {h : zz_H} {n : Nat} {g : aa_G} {b4 : Int32} {b5 : Int32} {s0 : Int32}  (x1 x2 x3 x6 x7 : Option Value) (jx1 : rn_jk x1) (jx2 : rn_jk x2) (jx3 : rn_jk x3) (jx6 : rn_jk x6) (jx7 : rn_jk x7) (r : rn_s n 221 (117, [some (.ref 540), x1, x2, x3, some (.int b4), some (.int b5), x6, x7], [.int s0], aa_H g) v h) : iw_s v h (fn_221_117 g b4 b5 s0) := by
  unfold fn_221_117
  obtain ⟨n54, ln54, r⟩ := rn_isx (i := 7) rfl rfl jx6 rfl ⟨Nat.le_of_ble_eq_true rfl, Nat.le_of_ble_eq_true rfl⟩ r
  have r : rn_s _ 221 (119, [some (.ref 540), x1, x2, x3, some (.int b4), some (.int b5), x6, some (.int s0)], [], aa_H g) v h := r
  obtain ⟨n55, ln55, r⟩ := rn_steps 0 (121, [some (.ref 540), x1, x2, x3, some (.int b4), some (.int b5), x6, some (.int s0)], [.int b5], aa_H g) rfl r
  refine rn_if (iw_s v h) rfl decide_eq_true_iff.symm r (fun c56 l57n l57 r => ?_) (fun c56 l57n l57 r => ?_)
  · obtain ⟨n58, ln58, r⟩ := rn_steps 8 (145, [some (.ref 540), x1, x2, x3, some (.int b4), some (.int b5), x6, some (.int s0)], [.int (g 540 18), .int ((b4 - (g 540 17)) * 12), .int s0], aa_H g) rfl r
    obtain ⟨hd60, n59, ln59, r⟩ := rn_div rfl r
    have r : rn_s _ 221 (146, [some (.ref 540), x1, x2, x3, some (.int b4), some (.int b5), x6, some (.int s0)], [.int (((b4 - (g 540 17)) * 12) / (g 540 18)), .int s0], aa_H g) v h := r
    obtain ⟨n61, ln61, r⟩ := rn_steps 0 (147, [some (.ref 540), x1, x2, x3, some (.int b4), some (.int b5), x6, some (.int s0)], [.int (s0 - (((b4 - (g 540 17)) * 12) / (g 540 18)))], aa_H g) rfl r
    exact rn_ire rfl r
  · obtain ⟨n62, ln62, r⟩ := rn_steps 1 (147, [some (.ref 540), x1, x2, x3, some (.int b4), some (.int b5), x6, some (.int s0)], [.int s0], aa_H g) rfl r
    exact rn_ire rfl r
noncomputable def fn_221_59 (g : aa_G) (b4 : Int32) (b5 : Int32) (b6 : Int32) (s0 : Int32) : Int32 × aa_G := if s0 = 0 then (-100, g) else if b4 < (g 540 17) then (-100, g) else if b4 < ((g 540 17) + (g 540 18)) then if (((b4 - (g 540 17)) * 12) / b6) ≤ 12 then fn_221_117 g b4 b5 (((b4 - (g 540 17)) * 12) / b6) else fn_221_117 g b4 b5 12 else (-100, g)
theorem dn_221_59 {v : Option Value} {h : zz_H} {n : Nat} {g : aa_G} {b4 : Int32} {b5 : Int32} {b6 : Int32} {s0 : Int32}  (x1 x2 x3 x7 : Option Value) (jx1 : rn_jk x1) (jx2 : rn_jk x2) (jx3 : rn_jk x3) (jx7 : rn_jk x7) (r : rn_s n 221 (59, [some (.ref 540), x1, x2, x3, some (.int b4), some (.int b5), some (.int b6), x7], [.int s0], aa_H g) v h) : iw_s v h (fn_221_59 g b4 b5 b6 s0) := by
  unfold fn_221_59
  refine rn_if (iw_s v h) rfl decide_eq_true_iff.symm r (fun c35 l36n l36 r => ?_) (fun c35 l36n l36 r => ?_)
  · obtain ⟨n37, ln37, r⟩ := rn_steps 0 (87, [some (.ref 540), x1, x2, x3, some (.int b4), some (.int b5), some (.int b6), x7], [.int (-100)], aa_H g) rfl r
    exact rn_ire rfl r
  · obtain ⟨n38, ln38, r⟩ := rn_steps 2 (68, [some (.ref 540), x1, x2, x3, some (.int b4), some (.int b5), some (.int b6), x7], [.int (g 540 17), .int b4], aa_H g) rfl r
    refine rn_ic (iw_s v h) rfl decide_eq_true_iff.symm r (fun c39 l40n l40 r => ?_) (fun c39 l40n l40 r => ?_)
    · obtain ⟨n41, ln41, r⟩ := rn_steps 0 (87, [some (.ref 540), x1, x2, x3, some (.int b4), some (.int b5), some (.int b6), x7], [.int (-100)], aa_H g) rfl r
      exact rn_ire rfl r
    · obtain ⟨n42, ln42, r⟩ := rn_steps 5 (82, [some (.ref 540), x1, x2, x3, some (.int b4), some (.int b5), some (.int b6), x7], [.int ((g 540 17) + (g 540 18)), .int b4], aa_H g) rfl r
      refine rn_ic (iw_s v h) rfl decide_eq_true_iff.symm r (fun c43 l44n l44 r => ?_) (fun c43 l44n l44 r => ?_)
      · obtain ⟨n45, ln45, r⟩ := rn_steps 6 (100, [some (.ref 540), x1, x2, x3, some (.int b4), some (.int b5), some (.int b6), x7], [.int b6, .int ((b4 - (g 540 17)) * 12)], aa_H g) rfl r
        obtain ⟨hd47, n46, ln46, r⟩ := rn_div rfl r
        have r : rn_s _ 221 (101, [some (.ref 540), x1, x2, x3, some (.int b4), some (.int b5), some (.int b6), x7], [.int (((b4 - (g 540 17)) * 12) / b6)], aa_H g) v h := r
        obtain ⟨n48, ln48, r⟩ := rn_steps 2 (107, [some (.ref 540), x1, x2, x3, some (.int b4), some (.int b5), some (.int b6), some (.int (((b4 - (g 540 17)) * 12) / b6))], [.int 12, .int (((b4 - (g 540 17)) * 12) / b6)], aa_H g) rfl r
        refine rn_ic (iw_s v h) rfl decide_eq_true_iff.symm r (fun c49 l50n l50 r => ?_) (fun c49 l50n l50 r => ?_)
        · obtain ⟨n51, ln51, r⟩ := rn_steps 0 (117, [some (.ref 540), x1, x2, x3, some (.int b4), some (.int b5), some (.int b6), some (.int (((b4 - (g 540 17)) * 12) / b6))], [.int (((b4 - (g 540 17)) * 12) / b6)], aa_H g) rfl r
          exact dn_221_117 x1 x2 x3 (some (.int b6)) (some (.int (((b4 - (g 540 17)) * 12) / b6))) jx1 jx2 jx3 rn_ji rn_ji r
        · obtain ⟨n52, ln52, r⟩ := rn_steps 1 (117, [some (.ref 540), x1, x2, x3, some (.int b4), some (.int b5), some (.int b6), some (.int (((b4 - (g 540 17)) * 12) / b6))], [.int 12], aa_H g) rfl r
          exact dn_221_117 x1 x2 x3 (some (.int b6)) (some (.int (((b4 - (g 540 17)) * 12) / b6))) jx1 jx2 jx3 rn_ji rn_ji r
      · obtain ⟨n53, ln53, r⟩ := rn_steps 0 (87, [some (.ref 540), x1, x2, x3, some (.int b4), some (.int b5), some (.int b6), x7], [.int (-100)], aa_H g) rfl r
        exact rn_ire rfl r
noncomputable def fn_221_44 (g : aa_G) (b1 : Int32) (b3 : Int32) (b4 : Int32) (b5 : Int32) (s0 : Int32) : Int32 × aa_G := if s0 = (-1) then (-100, g) else fn_221_59 ((fn_194 g b1 b3 0).2) b4 b5 s0 ((fn_194 g b1 b3 0).1)
theorem dn_221_44 {v : Option Value} {h : zz_H} {n : Nat} {g : aa_G} {b1 : Int32} {b3 : Int32} {b4 : Int32} {b5 : Int32} {s0 : Int32}  (x2 x6 x7 : Option Value) (jx2 : rn_jk x2) (jx6 : rn_jk x6) (jx7 : rn_jk x7) (r : rn_s n 221 (44, [some (.ref 540), some (.int b1), x2, some (.int b3), some (.int b4), some (.int b5), x6, x7], [.int s0], aa_H g) v h) : iw_s v h (fn_221_44 g b1 b3 b4 b5 s0) := by
  unfold fn_221_44
  obtain ⟨n28, ln28, r⟩ := rn_steps 2 (49, [some (.ref 540), some (.int b1), x2, some (.int b3), some (.int b4), some (.int b5), some (.int s0), x7], [.int (-1), .int s0], aa_H g) rfl r
  refine rn_ic (iw_s v h) rfl decide_eq_true_iff.symm r (fun c29 l30n l30 r => ?_) (fun c29 l30n l30 r => ?_)
  · obtain ⟨n31, ln31, r⟩ := rn_steps 0 (87, [some (.ref 540), some (.int b1), x2, some (.int b3), some (.int b4), some (.int b5), some (.int s0), x7], [.int (-100)], aa_H g) rfl r
    exact rn_ire rfl r
  · obtain ⟨n32, ln32, r⟩ := rn_steps 3 (56, [some (.ref 540), some (.int b1), x2, some (.int b3), some (.int b4), some (.int b5), some (.int s0), x7], [.int 0, .int b3, .int b1, .ref 540], aa_H g) rfl r
    obtain ⟨_, n33, v1, h1, -, ln33, rc, r⟩ := rn_call (m2 := 194) (as := [.ref 540, .int b1, .int b3, .int 0]) (rest := []) rfl rfl r
    obtain ⟨rfl, rfl⟩ := dn_194 rc
    have r : rn_s _ 221 (59, [some (.ref 540), some (.int b1), x2, some (.int b3), some (.int b4), some (.int b5), some (.int s0), x7], [.int ((fn_194 g b1 b3 0).1)], aa_H ((fn_194 g b1 b3 0).2)) v h := r
    exact dn_221_59 (some (.int b1)) x2 (some (.int b3)) x7 rn_ji jx2 rn_ji jx7 r
noncomputable def fn_221 (g : aa_G) (a1 : Int32) (a2 : Int32) (a3 : Int32) (a4 : Int32) (a5 : Int32) : Int32 × aa_G := if (fn_191 g a1 a2) = 0 then (-1000, g) else if (fn_193 a3) = 0 then (-1000, g) else if (fn_199 a4) = 0 then (-1000, g) else if (fn_154 a5 0 1) ≠ 0 then fn_221_44 ((fn_222 g a1 a2).2) a1 a3 a4 a5 ((fn_222 g a1 a2).1) else (-1000, g)
theorem dn_221 {v : Option Value} {h : zz_H} {n : Nat} {g : aa_G} {a1 : Int32} {a2 : Int32} {a3 : Int32} {a4 : Int32} {a5 : Int32}  (r : rn_s n 221 (0, zz_in [.ref 540, .int a1, .int a2, .int a3, .int a4, .int a5] (zz_nl 221), [], aa_H g) v h) : iw_s v h (fn_221 g a1 a2 a3 a4 a5) := by
  have r : rn_s n 221 (0, [some (.ref 540), some (.int a1), some (.int a2), some (.int a3), some (.int a4), some (.int a5), none, none], [], aa_H g) v h := r
  unfold fn_221
  obtain ⟨n1, ln1, r⟩ := rn_steps 2 (3, [some (.ref 540), some (.int a1), some (.int a2), some (.int a3), some (.int a4), some (.int a5), none, none], [.int a2, .int a1, .ref 540], aa_H g) rfl r
  obtain ⟨_, n2, v1, h1, -, ln2, rc, r⟩ := rn_call (m2 := 191) (as := [.ref 540, .int a1, .int a2]) (rest := []) rfl rfl r
  obtain ⟨rfl, rfl⟩ := dn_191 rc
  have r : rn_s _ 221 (6, [some (.ref 540), some (.int a1), some (.int a2), some (.int a3), some (.int a4), some (.int a5), none, none], [.int (fn_191 g a1 a2)], aa_H g) v h := r
  refine rn_if (iw_s v h) rfl decide_eq_true_iff.symm r (fun c4 l5n l5 r => ?_) (fun c4 l5n l5 r => ?_)
  · obtain ⟨n6, ln6, r⟩ := rn_steps 0 (37, [some (.ref 540), some (.int a1), some (.int a2), some (.int a3), some (.int a4), some (.int a5), none, none], [.int (-1000)], aa_H g) rfl r
    exact rn_ire rfl r
  · obtain ⟨n7, ln7, r⟩ := rn_steps 0 (10, [some (.ref 540), some (.int a1), some (.int a2), some (.int a3), some (.int a4), some (.int a5), none, none], [.int a3], aa_H g) rfl r
    obtain ⟨_, n8, v1, h1, -, ln8, rc, r⟩ := rn_call (m2 := 193) (as := [.int a3]) (rest := []) rfl rfl r
    obtain ⟨rfl, rfl⟩ := dn_193 rc
    have r : rn_s _ 221 (13, [some (.ref 540), some (.int a1), some (.int a2), some (.int a3), some (.int a4), some (.int a5), none, none], [.int (fn_193 a3)], aa_H g) v h := r
    refine rn_if (iw_s v h) rfl decide_eq_true_iff.symm r (fun c10 l11n l11 r => ?_) (fun c10 l11n l11 r => ?_)
    · obtain ⟨n12, ln12, r⟩ := rn_steps 0 (37, [some (.ref 540), some (.int a1), some (.int a2), some (.int a3), some (.int a4), some (.int a5), none, none], [.int (-1000)], aa_H g) rfl r
      exact rn_ire rfl r
    · obtain ⟨n13, ln13, r⟩ := rn_steps 0 (18, [some (.ref 540), some (.int a1), some (.int a2), some (.int a3), some (.int a4), some (.int a5), none, none], [.int a4], aa_H g) rfl r
      obtain ⟨_, n14, v1, h1, -, ln14, rc, r⟩ := rn_call (m2 := 199) (as := [.int a4]) (rest := []) rfl rfl r
      obtain ⟨rfl, rfl⟩ := dn_199 rc
      have r : rn_s _ 221 (21, [some (.ref 540), some (.int a1), some (.int a2), some (.int a3), some (.int a4), some (.int a5), none, none], [.int (fn_199 a4)], aa_H g) v h := r
      refine rn_if (iw_s v h) rfl decide_eq_true_iff.symm r (fun c16 l17n l17 r => ?_) (fun c16 l17n l17 r => ?_)
      · obtain ⟨n18, ln18, r⟩ := rn_steps 0 (37, [some (.ref 540), some (.int a1), some (.int a2), some (.int a3), some (.int a4), some (.int a5), none, none], [.int (-1000)], aa_H g) rfl r
        exact rn_ire rfl r
      · obtain ⟨n19, ln19, r⟩ := rn_steps 2 (28, [some (.ref 540), some (.int a1), some (.int a2), some (.int a3), some (.int a4), some (.int a5), none, none], [.int 1, .int 0, .int a5], aa_H g) rfl r
        obtain ⟨_, n20, v1, h1, -, ln20, rc, r⟩ := rn_call (m2 := 154) (as := [.int a5, .int 0, .int 1]) (rest := []) rfl rfl r
        obtain ⟨rfl, rfl⟩ := dn_154 rc
        have r : rn_s _ 221 (31, [some (.ref 540), some (.int a1), some (.int a2), some (.int a3), some (.int a4), some (.int a5), none, none], [.int (fn_154 a5 0 1)], aa_H g) v h := r
        refine rn_if (iw_s v h) rfl decide_eq_true_iff.symm r (fun c22 l23n l23 r => ?_) (fun c22 l23n l23 r => ?_)
        · obtain ⟨n24, ln24, r⟩ := rn_steps 2 (41, [some (.ref 540), some (.int a1), some (.int a2), some (.int a3), some (.int a4), some (.int a5), none, none], [.int a2, .int a1, .ref 540], aa_H g) rfl r
          obtain ⟨_, n25, v1, h1, -, ln25, rc, r⟩ := rn_call (m2 := 222) (as := [.ref 540, .int a1, .int a2]) (rest := []) rfl rfl r
          obtain ⟨rfl, rfl⟩ := dn_222 rc
          have r : rn_s _ 221 (44, [some (.ref 540), some (.int a1), some (.int a2), some (.int a3), some (.int a4), some (.int a5), none, none], [.int ((fn_222 g a1 a2).1)], aa_H ((fn_222 g a1 a2).2)) v h := r
          exact dn_221_44 (some (.int a2)) none none rn_ji rn_jn rn_jn r
        · obtain ⟨n27, ln27, r⟩ := rn_steps 0 (37, [some (.ref 540), some (.int a1), some (.int a2), some (.int a3), some (.int a4), some (.int a5), none, none], [.int (-1000)], aa_H g) rfl r
          exact rn_ire rfl r
-- 224: UnequalHoursModel areDays
noncomputable def fn_224 (a0 : Int32) (a1 : Int32) (a2 : Int32) : Int32 := if (fn_193 a0) = 0 then 0 else if (fn_193 a1) = 0 then 0 else if (fn_154 (a1 - a0) 0 a2) = 0 then 0 else 1
theorem dn_224 {v : Option Value} {h : zz_H} {n : Nat} {g : aa_G} {a0 : Int32} {a1 : Int32} {a2 : Int32}  (r : rn_s n 224 (0, zz_in [.int a0, .int a1, .int a2] (zz_nl 224), [], aa_H g) v h) : ir_s g v h (fn_224 a0 a1 a2) := by
  have r : rn_s n 224 (0, [some (.int a0), some (.int a1), some (.int a2)], [], aa_H g) v h := r
  unfold fn_224
  obtain ⟨n1, ln1, r⟩ := rn_steps 0 (1, [some (.int a0), some (.int a1), some (.int a2)], [.int a0], aa_H g) rfl r
  obtain ⟨_, n2, v1, h1, -, ln2, rc, r⟩ := rn_call (m2 := 193) (as := [.int a0]) (rest := []) rfl rfl r
  obtain ⟨rfl, rfl⟩ := dn_193 rc
  have r : rn_s _ 224 (4, [some (.int a0), some (.int a1), some (.int a2)], [.int (fn_193 a0)], aa_H g) v h := r
  refine rn_if (ir_s g v h) rfl decide_eq_true_iff.symm r (fun c4 l5n l5 r => ?_) (fun c4 l5n l5 r => ?_)
  · obtain ⟨n6, ln6, r⟩ := rn_steps 0 (30, [some (.int a0), some (.int a1), some (.int a2)], [.int 0], aa_H g) rfl r
    exact rn_ire rfl r
  · obtain ⟨n7, ln7, r⟩ := rn_steps 0 (8, [some (.int a0), some (.int a1), some (.int a2)], [.int a1], aa_H g) rfl r
    obtain ⟨_, n8, v1, h1, -, ln8, rc, r⟩ := rn_call (m2 := 193) (as := [.int a1]) (rest := []) rfl rfl r
    obtain ⟨rfl, rfl⟩ := dn_193 rc
    have r : rn_s _ 224 (11, [some (.int a0), some (.int a1), some (.int a2)], [.int (fn_193 a1)], aa_H g) v h := r
    refine rn_if (ir_s g v h) rfl decide_eq_true_iff.symm r (fun c10 l11n l11 r => ?_) (fun c10 l11n l11 r => ?_)
    · obtain ⟨n12, ln12, r⟩ := rn_steps 0 (30, [some (.int a0), some (.int a1), some (.int a2)], [.int 0], aa_H g) rfl r
      exact rn_ire rfl r
    · obtain ⟨n13, ln13, r⟩ := rn_steps 4 (19, [some (.int a0), some (.int a1), some (.int a2)], [.int a2, .int 0, .int (a1 - a0)], aa_H g) rfl r
      obtain ⟨_, n14, v1, h1, -, ln14, rc, r⟩ := rn_call (m2 := 154) (as := [.int (a1 - a0), .int 0, .int a2]) (rest := []) rfl rfl r
      obtain ⟨rfl, rfl⟩ := dn_154 rc
      have r : rn_s _ 224 (22, [some (.int a0), some (.int a1), some (.int a2)], [.int (fn_154 (a1 - a0) 0 a2)], aa_H g) v h := r
      refine rn_if (ir_s g v h) rfl decide_eq_true_iff.symm r (fun c16 l17n l17 r => ?_) (fun c16 l17n l17 r => ?_)
      · obtain ⟨n18, ln18, r⟩ := rn_steps 0 (30, [some (.int a0), some (.int a1), some (.int a2)], [.int 0], aa_H g) rfl r
        exact rn_ire rfl r
      · obtain ⟨n19, ln19, r⟩ := rn_steps 1 (30, [some (.int a0), some (.int a1), some (.int a2)], [.int 1], aa_H g) rfl r
        exact rn_ire rfl r
-- 223: UnequalHoursModel work
noncomputable def fn_223_88 (g : aa_G) (b1 : Int32) (b3 : Int32) (b4 : Int32) (b5 : Int32) (b7 : Int32) (s0 : Int32) (s1 : Int32) : (aa_G × Int32 × Int32) ⊕ (Int32 × aa_G) := .inl (g, s1 + s0, b7 + 1)
theorem dn_223_88 {v : Option Value} {h : zz_H} {n : Nat} {g : aa_G} {b1 : Int32} {b3 : Int32} {b4 : Int32} {b5 : Int32} {b7 : Int32} {s0 : Int32} {s1 : Int32} (P : (aa_G × Int32 × Int32) ⊕ (Int32 × aa_G) → Prop) (hO0 : ∀ n2, n2 < n → ∀ (yg : aa_G) (yb6 : Int32) (yb7 : Int32) (yx2 : Option Value) (_ : rn_jk yx2), rn_s n2 223 (52, [some (.ref 540), some (.int b1), yx2, some (.int b3), some (.int b4), some (.int b5), some (.int yb6), some (.int yb7)], [], aa_H yg) v h → P (.inl (yg, yb6, yb7))) (hR : ∀ E, iw_s v h E → P (.inr E))  (x2 x6 : Option Value) (jx2 : rn_jk x2) (jx6 : rn_jk x6) (r : rn_s n 223 (88, [some (.ref 540), some (.int b1), x2, some (.int b3), some (.int b4), some (.int b5), x6, some (.int b7)], [.int s0, .int s1], aa_H g) v h) : P (fn_223_88 g b1 b3 b4 b5 b7 s0 s1) := by
  unfold fn_223_88
  obtain ⟨n43, ln43, r⟩ := rn_steps 3 (52, [some (.ref 540), some (.int b1), x2, some (.int b3), some (.int b4), some (.int b5), some (.int (s1 + s0)), some (.int (b7 + 1))], [], aa_H g) rfl r
  exact hO0 _ (by omega) g (s1 + s0) (b7 + 1) x2 jx2 r
noncomputable def fn_223_68 (g : aa_G) (b1 : Int32) (b3 : Int32) (b4 : Int32) (b5 : Int32) (b7 : Int32) (s0 : Int32) (s1 : Int32) : (aa_G × Int32 × Int32) ⊕ (Int32 × aa_G) := if s0 = 0 then fn_223_88 g b1 b3 b4 b5 b7 0 s1 else fn_223_88 g b1 b3 b4 b5 b7 ((fn_225 g b5) - (fn_225 g b4)) s1
theorem dn_223_68 {v : Option Value} {h : zz_H} {n : Nat} {g : aa_G} {b1 : Int32} {b3 : Int32} {b4 : Int32} {b5 : Int32} {b7 : Int32} {s0 : Int32} {s1 : Int32} (P : (aa_G × Int32 × Int32) ⊕ (Int32 × aa_G) → Prop) (hO0 : ∀ n2, n2 < n → ∀ (yg : aa_G) (yb6 : Int32) (yb7 : Int32) (yx2 : Option Value) (_ : rn_jk yx2), rn_s n2 223 (52, [some (.ref 540), some (.int b1), yx2, some (.int b3), some (.int b4), some (.int b5), some (.int yb6), some (.int yb7)], [], aa_H yg) v h → P (.inl (yg, yb6, yb7))) (hR : ∀ E, iw_s v h E → P (.inr E))  (x2 x6 : Option Value) (jx2 : rn_jk x2) (jx6 : rn_jk x6) (r : rn_s n 223 (68, [some (.ref 540), some (.int b1), x2, some (.int b3), some (.int b4), some (.int b5), x6, some (.int b7)], [.int s0, .int s1], aa_H g) v h) : P (fn_223_68 g b1 b3 b4 b5 b7 s0 s1) := by
  unfold fn_223_68
  refine rn_if (P) rfl decide_eq_true_iff.symm r (fun c33 l34n l34 r => ?_) (fun c33 l34n l34 r => ?_)
  · obtain ⟨n35, ln35, r⟩ := rn_steps 0 (88, [some (.ref 540), some (.int b1), x2, some (.int b3), some (.int b4), some (.int b5), x6, some (.int b7)], [.int 0, .int s1], aa_H g) rfl r
    exact dn_223_88 (P) (fun n2 l2 => hO0 n2 (by omega)) (fun z hz => hR _ hz) x2 x6 jx2 jx6 r
  · obtain ⟨n36, ln36, r⟩ := rn_steps 1 (74, [some (.ref 540), some (.int b1), x2, some (.int b3), some (.int b4), some (.int b5), x6, some (.int b7)], [.int b5, .ref 540, .int s1], aa_H g) rfl r
    obtain ⟨_, n37, v1, h1, -, ln37, rc, r⟩ := rn_call (m2 := 225) (as := [.ref 540, .int b5]) (rest := [.int s1]) rfl rfl r
    obtain ⟨rfl, rfl⟩ := dn_225 rc
    have r : rn_s _ 223 (77, [some (.ref 540), some (.int b1), x2, some (.int b3), some (.int b4), some (.int b5), x6, some (.int b7)], [.int (fn_225 g b5), .int s1], aa_H g) v h := r
    obtain ⟨n39, ln39, r⟩ := rn_steps 1 (80, [some (.ref 540), some (.int b1), x2, some (.int b3), some (.int b4), some (.int b5), x6, some (.int b7)], [.int b4, .ref 540, .int (fn_225 g b5), .int s1], aa_H g) rfl r
    obtain ⟨_, n40, v1, h1, -, ln40, rc, r⟩ := rn_call (m2 := 225) (as := [.ref 540, .int b4]) (rest := [.int (fn_225 g b5), .int s1]) rfl rfl r
    obtain ⟨rfl, rfl⟩ := dn_225 rc
    have r : rn_s _ 223 (83, [some (.ref 540), some (.int b1), x2, some (.int b3), some (.int b4), some (.int b5), x6, some (.int b7)], [.int (fn_225 g b4), .int (fn_225 g b5), .int s1], aa_H g) v h := r
    obtain ⟨n42, ln42, r⟩ := rn_steps 1 (88, [some (.ref 540), some (.int b1), x2, some (.int b3), some (.int b4), some (.int b5), x6, some (.int b7)], [.int ((fn_225 g b5) - (fn_225 g b4)), .int s1], aa_H g) rfl r
    exact dn_223_88 (P) (fun n2 l2 => hO0 n2 (by omega)) (fun z hz => hR _ hz) x2 x6 jx2 jx6 r
noncomputable def fn_223_52b (g : aa_G) (b1 : Int32) (b3 : Int32) (b4 : Int32) (b5 : Int32) (b6 : Int32) (b7 : Int32) : (aa_G × Int32 × Int32) ⊕ (Int32 × aa_G) := if b3 < b7 then .inr (b6, g) else fn_223_68 ((fn_194 g b1 b7 0).2) b1 b3 b4 b5 b7 ((fn_194 g b1 b7 0).1) b6
noncomputable def fn_223_52 (g : aa_G) (b1 : Int32) (b3 : Int32) (b4 : Int32) (b5 : Int32) (b6 : Int32) (b7 : Int32) : Int32 × aa_G := lp_f (0, g) (fun z : (aa_G × Int32 × Int32) => fn_223_52b z.1 b1 b3 b4 b5 z.2.1 z.2.2) (g, b6, b7)
theorem dn_223_52l {v : Option Value} {h : zz_H} {N : Nat} {b1 : Int32} {b3 : Int32} {b4 : Int32} {b5 : Int32} {d : Int32 × aa_G} : ∀ (n : Nat), n ≤ N → ∀ (g : aa_G) (b6 : Int32) (b7 : Int32) (x2 : Option Value) (jx2 : rn_jk x2), rn_s n 223 (52, [some (.ref 540), some (.int b1), x2, some (.int b3), some (.int b4), some (.int b5), some (.int b6), some (.int b7)], [], aa_H g) v h → (iw_s v h) (lp_f d (fun z : (aa_G × Int32 × Int32) => fn_223_52b z.1 b1 b3 b4 b5 z.2.1 z.2.2) (g, b6, b7)) := by
  generalize hf : (fun z : (aa_G × Int32 × Int32) => fn_223_52b z.1 b1 b3 b4 b5 z.2.1 z.2.2) = f
  intro n
  induction n using Nat.strongRecOn with
  | _ n ih =>
    intro hN g b6 b7 x2 jx2 r
    refine lp_go ?_
    rw [← congrFun hf (g, b6, b7)]
    show lp_q (iw_s v h) d f (fn_223_52b g b1 b3 b4 b5 b6 b7)
    unfold fn_223_52b
    obtain ⟨n26, ln26, r⟩ := rn_steps 1 (55, [some (.ref 540), some (.int b1), x2, some (.int b3), some (.int b4), some (.int b5), some (.int b6), some (.int b7)], [.int b3, .int b7], aa_H g) rfl r
    refine rn_ic (lp_q (iw_s v h) d f) rfl decide_eq_true_iff.symm r (fun c27 l28n l28 r => ?_) (fun c27 l28n l28 r => ?_)
    · obtain ⟨n29, ln29, r⟩ := rn_steps 0 (99, [some (.ref 540), some (.int b1), x2, some (.int b3), some (.int b4), some (.int b5), some (.int b6), some (.int b7)], [.int b6], aa_H g) rfl r
      exact rn_ire rfl r
    · obtain ⟨n30, ln30, r⟩ := rn_steps 4 (65, [some (.ref 540), some (.int b1), x2, some (.int b3), some (.int b4), some (.int b5), some (.int b6), some (.int b7)], [.int 0, .int b7, .int b1, .ref 540, .int b6], aa_H g) rfl r
      obtain ⟨_, n31, v1, h1, -, ln31, rc, r⟩ := rn_call (m2 := 194) (as := [.ref 540, .int b1, .int b7, .int 0]) (rest := [.int b6]) rfl rfl r
      obtain ⟨rfl, rfl⟩ := dn_194 rc
      have r : rn_s _ 223 (68, [some (.ref 540), some (.int b1), x2, some (.int b3), some (.int b4), some (.int b5), some (.int b6), some (.int b7)], [.int ((fn_194 g b1 b7 0).1), .int b6], aa_H ((fn_194 g b1 b7 0).2)) v h := r
      exact dn_223_68 (lp_q (iw_s v h) d f) (fun n2 l2 => ih n2 (by omega) (by omega)) (fun z hz => hz) x2 (some (.int b6)) jx2 rn_ji r
theorem dn_223_52 {v : Option Value} {h : zz_H} {n : Nat} {g : aa_G} {b1 : Int32} {b3 : Int32} {b4 : Int32} {b5 : Int32} {b6 : Int32} {b7 : Int32}  (x2 : Option Value) (jx2 : rn_jk x2) (r : rn_s n 223 (52, [some (.ref 540), some (.int b1), x2, some (.int b3), some (.int b4), some (.int b5), some (.int b6), some (.int b7)], [], aa_H g) v h) : (iw_s v h) (fn_223_52 g b1 b3 b4 b5 b6 b7) := dn_223_52l  n (Nat.le_refl n) g b6 b7 x2 jx2 r
noncomputable def fn_223 (g : aa_G) (a1 : Int32) (a2 : Int32) (a3 : Int32) (a4 : Int32) (a5 : Int32) : Int32 × aa_G := if (fn_192 g a1) = 0 then (-1, g) else if (fn_224 a2 a3 359) = 0 then (-1, g) else if (fn_154 a4 0 11) = 0 then (-1, g) else if (fn_154 a5 (a4 + 1) 12) ≠ 0 then fn_223_52 g a1 a3 a4 a5 0 a2 else (-1, g)
theorem dn_223 {v : Option Value} {h : zz_H} {n : Nat} {g : aa_G} {a1 : Int32} {a2 : Int32} {a3 : Int32} {a4 : Int32} {a5 : Int32}  (r : rn_s n 223 (0, zz_in [.ref 540, .int a1, .int a2, .int a3, .int a4, .int a5] (zz_nl 223), [], aa_H g) v h) : iw_s v h (fn_223 g a1 a2 a3 a4 a5) := by
  have r : rn_s n 223 (0, [some (.ref 540), some (.int a1), some (.int a2), some (.int a3), some (.int a4), some (.int a5), none, none], [], aa_H g) v h := r
  unfold fn_223
  obtain ⟨n1, ln1, r⟩ := rn_steps 1 (2, [some (.ref 540), some (.int a1), some (.int a2), some (.int a3), some (.int a4), some (.int a5), none, none], [.int a1, .ref 540], aa_H g) rfl r
  obtain ⟨_, n2, v1, h1, -, ln2, rc, r⟩ := rn_call (m2 := 192) (as := [.ref 540, .int a1]) (rest := []) rfl rfl r
  obtain ⟨rfl, rfl⟩ := dn_192 rc
  have r : rn_s _ 223 (5, [some (.ref 540), some (.int a1), some (.int a2), some (.int a3), some (.int a4), some (.int a5), none, none], [.int (fn_192 g a1)], aa_H g) v h := r
  refine rn_if (iw_s v h) rfl decide_eq_true_iff.symm r (fun c4 l5n l5 r => ?_) (fun c4 l5n l5 r => ?_)
  · obtain ⟨n6, ln6, r⟩ := rn_steps 0 (45, [some (.ref 540), some (.int a1), some (.int a2), some (.int a3), some (.int a4), some (.int a5), none, none], [.int (-1)], aa_H g) rfl r
    exact rn_ire rfl r
  · obtain ⟨n7, ln7, r⟩ := rn_steps 2 (13, [some (.ref 540), some (.int a1), some (.int a2), some (.int a3), some (.int a4), some (.int a5), none, none], [.int 359, .int a3, .int a2], aa_H g) rfl r
    obtain ⟨_, n8, v1, h1, -, ln8, rc, r⟩ := rn_call (m2 := 224) (as := [.int a2, .int a3, .int 359]) (rest := []) rfl rfl r
    obtain ⟨rfl, rfl⟩ := dn_224 rc
    have r : rn_s _ 223 (16, [some (.ref 540), some (.int a1), some (.int a2), some (.int a3), some (.int a4), some (.int a5), none, none], [.int (fn_224 a2 a3 359)], aa_H g) v h := r
    refine rn_if (iw_s v h) rfl decide_eq_true_iff.symm r (fun c10 l11n l11 r => ?_) (fun c10 l11n l11 r => ?_)
    · obtain ⟨n12, ln12, r⟩ := rn_steps 0 (45, [some (.ref 540), some (.int a1), some (.int a2), some (.int a3), some (.int a4), some (.int a5), none, none], [.int (-1)], aa_H g) rfl r
      exact rn_ire rfl r
    · obtain ⟨n13, ln13, r⟩ := rn_steps 2 (24, [some (.ref 540), some (.int a1), some (.int a2), some (.int a3), some (.int a4), some (.int a5), none, none], [.int 11, .int 0, .int a4], aa_H g) rfl r
      obtain ⟨_, n14, v1, h1, -, ln14, rc, r⟩ := rn_call (m2 := 154) (as := [.int a4, .int 0, .int 11]) (rest := []) rfl rfl r
      obtain ⟨rfl, rfl⟩ := dn_154 rc
      have r : rn_s _ 223 (27, [some (.ref 540), some (.int a1), some (.int a2), some (.int a3), some (.int a4), some (.int a5), none, none], [.int (fn_154 a4 0 11)], aa_H g) v h := r
      refine rn_if (iw_s v h) rfl decide_eq_true_iff.symm r (fun c16 l17n l17 r => ?_) (fun c16 l17n l17 r => ?_)
      · obtain ⟨n18, ln18, r⟩ := rn_steps 0 (45, [some (.ref 540), some (.int a1), some (.int a2), some (.int a3), some (.int a4), some (.int a5), none, none], [.int (-1)], aa_H g) rfl r
        exact rn_ire rfl r
      · obtain ⟨n19, ln19, r⟩ := rn_steps 4 (38, [some (.ref 540), some (.int a1), some (.int a2), some (.int a3), some (.int a4), some (.int a5), none, none], [.int 12, .int (a4 + 1), .int a5], aa_H g) rfl r
        obtain ⟨_, n20, v1, h1, -, ln20, rc, r⟩ := rn_call (m2 := 154) (as := [.int a5, .int (a4 + 1), .int 12]) (rest := []) rfl rfl r
        obtain ⟨rfl, rfl⟩ := dn_154 rc
        have r : rn_s _ 223 (41, [some (.ref 540), some (.int a1), some (.int a2), some (.int a3), some (.int a4), some (.int a5), none, none], [.int (fn_154 a5 (a4 + 1) 12)], aa_H g) v h := r
        refine rn_if (iw_s v h) rfl decide_eq_true_iff.symm r (fun c22 l23n l23 r => ?_) (fun c22 l23n l23 r => ?_)
        · obtain ⟨n24, ln24, r⟩ := rn_steps 3 (52, [some (.ref 540), some (.int a1), some (.int a2), some (.int a3), some (.int a4), some (.int a5), some (.int 0), some (.int a2)], [], aa_H g) rfl r
          exact dn_223_52 (some (.int a2)) rn_ji r
        · obtain ⟨n25, ln25, r⟩ := rn_steps 0 (45, [some (.ref 540), some (.int a1), some (.int a2), some (.int a3), some (.int a4), some (.int a5), none, none], [.int (-1)], aa_H g) rfl r
          exact rn_ire rfl r
