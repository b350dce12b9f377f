/-! METHODS READ (printed by wip/dc/dc.py) -/
-- 112: UnequalHours strokes
noncomputable def fn_112_33 (g : aa_G)  : Int32 × aa_G := (fn_113 g 463, g)
theorem dn_112_33 {v : Option Value} {h : zz_H} {n : Nat} {g : aa_G}   (x1 x2 : Option Value) (jx1 : rn_jk x1) (jx2 : rn_jk x2) (r : rn_s n 112 (33, [some (.ref 1), x1, x2], [], aa_H g) v h) : iw_s v h (fn_112_33 g) := by
  unfold fn_112_33
  obtain ⟨n18, ln18, r⟩ := rn_steps 4 (44, [some (.ref 1), x1, x2], [.ref 4, .ref 463], aa_H g) rfl r
  obtain ⟨_, n19, v1, h1, -, ln19, rc, r⟩ := rn_call (m2 := 113) (as := [.ref 463, .ref 4]) (rest := []) rfl rfl r
  obtain ⟨rfl, rfl⟩ := dn_113 rg_c463 rc
  have r : rn_s _ 112 (47, [some (.ref 1), x1, x2], [.int (fn_113 g 463)], aa_H g) v h := r
  exact rn_ire rfl r
noncomputable def fn_112 (g : aa_G) (a1 : Int32) (a2 : Int32) : Int32 × aa_G := (match fn_31 g a1 with | none => ((-1, g)) | some W6 => (if (fn_77 a2) ≠ 0 then fn_112_33 (fn_103 g 463 a1 a2) else (-1, g)))
theorem dn_112 {v : Option Value} {h : zz_H} {n : Nat} {g : aa_G} {a1 : Int32} {a2 : Int32}  (r : rn_s n 112 (0, zz_in [.ref 1, .int a1, .int a2] (zz_nl 112), [], aa_H g) v h) : iw_s v h (fn_112 g a1 a2) := by
  have r : rn_s n 112 (0, [some (.ref 1), some (.int a1), some (.int a2)], [], aa_H g) v h := r
  unfold fn_112
  obtain ⟨n1, ln1, r⟩ := rn_steps 2 (5, [some (.ref 1), some (.int a1), some (.int a2)], [.int a1, .ref 2], aa_H g) rfl r
  obtain ⟨_, n2, v1, h1, -, ln2, rc, r⟩ := rn_call (m2 := 31) (as := [.ref 2, .int a1]) (rest := []) rfl rfl r
  obtain ⟨rfl, rfl, ho4⟩ := dn_31 rc
  have r : rn_s _ 112 (8, [some (.ref 1), some (.int a1), some (.int a2)], [zz_val (fn_31 g a1)], aa_H g) v h := r
  cases e5 : fn_31 g a1 with
  | none =>
    rw [e5] at r
    have r : rn_s _ 112 (8, [some (.ref 1), some (.int a1), some (.int a2)], [.null], aa_H g) v h := r
    dsimp only
    obtain ⟨n8, ln8, r⟩ := rn_steps 1 (19, [some (.ref 1), some (.int a1), some (.int a2)], [.int (-1)], aa_H g) rfl r
    exact rn_ire rfl r
  | some W6 =>
    rw [e5] at r
    have hw7 : ct_tw W6 := ho4 _ e5
    have r : rn_s _ 112 (8, [some (.ref 1), some (.int a1), some (.int a2)], [.ref W6], aa_H g) v h := r
    dsimp only
    obtain ⟨n9, ln9, r⟩ := rn_steps 1 (12, [some (.ref 1), some (.int a1), some (.int a2)], [.int a2], aa_H g) rfl r
    obtain ⟨_, n10, v1, h1, -, ln10, rc, r⟩ := rn_call (m2 := 77) (as := [.int a2]) (rest := []) rfl rfl r
    obtain ⟨rfl, rfl⟩ := dn_77 rc
    have r : rn_s _ 112 (15, [some (.ref 1), some (.int a1), some (.int a2)], [.int (fn_77 a2)], aa_H g) v h := r
    refine rn_if (iw_s v h) rfl decide_eq_true_iff.symm r (fun c12 l13n l13 r => ?_) (fun c12 l13n l13 r => ?_)
    · obtain ⟨n14, ln14, r⟩ := rn_steps 5 (30, [some (.ref 1), some (.int a1), some (.int a2)], [.int a2, .int a1, .ref 2, .ref 463], aa_H g) rfl r
      obtain ⟨_, n15, v1, h1, -, ln15, rc, r⟩ := rn_call (m2 := 103) (as := [.ref 463, .ref 2, .int a1, .int a2]) (rest := []) rfl rfl r
      obtain ⟨rfl, rfl⟩ := dn_103 rg_c463 rc
      have r : rn_s _ 112 (33, [some (.ref 1), some (.int a1), some (.int a2)], [], aa_H (fn_103 g 463 a1 a2)) v h := r
      exact dn_112_33 (some (.int a1)) (some (.int a2)) rn_ji rn_ji r
    · obtain ⟨n17, ln17, r⟩ := rn_steps 0 (19, [some (.ref 1), some (.int a1), some (.int a2)], [.int (-1)], aa_H g) rfl r
      exact rn_ire rfl r
-- 114: UnequalHours total
noncomputable def fn_114_66 (g : aa_G) (b1 : Int32) (b2 : Int32) (b3 : Int32) (b4 : Int32) (b5 : Int32) : (aa_G × Int32 × Int32) ⊕ (Int32 × aa_G) := .inl (g, b4 + (fn_113 g 463), b5 + 1)
theorem dn_114_66 {v : Option Value} {h : zz_H} {n : Nat} {g : aa_G} {b1 : Int32} {b2 : Int32} {b3 : Int32} {b4 : Int32} {b5 : Int32} (P : (aa_G × Int32 × Int32) ⊕ (Int32 × aa_G) → Prop) (hO0 : ∀ n2, n2 < n → ∀ (yg : aa_G) (yb4 : Int32) (yb5 : Int32), rn_s n2 114 (36, [some (.ref 1), some (.int b1), some (.int b2), some (.int b3), some (.int yb4), some (.int yb5)], [], aa_H yg) v h → P (.inl (yg, yb4, yb5))) (hR : ∀ E, iw_s v h E → P (.inr E))  (r : rn_s n 114 (66, [some (.ref 1), some (.int b1), some (.int b2), some (.int b3), some (.int b4), some (.int b5)], [], aa_H g) v h) : P (fn_114_66 g b1 b2 b3 b4 b5) := by
  unfold fn_114_66
  obtain ⟨n33, ln33, r⟩ := rn_steps 5 (79, [some (.ref 1), some (.int b1), some (.int b2), some (.int b3), some (.int b4), some (.int b5)], [.ref 4, .ref 463, .int b4], aa_H g) rfl r
  obtain ⟨_, n34, v1, h1, -, ln34, rc, r⟩ := rn_call (m2 := 113) (as := [.ref 463, .ref 4]) (rest := [.int b4]) rfl rfl r
  obtain ⟨rfl, rfl⟩ := dn_113 rg_c463 rc
  have r : rn_s _ 114 (82, [some (.ref 1), some (.int b1), some (.int b2), some (.int b3), some (.int b4), some (.int b5)], [.int (fn_113 g 463), .int b4], aa_H g) v h := r
  obtain ⟨n36, ln36, r⟩ := rn_steps 3 (36, [some (.ref 1), some (.int b1), some (.int b2), some (.int b3), some (.int (b4 + (fn_113 g 463))), some (.int (b5 + 1))], [], aa_H g) rfl r
  exact hO0 _ (by omega) g (b4 + (fn_113 g 463)) (b5 + 1) r
noncomputable def fn_114_36b (g : aa_G) (b1 : Int32) (b2 : Int32) (b3 : Int32) (b4 : Int32) (b5 : Int32) : (aa_G × Int32 × Int32) ⊕ (Int32 × aa_G) := if (b2 + b3) ≤ b5 then .inr (b4, g) else if 36000 ≤ b5 then .inr (b4, g) else fn_114_66 (fn_103 g 463 b1 b5) b1 b2 b3 b4 b5
noncomputable def fn_114_36 (g : aa_G) (b1 : Int32) (b2 : Int32) (b3 : Int32) (b4 : Int32) (b5 : Int32) : Int32 × aa_G := lp_f (0, g) (fun z : (aa_G × Int32 × Int32) => fn_114_36b z.1 b1 b2 b3 z.2.1 z.2.2) (g, b4, b5)
theorem dn_114_36l {v : Option Value} {h : zz_H} {N : Nat} {b1 : Int32} {b2 : Int32} {b3 : Int32} {d : Int32 × aa_G} : ∀ (n : Nat), n ≤ N → ∀ (g : aa_G) (b4 : Int32) (b5 : Int32), rn_s n 114 (36, [some (.ref 1), some (.int b1), some (.int b2), some (.int b3), some (.int b4), some (.int b5)], [], aa_H g) v h → (iw_s v h) (lp_f d (fun z : (aa_G × Int32 × Int32) => fn_114_36b z.1 b1 b2 b3 z.2.1 z.2.2) (g, b4, b5)) := by
  generalize hf : (fun z : (aa_G × Int32 × Int32) => fn_114_36b z.1 b1 b2 b3 z.2.1 z.2.2) = f
  intro n
  induction n using Nat.strongRecOn with
  | _ n ih =>
    intro hN g b4 b5  r
    refine lp_go ?_
    rw [← congrFun hf (g, b4, b5)]
    show lp_q (iw_s v h) d f (fn_114_36b g b1 b2 b3 b4 b5)
    unfold fn_114_36b
    obtain ⟨n22, ln22, r⟩ := rn_steps 3 (41, [some (.ref 1), some (.int b1), some (.int b2), some (.int b3), some (.int b4), some (.int b5)], [.int (b2 + b3), .int b5], aa_H g) rfl r
    refine rn_ic (lp_q (iw_s v h) d f) rfl decide_eq_true_iff.symm r (fun c23 l24n l24 r => ?_) (fun c23 l24n l24 r => ?_)
    · obtain ⟨n25, ln25, r⟩ := rn_steps 0 (93, [some (.ref 1), some (.int b1), some (.int b2), some (.int b3), some (.int b4), some (.int b5)], [.int b4], aa_H g) rfl r
      exact rn_ire rfl r
    · obtain ⟨n26, ln26, r⟩ := rn_steps 1 (49, [some (.ref 1), some (.int b1), some (.int b2), some (.int b3), some (.int b4), some (.int b5)], [.int 36000, .int b5], aa_H g) rfl r
      refine rn_ic (lp_q (iw_s v h) d f) rfl decide_eq_true_iff.symm r (fun c27 l28n l28 r => ?_) (fun c27 l28n l28 r => ?_)
      · obtain ⟨n29, ln29, r⟩ := rn_steps 0 (93, [some (.ref 1), some (.int b1), some (.int b2), some (.int b3), some (.int b4), some (.int b5)], [.int b4], aa_H g) rfl r
        exact rn_ire rfl r
      · obtain ⟨n30, ln30, r⟩ := rn_steps 5 (63, [some (.ref 1), some (.int b1), some (.int b2), some (.int b3), some (.int b4), some (.int b5)], [.int b5, .int b1, .ref 2, .ref 463], aa_H g) rfl r
        obtain ⟨_, n31, v1, h1, -, ln31, rc, r⟩ := rn_call (m2 := 103) (as := [.ref 463, .ref 2, .int b1, .int b5]) (rest := []) rfl rfl r
        obtain ⟨rfl, rfl⟩ := dn_103 rg_c463 rc
        have r : rn_s _ 114 (66, [some (.ref 1), some (.int b1), some (.int b2), some (.int b3), some (.int b4), some (.int b5)], [], aa_H (fn_103 g 463 b1 b5)) v h := r
        exact dn_114_66 (lp_q (iw_s v h) d f) (fun n2 l2 => ih n2 (by omega) (by omega)) (fun z hz => hz) r
theorem dn_114_36 {v : Option Value} {h : zz_H} {n : Nat} {g : aa_G} {b1 : Int32} {b2 : Int32} {b3 : Int32} {b4 : Int32} {b5 : Int32}  (r : rn_s n 114 (36, [some (.ref 1), some (.int b1), some (.int b2), some (.int b3), some (.int b4), some (.int b5)], [], aa_H g) v h) : (iw_s v h) (fn_114_36 g b1 b2 b3 b4 b5) := dn_114_36l  n (Nat.le_refl n) g b4 b5 r
noncomputable def fn_114 (g : aa_G) (a1 : Int32) (a2 : Int32) (a3 : Int32) : Int32 × aa_G := (match fn_31 g a1 with | none => ((-1, g)) | some W6 => (if (fn_77 a2) = 0 then (-1, g) else if (fn_14 a3 1 60) ≠ 0 then fn_114_36 g a1 a2 a3 0 a2 else (-1, g)))
theorem dn_114 {v : Option Value} {h : zz_H} {n : Nat} {g : aa_G} {a1 : Int32} {a2 : Int32} {a3 : Int32}  (r : rn_s n 114 (0, zz_in [.ref 1, .int a1, .int a2, .int a3] (zz_nl 114), [], aa_H g) v h) : iw_s v h (fn_114 g a1 a2 a3) := by
  have r : rn_s n 114 (0, [some (.ref 1), some (.int a1), some (.int a2), some (.int a3), none, none], [], aa_H g) v h := r
  unfold fn_114
  obtain ⟨n1, ln1, r⟩ := rn_steps 2 (5, [some (.ref 1), some (.int a1), some (.int a2), some (.int a3), none, none], [.int a1, .ref 2], aa_H g) rfl r
  obtain ⟨_, n2, v1, h1, -, ln2, rc, r⟩ := rn_call (m2 := 31) (as := [.ref 2, .int a1]) (rest := []) rfl rfl r
  obtain ⟨rfl, rfl, ho4⟩ := dn_31 rc
  have r : rn_s _ 114 (8, [some (.ref 1), some (.int a1), some (.int a2), some (.int a3), none, none], [zz_val (fn_31 g a1)], aa_H g) v h := r
  cases e5 : fn_31 g a1 with
  | none =>
    rw [e5] at r
    have r : rn_s _ 114 (8, [some (.ref 1), some (.int a1), some (.int a2), some (.int a3), none, none], [.null], aa_H g) v h := r
    dsimp only
    obtain ⟨n8, ln8, r⟩ := rn_steps 1 (29, [some (.ref 1), some (.int a1), some (.int a2), some (.int a3), none, none], [.int (-1)], aa_H g) rfl r
    exact rn_ire rfl r
  | some W6 =>
    rw [e5] at r
    have hw7 : ct_tw W6 := ho4 _ e5
    have r : rn_s _ 114 (8, [some (.ref 1), some (.int a1), some (.int a2), some (.int a3), none, none], [.ref W6], aa_H g) v h := r
    dsimp only
    obtain ⟨n9, ln9, r⟩ := rn_steps 1 (12, [some (.ref 1), some (.int a1), some (.int a2), some (.int a3), none, none], [.int a2], aa_H g) rfl r
    obtain ⟨_, n10, v1, h1, -, ln10, rc, r⟩ := rn_call (m2 := 77) (as := [.int a2]) (rest := []) rfl rfl r
    obtain ⟨rfl, rfl⟩ := dn_77 rc
    have r : rn_s _ 114 (15, [some (.ref 1), some (.int a1), some (.int a2), some (.int a3), none, none], [.int (fn_77 a2)], aa_H g) v h := r
    refine rn_if (iw_s v h) rfl decide_eq_true_iff.symm r (fun c12 l13n l13 r => ?_) (fun c12 l13n l13 r => ?_)
    · obtain ⟨n14, ln14, r⟩ := rn_steps 0 (29, [some (.ref 1), some (.int a1), some (.int a2), some (.int a3), none, none], [.int (-1)], aa_H g) rfl r
      exact rn_ire rfl r
    · obtain ⟨n15, ln15, r⟩ := rn_steps 2 (22, [some (.ref 1), some (.int a1), some (.int a2), some (.int a3), none, none], [.int 60, .int 1, .int a3], aa_H g) rfl r
      obtain ⟨_, n16, v1, h1, -, ln16, rc, r⟩ := rn_call (m2 := 14) (as := [.int a3, .int 1, .int 60]) (rest := []) rfl rfl r
      obtain ⟨rfl, rfl⟩ := dn_14 rc
      have r : rn_s _ 114 (25, [some (.ref 1), some (.int a1), some (.int a2), some (.int a3), none, none], [.int (fn_14 a3 1 60)], aa_H g) v h := r
      refine rn_if (iw_s v h) rfl decide_eq_true_iff.symm r (fun c18 l19n l19 r => ?_) (fun c18 l19n l19 r => ?_)
      · obtain ⟨n20, ln20, r⟩ := rn_steps 3 (36, [some (.ref 1), some (.int a1), some (.int a2), some (.int a3), some (.int 0), some (.int a2)], [], aa_H g) rfl r
        exact dn_114_36 r
      · obtain ⟨n21, ln21, r⟩ := rn_steps 0 (29, [some (.ref 1), some (.int a1), some (.int a2), some (.int a3), none, none], [.int (-1)], aa_H g) rfl r
        exact rn_ire rfl r
-- 115: UnequalHours soonest
noncomputable def fn_115_103 (g : aa_G) (b3 : Int32) : Int32 × aa_G := if (g 463 0) ≤ 0 then (-2, g) else ((86400 + (g 464 (0 : Int32).toNatClampNeg)) - b3, g)
theorem dn_115_103 {v : Option Value} {h : zz_H} {n : Nat} {g : aa_G} {b3 : Int32}  (x1 x2 x4 : Option Value) (jx1 : rn_jk x1) (jx2 : rn_jk x2) (jx4 : rn_jk x4) (r : rn_s n 115 (103, [some (.ref 1), x1, x2, some (.int b3), x4], [], aa_H g) v h) : iw_s v h (fn_115_103 g b3) := by
  unfold fn_115_103
  obtain ⟨n42, ln42, r⟩ := rn_steps 2 (110, [some (.ref 1), x1, x2, some (.int b3), x4], [.int (g 463 0)], aa_H g) rfl r
  refine rn_if (iw_s v h) rfl decide_eq_true_iff.symm r (fun c43 l44n l44 r => ?_) (fun c43 l44n l44 r => ?_)
  · obtain ⟨n45, ln45, r⟩ := rn_steps 0 (132, [some (.ref 1), x1, x2, some (.int b3), x4], [.int (-2)], aa_H g) rfl r
    exact rn_ire rfl r
  · obtain ⟨n46, ln46, r⟩ := rn_steps 4 (123, [some (.ref 1), x1, x2, some (.int b3), x4], [.int 0, .ref 464, .int 86400], aa_H g) rfl r
    obtain ⟨hb48, n47, ln47, r⟩ := rn_ial (k := 464) rfl ⟨by decide, by decide⟩ rfl r
    have r : rn_s _ 115 (124, [some (.ref 1), x1, x2, some (.int b3), x4], [.int (g 464 (0 : Int32).toNatClampNeg), .int 86400], aa_H g) v h := r
    obtain ⟨n49, ln49, r⟩ := rn_steps 3 (132, [some (.ref 1), x1, x2, some (.int b3), x4], [.int ((86400 + (g 464 (0 : Int32).toNatClampNeg)) - b3)], aa_H g) rfl r
    exact rn_ire rfl r
noncomputable def fn_115_43b (g : aa_G) (b1 : Int32) (b2 : Int32) (b3 : Int32) (b4 : Int32) : Int32 ⊕ (Int32 × aa_G) := if (g 463 0) ≤ b4 then .inr (fn_115_103 (fn_103 g 463 b1 (b2 + 1)) b3) else if (g 464 b4.toNatClampNeg) < b3 then .inl (b4 + 1) else .inr ((g 464 b4.toNatClampNeg) - b3, g)
noncomputable def fn_115_43 (g : aa_G) (b1 : Int32) (b2 : Int32) (b3 : Int32) (b4 : Int32) : Int32 × aa_G := lp_f (0, g) (fun z : Int32 => fn_115_43b g b1 b2 b3 z) b4
theorem dn_115_43l {v : Option Value} {h : zz_H} {N : Nat} {g : aa_G} {b1 : Int32} {b2 : Int32} {b3 : Int32} {d : Int32 × aa_G} : ∀ (n : Nat), n ≤ N → ∀ (b4 : Int32), rn_s n 115 (43, [some (.ref 1), some (.int b1), some (.int b2), some (.int b3), some (.int b4)], [], aa_H g) v h → (iw_s v h) (lp_f d (fun z : Int32 => fn_115_43b g b1 b2 b3 z) b4) := by
  generalize hf : (fun z : Int32 => fn_115_43b g b1 b2 b3 z) = f
  intro n
  induction n using Nat.strongRecOn with
  | _ n ih =>
    intro hN b4  r
    refine lp_go ?_
    rw [← congrFun hf b4]
    show lp_q (iw_s v h) d f (fn_115_43b g b1 b2 b3 b4)
    unfold fn_115_43b
    obtain ⟨n25, ln25, r⟩ := rn_steps 3 (52, [some (.ref 1), some (.int b1), some (.int b2), some (.int b3), some (.int b4)], [.int (g 463 0), .int b4], aa_H g) rfl r
    refine rn_ic (lp_q (iw_s v h) d f) rfl decide_eq_true_iff.symm r (fun c26 l27n l27 r => ?_) (fun c26 l27n l27 r => ?_)
    · obtain ⟨n28, ln28, r⟩ := rn_steps 7 (100, [some (.ref 1), some (.int b1), some (.int b2), some (.int b3), some (.int b4)], [.int (b2 + 1), .int b1, .ref 2, .ref 463], aa_H g) rfl r
      obtain ⟨_, n29, v1, h1, -, ln29, rc, r⟩ := rn_call (m2 := 103) (as := [.ref 463, .ref 2, .int b1, .int (b2 + 1)]) (rest := []) rfl rfl r
      obtain ⟨rfl, rfl⟩ := dn_103 rg_c463 rc
      have r : rn_s _ 115 (103, [some (.ref 1), some (.int b1), some (.int b2), some (.int b3), some (.int b4)], [], aa_H (fn_103 g 463 b1 (b2 + 1))) v h := r
      exact dn_115_103 (some (.int b1)) (some (.int b2)) (some (.int b4)) rn_ji rn_ji rn_ji r
    · obtain ⟨n31, ln31, r⟩ := rn_steps 3 (64, [some (.ref 1), some (.int b1), some (.int b2), some (.int b3), some (.int b4)], [.int b4, .ref 464], aa_H g) rfl r
      obtain ⟨hb33, n32, ln32, r⟩ := rn_ial (k := 464) rfl ⟨by decide, by decide⟩ rfl r
      have r : rn_s _ 115 (65, [some (.ref 1), some (.int b1), some (.int b2), some (.int b3), some (.int b4)], [.int (g 464 b4.toNatClampNeg)], aa_H g) v h := r
      obtain ⟨n34, ln34, r⟩ := rn_steps 0 (66, [some (.ref 1), some (.int b1), some (.int b2), some (.int b3), some (.int b4)], [.int b3, .int (g 464 b4.toNatClampNeg)], aa_H g) rfl r
      refine rn_ic (lp_q (iw_s v h) d f) rfl decide_eq_true_iff.symm r (fun c35 l36n l36 r => ?_) (fun c35 l36n l36 r => ?_)
      · obtain ⟨n37, ln37, r⟩ := rn_steps 1 (43, [some (.ref 1), some (.int b1), some (.int b2), some (.int b3), some (.int (b4 + 1))], [], aa_H g) rfl r
        exact ih _ (by omega) (by omega) (b4 + 1) r
      · obtain ⟨n38, ln38, r⟩ := rn_steps 3 (78, [some (.ref 1), some (.int b1), some (.int b2), some (.int b3), some (.int b4)], [.int b4, .ref 464], aa_H g) rfl r
        obtain ⟨hb40, n39, ln39, r⟩ := rn_ial (k := 464) rfl ⟨by decide, by decide⟩ rfl r
        have r : rn_s _ 115 (79, [some (.ref 1), some (.int b1), some (.int b2), some (.int b3), some (.int b4)], [.int (g 464 b4.toNatClampNeg)], aa_H g) v h := r
        obtain ⟨n41, ln41, r⟩ := rn_steps 1 (81, [some (.ref 1), some (.int b1), some (.int b2), some (.int b3), some (.int b4)], [.int ((g 464 b4.toNatClampNeg) - b3)], aa_H g) rfl r
        exact rn_ire rfl r
theorem dn_115_43 {v : Option Value} {h : zz_H} {n : Nat} {g : aa_G} {b1 : Int32} {b2 : Int32} {b3 : Int32} {b4 : Int32}  (r : rn_s n 115 (43, [some (.ref 1), some (.int b1), some (.int b2), some (.int b3), some (.int b4)], [], aa_H g) v h) : (iw_s v h) (fn_115_43 g b1 b2 b3 b4) := dn_115_43l  n (Nat.le_refl n) b4 r
noncomputable def fn_115_40 (g : aa_G) (b1 : Int32) (b2 : Int32) (b3 : Int32) : Int32 × aa_G := fn_115_43 g b1 b2 b3 0
theorem dn_115_40 {v : Option Value} {h : zz_H} {n : Nat} {g : aa_G} {b1 : Int32} {b2 : Int32} {b3 : Int32}  (x4 : Option Value) (jx4 : rn_jk x4) (r : rn_s n 115 (40, [some (.ref 1), some (.int b1), some (.int b2), some (.int b3), x4], [], aa_H g) v h) : iw_s v h (fn_115_40 g b1 b2 b3) := by
  unfold fn_115_40
  obtain ⟨n24, ln24, r⟩ := rn_steps 1 (43, [some (.ref 1), some (.int b1), some (.int b2), some (.int b3), some (.int 0)], [], aa_H g) rfl r
  exact dn_115_43 r
noncomputable def fn_115 (g : aa_G) (a1 : Int32) (a2 : Int32) (a3 : Int32) : Int32 × aa_G := (match fn_31 g a1 with | none => ((-1, g)) | some W6 => (if (fn_77 a2) = 0 then (-1, g) else if (fn_66 a3) ≠ 0 then fn_115_40 (fn_103 g 463 a1 a2) a1 a2 a3 else (-1, g)))
theorem dn_115 {v : Option Value} {h : zz_H} {n : Nat} {g : aa_G} {a1 : Int32} {a2 : Int32} {a3 : Int32}  (r : rn_s n 115 (0, zz_in [.ref 1, .int a1, .int a2, .int a3] (zz_nl 115), [], aa_H g) v h) : iw_s v h (fn_115 g a1 a2 a3) := by
  have r : rn_s n 115 (0, [some (.ref 1), some (.int a1), some (.int a2), some (.int a3), none], [], aa_H g) v h := r
  unfold fn_115
  obtain ⟨n1, ln1, r⟩ := rn_steps 2 (5, [some (.ref 1), some (.int a1), some (.int a2), some (.int a3), none], [.int a1, .ref 2], aa_H g) rfl r
  obtain ⟨_, n2, v1, h1, -, ln2, rc, r⟩ := rn_call (m2 := 31) (as := [.ref 2, .int a1]) (rest := []) rfl rfl r
  obtain ⟨rfl, rfl, ho4⟩ := dn_31 rc
  have r : rn_s _ 115 (8, [some (.ref 1), some (.int a1), some (.int a2), some (.int a3), none], [zz_val (fn_31 g a1)], aa_H g) v h := r
  cases e5 : fn_31 g a1 with
  | none =>
    rw [e5] at r
    have r : rn_s _ 115 (8, [some (.ref 1), some (.int a1), some (.int a2), some (.int a3), none], [.null], aa_H g) v h := r
    dsimp only
    obtain ⟨n8, ln8, r⟩ := rn_steps 1 (26, [some (.ref 1), some (.int a1), some (.int a2), some (.int a3), none], [.int (-1)], aa_H g) rfl r
    exact rn_ire rfl r
  | some W6 =>
    rw [e5] at r
    have hw7 : ct_tw W6 := ho4 _ e5
    have r : rn_s _ 115 (8, [some (.ref 1), some (.int a1), some (.int a2), some (.int a3), none], [.ref W6], aa_H g) v h := r
    dsimp only
    obtain ⟨n9, ln9, r⟩ := rn_steps 1 (12, [some (.ref 1), some (.int a1), some (.int a2), some (.int a3), none], [.int a2], aa_H g) rfl r
    obtain ⟨_, n10, v1, h1, -, ln10, rc, r⟩ := rn_call (m2 := 77) (as := [.int a2]) (rest := []) rfl rfl r
    obtain ⟨rfl, rfl⟩ := dn_77 rc
    have r : rn_s _ 115 (15, [some (.ref 1), some (.int a1), some (.int a2), some (.int a3), none], [.int (fn_77 a2)], aa_H g) v h := r
    refine rn_if (iw_s v h) rfl decide_eq_true_iff.symm r (fun c12 l13n l13 r => ?_) (fun c12 l13n l13 r => ?_)
    · obtain ⟨n14, ln14, r⟩ := rn_steps 0 (26, [some (.ref 1), some (.int a1), some (.int a2), some (.int a3), none], [.int (-1)], aa_H g) rfl r
      exact rn_ire rfl r
    · obtain ⟨n15, ln15, r⟩ := rn_steps 0 (19, [some (.ref 1), some (.int a1), some (.int a2), some (.int a3), none], [.int a3], aa_H g) rfl r
      obtain ⟨_, n16, v1, h1, -, ln16, rc, r⟩ := rn_call (m2 := 66) (as := [.int a3]) (rest := []) rfl rfl r
      obtain ⟨rfl, rfl⟩ := dn_66 rc
      have r : rn_s _ 115 (22, [some (.ref 1), some (.int a1), some (.int a2), some (.int a3), none], [.int (fn_66 a3)], aa_H g) v h := r
      refine rn_if (iw_s v h) rfl decide_eq_true_iff.symm r (fun c18 l19n l19 r => ?_) (fun c18 l19n l19 r => ?_)
      · obtain ⟨n20, ln20, r⟩ := rn_steps 5 (37, [some (.ref 1), some (.int a1), some (.int a2), some (.int a3), none], [.int a2, .int a1, .ref 2, .ref 463], aa_H g) rfl r
        obtain ⟨_, n21, v1, h1, -, ln21, rc, r⟩ := rn_call (m2 := 103) (as := [.ref 463, .ref 2, .int a1, .int a2]) (rest := []) rfl rfl r
        obtain ⟨rfl, rfl⟩ := dn_103 rg_c463 rc
        have r : rn_s _ 115 (40, [some (.ref 1), some (.int a1), some (.int a2), some (.int a3), none], [], aa_H (fn_103 g 463 a1 a2)) v h := r
        exact dn_115_40 none rn_jn r
      · obtain ⟨n23, ln23, r⟩ := rn_steps 0 (26, [some (.ref 1), some (.int a1), some (.int a2), some (.int a3), none], [.int (-1)], aa_H g) rfl r
        exact rn_ire rfl r
-- 116: UnequalHours clash
noncomputable def fn_116_91 (g : aa_G) (b3 : Int32) (b4 : Int32) (b5 : Int32) : (Int32 × Int32) ⊕ (Int32 × aa_G) := .inl (b4, b5 + 1)
theorem dn_116_91 {v : Option Value} {h : zz_H} {n : Nat} {g : aa_G} {b3 : Int32} {b4 : Int32} {b5 : Int32} (P : (Int32 × Int32) ⊕ (Int32 × aa_G) → Prop) (hO0 : ∀ n2, n2 < n → ∀ (yb4 : Int32) (yb5 : Int32) (yx1 yx2 : Option Value) (_ : rn_jk yx1) (_ : rn_jk yx2), rn_s n2 116 (49, [some (.ref 1), yx1, yx2, some (.int b3), some (.int yb4), some (.int yb5)], [], aa_H g) v h → P (.inl (yb4, yb5))) (hR : ∀ E, iw_s v h E → P (.inr E))  (x1 x2 : Option Value) (jx1 : rn_jk x1) (jx2 : rn_jk x2) (r : rn_s n 116 (91, [some (.ref 1), x1, x2, some (.int b3), some (.int b4), some (.int b5)], [], aa_H g) v h) : P (fn_116_91 g b3 b4 b5) := by
  unfold fn_116_91
  obtain ⟨n39, ln39, r⟩ := rn_steps 1 (49, [some (.ref 1), x1, x2, some (.int b3), some (.int b4), some (.int (b5 + 1))], [], aa_H g) rfl r
  exact hO0 _ (by omega) b4 (b5 + 1) x1 x2 jx1 jx2 r
noncomputable def fn_116_49b (g : aa_G) (b3 : Int32) (b4 : Int32) (b5 : Int32) : (Int32 × Int32) ⊕ (Int32 × aa_G) := if (g 463 0) ≤ b5 then .inr (b4, g) else if b3 ≤ ((g 464 b5.toNatClampNeg) - (g 464 (b5 - 1).toNatClampNeg)) then fn_116_91 g b3 b4 b5 else fn_116_91 g b3 (b4 + 1) b5
noncomputable def fn_116_49 (g : aa_G) (b3 : Int32) (b4 : Int32) (b5 : Int32) : Int32 × aa_G := lp_f (0, g) (fun z : (Int32 × Int32) => fn_116_49b g b3 z.1 z.2) (b4, b5)
theorem dn_116_49l {v : Option Value} {h : zz_H} {N : Nat} {g : aa_G} {b3 : Int32} {d : Int32 × aa_G} : ∀ (n : Nat), n ≤ N → ∀ (b4 : Int32) (b5 : Int32) (x1 x2 : Option Value) (jx1 : rn_jk x1) (jx2 : rn_jk x2), rn_s n 116 (49, [some (.ref 1), x1, x2, some (.int b3), some (.int b4), some (.int b5)], [], aa_H g) v h → (iw_s v h) (lp_f d (fun z : (Int32 × Int32) => fn_116_49b g b3 z.1 z.2) (b4, b5)) := by
  generalize hf : (fun z : (Int32 × Int32) => fn_116_49b g b3 z.1 z.2) = f
  intro n
  induction n using Nat.strongRecOn with
  | _ n ih =>
    intro hN b4 b5 x1 x2 jx1 jx2 r
    refine lp_go ?_
    rw [← congrFun hf (b4, b5)]
    show lp_q (iw_s v h) d f (fn_116_49b g b3 b4 b5)
    unfold fn_116_49b
    obtain ⟨n25, ln25, r⟩ := rn_steps 3 (58, [some (.ref 1), x1, x2, some (.int b3), some (.int b4), some (.int b5)], [.int (g 463 0), .int b5], aa_H g) rfl r
    refine rn_ic (lp_q (iw_s v h) d f) rfl decide_eq_true_iff.symm r (fun c26 l27n l27 r => ?_) (fun c26 l27n l27 r => ?_)
    · obtain ⟨n28, ln28, r⟩ := rn_steps 0 (99, [some (.ref 1), x1, x2, some (.int b3), some (.int b4), some (.int b5)], [.int b4], aa_H g) rfl r
      exact rn_ire rfl r
    · obtain ⟨n29, ln29, r⟩ := rn_steps 3 (70, [some (.ref 1), x1, x2, some (.int b3), some (.int b4), some (.int b5)], [.int b5, .ref 464], aa_H g) rfl r
      obtain ⟨hb31, n30, ln30, r⟩ := rn_ial (k := 464) rfl ⟨by decide, by decide⟩ rfl r
      have r : rn_s _ 116 (71, [some (.ref 1), x1, x2, some (.int b3), some (.int b4), some (.int b5)], [.int (g 464 b5.toNatClampNeg)], aa_H g) v h := r
      obtain ⟨n32, ln32, r⟩ := rn_steps 5 (82, [some (.ref 1), x1, x2, some (.int b3), some (.int b4), some (.int b5)], [.int (b5 - 1), .ref 464, .int (g 464 b5.toNatClampNeg)], aa_H g) rfl r
      obtain ⟨hb34, n33, ln33, r⟩ := rn_ial (k := 464) rfl ⟨by decide, by decide⟩ rfl r
      have r : rn_s _ 116 (83, [some (.ref 1), x1, x2, some (.int b3), some (.int b4), some (.int b5)], [.int (g 464 (b5 - 1).toNatClampNeg), .int (g 464 b5.toNatClampNeg)], aa_H g) v h := r
      obtain ⟨n35, ln35, r⟩ := rn_steps 1 (85, [some (.ref 1), x1, x2, some (.int b3), some (.int b4), some (.int b5)], [.int b3, .int ((g 464 b5.toNatClampNeg) - (g 464 (b5 - 1).toNatClampNeg))], aa_H g) rfl r
      refine rn_ic (lp_q (iw_s v h) d f) rfl decide_eq_true_iff.symm r (fun c36 l37n l37 r => ?_) (fun c36 l37n l37 r => ?_)
      · exact dn_116_91 (lp_q (iw_s v h) d f) (fun n2 l2 => ih n2 (by omega) (by omega)) (fun z hz => hz) x1 x2 jx1 jx2 r
      · obtain ⟨n38, ln38, r⟩ := rn_steps 0 (91, [some (.ref 1), x1, x2, some (.int b3), some (.int (b4 + 1)), some (.int b5)], [], aa_H g) rfl r
        exact dn_116_91 (lp_q (iw_s v h) d f) (fun n2 l2 => ih n2 (by omega) (by omega)) (fun z hz => hz) x1 x2 jx1 jx2 r
theorem dn_116_49 {v : Option Value} {h : zz_H} {n : Nat} {g : aa_G} {b3 : Int32} {b4 : Int32} {b5 : Int32}  (x1 x2 : Option Value) (jx1 : rn_jk x1) (jx2 : rn_jk x2) (r : rn_s n 116 (49, [some (.ref 1), x1, x2, some (.int b3), some (.int b4), some (.int b5)], [], aa_H g) v h) : (iw_s v h) (fn_116_49 g b3 b4 b5) := dn_116_49l  n (Nat.le_refl n) b4 b5 x1 x2 jx1 jx2 r
noncomputable def fn_116_43 (g : aa_G) (b3 : Int32) : Int32 × aa_G := fn_116_49 g b3 0 1
theorem dn_116_43 {v : Option Value} {h : zz_H} {n : Nat} {g : aa_G} {b3 : Int32}  (x1 x2 x4 x5 : Option Value) (jx1 : rn_jk x1) (jx2 : rn_jk x2) (jx4 : rn_jk x4) (jx5 : rn_jk x5) (r : rn_s n 116 (43, [some (.ref 1), x1, x2, some (.int b3), x4, x5], [], aa_H g) v h) : iw_s v h (fn_116_43 g b3) := by
  unfold fn_116_43
  obtain ⟨n24, ln24, r⟩ := rn_steps 3 (49, [some (.ref 1), x1, x2, some (.int b3), some (.int 0), some (.int 1)], [], aa_H g) rfl r
  exact dn_116_49 x1 x2 jx1 jx2 r
noncomputable def fn_116 (g : aa_G) (a1 : Int32) (a2 : Int32) (a3 : Int32) : Int32 × aa_G := (match fn_31 g a1 with | none => ((-1, g)) | some W6 => (if (fn_77 a2) = 0 then (-1, g) else if (fn_14 a3 0 86400) ≠ 0 then fn_116_43 (fn_103 g 463 a1 a2) a3 else (-1, g)))
theorem dn_116 {v : Option Value} {h : zz_H} {n : Nat} {g : aa_G} {a1 : Int32} {a2 : Int32} {a3 : Int32}  (r : rn_s n 116 (0, zz_in [.ref 1, .int a1, .int a2, .int a3] (zz_nl 116), [], aa_H g) v h) : iw_s v h (fn_116 g a1 a2 a3) := by
  have r : rn_s n 116 (0, [some (.ref 1), some (.int a1), some (.int a2), some (.int a3), none, none], [], aa_H g) v h := r
  unfold fn_116
  obtain ⟨n1, ln1, r⟩ := rn_steps 2 (5, [some (.ref 1), some (.int a1), some (.int a2), some (.int a3), none, none], [.int a1, .ref 2], aa_H g) rfl r
  obtain ⟨_, n2, v1, h1, -, ln2, rc, r⟩ := rn_call (m2 := 31) (as := [.ref 2, .int a1]) (rest := []) rfl rfl r
  obtain ⟨rfl, rfl, ho4⟩ := dn_31 rc
  have r : rn_s _ 116 (8, [some (.ref 1), some (.int a1), some (.int a2), some (.int a3), none, none], [zz_val (fn_31 g a1)], aa_H g) v h := r
  cases e5 : fn_31 g a1 with
  | none =>
    rw [e5] at r
    have r : rn_s _ 116 (8, [some (.ref 1), some (.int a1), some (.int a2), some (.int a3), none, none], [.null], aa_H g) v h := r
    dsimp only
    obtain ⟨n8, ln8, r⟩ := rn_steps 1 (29, [some (.ref 1), some (.int a1), some (.int a2), some (.int a3), none, none], [.int (-1)], aa_H g) rfl r
    exact rn_ire rfl r
  | some W6 =>
    rw [e5] at r
    have hw7 : ct_tw W6 := ho4 _ e5
    have r : rn_s _ 116 (8, [some (.ref 1), some (.int a1), some (.int a2), some (.int a3), none, none], [.ref W6], aa_H g) v h := r
    dsimp only
    obtain ⟨n9, ln9, r⟩ := rn_steps 1 (12, [some (.ref 1), some (.int a1), some (.int a2), some (.int a3), none, none], [.int a2], aa_H g) rfl r
    obtain ⟨_, n10, v1, h1, -, ln10, rc, r⟩ := rn_call (m2 := 77) (as := [.int a2]) (rest := []) rfl rfl r
    obtain ⟨rfl, rfl⟩ := dn_77 rc
    have r : rn_s _ 116 (15, [some (.ref 1), some (.int a1), some (.int a2), some (.int a3), none, none], [.int (fn_77 a2)], aa_H g) v h := r
    refine rn_if (iw_s v h) rfl decide_eq_true_iff.symm r (fun c12 l13n l13 r => ?_) (fun c12 l13n l13 r => ?_)
    · obtain ⟨n14, ln14, r⟩ := rn_steps 0 (29, [some (.ref 1), some (.int a1), some (.int a2), some (.int a3), none, none], [.int (-1)], aa_H g) rfl r
      exact rn_ire rfl r
    · obtain ⟨n15, ln15, r⟩ := rn_steps 2 (22, [some (.ref 1), some (.int a1), some (.int a2), some (.int a3), none, none], [.int 86400, .int 0, .int a3], aa_H g) rfl r
      obtain ⟨_, n16, v1, h1, -, ln16, rc, r⟩ := rn_call (m2 := 14) (as := [.int a3, .int 0, .int 86400]) (rest := []) rfl rfl r
      obtain ⟨rfl, rfl⟩ := dn_14 rc
      have r : rn_s _ 116 (25, [some (.ref 1), some (.int a1), some (.int a2), some (.int a3), none, none], [.int (fn_14 a3 0 86400)], aa_H g) v h := r
      refine rn_if (iw_s v h) rfl decide_eq_true_iff.symm r (fun c18 l19n l19 r => ?_) (fun c18 l19n l19 r => ?_)
      · obtain ⟨n20, ln20, r⟩ := rn_steps 5 (40, [some (.ref 1), some (.int a1), some (.int a2), some (.int a3), none, none], [.int a2, .int a1, .ref 2, .ref 463], aa_H g) rfl r
        obtain ⟨_, n21, v1, h1, -, ln21, rc, r⟩ := rn_call (m2 := 103) (as := [.ref 463, .ref 2, .int a1, .int a2]) (rest := []) rfl rfl r
        obtain ⟨rfl, rfl⟩ := dn_103 rg_c463 rc
        have r : rn_s _ 116 (43, [some (.ref 1), some (.int a1), some (.int a2), some (.int a3), none, none], [], aa_H (fn_103 g 463 a1 a2)) v h := r
        exact dn_116_43 (some (.int a1)) (some (.int a2)) none none rn_ji rn_ji rn_jn rn_jn r
      · obtain ⟨n23, ln23, r⟩ := rn_steps 0 (29, [some (.ref 1), some (.int a1), some (.int a2), some (.int a3), none, none], [.int (-1)], aa_H g) rfl r
        exact rn_ire rfl r
-- 117: UnequalHours busiest
noncomputable def fn_117_111 (g : aa_G) (b1 : Int32) (b2 : Int32) (b3 : Int32) (b4 : Int32) (b5 : Int32) : (aa_G × Int32) ⊕ (Int32 × aa_G) := .inl (g, b5 + 1)
theorem dn_117_111 {v : Option Value} {h : zz_H} {n : Nat} {g : aa_G} {b1 : Int32} {b2 : Int32} {b3 : Int32} {b4 : Int32} {b5 : Int32} (P : (aa_G × Int32) ⊕ (Int32 × aa_G) → Prop) (hO0 : ∀ n2, n2 < n → ∀ (yg : aa_G) (yb5 : Int32) (yx6 yx7 : Option Value) (_ : rn_jk yx6) (_ : rn_jk yx7), rn_s n2 117 (70, [some (.ref 1), some (.int b1), some (.int b2), some (.int b3), some (.int b4), some (.int yb5), yx6, yx7], [], aa_H yg) v h → P (.inl (yg, yb5))) (hR : ∀ E, iw_s v h E → P (.inr E))  (x6 x7 : Option Value) (jx6 : rn_jk x6) (jx7 : rn_jk x7) (r : rn_s n 117 (111, [some (.ref 1), some (.int b1), some (.int b2), some (.int b3), some (.int b4), some (.int b5), x6, x7], [], aa_H g) v h) : P (fn_117_111 g b1 b2 b3 b4 b5) := by
  unfold fn_117_111
  obtain ⟨n67, ln67, r⟩ := rn_steps 1 (70, [some (.ref 1), some (.int b1), some (.int b2), some (.int b3), some (.int b4), some (.int (b5 + 1)), x6, x7], [], aa_H g) rfl r
  exact hO0 _ (by omega) g (b5 + 1) x6 x7 jx6 jx7 r
noncomputable def fn_117_100 (g : aa_G) (b1 : Int32) (b2 : Int32) (b3 : Int32) (b4 : Int32) (b5 : Int32) : (aa_G × Int32) ⊕ (Int32 × aa_G) := fn_117_111 (fn_118 g 463) b1 b2 b3 b4 b5
theorem dn_117_100 {v : Option Value} {h : zz_H} {n : Nat} {g : aa_G} {b1 : Int32} {b2 : Int32} {b3 : Int32} {b4 : Int32} {b5 : Int32} (P : (aa_G × Int32) ⊕ (Int32 × aa_G) → Prop) (hO0 : ∀ n2, n2 < n → ∀ (yg : aa_G) (yb5 : Int32) (yx6 yx7 : Option Value) (_ : rn_jk yx6) (_ : rn_jk yx7), rn_s n2 117 (70, [some (.ref 1), some (.int b1), some (.int b2), some (.int b3), some (.int b4), some (.int yb5), yx6, yx7], [], aa_H yg) v h → P (.inl (yg, yb5))) (hR : ∀ E, iw_s v h E → P (.inr E))  (x6 x7 : Option Value) (jx6 : rn_jk x6) (jx7 : rn_jk x7) (r : rn_s n 117 (100, [some (.ref 1), some (.int b1), some (.int b2), some (.int b3), some (.int b4), some (.int b5), x6, x7], [], aa_H g) v h) : P (fn_117_100 g b1 b2 b3 b4 b5) := by
  unfold fn_117_100
  obtain ⟨n46, ln46, r⟩ := rn_steps 3 (108, [some (.ref 1), some (.int b1), some (.int b2), some (.int b3), some (.int b4), some (.int b5), x6, x7], [.ref 475, .ref 463], aa_H g) rfl r
  obtain ⟨_, n47, v1, h1, -, ln47, rc, r⟩ := rn_call (m2 := 118) (as := [.ref 463, .ref 475]) (rest := []) rfl rfl r
  obtain ⟨rfl, rfl⟩ := dn_118 rg_c463 rc
  have r : rn_s _ 117 (111, [some (.ref 1), some (.int b1), some (.int b2), some (.int b3), some (.int b4), some (.int b5), x6, x7], [], aa_H (fn_118 g 463)) v h := r
  exact dn_117_111 (P) (fun n2 l2 => hO0 n2 (by omega)) (fun z hz => hR _ hz) x6 x7 jx6 jx7 r
noncomputable def fn_117_161 (g : aa_G) (b4 : Int32) (b5 : Int32) (b6 : Int32) (b7 : Int32) : (Int32 × Int32 × Int32) ⊕ (Int32 × aa_G) := .inl (b5, b6, b7 + 1)
theorem dn_117_161 {v : Option Value} {h : zz_H} {n : Nat} {g : aa_G} {b4 : Int32} {b5 : Int32} {b6 : Int32} {b7 : Int32} (P : (Int32 × Int32 × Int32) ⊕ (Int32 × aa_G) → Prop) (hO0 : ∀ n2, n2 < n → ∀ (yb5 : Int32) (yb6 : Int32) (yb7 : Int32) (yx1 yx2 yx3 : Option Value) (_ : rn_jk yx1) (_ : rn_jk yx2) (_ : rn_jk yx3), rn_s n2 117 (126, [some (.ref 1), yx1, yx2, yx3, some (.int b4), some (.int yb5), some (.int yb6), some (.int yb7)], [], aa_H g) v h → P (.inl (yb5, yb6, yb7))) (hR : ∀ E, iw_s v h E → P (.inr E))  (x1 x2 x3 : Option Value) (jx1 : rn_jk x1) (jx2 : rn_jk x2) (jx3 : rn_jk x3) (r : rn_s n 117 (161, [some (.ref 1), x1, x2, x3, some (.int b4), some (.int b5), some (.int b6), some (.int b7)], [], aa_H g) v h) : P (fn_117_161 g b4 b5 b6 b7) := by
  unfold fn_117_161
  obtain ⟨n68, ln68, r⟩ := rn_steps 1 (126, [some (.ref 1), x1, x2, x3, some (.int b4), some (.int b5), some (.int b6), some (.int (b7 + 1))], [], aa_H g) rfl r
  exact hO0 _ (by omega) b5 b6 (b7 + 1) x1 x2 x3 jx1 jx2 jx3 r
noncomputable def fn_117_126b (g : aa_G) (b4 : Int32) (b5 : Int32) (b6 : Int32) (b7 : Int32) : (Int32 × Int32 × Int32) ⊕ (Int32 × aa_G) := if 8 ≤ b7 then if b4 ≠ 0 then .inr (b6, g) else .inr (b5, g) else if (g 475 b7.toNatClampNeg) ≤ b6 then fn_117_161 g b4 b5 b6 b7 else fn_117_161 g b4 b7 (g 475 b7.toNatClampNeg) b7
noncomputable def fn_117_126 (g : aa_G) (b4 : Int32) (b5 : Int32) (b6 : Int32) (b7 : Int32) : Int32 × aa_G := lp_f (0, g) (fun z : (Int32 × Int32 × Int32) => fn_117_126b g b4 z.1 z.2.1 z.2.2) (b5, b6, b7)
theorem dn_117_126l {v : Option Value} {h : zz_H} {N : Nat} {g : aa_G} {b4 : Int32} {d : Int32 × aa_G} : ∀ (n : Nat), n ≤ N → ∀ (b5 : Int32) (b6 : Int32) (b7 : Int32) (x1 x2 x3 : Option Value) (jx1 : rn_jk x1) (jx2 : rn_jk x2) (jx3 : rn_jk x3), rn_s n 117 (126, [some (.ref 1), x1, x2, x3, some (.int b4), some (.int b5), some (.int b6), some (.int b7)], [], aa_H g) v h → (iw_s v h) (lp_f d (fun z : (Int32 × Int32 × Int32) => fn_117_126b g b4 z.1 z.2.1 z.2.2) (b5, b6, b7)) := by
  generalize hf : (fun z : (Int32 × Int32 × Int32) => fn_117_126b g b4 z.1 z.2.1 z.2.2) = f
  intro n
  induction n using Nat.strongRecOn with
  | _ n ih =>
    intro hN b5 b6 b7 x1 x2 x3 jx1 jx2 jx3 r
    refine lp_go ?_
    rw [← congrFun hf (b5, b6, b7)]
    show lp_q (iw_s v h) d f (fn_117_126b g b4 b5 b6 b7)
    unfold fn_117_126b
    obtain ⟨n49, ln49, r⟩ := rn_steps 3 (133, [some (.ref 1), x1, x2, x3, some (.int b4), some (.int b5), some (.int b6), some (.int b7)], [.int 8, .int b7], aa_H g) rfl r
    refine rn_ic (lp_q (iw_s v h) d f) rfl decide_eq_true_iff.symm r (fun c50 l51n l51 r => ?_) (fun c50 l51n l51 r => ?_)
    · obtain ⟨n52, ln52, r⟩ := rn_steps 0 (169, [some (.ref 1), x1, x2, x3, some (.int b4), some (.int b5), some (.int b6), some (.int b7)], [.int b4], aa_H g) rfl r
      refine rn_if (lp_q (iw_s v h) d f) rfl decide_eq_true_iff.symm r (fun c53 l54n l54 r => ?_) (fun c53 l54n l54 r => ?_)
      · obtain ⟨n55, ln55, r⟩ := rn_steps 0 (179, [some (.ref 1), x1, x2, x3, some (.int b4), some (.int b5), some (.int b6), some (.int b7)], [.int b6], aa_H g) rfl r
        exact rn_ire rfl r
      · obtain ⟨n56, ln56, r⟩ := rn_steps 1 (179, [some (.ref 1), x1, x2, x3, some (.int b4), some (.int b5), some (.int b6), some (.int b7)], [.int b5], aa_H g) rfl r
        exact rn_ire rfl r
    · obtain ⟨n57, ln57, r⟩ := rn_steps 2 (142, [some (.ref 1), x1, x2, x3, some (.int b4), some (.int b5), some (.int b6), some (.int b7)], [.int b7, .ref 475], aa_H g) rfl r
      obtain ⟨hb59, n58, ln58, r⟩ := rn_ial (k := 475) rfl ⟨by decide, by decide⟩ rfl r
      have r : rn_s _ 117 (143, [some (.ref 1), x1, x2, x3, some (.int b4), some (.int b5), some (.int b6), some (.int b7)], [.int (g 475 b7.toNatClampNeg)], aa_H g) v h := r
      obtain ⟨n60, ln60, r⟩ := rn_steps 0 (145, [some (.ref 1), x1, x2, x3, some (.int b4), some (.int b5), some (.int b6), some (.int b7)], [.int b6, .int (g 475 b7.toNatClampNeg)], aa_H g) rfl r
      refine rn_ic (lp_q (iw_s v h) d f) rfl decide_eq_true_iff.symm r (fun c61 l62n l62 r => ?_) (fun c61 l62n l62 r => ?_)
      · exact dn_117_161 (lp_q (iw_s v h) d f) (fun n2 l2 => ih n2 (by omega) (by omega)) (fun z hz => hz) x1 x2 x3 jx1 jx2 jx3 r
      · obtain ⟨n63, ln63, r⟩ := rn_steps 4 (158, [some (.ref 1), x1, x2, x3, some (.int b4), some (.int b7), some (.int b6), some (.int b7)], [.int b7, .ref 475], aa_H g) rfl r
        obtain ⟨hb65, n64, ln64, r⟩ := rn_ial (k := 475) rfl ⟨by decide, by decide⟩ rfl r
        have r : rn_s _ 117 (159, [some (.ref 1), x1, x2, x3, some (.int b4), some (.int b7), some (.int b6), some (.int b7)], [.int (g 475 b7.toNatClampNeg)], aa_H g) v h := r
        obtain ⟨n66, ln66, r⟩ := rn_steps 0 (161, [some (.ref 1), x1, x2, x3, some (.int b4), some (.int b7), some (.int (g 475 b7.toNatClampNeg)), some (.int b7)], [], aa_H g) rfl r
        exact dn_117_161 (lp_q (iw_s v h) d f) (fun n2 l2 => ih n2 (by omega) (by omega)) (fun z hz => hz) x1 x2 x3 jx1 jx2 jx3 r
theorem dn_117_126 {v : Option Value} {h : zz_H} {n : Nat} {g : aa_G} {b4 : Int32} {b5 : Int32} {b6 : Int32} {b7 : Int32}  (x1 x2 x3 : Option Value) (jx1 : rn_jk x1) (jx2 : rn_jk x2) (jx3 : rn_jk x3) (r : rn_s n 117 (126, [some (.ref 1), x1, x2, x3, some (.int b4), some (.int b5), some (.int b6), some (.int b7)], [], aa_H g) v h) : (iw_s v h) (fn_117_126 g b4 b5 b6 b7) := dn_117_126l  n (Nat.le_refl n) b5 b6 b7 x1 x2 x3 jx1 jx2 jx3 r
noncomputable def fn_117_117 (g : aa_G) (b4 : Int32) : Int32 × aa_G := fn_117_126 g b4 (-1) 0 0
theorem dn_117_117 {v : Option Value} {h : zz_H} {n : Nat} {g : aa_G} {b4 : Int32}  (x1 x2 x3 x5 x6 x7 : Option Value) (jx1 : rn_jk x1) (jx2 : rn_jk x2) (jx3 : rn_jk x3) (jx5 : rn_jk x5) (jx6 : rn_jk x6) (jx7 : rn_jk x7) (r : rn_s n 117 (117, [some (.ref 1), x1, x2, x3, some (.int b4), x5, x6, x7], [], aa_H g) v h) : iw_s v h (fn_117_117 g b4) := by
  unfold fn_117_117
  obtain ⟨n45, ln45, r⟩ := rn_steps 5 (126, [some (.ref 1), x1, x2, x3, some (.int b4), some (.int (-1)), some (.int 0), some (.int 0)], [], aa_H g) rfl r
  exact dn_117_126 x1 x2 x3 jx1 jx2 jx3 r
noncomputable def fn_117_70b (g : aa_G) (b1 : Int32) (b2 : Int32) (b3 : Int32) (b4 : Int32) (b5 : Int32) : (aa_G × Int32) ⊕ (Int32 × aa_G) := if (b2 + b3) ≤ b5 then .inr (fn_117_117 g b4) else if 36000 ≤ b5 then .inr (fn_117_117 g b4) else fn_117_100 (fn_103 g 463 b1 b5) b1 b2 b3 b4 b5
noncomputable def fn_117_70 (g : aa_G) (b1 : Int32) (b2 : Int32) (b3 : Int32) (b4 : Int32) (b5 : Int32) : Int32 × aa_G := lp_f (0, g) (fun z : (aa_G × Int32) => fn_117_70b z.1 b1 b2 b3 b4 z.2) (g, b5)
theorem dn_117_70l {v : Option Value} {h : zz_H} {N : Nat} {b1 : Int32} {b2 : Int32} {b3 : Int32} {b4 : Int32} {d : Int32 × aa_G} : ∀ (n : Nat), n ≤ N → ∀ (g : aa_G) (b5 : Int32) (x6 x7 : Option Value) (jx6 : rn_jk x6) (jx7 : rn_jk x7), rn_s n 117 (70, [some (.ref 1), some (.int b1), some (.int b2), some (.int b3), some (.int b4), some (.int b5), x6, x7], [], aa_H g) v h → (iw_s v h) (lp_f d (fun z : (aa_G × Int32) => fn_117_70b z.1 b1 b2 b3 b4 z.2) (g, b5)) := by
  generalize hf : (fun z : (aa_G × Int32) => fn_117_70b z.1 b1 b2 b3 b4 z.2) = f
  intro n
  induction n using Nat.strongRecOn with
  | _ n ih =>
    intro hN g b5 x6 x7 jx6 jx7 r
    refine lp_go ?_
    rw [← congrFun hf (g, b5)]
    show lp_q (iw_s v h) d f (fn_117_70b g b1 b2 b3 b4 b5)
    unfold fn_117_70b
    obtain ⟨n36, ln36, r⟩ := rn_steps 3 (75, [some (.ref 1), some (.int b1), some (.int b2), some (.int b3), some (.int b4), some (.int b5), x6, x7], [.int (b2 + b3), .int b5], aa_H g) rfl r
    refine rn_ic (lp_q (iw_s v h) d f) rfl decide_eq_true_iff.symm r (fun c37 l38n l38 r => ?_) (fun c37 l38n l38 r => ?_)
    · exact dn_117_117 (some (.int b1)) (some (.int b2)) (some (.int b3)) (some (.int b5)) x6 x7 rn_ji rn_ji rn_ji rn_ji jx6 jx7 r
    · obtain ⟨n39, ln39, r⟩ := rn_steps 1 (83, [some (.ref 1), some (.int b1), some (.int b2), some (.int b3), some (.int b4), some (.int b5), x6, x7], [.int 36000, .int b5], aa_H g) rfl r
      refine rn_ic (lp_q (iw_s v h) d f) rfl decide_eq_true_iff.symm r (fun c40 l41n l41 r => ?_) (fun c40 l41n l41 r => ?_)
      · exact dn_117_117 (some (.int b1)) (some (.int b2)) (some (.int b3)) (some (.int b5)) x6 x7 rn_ji rn_ji rn_ji rn_ji jx6 jx7 r
      · obtain ⟨n42, ln42, r⟩ := rn_steps 5 (97, [some (.ref 1), some (.int b1), some (.int b2), some (.int b3), some (.int b4), some (.int b5), x6, x7], [.int b5, .int b1, .ref 2, .ref 463], aa_H g) rfl r
        obtain ⟨_, n43, v1, h1, -, ln43, rc, r⟩ := rn_call (m2 := 103) (as := [.ref 463, .ref 2, .int b1, .int b5]) (rest := []) rfl rfl r
        obtain ⟨rfl, rfl⟩ := dn_103 rg_c463 rc
        have r : rn_s _ 117 (100, [some (.ref 1), some (.int b1), some (.int b2), some (.int b3), some (.int b4), some (.int b5), x6, x7], [], aa_H (fn_103 g 463 b1 b5)) v h := r
        exact dn_117_100 (lp_q (iw_s v h) d f) (fun n2 l2 => ih n2 (by omega) (by omega)) (fun z hz => hz) x6 x7 jx6 jx7 r
theorem dn_117_70 {v : Option Value} {h : zz_H} {n : Nat} {g : aa_G} {b1 : Int32} {b2 : Int32} {b3 : Int32} {b4 : Int32} {b5 : Int32}  (x6 x7 : Option Value) (jx6 : rn_jk x6) (jx7 : rn_jk x7) (r : rn_s n 117 (70, [some (.ref 1), some (.int b1), some (.int b2), some (.int b3), some (.int b4), some (.int b5), x6, x7], [], aa_H g) v h) : (iw_s v h) (fn_117_70 g b1 b2 b3 b4 b5) := dn_117_70l  n (Nat.le_refl n) g b5 x6 x7 jx6 jx7 r
noncomputable def fn_117_43b (g : aa_G) (b1 : Int32) (b2 : Int32) (b3 : Int32) (b4 : Int32) (b5 : Int32) : (aa_G × Int32) ⊕ (Int32 × aa_G) := if 8 ≤ b5 then .inr (fn_117_70 g b1 b2 b3 b4 b2) else .inl (zz_w g 475 b5.toNatClampNeg 0, b5 + 1)
noncomputable def fn_117_43 (g : aa_G) (b1 : Int32) (b2 : Int32) (b3 : Int32) (b4 : Int32) (b5 : Int32) : Int32 × aa_G := lp_f (0, g) (fun z : (aa_G × Int32) => fn_117_43b z.1 b1 b2 b3 b4 z.2) (g, b5)
theorem dn_117_43l {v : Option Value} {h : zz_H} {N : Nat} {b1 : Int32} {b2 : Int32} {b3 : Int32} {b4 : Int32} {d : Int32 × aa_G} : ∀ (n : Nat), n ≤ N → ∀ (g : aa_G) (b5 : Int32) (x6 x7 : Option Value) (jx6 : rn_jk x6) (jx7 : rn_jk x7), rn_s n 117 (43, [some (.ref 1), some (.int b1), some (.int b2), some (.int b3), some (.int b4), some (.int b5), x6, x7], [], aa_H g) v h → (iw_s v h) (lp_f d (fun z : (aa_G × Int32) => fn_117_43b z.1 b1 b2 b3 b4 z.2) (g, b5)) := by
  generalize hf : (fun z : (aa_G × Int32) => fn_117_43b z.1 b1 b2 b3 b4 z.2) = f
  intro n
  induction n using Nat.strongRecOn with
  | _ n ih =>
    intro hN g b5 x6 x7 jx6 jx7 r
    refine lp_go ?_
    rw [← congrFun hf (g, b5)]
    show lp_q (iw_s v h) d f (fn_117_43b g b1 b2 b3 b4 b5)
    unfold fn_117_43b
    obtain ⟨n28, ln28, r⟩ := rn_steps 3 (50, [some (.ref 1), some (.int b1), some (.int b2), some (.int b3), some (.int b4), some (.int b5), x6, x7], [.int 8, .int b5], aa_H g) rfl r
    refine rn_ic (lp_q (iw_s v h) d f) rfl decide_eq_true_iff.symm r (fun c29 l30n l30 r => ?_) (fun c29 l30n l30 r => ?_)
    · obtain ⟨n31, ln31, r⟩ := rn_steps 1 (70, [some (.ref 1), some (.int b1), some (.int b2), some (.int b3), some (.int b4), some (.int b2), x6, x7], [], aa_H g) rfl r
      exact dn_117_70 x6 x7 jx6 jx7 r
    · obtain ⟨n32, ln32, r⟩ := rn_steps 3 (60, [some (.ref 1), some (.int b1), some (.int b2), some (.int b3), some (.int b4), some (.int b5), x6, x7], [.int 0, .int b5, .ref 475], aa_H g) rfl r
      obtain ⟨hb34, n33, ln33, r⟩ := rn_ias (k := 475) rfl ⟨by decide, by decide⟩ rfl r
      have r : rn_s _ 117 (61, [some (.ref 1), some (.int b1), some (.int b2), some (.int b3), some (.int b4), some (.int b5), x6, x7], [], aa_H (zz_w g 475 b5.toNatClampNeg 0)) v h := r
      obtain ⟨n35, ln35, r⟩ := rn_steps 1 (43, [some (.ref 1), some (.int b1), some (.int b2), some (.int b3), some (.int b4), some (.int (b5 + 1)), x6, x7], [], aa_H (zz_w g 475 b5.toNatClampNeg 0)) rfl r
      exact ih _ (by omega) (by omega) (zz_w g 475 b5.toNatClampNeg 0) (b5 + 1) x6 x7 jx6 jx7 r
theorem dn_117_43 {v : Option Value} {h : zz_H} {n : Nat} {g : aa_G} {b1 : Int32} {b2 : Int32} {b3 : Int32} {b4 : Int32} {b5 : Int32}  (x6 x7 : Option Value) (jx6 : rn_jk x6) (jx7 : rn_jk x7) (r : rn_s n 117 (43, [some (.ref 1), some (.int b1), some (.int b2), some (.int b3), some (.int b4), some (.int b5), x6, x7], [], aa_H g) v h) : (iw_s v h) (fn_117_43 g b1 b2 b3 b4 b5) := dn_117_43l  n (Nat.le_refl n) g b5 x6 x7 jx6 jx7 r
noncomputable def fn_117 (g : aa_G) (a1 : Int32) (a2 : Int32) (a3 : Int32) (a4 : Int32) : Int32 × aa_G := (match fn_31 g a1 with | none => ((-1, g)) | some W6 => (if (fn_77 a2) = 0 then (-1, g) else if (fn_14 a3 1 60) = 0 then (-1, g) else if (fn_14 a4 0 1) ≠ 0 then fn_117_43 g a1 a2 a3 a4 0 else (-1, g)))
theorem dn_117 {v : Option Value} {h : zz_H} {n : Nat} {g : aa_G} {a1 : Int32} {a2 : Int32} {a3 : Int32} {a4 : Int32}  (r : rn_s n 117 (0, zz_in [.ref 1, .int a1, .int a2, .int a3, .int a4] (zz_nl 117), [], aa_H g) v h) : iw_s v h (fn_117 g a1 a2 a3 a4) := by
  have r : rn_s n 117 (0, [some (.ref 1), some (.int a1), some (.int a2), some (.int a3), some (.int a4), none, none, none], [], aa_H g) v h := r
  unfold fn_117
  obtain ⟨n1, ln1, r⟩ := rn_steps 2 (5, [some (.ref 1), some (.int a1), some (.int a2), some (.int a3), some (.int a4), none, none, none], [.int a1, .ref 2], aa_H g) rfl r
  obtain ⟨_, n2, v1, h1, -, ln2, rc, r⟩ := rn_call (m2 := 31) (as := [.ref 2, .int a1]) (rest := []) rfl rfl r
  obtain ⟨rfl, rfl, ho4⟩ := dn_31 rc
  have r : rn_s _ 117 (8, [some (.ref 1), some (.int a1), some (.int a2), some (.int a3), some (.int a4), none, none, none], [zz_val (fn_31 g a1)], aa_H g) v h := r
  cases e5 : fn_31 g a1 with
  | none =>
    rw [e5] at r
    have r : rn_s _ 117 (8, [some (.ref 1), some (.int a1), some (.int a2), some (.int a3), some (.int a4), none, none, none], [.null], aa_H g) v h := r
    dsimp only
    obtain ⟨n8, ln8, r⟩ := rn_steps 1 (39, [some (.ref 1), some (.int a1), some (.int a2), some (.int a3), some (.int a4), none, none, none], [.int (-1)], aa_H g) rfl r
    exact rn_ire rfl r
  | some W6 =>
    rw [e5] at r
    have hw7 : ct_tw W6 := ho4 _ e5
    have r : rn_s _ 117 (8, [some (.ref 1), some (.int a1), some (.int a2), some (.int a3), some (.int a4), none, none, none], [.ref W6], aa_H g) v h := r
    dsimp only
    obtain ⟨n9, ln9, r⟩ := rn_steps 1 (12, [some (.ref 1), some (.int a1), some (.int a2), some (.int a3), some (.int a4), none, none, none], [.int a2], aa_H g) rfl r
    obtain ⟨_, n10, v1, h1, -, ln10, rc, r⟩ := rn_call (m2 := 77) (as := [.int a2]) (rest := []) rfl rfl r
    obtain ⟨rfl, rfl⟩ := dn_77 rc
    have r : rn_s _ 117 (15, [some (.ref 1), some (.int a1), some (.int a2), some (.int a3), some (.int a4), none, none, none], [.int (fn_77 a2)], aa_H g) v h := r
    refine rn_if (iw_s v h) rfl decide_eq_true_iff.symm r (fun c12 l13n l13 r => ?_) (fun c12 l13n l13 r => ?_)
    · obtain ⟨n14, ln14, r⟩ := rn_steps 0 (39, [some (.ref 1), some (.int a1), some (.int a2), some (.int a3), some (.int a4), none, none, none], [.int (-1)], aa_H g) rfl r
      exact rn_ire rfl r
    · obtain ⟨n15, ln15, r⟩ := rn_steps 2 (22, [some (.ref 1), some (.int a1), some (.int a2), some (.int a3), some (.int a4), none, none, none], [.int 60, .int 1, .int a3], aa_H g) rfl r
      obtain ⟨_, n16, v1, h1, -, ln16, rc, r⟩ := rn_call (m2 := 14) (as := [.int a3, .int 1, .int 60]) (rest := []) rfl rfl r
      obtain ⟨rfl, rfl⟩ := dn_14 rc
      have r : rn_s _ 117 (25, [some (.ref 1), some (.int a1), some (.int a2), some (.int a3), some (.int a4), none, none, none], [.int (fn_14 a3 1 60)], aa_H g) v h := r
      refine rn_if (iw_s v h) rfl decide_eq_true_iff.symm r (fun c18 l19n l19 r => ?_) (fun c18 l19n l19 r => ?_)
      · obtain ⟨n20, ln20, r⟩ := rn_steps 0 (39, [some (.ref 1), some (.int a1), some (.int a2), some (.int a3), some (.int a4), none, none, none], [.int (-1)], aa_H g) rfl r
        exact rn_ire rfl r
      · obtain ⟨n21, ln21, r⟩ := rn_steps 2 (32, [some (.ref 1), some (.int a1), some (.int a2), some (.int a3), some (.int a4), none, none, none], [.int 1, .int 0, .int a4], aa_H g) rfl r
        obtain ⟨_, n22, v1, h1, -, ln22, rc, r⟩ := rn_call (m2 := 14) (as := [.int a4, .int 0, .int 1]) (rest := []) rfl rfl r
        obtain ⟨rfl, rfl⟩ := dn_14 rc
        have r : rn_s _ 117 (35, [some (.ref 1), some (.int a1), some (.int a2), some (.int a3), some (.int a4), none, none, none], [.int (fn_14 a4 0 1)], aa_H g) v h := r
        refine rn_if (iw_s v h) rfl decide_eq_true_iff.symm r (fun c24 l25n l25 r => ?_) (fun c24 l25n l25 r => ?_)
        · obtain ⟨n26, ln26, r⟩ := rn_steps 1 (43, [some (.ref 1), some (.int a1), some (.int a2), some (.int a3), some (.int a4), some (.int 0), none, none], [], aa_H g) rfl r
          exact dn_117_43 none none rn_jn rn_jn r
        · obtain ⟨n27, ln27, r⟩ := rn_steps 0 (39, [some (.ref 1), some (.int a1), some (.int a2), some (.int a3), some (.int a4), none, none, none], [.int (-1)], aa_H g) rfl r
          exact rn_ire rfl r
-- 119: UnequalHours quiet
noncomputable def fn_119_116 (g : aa_G) (b3 : Int32) (b5 : Int32) (b6 : Int32) (b7 : Int32) (b8 : Int32) : (Int32 × Int32 × Int32 × Int32) ⊕ (Int32 × aa_G) := .inl (b8, b5, b6, b7 + 1)
theorem dn_119_116 {v : Option Value} {h : zz_H} {n : Nat} {g : aa_G} {b3 : Int32} {b5 : Int32} {b6 : Int32} {b7 : Int32} {b8 : Int32} (P : (Int32 × Int32 × Int32 × Int32) ⊕ (Int32 × aa_G) → Prop) (hO0 : ∀ n2, n2 < n → ∀ (yb4 : Int32) (yb5 : Int32) (yb6 : Int32) (yb7 : Int32) (yx1 yx2 yx8 : Option Value) (_ : rn_jk yx1) (_ : rn_jk yx2) (_ : rn_jk yx8), rn_s n2 119 (54, [some (.ref 1), yx1, yx2, some (.int b3), some (.int yb4), some (.int yb5), some (.int yb6), some (.int yb7), yx8], [], aa_H g) v h → P (.inl (yb4, yb5, yb6, yb7))) (hR : ∀ E, iw_s v h E → P (.inr E))  (x1 x2 x4 : Option Value) (jx1 : rn_jk x1) (jx2 : rn_jk x2) (jx4 : rn_jk x4) (r : rn_s n 119 (116, [some (.ref 1), x1, x2, some (.int b3), x4, some (.int b5), some (.int b6), some (.int b7), some (.int b8)], [], aa_H g) v h) : P (fn_119_116 g b3 b5 b6 b7 b8) := by
  unfold fn_119_116
  obtain ⟨n45, ln45, r⟩ := rn_steps 3 (54, [some (.ref 1), x1, x2, some (.int b3), some (.int b8), some (.int b5), some (.int b6), some (.int (b7 + 1)), some (.int b8)], [], aa_H g) rfl r
  exact hO0 _ (by omega) b8 b5 b6 (b7 + 1) x1 x2 (some (.int b8)) jx1 jx2 rn_ji r
noncomputable def fn_119_93 (g : aa_G) (b3 : Int32) (b4 : Int32) (b5 : Int32) (b6 : Int32) (b7 : Int32) (s0 : Int32) : (Int32 × Int32 × Int32 × Int32) ⊕ (Int32 × aa_G) := if (s0 - b4) ≤ b6 then fn_119_116 g b3 b5 b6 b7 s0 else fn_119_116 g b3 b4 (s0 - b4) b7 s0
theorem dn_119_93 {v : Option Value} {h : zz_H} {n : Nat} {g : aa_G} {b3 : Int32} {b4 : Int32} {b5 : Int32} {b6 : Int32} {b7 : Int32} {s0 : Int32} (P : (Int32 × Int32 × Int32 × Int32) ⊕ (Int32 × aa_G) → Prop) (hO0 : ∀ n2, n2 < n → ∀ (yb4 : Int32) (yb5 : Int32) (yb6 : Int32) (yb7 : Int32) (yx1 yx2 yx8 : Option Value) (_ : rn_jk yx1) (_ : rn_jk yx2) (_ : rn_jk yx8), rn_s n2 119 (54, [some (.ref 1), yx1, yx2, some (.int b3), some (.int yb4), some (.int yb5), some (.int yb6), some (.int yb7), yx8], [], aa_H g) v h → P (.inl (yb4, yb5, yb6, yb7))) (hR : ∀ E, iw_s v h E → P (.inr E))  (x1 x2 x8 : Option Value) (jx1 : rn_jk x1) (jx2 : rn_jk x2) (jx8 : rn_jk x8) (r : rn_s n 119 (93, [some (.ref 1), x1, x2, some (.int b3), some (.int b4), some (.int b5), some (.int b6), some (.int b7), x8], [.int s0], aa_H g) v h) : P (fn_119_93 g b3 b4 b5 b6 b7 s0) := by
  unfold fn_119_93
  obtain ⟨n41, ln41, r⟩ := rn_steps 4 (102, [some (.ref 1), x1, x2, some (.int b3), some (.int b4), some (.int b5), some (.int b6), some (.int b7), some (.int s0)], [.int b6, .int (s0 - b4)], aa_H g) rfl r
  refine rn_ic (P) rfl decide_eq_true_iff.symm r (fun c42 l43n l43 r => ?_) (fun c42 l43n l43 r => ?_)
  · exact dn_119_116 (P) (fun n2 l2 => hO0 n2 (by omega)) (fun z hz => hR _ hz) x1 x2 (some (.int b4)) jx1 jx2 rn_ji r
  · obtain ⟨n44, ln44, r⟩ := rn_steps 5 (116, [some (.ref 1), x1, x2, some (.int b3), some (.int b4), some (.int b4), some (.int (s0 - b4)), some (.int b7), some (.int s0)], [], aa_H g) rfl r
    exact dn_119_116 (P) (fun n2 l2 => hO0 n2 (by omega)) (fun z hz => hR _ hz) x1 x2 (some (.int b4)) jx1 jx2 rn_ji r
noncomputable def fn_119_54b (g : aa_G) (b3 : Int32) (b4 : Int32) (b5 : Int32) (b6 : Int32) (b7 : Int32) : (Int32 × Int32 × Int32 × Int32) ⊕ (Int32 × aa_G) := if (g 463 0) < b7 then if b3 ≠ 0 then .inr (b6, g) else .inr (b5, g) else if (g 463 0) ≤ b7 then fn_119_93 g b3 b4 b5 b6 b7 86400 else fn_119_93 g b3 b4 b5 b6 b7 (g 464 b7.toNatClampNeg)
noncomputable def fn_119_54 (g : aa_G) (b3 : Int32) (b4 : Int32) (b5 : Int32) (b6 : Int32) (b7 : Int32) : Int32 × aa_G := lp_f (0, g) (fun z : (Int32 × Int32 × Int32 × Int32) => fn_119_54b g b3 z.1 z.2.1 z.2.2.1 z.2.2.2) (b4, b5, b6, b7)
theorem dn_119_54l {v : Option Value} {h : zz_H} {N : Nat} {g : aa_G} {b3 : Int32} {d : Int32 × aa_G} : ∀ (n : Nat), n ≤ N → ∀ (b4 : Int32) (b5 : Int32) (b6 : Int32) (b7 : Int32) (x1 x2 x8 : Option Value) (jx1 : rn_jk x1) (jx2 : rn_jk x2) (jx8 : rn_jk x8), rn_s n 119 (54, [some (.ref 1), x1, x2, some (.int b3), some (.int b4), some (.int b5), some (.int b6), some (.int b7), x8], [], aa_H g) v h → (iw_s v h) (lp_f d (fun z : (Int32 × Int32 × Int32 × Int32) => fn_119_54b g b3 z.1 z.2.1 z.2.2.1 z.2.2.2) (b4, b5, b6, b7)) := by
  generalize hf : (fun z : (Int32 × Int32 × Int32 × Int32) => fn_119_54b g b3 z.1 z.2.1 z.2.2.1 z.2.2.2) = f
  intro n
  induction n using Nat.strongRecOn with
  | _ n ih =>
    intro hN b4 b5 b6 b7 x1 x2 x8 jx1 jx2 jx8 r
    refine lp_go ?_
    rw [← congrFun hf (b4, b5, b6, b7)]
    show lp_q (iw_s v h) d f (fn_119_54b g b3 b4 b5 b6 b7)
    unfold fn_119_54b
    obtain ⟨n25, ln25, r⟩ := rn_steps 3 (63, [some (.ref 1), x1, x2, some (.int b3), some (.int b4), some (.int b5), some (.int b6), some (.int b7), x8], [.int (g 463 0), .int b7], aa_H g) rfl r
    refine rn_ic (lp_q (iw_s v h) d f) rfl decide_eq_true_iff.symm r (fun c26 l27n l27 r => ?_) (fun c26 l27n l27 r => ?_)
    · obtain ⟨n28, ln28, r⟩ := rn_steps 0 (127, [some (.ref 1), x1, x2, some (.int b3), some (.int b4), some (.int b5), some (.int b6), some (.int b7), x8], [.int b3], aa_H g) rfl r
      refine rn_if (lp_q (iw_s v h) d f) rfl decide_eq_true_iff.symm r (fun c29 l30n l30 r => ?_) (fun c29 l30n l30 r => ?_)
      · obtain ⟨n31, ln31, r⟩ := rn_steps 0 (137, [some (.ref 1), x1, x2, some (.int b3), some (.int b4), some (.int b5), some (.int b6), some (.int b7), x8], [.int b6], aa_H g) rfl r
        exact rn_ire rfl r
      · obtain ⟨n32, ln32, r⟩ := rn_steps 1 (137, [some (.ref 1), x1, x2, some (.int b3), some (.int b4), some (.int b5), some (.int b6), some (.int b7), x8], [.int b5], aa_H g) rfl r
        exact rn_ire rfl r
    · obtain ⟨n33, ln33, r⟩ := rn_steps 3 (75, [some (.ref 1), x1, x2, some (.int b3), some (.int b4), some (.int b5), some (.int b6), some (.int b7), x8], [.int (g 463 0), .int b7], aa_H g) rfl r
      refine rn_ic (lp_q (iw_s v h) d f) rfl decide_eq_true_iff.symm r (fun c34 l35n l35 r => ?_) (fun c34 l35n l35 r => ?_)
      · obtain ⟨n36, ln36, r⟩ := rn_steps 0 (93, [some (.ref 1), x1, x2, some (.int b3), some (.int b4), some (.int b5), some (.int b6), some (.int b7), x8], [.int 86400], aa_H g) rfl r
        exact dn_119_93 (lp_q (iw_s v h) d f) (fun n2 l2 => ih n2 (by omega) (by omega)) (fun z hz => hz) x1 x2 x8 jx1 jx2 jx8 r
      · obtain ⟨n37, ln37, r⟩ := rn_steps 3 (87, [some (.ref 1), x1, x2, some (.int b3), some (.int b4), some (.int b5), some (.int b6), some (.int b7), x8], [.int b7, .ref 464], aa_H g) rfl r
        obtain ⟨hb39, n38, ln38, r⟩ := rn_ial (k := 464) rfl ⟨by decide, by decide⟩ rfl r
        have r : rn_s _ 119 (88, [some (.ref 1), x1, x2, some (.int b3), some (.int b4), some (.int b5), some (.int b6), some (.int b7), x8], [.int (g 464 b7.toNatClampNeg)], aa_H g) v h := r
        obtain ⟨n40, ln40, r⟩ := rn_steps 0 (93, [some (.ref 1), x1, x2, some (.int b3), some (.int b4), some (.int b5), some (.int b6), some (.int b7), x8], [.int (g 464 b7.toNatClampNeg)], aa_H g) rfl r
        exact dn_119_93 (lp_q (iw_s v h) d f) (fun n2 l2 => ih n2 (by omega) (by omega)) (fun z hz => hz) x1 x2 x8 jx1 jx2 jx8 r
theorem dn_119_54 {v : Option Value} {h : zz_H} {n : Nat} {g : aa_G} {b3 : Int32} {b4 : Int32} {b5 : Int32} {b6 : Int32} {b7 : Int32}  (x1 x2 x8 : Option Value) (jx1 : rn_jk x1) (jx2 : rn_jk x2) (jx8 : rn_jk x8) (r : rn_s n 119 (54, [some (.ref 1), x1, x2, some (.int b3), some (.int b4), some (.int b5), some (.int b6), some (.int b7), x8], [], aa_H g) v h) : (iw_s v h) (fn_119_54 g b3 b4 b5 b6 b7) := dn_119_54l  n (Nat.le_refl n) b4 b5 b6 b7 x1 x2 x8 jx1 jx2 jx8 r
noncomputable def fn_119_42 (g : aa_G) (b3 : Int32) : Int32 × aa_G := fn_119_54 g b3 0 0 (-1) 0
theorem dn_119_42 {v : Option Value} {h : zz_H} {n : Nat} {g : aa_G} {b3 : Int32}  (x1 x2 x4 x5 x6 x7 x8 : Option Value) (jx1 : rn_jk x1) (jx2 : rn_jk x2) (jx4 : rn_jk x4) (jx5 : rn_jk x5) (jx6 : rn_jk x6) (jx7 : rn_jk x7) (jx8 : rn_jk x8) (r : rn_s n 119 (42, [some (.ref 1), x1, x2, some (.int b3), x4, x5, x6, x7, x8], [], aa_H g) v h) : iw_s v h (fn_119_42 g b3) := by
  unfold fn_119_42
  obtain ⟨n24, ln24, r⟩ := rn_steps 7 (54, [some (.ref 1), x1, x2, some (.int b3), some (.int 0), some (.int 0), some (.int (-1)), some (.int 0), x8], [], aa_H g) rfl r
  exact dn_119_54 x1 x2 x8 jx1 jx2 jx8 r
noncomputable def fn_119 (g : aa_G) (a1 : Int32) (a2 : Int32) (a3 : Int32) : Int32 × aa_G := (match fn_31 g a1 with | none => ((-1, g)) | some W6 => (if (fn_77 a2) = 0 then (-1, g) else if (fn_14 a3 0 1) ≠ 0 then fn_119_42 (fn_103 g 463 a1 a2) a3 else (-1, g)))
theorem dn_119 {v : Option Value} {h : zz_H} {n : Nat} {g : aa_G} {a1 : Int32} {a2 : Int32} {a3 : Int32}  (r : rn_s n 119 (0, zz_in [.ref 1, .int a1, .int a2, .int a3] (zz_nl 119), [], aa_H g) v h) : iw_s v h (fn_119 g a1 a2 a3) := by
  have r : rn_s n 119 (0, [some (.ref 1), some (.int a1), some (.int a2), some (.int a3), none, none, none, none, none], [], aa_H g) v h := r
  unfold fn_119
  obtain ⟨n1, ln1, r⟩ := rn_steps 2 (5, [some (.ref 1), some (.int a1), some (.int a2), some (.int a3), none, none, none, none, none], [.int a1, .ref 2], aa_H g) rfl r
  obtain ⟨_, n2, v1, h1, -, ln2, rc, r⟩ := rn_call (m2 := 31) (as := [.ref 2, .int a1]) (rest := []) rfl rfl r
  obtain ⟨rfl, rfl, ho4⟩ := dn_31 rc
  have r : rn_s _ 119 (8, [some (.ref 1), some (.int a1), some (.int a2), some (.int a3), none, none, none, none, none], [zz_val (fn_31 g a1)], aa_H g) v h := r
  cases e5 : fn_31 g a1 with
  | none =>
    rw [e5] at r
    have r : rn_s _ 119 (8, [some (.ref 1), some (.int a1), some (.int a2), some (.int a3), none, none, none, none, none], [.null], aa_H g) v h := r
    dsimp only
    obtain ⟨n8, ln8, r⟩ := rn_steps 1 (28, [some (.ref 1), some (.int a1), some (.int a2), some (.int a3), none, none, none, none, none], [.int (-1)], aa_H g) rfl r
    exact rn_ire rfl r
  | some W6 =>
    rw [e5] at r
    have hw7 : ct_tw W6 := ho4 _ e5
    have r : rn_s _ 119 (8, [some (.ref 1), some (.int a1), some (.int a2), some (.int a3), none, none, none, none, none], [.ref W6], aa_H g) v h := r
    dsimp only
    obtain ⟨n9, ln9, r⟩ := rn_steps 1 (12, [some (.ref 1), some (.int a1), some (.int a2), some (.int a3), none, none, none, none, none], [.int a2], aa_H g) rfl r
    obtain ⟨_, n10, v1, h1, -, ln10, rc, r⟩ := rn_call (m2 := 77) (as := [.int a2]) (rest := []) rfl rfl r
    obtain ⟨rfl, rfl⟩ := dn_77 rc
    have r : rn_s _ 119 (15, [some (.ref 1), some (.int a1), some (.int a2), some (.int a3), none, none, none, none, none], [.int (fn_77 a2)], aa_H g) v h := r
    refine rn_if (iw_s v h) rfl decide_eq_true_iff.symm r (fun c12 l13n l13 r => ?_) (fun c12 l13n l13 r => ?_)
    · obtain ⟨n14, ln14, r⟩ := rn_steps 0 (28, [some (.ref 1), some (.int a1), some (.int a2), some (.int a3), none, none, none, none, none], [.int (-1)], aa_H g) rfl r
      exact rn_ire rfl r
    · obtain ⟨n15, ln15, r⟩ := rn_steps 2 (21, [some (.ref 1), some (.int a1), some (.int a2), some (.int a3), none, none, none, none, none], [.int 1, .int 0, .int a3], aa_H g) rfl r
      obtain ⟨_, n16, v1, h1, -, ln16, rc, r⟩ := rn_call (m2 := 14) (as := [.int a3, .int 0, .int 1]) (rest := []) rfl rfl r
      obtain ⟨rfl, rfl⟩ := dn_14 rc
      have r : rn_s _ 119 (24, [some (.ref 1), some (.int a1), some (.int a2), some (.int a3), none, none, none, none, none], [.int (fn_14 a3 0 1)], aa_H g) v h := r
      refine rn_if (iw_s v h) rfl decide_eq_true_iff.symm r (fun c18 l19n l19 r => ?_) (fun c18 l19n l19 r => ?_)
      · obtain ⟨n20, ln20, r⟩ := rn_steps 5 (39, [some (.ref 1), some (.int a1), some (.int a2), some (.int a3), none, none, none, none, none], [.int a2, .int a1, .ref 2, .ref 463], aa_H g) rfl r
        obtain ⟨_, n21, v1, h1, -, ln21, rc, r⟩ := rn_call (m2 := 103) (as := [.ref 463, .ref 2, .int a1, .int a2]) (rest := []) rfl rfl r
        obtain ⟨rfl, rfl⟩ := dn_103 rg_c463 rc
        have r : rn_s _ 119 (42, [some (.ref 1), some (.int a1), some (.int a2), some (.int a3), none, none, none, none, none], [], aa_H (fn_103 g 463 a1 a2)) v h := r
        exact dn_119_42 (some (.int a1)) (some (.int a2)) none none none none none rn_ji rn_ji rn_jn rn_jn rn_jn rn_jn rn_jn r
      · obtain ⟨n23, ln23, r⟩ := rn_steps 0 (28, [some (.ref 1), some (.int a1), some (.int a2), some (.int a3), none, none, none, none, none], [.int (-1)], aa_H g) rfl r
        exact rn_ire rfl r
-- 138: UnequalHours same
noncomputable def fn_138_127 (g : aa_G) (b1 : Int32) (b2 : Int32) (B3 : Nat) (B4 : Nat) (b5 : Int32) (b6 : Int32) (b7 : Int32) : (Int32 × Int32) ⊕ ((aa_G × Int32 × Int32) ⊕ (Int32 × aa_G)) := .inl (b5, b7 + 1)
theorem dn_138_127 {v : Option Value} {h : zz_H} {n : Nat} {g : aa_G} {b1 : Int32} {b2 : Int32} {B3 : Nat} {B4 : Nat} {b5 : Int32} {b6 : Int32} {b7 : Int32} (P : (Int32 × Int32) ⊕ ((aa_G × Int32 × Int32) ⊕ (Int32 × aa_G)) → Prop) (hO0 : ∀ n2, n2 < n → ∀ (yg : aa_G) (yb5 : Int32) (yb6 : Int32) (yx7 : Option Value) (_ : rn_jk yx7), rn_s n2 138 (52, [some (.ref 1), some (.int b1), some (.int b2), some (.ref B3), some (.ref B4), some (.int yb5), some (.int yb6), yx7], [], aa_H yg) v h → P (.inr (.inl (yg, yb5, yb6)))) (hO1 : ∀ n2, n2 < n → ∀ (yb5 : Int32) (yb7 : Int32), rn_s n2 138 (79, [some (.ref 1), some (.int b1), some (.int b2), some (.ref B3), some (.ref B4), some (.int yb5), some (.int b6), some (.int yb7)], [], aa_H g) v h → P (.inl (yb5, yb7))) (hR : ∀ E, iw_s v h E → P (.inr (.inr E))) (hB3 : ct_tw B3) (hB4 : ct_tw B4) (r : rn_s n 138 (127, [some (.ref 1), some (.int b1), some (.int b2), some (.ref B3), some (.ref B4), some (.int b5), some (.int b6), some (.int b7)], [], aa_H g) v h) : P (fn_138_127 g b1 b2 B3 B4 b5 b6 b7) := by
  unfold fn_138_127
  obtain ⟨n59, ln59, r⟩ := rn_steps 1 (79, [some (.ref 1), some (.int b1), some (.int b2), some (.ref B3), some (.ref B4), some (.int b5), some (.int b6), some (.int (b7 + 1))], [], aa_H g) rfl r
  exact hO1 _ (by omega) b5 (b7 + 1) r
noncomputable def fn_138_79b (g : aa_G) (b1 : Int32) (b2 : Int32) (B3 : Nat) (B4 : Nat) (b5 : Int32) (b6 : Int32) (b7 : Int32) : (Int32 × Int32) ⊕ ((aa_G × Int32 × Int32) ⊕ (Int32 × aa_G)) := if (g 463 0) ≤ b7 then .inr (.inl (g, b5, b6 + 1)) else if (fn_139 g 469 (((g 464 b7.toNatClampNeg) + (fn_94 g B3 B4)) - (b6 * 86400))) = 0 then fn_138_127 g b1 b2 B3 B4 b5 b6 b7 else fn_138_127 g b1 b2 B3 B4 (b5 + 1) b6 b7
noncomputable def fn_138_79 (g : aa_G) (b1 : Int32) (b2 : Int32) (B3 : Nat) (B4 : Nat) (b5 : Int32) (b6 : Int32) (b7 : Int32) : (aa_G × Int32 × Int32) ⊕ (Int32 × aa_G) := lp_f (.inr (0, g)) (fun z : (Int32 × Int32) => fn_138_79b g b1 b2 B3 B4 z.1 b6 z.2) (b5, b7)
theorem dn_138_79l {v : Option Value} {h : zz_H} {N : Nat} {g : aa_G} {b1 : Int32} {b2 : Int32} {B3 : Nat} {B4 : Nat} {b6 : Int32} (P : (aa_G × Int32 × Int32) ⊕ (Int32 × aa_G) → Prop) (hO0 : ∀ n2, n2 < N → ∀ (yg : aa_G) (yb5 : Int32) (yb6 : Int32) (yx7 : Option Value) (_ : rn_jk yx7), rn_s n2 138 (52, [some (.ref 1), some (.int b1), some (.int b2), some (.ref B3), some (.ref B4), some (.int yb5), some (.int yb6), yx7], [], aa_H yg) v h → P (.inl (yg, yb5, yb6))) (hR : ∀ E, iw_s v h E → P (.inr E)) (hB3 : ct_tw B3) (hB4 : ct_tw B4) {d : (aa_G × Int32 × Int32) ⊕ (Int32 × aa_G)} : ∀ (n : Nat), n ≤ N → ∀ (b5 : Int32) (b7 : Int32), rn_s n 138 (79, [some (.ref 1), some (.int b1), some (.int b2), some (.ref B3), some (.ref B4), some (.int b5), some (.int b6), some (.int b7)], [], aa_H g) v h → P (lp_f d (fun z : (Int32 × Int32) => fn_138_79b g b1 b2 B3 B4 z.1 b6 z.2) (b5, b7)) := by
  generalize hf : (fun z : (Int32 × Int32) => fn_138_79b g b1 b2 B3 B4 z.1 b6 z.2) = f
  intro n
  induction n using Nat.strongRecOn with
  | _ n ih =>
    intro hN b5 b7  r
    refine lp_go ?_
    rw [← congrFun hf (b5, b7)]
    show lp_q P d f (fn_138_79b g b1 b2 B3 B4 b5 b6 b7)
    unfold fn_138_79b
    obtain ⟨n43, ln43, r⟩ := rn_steps 3 (88, [some (.ref 1), some (.int b1), some (.int b2), some (.ref B3), some (.ref B4), some (.int b5), some (.int b6), some (.int b7)], [.int (g 463 0), .int b7], aa_H g) rfl r
    refine rn_ic (lp_q P d f) rfl decide_eq_true_iff.symm r (fun c44 l45n l45 r => ?_) (fun c44 l45n l45 r => ?_)
    · obtain ⟨n46, ln46, r⟩ := rn_steps 1 (52, [some (.ref 1), some (.int b1), some (.int b2), some (.ref B3), some (.ref B4), some (.int b5), some (.int (b6 + 1)), some (.int b7)], [], aa_H g) rfl r
      exact hO0 _ (by omega) g b5 (b6 + 1) (some (.int b7)) rn_ji r
    · obtain ⟨n47, ln47, r⟩ := rn_steps 5 (104, [some (.ref 1), some (.int b1), some (.int b2), some (.ref B3), some (.ref B4), some (.int b5), some (.int b6), some (.int b7)], [.int b7, .ref 464, .ref 469], aa_H g) rfl r
      obtain ⟨hb49, n48, ln48, r⟩ := rn_ial (k := 464) rfl ⟨by decide, by decide⟩ rfl r
      have r : rn_s _ 138 (105, [some (.ref 1), some (.int b1), some (.int b2), some (.ref B3), some (.ref B4), some (.int b5), some (.int b6), some (.int b7)], [.int (g 464 b7.toNatClampNeg), .ref 469], aa_H g) v h := r
      obtain ⟨n50, ln50, r⟩ := rn_steps 1 (108, [some (.ref 1), some (.int b1), some (.int b2), some (.ref B3), some (.ref B4), some (.int b5), some (.int b6), some (.int b7)], [.ref B4, .ref B3, .int (g 464 b7.toNatClampNeg), .ref 469], aa_H g) rfl r
      obtain ⟨_, n51, v1, h1, -, ln51, rc, r⟩ := rn_call (m2 := 94) (as := [.ref B3, .ref B4]) (rest := [.int (g 464 b7.toNatClampNeg), .ref 469]) rfl rfl r
      obtain ⟨rfl, rfl⟩ := dn_94 hB3 hB4 rc
      have r : rn_s _ 138 (111, [some (.ref 1), some (.int b1), some (.int b2), some (.ref B3), some (.ref B4), some (.int b5), some (.int b6), some (.int b7)], [.int (fn_94 g B3 B4), .int (g 464 b7.toNatClampNeg), .ref 469], aa_H g) v h := r
      obtain ⟨n53, ln53, r⟩ := rn_steps 4 (118, [some (.ref 1), some (.int b1), some (.int b2), some (.ref B3), some (.ref B4), some (.int b5), some (.int b6), some (.int b7)], [.int (((g 464 b7.toNatClampNeg) + (fn_94 g B3 B4)) - (b6 * 86400)), .ref 469], aa_H g) rfl r
      obtain ⟨_, n54, v1, h1, -, ln54, rc, r⟩ := rn_call (m2 := 139) (as := [.ref 469, .int (((g 464 b7.toNatClampNeg) + (fn_94 g B3 B4)) - (b6 * 86400))]) (rest := []) rfl rfl r
      obtain ⟨rfl, rfl⟩ := dn_139 rg_c469 rc
      have r : rn_s _ 138 (121, [some (.ref 1), some (.int b1), some (.int b2), some (.ref B3), some (.ref B4), some (.int b5), some (.int b6), some (.int b7)], [.int (fn_139 g 469 (((g 464 b7.toNatClampNeg) + (fn_94 g B3 B4)) - (b6 * 86400)))], aa_H g) v h := r
      refine rn_if (lp_q P d f) rfl decide_eq_true_iff.symm r (fun c56 l57n l57 r => ?_) (fun c56 l57n l57 r => ?_)
      · exact dn_138_127 (lp_q P d f) (fun n2 l2 => hO0 n2 (by omega)) (fun n2 l2 => ih n2 (by omega) (by omega)) (fun z hz => hR _ hz) hB3 hB4 r
      · obtain ⟨n58, ln58, r⟩ := rn_steps 0 (127, [some (.ref 1), some (.int b1), some (.int b2), some (.ref B3), some (.ref B4), some (.int (b5 + 1)), some (.int b6), some (.int b7)], [], aa_H g) rfl r
        exact dn_138_127 (lp_q P d f) (fun n2 l2 => hO0 n2 (by omega)) (fun n2 l2 => ih n2 (by omega) (by omega)) (fun z hz => hR _ hz) hB3 hB4 r
theorem dn_138_79 {v : Option Value} {h : zz_H} {n : Nat} {g : aa_G} {b1 : Int32} {b2 : Int32} {B3 : Nat} {B4 : Nat} {b5 : Int32} {b6 : Int32} {b7 : Int32} (P : (aa_G × Int32 × Int32) ⊕ (Int32 × aa_G) → Prop) (hO0 : ∀ n2, n2 < n → ∀ (yg : aa_G) (yb5 : Int32) (yb6 : Int32) (yx7 : Option Value) (_ : rn_jk yx7), rn_s n2 138 (52, [some (.ref 1), some (.int b1), some (.int b2), some (.ref B3), some (.ref B4), some (.int yb5), some (.int yb6), yx7], [], aa_H yg) v h → P (.inl (yg, yb5, yb6))) (hR : ∀ E, iw_s v h E → P (.inr E)) (hB3 : ct_tw B3) (hB4 : ct_tw B4) (r : rn_s n 138 (79, [some (.ref 1), some (.int b1), some (.int b2), some (.ref B3), some (.ref B4), some (.int b5), some (.int b6), some (.int b7)], [], aa_H g) v h) : P (fn_138_79 g b1 b2 B3 B4 b5 b6 b7) := dn_138_79l P hO0 hR hB3 hB4 n (Nat.le_refl n) b5 b7 r
noncomputable def fn_138_76 (g : aa_G) (b1 : Int32) (b2 : Int32) (B3 : Nat) (B4 : Nat) (b5 : Int32) (b6 : Int32) : (aa_G × Int32 × Int32) ⊕ (Int32 × aa_G) := fn_138_79 g b1 b2 B3 B4 b5 b6 0
theorem dn_138_76 {v : Option Value} {h : zz_H} {n : Nat} {g : aa_G} {b1 : Int32} {b2 : Int32} {B3 : Nat} {B4 : Nat} {b5 : Int32} {b6 : Int32} (P : (aa_G × Int32 × Int32) ⊕ (Int32 × aa_G) → Prop) (hO0 : ∀ n2, n2 < n → ∀ (yg : aa_G) (yb5 : Int32) (yb6 : Int32) (yx7 : Option Value) (_ : rn_jk yx7), rn_s n2 138 (52, [some (.ref 1), some (.int b1), some (.int b2), some (.ref B3), some (.ref B4), some (.int yb5), some (.int yb6), yx7], [], aa_H yg) v h → P (.inl (yg, yb5, yb6))) (hR : ∀ E, iw_s v h E → P (.inr E)) (hB3 : ct_tw B3) (hB4 : ct_tw B4) (x7 : Option Value) (jx7 : rn_jk x7) (r : rn_s n 138 (76, [some (.ref 1), some (.int b1), some (.int b2), some (.ref B3), some (.ref B4), some (.int b5), some (.int b6), x7], [], aa_H g) v h) : P (fn_138_76 g b1 b2 B3 B4 b5 b6) := by
  unfold fn_138_76
  obtain ⟨n42, ln42, r⟩ := rn_steps 1 (79, [some (.ref 1), some (.int b1), some (.int b2), some (.ref B3), some (.ref B4), some (.int b5), some (.int b6), some (.int 0)], [], aa_H g) rfl r
  exact dn_138_79 (P) (fun n2 l2 => hO0 n2 (by omega)) (fun z hz => hR _ hz) hB3 hB4 r
noncomputable def fn_138_52b (g : aa_G) (b1 : Int32) (b2 : Int32) (B3 : Nat) (B4 : Nat) (b5 : Int32) (b6 : Int32) : (aa_G × Int32 × Int32) ⊕ (Int32 × aa_G) := if 1 < b6 then .inr (b5, g) else fn_138_76 (fn_103 g 469 (b1 - b1 / 4 * 4) (b2 + b6)) b1 b2 B3 B4 b5 b6
noncomputable def fn_138_52 (g : aa_G) (b1 : Int32) (b2 : Int32) (B3 : Nat) (B4 : Nat) (b5 : Int32) (b6 : Int32) : Int32 × aa_G := lp_f (0, g) (fun z : (aa_G × Int32 × Int32) => fn_138_52b z.1 b1 b2 B3 B4 z.2.1 z.2.2) (g, b5, b6)
theorem dn_138_52l {v : Option Value} {h : zz_H} {N : Nat} {b1 : Int32} {b2 : Int32} {B3 : Nat} {B4 : Nat} (hB3 : ct_tw B3) (hB4 : ct_tw B4) {d : Int32 × aa_G} : ∀ (n : Nat), n ≤ N → ∀ (g : aa_G) (b5 : Int32) (b6 : Int32) (x7 : Option Value) (jx7 : rn_jk x7), rn_s n 138 (52, [some (.ref 1), some (.int b1), some (.int b2), some (.ref B3), some (.ref B4), some (.int b5), some (.int b6), x7], [], aa_H g) v h → (iw_s v h) (lp_f d (fun z : (aa_G × Int32 × Int32) => fn_138_52b z.1 b1 b2 B3 B4 z.2.1 z.2.2) (g, b5, b6)) := by
  generalize hf : (fun z : (aa_G × Int32 × Int32) => fn_138_52b z.1 b1 b2 B3 B4 z.2.1 z.2.2) = f
  intro n
  induction n using Nat.strongRecOn with
  | _ n ih =>
    intro hN g b5 b6 x7 jx7 r
    refine lp_go ?_
    rw [← congrFun hf (g, b5, b6)]
    show lp_q (iw_s v h) d f (fn_138_52b g b1 b2 B3 B4 b5 b6)
    unfold fn_138_52b
    obtain ⟨n35, ln35, r⟩ := rn_steps 1 (55, [some (.ref 1), some (.int b1), some (.int b2), some (.ref B3), some (.ref B4), some (.int b5), some (.int b6), x7], [.int 1, .int b6], aa_H g) rfl r
    refine rn_ic (lp_q (iw_s v h) d f) rfl decide_eq_true_iff.symm r (fun c36 l37n l37 r => ?_) (fun c36 l37n l37 r => ?_)
    · obtain ⟨n38, ln38, r⟩ := rn_steps 0 (141, [some (.ref 1), some (.int b1), some (.int b2), some (.ref B3), some (.ref B4), some (.int b5), some (.int b6), x7], [.int b5], aa_H g) rfl r
      exact rn_ire rfl r
    · obtain ⟨n39, ln39, r⟩ := rn_steps 9 (73, [some (.ref 1), some (.int b1), some (.int b2), some (.ref B3), some (.ref B4), some (.int b5), some (.int b6), x7], [.int (b2 + b6), .int (b1 - b1 / 4 * 4), .ref 2, .ref 469], aa_H g) rfl r
      obtain ⟨_, n40, v1, h1, -, ln40, rc, r⟩ := rn_call (m2 := 103) (as := [.ref 469, .ref 2, .int (b1 - b1 / 4 * 4), .int (b2 + b6)]) (rest := []) rfl rfl r
      obtain ⟨rfl, rfl⟩ := dn_103 rg_c469 rc
      have r : rn_s _ 138 (76, [some (.ref 1), some (.int b1), some (.int b2), some (.ref B3), some (.ref B4), some (.int b5), some (.int b6), x7], [], aa_H (fn_103 g 469 (b1 - b1 / 4 * 4) (b2 + b6))) v h := r
      exact dn_138_76 (lp_q (iw_s v h) d f) (fun n2 l2 => ih n2 (by omega) (by omega)) (fun z hz => hz) hB3 hB4 x7 jx7 r
theorem dn_138_52 {v : Option Value} {h : zz_H} {n : Nat} {g : aa_G} {b1 : Int32} {b2 : Int32} {B3 : Nat} {B4 : Nat} {b5 : Int32} {b6 : Int32} (hB3 : ct_tw B3) (hB4 : ct_tw B4) (x7 : Option Value) (jx7 : rn_jk x7) (r : rn_s n 138 (52, [some (.ref 1), some (.int b1), some (.int b2), some (.ref B3), some (.ref B4), some (.int b5), some (.int b6), x7], [], aa_H g) v h) : (iw_s v h) (fn_138_52 g b1 b2 B3 B4 b5 b6) := dn_138_52l hB3 hB4 n (Nat.le_refl n) g b5 b6 x7 jx7 r
noncomputable def fn_138_46 (g : aa_G) (b1 : Int32) (b2 : Int32) (B3 : Nat) (B4 : Nat) : Int32 × aa_G := fn_138_52 g b1 b2 B3 B4 0 (-1)
theorem dn_138_46 {v : Option Value} {h : zz_H} {n : Nat} {g : aa_G} {b1 : Int32} {b2 : Int32} {B3 : Nat} {B4 : Nat} (hB3 : ct_tw B3) (hB4 : ct_tw B4) (x5 x6 x7 : Option Value) (jx5 : rn_jk x5) (jx6 : rn_jk x6) (jx7 : rn_jk x7) (r : rn_s n 138 (46, [some (.ref 1), some (.int b1), some (.int b2), some (.ref B3), some (.ref B4), x5, x6, x7], [], aa_H g) v h) : iw_s v h (fn_138_46 g b1 b2 B3 B4) := by
  unfold fn_138_46
  obtain ⟨n34, ln34, r⟩ := rn_steps 3 (52, [some (.ref 1), some (.int b1), some (.int b2), some (.ref B3), some (.ref B4), some (.int 0), some (.int (-1)), x7], [], aa_H g) rfl r
  exact dn_138_52 hB3 hB4 x7 jx7 r
noncomputable def fn_138 (g : aa_G) (a1 : Int32) (a2 : Int32) : Int32 × aa_G := (match fn_133 g a1 with | none => ((match fn_134 g a1 with | none => ((-1, g)) | some W13 => ((-1, g)))) | some W6 => ((match fn_134 g a1 with | none => ((-1, g)) | some W22 => (if (fn_77 a2) ≠ 0 then fn_138_46 (fn_103 g 463 (a1 / 4) a2) a1 a2 W6 W22 else (-1, g)))))
theorem dn_138 {v : Option Value} {h : zz_H} {n : Nat} {g : aa_G} {a1 : Int32} {a2 : Int32}  (r : rn_s n 138 (0, zz_in [.ref 1, .int a1, .int a2] (zz_nl 138), [], aa_H g) v h) : iw_s v h (fn_138 g a1 a2) := by
  have r : rn_s n 138 (0, [some (.ref 1), some (.int a1), some (.int a2), none, none, none, none, none], [], aa_H g) v h := r
  unfold fn_138
  obtain ⟨n1, ln1, r⟩ := rn_steps 1 (2, [some (.ref 1), some (.int a1), some (.int a2), none, none, none, none, none], [.int a1, .ref 1], aa_H g) rfl r
  obtain ⟨_, n2, v1, h1, -, ln2, rc, r⟩ := rn_call (m2 := 133) (as := [.ref 1, .int a1]) (rest := []) rfl rfl r
  obtain ⟨rfl, rfl, ho4⟩ := dn_133 rc
  have r : rn_s _ 138 (5, [some (.ref 1), some (.int a1), some (.int a2), none, none, none, none, none], [zz_val (fn_133 g a1)], aa_H g) v h := r
  cases e5 : fn_133 g a1 with
  | none =>
    rw [e5] at r
    have r : rn_s _ 138 (5, [some (.ref 1), some (.int a1), some (.int a2), none, none, none, none, none], [.null], aa_H g) v h := r
    dsimp only
    obtain ⟨n8, ln8, r⟩ := rn_steps 2 (8, [some (.ref 1), some (.int a1), some (.int a2), some (.null), none, none, none, none], [.int a1, .ref 1], aa_H g) rfl r
    obtain ⟨_, n9, v1, h1, -, ln9, rc, r⟩ := rn_call (m2 := 134) (as := [.ref 1, .int a1]) (rest := []) rfl rfl r
    obtain ⟨rfl, rfl, ho11⟩ := dn_134 rc
    have r : rn_s _ 138 (11, [some (.ref 1), some (.int a1), some (.int a2), some (.null), none, none, none, none], [zz_val (fn_134 g a1)], aa_H g) v h := r
    cases e12 : fn_134 g a1 with
    | none =>
      rw [e12] at r
      have r : rn_s _ 138 (11, [some (.ref 1), some (.int a1), some (.int a2), some (.null), none, none, none, none], [.null], aa_H g) v h := r
      dsimp only
      obtain ⟨n15, ln15, r⟩ := rn_steps 3 (30, [some (.ref 1), some (.int a1), some (.int a2), some (.null), some (.null), none, none, none], [.int (-1)], aa_H g) rfl r
      exact rn_ire rfl r
    | some W13 =>
      rw [e12] at r
      have hw14 : ct_tw W13 := ho11 _ e12
      have r : rn_s _ 138 (11, [some (.ref 1), some (.int a1), some (.int a2), some (.null), none, none, none, none], [.ref W13], aa_H g) v h := r
      dsimp only
      obtain ⟨n16, ln16, r⟩ := rn_steps 3 (30, [some (.ref 1), some (.int a1), some (.int a2), some (.null), some (.ref W13), none, none, none], [.int (-1)], aa_H g) rfl r
      exact rn_ire rfl r
  | some W6 =>
    rw [e5] at r
    have hw7 : ct_tw W6 := ho4 _ e5
    have r : rn_s _ 138 (5, [some (.ref 1), some (.int a1), some (.int a2), none, none, none, none, none], [.ref W6], aa_H g) v h := r
    dsimp only
    obtain ⟨n17, ln17, r⟩ := rn_steps 2 (8, [some (.ref 1), some (.int a1), some (.int a2), some (.ref W6), none, none, none, none], [.int a1, .ref 1], aa_H g) rfl r
    obtain ⟨_, n18, v1, h1, -, ln18, rc, r⟩ := rn_call (m2 := 134) (as := [.ref 1, .int a1]) (rest := []) rfl rfl r
    obtain ⟨rfl, rfl, ho20⟩ := dn_134 rc
    have r : rn_s _ 138 (11, [some (.ref 1), some (.int a1), some (.int a2), some (.ref W6), none, none, none, none], [zz_val (fn_134 g a1)], aa_H g) v h := r
    cases e21 : fn_134 g a1 with
    | none =>
      rw [e21] at r
      have r : rn_s _ 138 (11, [some (.ref 1), some (.int a1), some (.int a2), some (.ref W6), none, none, none, none], [.null], aa_H g) v h := r
      dsimp only
      obtain ⟨n24, ln24, r⟩ := rn_steps 5 (30, [some (.ref 1), some (.int a1), some (.int a2), some (.ref W6), some (.null), none, none, none], [.int (-1)], aa_H g) rfl r
      exact rn_ire rfl r
    | some W22 =>
      rw [e21] at r
      have hw23 : ct_tw W22 := ho20 _ e21
      have r : rn_s _ 138 (11, [some (.ref 1), some (.int a1), some (.int a2), some (.ref W6), none, none, none, none], [.ref W22], aa_H g) v h := r
      dsimp only
      obtain ⟨n25, ln25, r⟩ := rn_steps 5 (23, [some (.ref 1), some (.int a1), some (.int a2), some (.ref W6), some (.ref W22), none, none, none], [.int a2], aa_H g) rfl r
      obtain ⟨_, n26, v1, h1, -, ln26, rc, r⟩ := rn_call (m2 := 77) (as := [.int a2]) (rest := []) rfl rfl r
      obtain ⟨rfl, rfl⟩ := dn_77 rc
      have r : rn_s _ 138 (26, [some (.ref 1), some (.int a1), some (.int a2), some (.ref W6), some (.ref W22), none, none, none], [.int (fn_77 a2)], aa_H g) v h := r
      refine rn_if (iw_s v h) rfl decide_eq_true_iff.symm r (fun c28 l29n l29 r => ?_) (fun c28 l29n l29 r => ?_)
      · obtain ⟨n30, ln30, r⟩ := rn_steps 7 (43, [some (.ref 1), some (.int a1), some (.int a2), some (.ref W6), some (.ref W22), none, none, none], [.int a2, .int (a1 / 4), .ref 2, .ref 463], aa_H g) rfl r
        obtain ⟨_, n31, v1, h1, -, ln31, rc, r⟩ := rn_call (m2 := 103) (as := [.ref 463, .ref 2, .int (a1 / 4), .int a2]) (rest := []) rfl rfl r
        obtain ⟨rfl, rfl⟩ := dn_103 rg_c463 rc
        have r : rn_s _ 138 (46, [some (.ref 1), some (.int a1), some (.int a2), some (.ref W6), some (.ref W22), none, none, none], [], aa_H (fn_103 g 463 (a1 / 4) a2)) v h := r
        exact dn_138_46 hw7 hw23 none none none rn_jn rn_jn rn_jn r
      · obtain ⟨n33, ln33, r⟩ := rn_steps 0 (30, [some (.ref 1), some (.int a1), some (.int a2), some (.ref W6), some (.ref W22), none, none, none], [.int (-1)], aa_H g) rfl r
        exact rn_ire rfl r
-- 102: UnequalHours ring
noncomputable def fn_102_37 (g : aa_G) (b3 : Int32) (b4 : Int32) : Int32 × aa_G := if b3 ≠ (-1) then if (fn_14 b3 0 ((g 463 0) - 1)) ≠ 0 then if b4.toInt = 0 then (g 464 b3.toNatClampNeg, g) else if b4.toInt = 1 then (g 465 b3.toNatClampNeg, g) else if b4.toInt = 2 then (fn_111 g (g 465 b3.toNatClampNeg), g) else (-1, g) else (-1, g) else (g 463 0, g)
theorem dn_102_37 {v : Option Value} {h : zz_H} {n : Nat} {g : aa_G} {b3 : Int32} {b4 : Int32}  (x1 x2 x5 : Option Value) (jx1 : rn_jk x1) (jx2 : rn_jk x2) (jx5 : rn_jk x5) (r : rn_s n 102 (37, [some (.ref 1), x1, x2, some (.int b3), some (.int b4), x5], [], aa_H g) v h) : iw_s v h (fn_102_37 g b3 b4) := by
  unfold fn_102_37
  obtain ⟨n18, ln18, r⟩ := rn_steps 1 (39, [some (.ref 1), x1, x2, some (.int b3), some (.int b4), x5], [.int (-1), .int b3], aa_H g) rfl r
  refine rn_ic (iw_s v h) rfl decide_eq_true_iff.symm r (fun c19 l20n l20 r => ?_) (fun c19 l20n l20 r => ?_)
  · obtain ⟨n21, ln21, r⟩ := rn_steps 6 (61, [some (.ref 1), x1, x2, some (.int b3), some (.int b4), x5], [.int ((g 463 0) - 1), .int 0, .int b3], aa_H g) rfl r
    obtain ⟨_, n22, v1, h1, -, ln22, rc, r⟩ := rn_call (m2 := 14) (as := [.int b3, .int 0, .int ((g 463 0) - 1)]) (rest := []) rfl rfl r
    obtain ⟨rfl, rfl⟩ := dn_14 rc
    have r : rn_s _ 102 (64, [some (.ref 1), x1, x2, some (.int b3), some (.int b4), x5], [.int (fn_14 b3 0 ((g 463 0) - 1))], aa_H g) v h := r
    refine rn_if (iw_s v h) rfl decide_eq_true_iff.symm r (fun c24 l25n l25 r => ?_) (fun c24 l25n l25 r => ?_)
    · obtain ⟨n26, ln26, r⟩ := rn_steps 0 (71, [some (.ref 1), x1, x2, some (.int b3), some (.int b4), x5], [.int b4], aa_H g) rfl r
      obtain ⟨n27, ln27, r⟩ := rn_swi rfl r
      refine rn_sw1 (iw_s v h) r (fun c28 r => ?_) (fun c28 r => ?_)
      · have r : rn_s _ 102 (96, [some (.ref 1), x1, x2, some (.int b3), some (.int b4), x5], [], aa_H g) v h := r
        obtain ⟨n29, ln29, r⟩ := rn_steps 3 (104, [some (.ref 1), x1, x2, some (.int b3), some (.int b4), x5], [.int b3, .ref 464], aa_H g) rfl r
        obtain ⟨hb31, n30, ln30, r⟩ := rn_ial (k := 464) rfl ⟨by decide, by decide⟩ rfl r
        have r : rn_s _ 102 (105, [some (.ref 1), x1, x2, some (.int b3), some (.int b4), x5], [.int (g 464 b3.toNatClampNeg)], aa_H g) v h := r
        exact rn_ire rfl r
      · refine rn_sw1 (iw_s v h) r (fun c32 r => ?_) (fun c32 r => ?_)
        · have r : rn_s _ 102 (106, [some (.ref 1), x1, x2, some (.int b3), some (.int b4), x5], [], aa_H g) v h := r
          obtain ⟨n33, ln33, r⟩ := rn_steps 3 (114, [some (.ref 1), x1, x2, some (.int b3), some (.int b4), x5], [.int b3, .ref 465], aa_H g) rfl r
          obtain ⟨hb35, n34, ln34, r⟩ := rn_ial (k := 465) rfl ⟨by decide, by decide⟩ rfl r
          have r : rn_s _ 102 (115, [some (.ref 1), x1, x2, some (.int b3), some (.int b4), x5], [.int (g 465 b3.toNatClampNeg)], aa_H g) v h := r
          exact rn_ire rfl r
        · refine rn_sw1 (iw_s v h) r (fun c36 r => ?_) (fun c36 r => ?_)
          · have r : rn_s _ 102 (116, [some (.ref 1), x1, x2, some (.int b3), some (.int b4), x5], [], aa_H g) v h := r
            obtain ⟨n37, ln37, r⟩ := rn_steps 6 (131, [some (.ref 1), x1, x2, some (.int b3), some (.int b4), x5], [.int b3, .ref 465, .ref 4], aa_H g) rfl r
            obtain ⟨hb39, n38, ln38, r⟩ := rn_ial (k := 465) rfl ⟨by decide, by decide⟩ rfl r
            have r : rn_s _ 102 (132, [some (.ref 1), x1, x2, some (.int b3), some (.int b4), x5], [.int (g 465 b3.toNatClampNeg), .ref 4], aa_H g) v h := r
            obtain ⟨_, n40, v1, h1, -, ln40, rc, r⟩ := rn_call (m2 := 111) (as := [.ref 4, .int (g 465 b3.toNatClampNeg)]) (rest := []) rfl rfl r
            obtain ⟨rfl, rfl⟩ := dn_111 rc
            have r : rn_s _ 102 (135, [some (.ref 1), x1, x2, some (.int b3), some (.int b4), x5], [.int (fn_111 g (g 465 b3.toNatClampNeg))], aa_H g) v h := r
            exact rn_ire rfl r
          · have r : rn_s _ 102 (136, [some (.ref 1), x1, x2, some (.int b3), some (.int b4), x5], [], aa_H g) v h := r
            obtain ⟨n42, ln42, r⟩ := rn_steps 0 (137, [some (.ref 1), x1, x2, some (.int b3), some (.int b4), x5], [.int (-1)], aa_H g) rfl r
            exact rn_ire rfl r
    · obtain ⟨n43, ln43, r⟩ := rn_steps 0 (68, [some (.ref 1), x1, x2, some (.int b3), some (.int b4), x5], [.int (-1)], aa_H g) rfl r
      exact rn_ire rfl r
  · obtain ⟨n44, ln44, r⟩ := rn_steps 2 (49, [some (.ref 1), x1, x2, some (.int b3), some (.int b4), x5], [.int (g 463 0)], aa_H g) rfl r
    exact rn_ire rfl r
noncomputable def fn_102 (g : aa_G) (a1 : Int32) (a2 : Int32) (a3 : Int32) (a4 : Int32) : Int32 × aa_G := (match fn_31 g a1 with | none => ((-1, g)) | some W6 => (if (fn_77 a2) ≠ 0 then fn_102_37 (fn_103 g 463 a1 a2) a3 a4 else (-1, g)))
theorem dn_102 {v : Option Value} {h : zz_H} {n : Nat} {g : aa_G} {a1 : Int32} {a2 : Int32} {a3 : Int32} {a4 : Int32}  (r : rn_s n 102 (0, zz_in [.ref 1, .int a1, .int a2, .int a3, .int a4] (zz_nl 102), [], aa_H g) v h) : iw_s v h (fn_102 g a1 a2 a3 a4) := by
  have r : rn_s n 102 (0, [some (.ref 1), some (.int a1), some (.int a2), some (.int a3), some (.int a4), none], [], aa_H g) v h := r
  unfold fn_102
  obtain ⟨n1, ln1, r⟩ := rn_steps 2 (5, [some (.ref 1), some (.int a1), some (.int a2), some (.int a3), some (.int a4), none], [.int a1, .ref 2], aa_H g) rfl r
  obtain ⟨_, n2, v1, h1, -, ln2, rc, r⟩ := rn_call (m2 := 31) (as := [.ref 2, .int a1]) (rest := []) rfl rfl r
  obtain ⟨rfl, rfl, ho4⟩ := dn_31 rc
  have r : rn_s _ 102 (8, [some (.ref 1), some (.int a1), some (.int a2), some (.int a3), some (.int a4), none], [zz_val (fn_31 g a1)], aa_H g) v h := r
  cases e5 : fn_31 g a1 with
  | none =>
    rw [e5] at r
    have r : rn_s _ 102 (8, [some (.ref 1), some (.int a1), some (.int a2), some (.int a3), some (.int a4), none], [.null], aa_H g) v h := r
    dsimp only
    obtain ⟨n8, ln8, r⟩ := rn_steps 3 (23, [some (.ref 1), some (.int a1), some (.int a2), some (.int a3), some (.int a4), some (.null)], [.int (-1)], aa_H g) rfl r
    exact rn_ire rfl r
  | some W6 =>
    rw [e5] at r
    have hw7 : ct_tw W6 := ho4 _ e5
    have r : rn_s _ 102 (8, [some (.ref 1), some (.int a1), some (.int a2), some (.int a3), some (.int a4), none], [.ref W6], aa_H g) v h := r
    dsimp only
    obtain ⟨n9, ln9, r⟩ := rn_steps 3 (16, [some (.ref 1), some (.int a1), some (.int a2), some (.int a3), some (.int a4), some (.ref W6)], [.int a2], aa_H g) rfl r
    obtain ⟨_, n10, v1, h1, -, ln10, rc, r⟩ := rn_call (m2 := 77) (as := [.int a2]) (rest := []) rfl rfl r
    obtain ⟨rfl, rfl⟩ := dn_77 rc
    have r : rn_s _ 102 (19, [some (.ref 1), some (.int a1), some (.int a2), some (.int a3), some (.int a4), some (.ref W6)], [.int (fn_77 a2)], aa_H g) v h := r
    refine rn_if (iw_s v h) rfl decide_eq_true_iff.symm r (fun c12 l13n l13 r => ?_) (fun c12 l13n l13 r => ?_)
    · obtain ⟨n14, ln14, r⟩ := rn_steps 5 (34, [some (.ref 1), some (.int a1), some (.int a2), some (.int a3), some (.int a4), some (.ref W6)], [.int a2, .int a1, .ref 2, .ref 463], aa_H g) rfl r
      obtain ⟨_, n15, v1, h1, -, ln15, rc, r⟩ := rn_call (m2 := 103) (as := [.ref 463, .ref 2, .int a1, .int a2]) (rest := []) rfl rfl r
      obtain ⟨rfl, rfl⟩ := dn_103 rg_c463 rc
      have r : rn_s _ 102 (37, [some (.ref 1), some (.int a1), some (.int a2), some (.int a3), some (.int a4), some (.ref W6)], [], aa_H (fn_103 g 463 a1 a2)) v h := r
      exact dn_102_37 (some (.int a1)) (some (.int a2)) (some (.ref W6)) rn_ji rn_ji rn_jr r
    · obtain ⟨n17, ln17, r⟩ := rn_steps 0 (23, [some (.ref 1), some (.int a1), some (.int a2), some (.int a3), some (.int a4), some (.ref W6)], [.int (-1)], aa_H g) rfl r
      exact rn_ire rfl r
