section
/-! METHODS READ (printed by wip/dc/dc.py) -/
-- 112: UnequalHours strokes
noncomputable def fn_112_33 (g : aa_G)  : Int32 × aa_G := (fn_113 g 463, g)
theorem dn_112_33 {v : Option Value} {h : zz_H} {n : Nat} {g : aa_G}   (x1 x2 : Option Value) (jx1 : rn_jk x1) (jx2 : rn_jk x2) (r : rn_s n 112 (33, [some (.ref 1), x1, x2], [], aa_H g) v h) : iw_s v h (fn_112_33 g) := by
  unfold fn_112_33
  obtain ⟨n18, ln18, r⟩ := rn_steps 4 (44, [some (.ref 1), x1, x2], [.ref 4, .ref 463], aa_H g) rfl r
  obtain ⟨_, n19, v1, h1, -, ln19, rc, r⟩ := rn_call (m2 := 113) (as := [.ref 463, .ref 4]) (rest := []) rfl rfl r
  obtain ⟨rfl, rfl⟩ := dn_113 rg_c463 rc
  have r : rn_s _ 112 (47, [some (.ref 1), x1, x2], [.int (fn_113 g 463)], aa_H g) v h := r
  exact rn_ire rfl r
noncomputable def fn_112 (g : aa_G) (a1 : Int32) (a2 : Int32) : Int32 × aa_G := (match fn_31 g a1 with | none => ((-1, g)) | some W6 => (if (fn_77 a2) ≠ 0 then fn_112_33 (fn_103 g 463 a1 a2) else (-1, g)))
theorem dn_112 {v : Option Value} {h : zz_H} {n : Nat} {g : aa_G} {a1 : Int32} {a2 : Int32}  (r : rn_s n 112 (0, zz_in [.ref 1, .int a1, .int a2] (zz_nl 112), [], aa_H g) v h) : iw_s v h (fn_112 g a1 a2) := by
  have r : rn_s n 112 (0, [some (.ref 1), some (.int a1), some (.int a2)], [], aa_H g) v h := r
  unfold fn_112
  obtain ⟨n1, ln1, r⟩ := rn_steps 2 (5, [some (.ref 1), some (.int a1), some (.int a2)], [.int a1, .ref 2], aa_H g) rfl r
  obtain ⟨_, n2, v1, h1, -, ln2, rc, r⟩ := rn_call (m2 := 31) (as := [.ref 2, .int a1]) (rest := []) rfl rfl r
  obtain ⟨rfl, rfl, ho4⟩ := dn_31 rc
  have r : rn_s _ 112 (8, [some (.ref 1), some (.int a1), some (.int a2)], [zz_val (fn_31 g a1)], aa_H g) v h := r
  cases e5 : fn_31 g a1 with
  | none =>
    rw [e5] at r
    have r : rn_s _ 112 (8, [some (.ref 1), some (.int a1), some (.int a2)], [.null], aa_H g) v h := r
    dsimp only
    obtain ⟨n8, ln8, r⟩ := rn_steps 1 (19, [some (.ref 1), some (.int a1), some (.int a2)], [.int (-1)], aa_H g) rfl r
    exact rn_ire rfl r
  | some W6 =>
    rw [e5] at r
    have hw7 : ct_tw W6 := ho4 _ e5
    have r : rn_s _ 112 (8, [some (.ref 1), some (.int a1), some (.int a2)], [.ref W6], aa_H g) v h := r
    dsimp only
    obtain ⟨n9, ln9, r⟩ := rn_steps 1 (12, [some (.ref 1), some (.int a1), some (.int a2)], [.int a2], aa_H g) rfl r
    obtain ⟨_, n10, v1, h1, -, ln10, rc, r⟩ := rn_call (m2 := 77) (as := [.int a2]) (rest := []) rfl rfl r
    obtain ⟨rfl, rfl⟩ := dn_77 rc
    have r : rn_s _ 112 (15, [some (.ref 1), some (.int a1), some (.int a2)], [.int (fn_77 a2)], aa_H g) v h := r
    refine rn_if (iw_s v h) rfl decide_eq_true_iff.symm r (fun c12 l13n l13 r => ?_) (fun c12 l13n l13 r => ?_)
    · obtain ⟨n14, ln14, r⟩ := rn_steps 5 (30, [some (.ref 1), some (.int a1), some (.int a2)], [.int a2, .int a1, .ref 2, .ref 463], aa_H g) rfl r
      obtain ⟨_, n15, v1, h1, -, ln15, rc, r⟩ := rn_call (m2 := 103) (as := [.ref 463, .ref 2, .int a1, .int a2]) (rest := []) rfl rfl r
      obtain ⟨rfl, rfl⟩ := dn_103 rg_c463 rc
      have r : rn_s _ 112 (33, [some (.ref 1), some (.int a1), some (.int a2)], [], aa_H (fn_103 g 463 a1 a2)) v h := r
      exact dn_112_33 (some (.int a1)) (some (.int a2)) rn_ji rn_ji r
    · obtain ⟨n17, ln17, r⟩ := rn_steps 0 (19, [some (.ref 1), some (.int a1), some (.int a2)], [.int (-1)], aa_H g) rfl r
      exact rn_ire rfl r
-- 114: UnequalHours total
noncomputable def fn_114_66 (g : aa_G) (b1 : Int32) (b2 : Int32) (b3 : Int32) (b4 : Int32) (b5 : Int32) : (aa_G × Int32 × Int32) ⊕ (Int32 × aa_G) := .inl (g, b4 + (fn_113 g 463), b5 + 1)
theorem dn_114_66 {v : Option Value} {h : zz_H} {n : Nat} {g : aa_G} {b1 : Int32} {b2 : Int32} {b3 : Int32} {b4 : Int32} {b5 : Int32} (P : (aa_G × Int32 × Int32) ⊕ (Int32 × aa_G) → Prop) (hO0 : ∀ n2, n2 < n → ∀ (yg : aa_G) (yb4 : Int32) (yb5 : Int32), rn_s n2 114 (36, [some (.ref 1), some (.int b1), some (.int b2), some (.int b3), some (.int yb4), some (.int yb5)], [], aa_H yg) v h → P (.inl (yg, yb4, yb5))) (hR : ∀ E, iw_s v h E → P (.inr E))  (r : rn_s n 114 (66, [some (.ref 1), some (.int b1), some (.int b2), some (.int b3), some (.int b4), some (.int b5)], [], aa_H g) v h) : P (fn_114_66 g b1 b2 b3 b4 b5) := by
  unfold fn_114_66
  obtain ⟨n33, ln33, r⟩ := rn_steps 5 (79, [some (.ref 1), some (.int b1), some (.int b2), some (.int b3), some (.int b4), some (.int b5)], [.ref 4, .ref 463, .int b4], aa_H g) rfl r
  obtain ⟨_, n34, v1, h1, -, ln34, rc, r⟩ := rn_call (m2 := 113) (as := [.ref 463, .ref 4]) (rest := [.int b4]) rfl rfl r
  obtain ⟨rfl, rfl⟩ := dn_113 rg_c463 rc
  have r : rn_s _ 114 (82, [some (.ref 1), some (.int b1), some (.int b2), some (.int b3), some (.int b4), some (.int b5)], [.int (fn_113 g 463), .int b4], aa_H g) v h := r
  obtain ⟨n36, ln36, r⟩ := rn_steps 3 (36, [some (.ref 1), some (.int b1), some (.int b2), some (.int b3), some (.int (b4 + (fn_113 g 463))), some (.int (b5 + 1))], [], aa_H g) rfl r
  exact hO0 _ (by omega) g (b4 + (fn_113 g 463)) (b5 + 1) r
noncomputable def fn_114_36b (g : aa_G) (b1 : Int32) (b2 : Int32) (b3 : Int32) (b4 : Int32) (b5 : Int32) : (aa_G × Int32 × Int32) ⊕ (Int32 × aa_G) := if (b2 + b3) ≤ b5 then .inr (b4, g) else if 36000 ≤ b5 then .inr (b4, g) else fn_114_66 (fn_103 g 463 b1 b5) b1 b2 b3 b4 b5
noncomputable def fn_114_36 (g : aa_G) (b1 : Int32) (b2 : Int32) (b3 : Int32) (b4 : Int32) (b5 : Int32) : Int32 × aa_G := lp_f (0, g) (fun z : (aa_G × Int32 × Int32) => fn_114_36b z.1 b1 b2 b3 z.2.1 z.2.2) (g, b4, b5)
theorem dn_114_36l {v : Option Value} {h : zz_H} {N : Nat} {b1 : Int32} {b2 : Int32} {b3 : Int32} {d : Int32 × aa_G} : ∀ (n : Nat), n ≤ N → ∀ (g : aa_G) (b4 : Int32) (b5 : Int32), rn_s n 114 (36, [some (.ref 1), some (.int b1), some (.int b2), some (.int b3), some (.int b4), some (.int b5)], [], aa_H g) v h → (iw_s v h) (lp_f d (fun z : (aa_G × Int32 × Int32) => fn_114_36b z.1 b1 b2 b3 z.2.1 z.2.2) (g, b4, b5)) := by
  generalize hf : (fun z : (aa_G × Int32 × Int32) => fn_114_36b z.1 b1 b2 b3 z.2.1 z.2.2) = f
  intro n
  induction n using Nat.strongRecOn with
  | _ n ih =>
    intro hN g b4 b5  r
    refine lp_go ?_
    rw [← congrFun hf (g, b4, b5)]
    show lp_q (iw_s v h) d f (fn_114_36b g b1 b2 b3 b4 b5)
    unfold fn_114_36b
    obtain ⟨n22, ln22, r⟩ := rn_steps 3 (41, [some (.ref 1), some (.int b1), some (.int b2), some (.int b3), some (.int b4), some (.int b5)], [.int (b2 + b3), .int b5], aa_H g) rfl r
    refine rn_ic (lp_q (iw_s v h) d f) rfl decide_eq_true_iff.symm r (fun c23 l24n l24 r => ?_) (fun c23 l24n l24 r => ?_)
    · obtain ⟨n25, ln25, r⟩ := rn_steps 0 (93, [some (.ref 1), some (.int b1), some (.int b2), some (.int b3), some (.int b4), some (.int b5)], [.int b4], aa_H g) rfl r
      exact rn_ire rfl r
    · obtain ⟨n26, ln26, r⟩ := rn_steps 1 (49, [some (.ref 1), some (.int b1), some (.int b2), some (.int b3), some (.int b4), some (.int b5)], [.int 36000, .int b5], aa_H g) rfl r
      refine rn_ic (lp_q (iw_s v h) d f) rfl decide_eq_true_iff.symm r (fun c27 l28n l28 r => ?_) (fun c27 l28n l28 r => ?_)
      · obtain ⟨n29, ln29, r⟩ := rn_steps 0 (93, [some (.ref 1), some (.int b1), some (.int b2), some (.int b3), some (.int b4), some (.int b5)], [.int b4], aa_H g) rfl r
        exact rn_ire rfl r
      · obtain ⟨n30, ln30, r⟩ := rn_steps 5 (63, [some (.ref 1), some (.int b1), some (.int b2), some (.int b3), some (.int b4), some (.int b5)], [.int b5, .int b1, .ref 2, .ref 463], aa_H g) rfl r
        obtain ⟨_, n31, v1, h1, -, ln31, rc, r⟩ := rn_call (m2 := 103) (as := [.ref 463, .ref 2, .int b1, .int b5]) (rest := []) rfl rfl r
        obtain ⟨rfl, rfl⟩ := dn_103 rg_c463 rc
        have r : rn_s _ 114 (66, [some (.ref 1), some (.int b1), some (.int b2), some (.int b3), some (.int b4), some (.int b5)], [], aa_H (fn_103 g 463 b1 b5)) v h := r
        exact dn_114_66 (lp_q (iw_s v h) d f) (fun n2 l2 => ih n2 (by omega) (by omega)) (fun z hz => hz) r
theorem dn_114_36 {v : Option Value} {h : zz_H} {n : Nat} {g : aa_G} {b1 : Int32} {b2 : Int32} {b3 : Int32} {b4 : Int32} {b5 : Int32}  (r : rn_s n 114 (36, [some (.ref 1), some (.int b1), some (.int b2), some (.int b3), some (.int b4), some (.int b5)], [], aa_H g) v h) : (iw_s v h) (fn_114_36 g b1 b2 b3 b4 b5) := dn_114_36l  n (Nat.le_refl n) g b4 b5 r
noncomputable def fn_114 (g : aa_G) (a1 : Int32) (a2 : Int32) (a3 : Int32) : Int32 × aa_G := (match fn_31 g a1 with | none => ((-1, g)) | some W6 => (if (fn_77 a2) = 0 then (-1, g) else if (fn_14 a3 1 60) ≠ 0 then fn_114_36 g a1 a2 a3 0 a2 else (-1, g)))
theorem dn_114 {v : Option Value} {h : zz_H} {n : Nat} {g : aa_G} {a1 : Int32} {a2 : Int32} {a3 : Int32}  (r : rn_s n 114 (0, zz_in [.ref 1, .int a1, .int a2, .int a3] (zz_nl 114), [], aa_H g) v h) : iw_s v h (fn_114 g a1 a2 a3) := by
  have r : rn_s n 114 (0, [some (.ref 1), some (.int a1), some (.int a2), some (.int a3), none, none], [], aa_H g) v h := r
  unfold fn_114
  obtain ⟨n1, ln1, r⟩ := rn_steps 2 (5, [some (.ref 1), some (.int a1), some (.int a2), some (.int a3), none, none], [.int a1, .ref 2], aa_H g) rfl r
  obtain ⟨_, n2, v1, h1, -, ln2, rc, r⟩ := rn_call (m2 := 31) (as := [.ref 2, .int a1]) (rest := []) rfl rfl r
  obtain ⟨rfl, rfl, ho4⟩ := dn_31 rc
  have r : rn_s _ 114 (8, [some (.ref 1), some (.int a1), some (.int a2), some (.int a3), none, none], [zz_val (fn_31 g a1)], aa_H g) v h := r
  cases e5 : fn_31 g a1 with
  | none =>
    rw [e5] at r
    have r : rn_s _ 114 (8, [some (.ref 1), some (.int a1), some (.int a2), some (.int a3), none, none], [.null], aa_H g) v h := r
    dsimp only
    obtain ⟨n8, ln8, r⟩ := rn_steps 1 (29, [some (.ref 1), some (.int a1), some (.int a2), some (.int a3), none, none], [.int (-1)], aa_H g) rfl r
    exact rn_ire rfl r
  | some W6 =>
    rw [e5] at r
    have hw7 : ct_tw W6 := ho4 _ e5
    have r : rn_s _ 114 (8, [some (.ref 1), some (.int a1), some (.int a2), some (.int a3), none, none], [.ref W6], aa_H g) v h := r
    dsimp only
    obtain ⟨n9, ln9, r⟩ := rn_steps 1 (12, [some (.ref 1), some (.int a1), some (.int a2), some (.int a3), none, none], [.int a2], aa_H g) rfl r
    obtain ⟨_, n10, v1, h1, -, ln10, rc, r⟩ := rn_call (m2 := 77) (as := [.int a2]) (rest := []) rfl rfl r
    obtain ⟨rfl, rfl⟩ := dn_77 rc
    have r : rn_s _ 114 (15, [some (.ref 1), some (.int a1), some (.int a2), some (.int a3), none, none], [.int (fn_77 a2)], aa_H g) v h := r
    refine rn_if (iw_s v h) rfl decide_eq_true_iff.symm r (fun c12 l13n l13 r => ?_) (fun c12 l13n l13 r => ?_)
    · obtain ⟨n14, ln14, r⟩ := rn_steps 0 (29, [some (.ref 1), some (.int a1), some (.int a2), some (.int a3), none, none], [.int (-1)], aa_H g) rfl r
      exact rn_ire rfl r
    · obtain ⟨n15, ln15, r⟩ := rn_steps 2 (22, [some (.ref 1), some (.int a1), some (.int a2), some (.int a3), none, none], [.int 60, .int 1, .int a3], aa_H g) rfl r
      obtain ⟨_, n16, v1, h1, -, ln16, rc, r⟩ := rn_call (m2 := 14) (as := [.int a3, .int 1, .int 60]) (rest := []) rfl rfl r
      obtain ⟨rfl, rfl⟩ := dn_14 rc
      have r : rn_s _ 114 (25, [some (.ref 1), some (.int a1), some (.int a2), some (.int a3), none, none], [.int (fn_14 a3 1 60)], aa_H g) v h := r
      refine rn_if (iw_s v h) rfl decide_eq_true_iff.symm r (fun c18 l19n l19 r => ?_) (fun c18 l19n l19 r => ?_)
      · obtain ⟨n20, ln20, r⟩ := rn_steps 3 (36, [some (.ref 1), some (.int a1), some (.int a2), some (.int a3), some (.int 0), some (.int a2)], [], aa_H g) rfl r
        exact dn_114_36 r
      · obtain ⟨n21, ln21, r⟩ := rn_steps 0 (29, [some (.ref 1), some (.int a1), some (.int a2), some (.int a3), none, none], [.int (-1)], aa_H g) rfl r
        exact rn_ire rfl r
-- 115: UnequalHours soonest
noncomputable def fn_115_103 (g : aa_G) (b3 : Int32) : Int32 × aa_G := if (g 463 0) ≤ 0 then (-2, g) else ((86400 + (g 464 (0 : Int32).toNatClampNeg)) - b3, g)
theorem dn_115_103 {v : Option Value} {h : zz_H} {n : Nat} {g : aa_G} {b3 : Int32}  (x1 x2 x4 : Option Value) (jx1 : rn_jk x1) (jx2 : rn_jk x2) (jx4 : rn_jk x4) (r : rn_s n 115 (103, [some (.ref 1), x1, x2, some (.int b3), x4], [], aa_H g) v h) : iw_s v h (fn_115_103 g b3) := by
  unfold fn_115_103
  obtain ⟨n42, ln42, r⟩ := rn_steps 2 (110, [some (.ref 1), x1, x2, some (.int b3), x4], [.int (g 463 0)], aa_H g) rfl r
  refine rn_if (iw_s v h) rfl decide_eq_true_iff.symm r (fun c43 l44n l44 r => ?_) (fun c43 l44n l44 r => ?_)
  · obtain ⟨n45, ln45, r⟩ := rn_steps 0 (132, [some (.ref 1), x1, x2, some (.int b3), x4], [.int (-2)], aa_H g) rfl r
    exact rn_ire rfl r
  · obtain ⟨n46, ln46, r⟩ := rn_steps 4 (123, [some (.ref 1), x1, x2, some (.int b3), x4], [.int 0, .ref 464, .int 86400], aa_H g) rfl r
    obtain ⟨hb48, n47, ln47, r⟩ := rn_ial (k := 464) rfl ⟨by decide, by decide⟩ rfl r
    have r : rn_s _ 115 (124, [some (.ref 1), x1, x2, some (.int b3), x4], [.int (g 464 (0 : Int32).toNatClampNeg), .int 86400], aa_H g) v h := r
    obtain ⟨n49, ln49, r⟩ := rn_steps 3 (132, [some (.ref 1), x1, x2, some (.int b3), x4], [.int ((86400 + (g 464 (0 : Int32).toNatClampNeg)) - b3)], aa_H g) rfl r
    exact rn_ire rfl r
noncomputable def fn_115_43b (g : aa_G) (b1 : Int32) (b2 : Int32) (b3 : Int32) (b4 : Int32) : Int32 ⊕ (Int32 × aa_G) := if (g 463 0) ≤ b4 then .inr (fn_115_103 (fn_103 g 463 b1 (b2 + 1)) b3) else if (g 464 b4.toNatClampNeg) < b3 then .inl (b4 + 1) else .inr ((g 464 b4.toNatClampNeg) - b3, g)
noncomputable def fn_115_43 (g : aa_G) (b1 : Int32) (b2 : Int32) (b3 : Int32) (b4 : Int32) : Int32 × aa_G := lp_f (0, g) (fun z : Int32 => fn_115_43b g b1 b2 b3 z) b4
theorem dn_115_43l {v : Option Value} {h : zz_H} {N : Nat} {g : aa_G} {b1 : Int32} {b2 : Int32} {b3 : Int32} {d : Int32 × aa_G} : ∀ (n : Nat), n ≤ N → ∀ (b4 : Int32), rn_s n 115 (43, [some (.ref 1), some (.int b1), some (.int b2), some (.int b3), some (.int b4)], [], aa_H g) v h → (iw_s v h) (lp_f d (fun z : Int32 => fn_115_43b g b1 b2 b3 z) b4) := by
  generalize hf : (fun z : Int32 => fn_115_43b g b1 b2 b3 z) = f
  intro n
  induction n using Nat.strongRecOn with
  | _ n ih =>
    intro hN b4  r
    refine lp_go ?_
    rw [← congrFun hf b4]
    show lp_q (iw_s v h) d f (fn_115_43b g b1 b2 b3 b4)
    unfold fn_115_43b
    obtain ⟨n25, ln25, r⟩ := rn_steps 3 (52, [some (.ref 1), some (.int b1), some (.int b2), some (.int b3), some (.int b4)], [.int (g 463 0), .int b4], aa_H g) rfl r
    refine rn_ic (lp_q (iw_s v h) d f) rfl decide_eq_true_iff.symm r (fun c26 l27n l27 r => ?_) (fun c26 l27n l27 r => ?_)
    · obtain ⟨n28, ln28, r⟩ := rn_steps 7 (100, [some (.ref 1), some (.int b1), some (.int b2), some (.int b3), some (.int b4)], [.int (b2 + 1), .int b1, .ref 2, .ref 463], aa_H g) rfl r
      obtain ⟨_, n29, v1, h1, -, ln29, rc, r⟩ := rn_call (m2 := 103) (as := [.ref 463, .ref 2, .int b1, .int (b2 + 1)]) (rest := []) rfl rfl r
      obtain ⟨rfl, rfl⟩ := dn_103 rg_c463 rc
      have r : rn_s _ 115 (103, [some (.ref 1), some (.int b1), some (.int b2), some (.int b3), some (.int b4)], [], aa_H (fn_103 g 463 b1 (b2 + 1))) v h := r
      exact dn_115_103 (some (.int b1)) (some (.int b2)) (some (.int b4)) rn_ji rn_ji rn_ji r
    · obtain ⟨n31, ln31, r⟩ := rn_steps 3 (64, [some (.ref 1), some (.int b1), some (.int b2), some (.int b3), some (.int b4)], [.int b4, .ref 464], aa_H g) rfl r
      obtain ⟨hb33, n32, ln32, r⟩ := rn_ial (k := 464) rfl ⟨by decide, by decide⟩ rfl r
      have r : rn_s _ 115 (65, [some (.ref 1), some (.int b1), some (.int b2), some (.int b3), some (.int b4)], [.int (g 464 b4.toNatClampNeg)], aa_H g) v h := r
      obtain ⟨n34, ln34, r⟩ := rn_steps 0 (66, [some (.ref 1), some (.int b1), some (.int b2), some (.int b3), some (.int b4)], [.int b3, .int (g 464 b4.toNatClampNeg)], aa_H g) rfl r
      refine rn_ic (lp_q (iw_s v h) d f) rfl decide_eq_true_iff.symm r (fun c35 l36n l36 r => ?_) (fun c35 l36n l36 r => ?_)
      · obtain ⟨n37, ln37, r⟩ := rn_steps 1 (43, [some (.ref 1), some (.int b1), some (.int b2), some (.int b3), some (.int (b4 + 1))], [], aa_H g) rfl r
        exact ih _ (by omega) (by omega) (b4 + 1) r
      · obtain ⟨n38, ln38, r⟩ := rn_steps 3 (78, [some (.ref 1), some (.int b1), some (.int b2), some (.int b3), some (.int b4)], [.int b4, .ref 464], aa_H g) rfl r
        obtain ⟨hb40, n39, ln39, r⟩ := rn_ial (k := 464) rfl ⟨by decide, by decide⟩ rfl r
        have r : rn_s _ 115 (79, [some (.ref 1), some (.int b1), some (.int b2), some (.int b3), some (.int b4)], [.int (g 464 b4.toNatClampNeg)], aa_H g) v h := r
        obtain ⟨n41, ln41, r⟩ := rn_steps 1 (81, [some (.ref 1), some (.int b1), some (.int b2), some (.int b3), some (.int b4)], [.int ((g 464 b4.toNatClampNeg) - b3)], aa_H g) rfl r
        exact rn_ire rfl r
theorem dn_115_43 {v : Option Value} {h : zz_H} {n : Nat} {g : aa_G} {b1 : Int32} {b2 : Int32} {b3 : Int32} {b4 : Int32}  (r : rn_s n 115 (43, [some (.ref 1), some (.int b1), some (.int b2), some (.int b3), some (.int b4)], [], aa_H g) v h) : (iw_s v h) (fn_115_43 g b1 b2 b3 b4) := dn_115_43l  n (Nat.le_refl n) b4 r
noncomputable def fn_115_40 (g : aa_G) (b1 : Int32) (b2 : Int32) (b3 : Int32) : Int32 × aa_G := fn_115_43 g b1 b2 b3 0
theorem dn_115_40 {v : Option Value} {h : zz_H} {n : Nat} {g : aa_G} {b1 : Int32} {b2 : Int32} {b3 : Int32}  (x4 : Option Value) (jx4 : rn_jk x4) (r : rn_s n 115 (40, [some (.ref 1), some (.int b1), some (.int b2), some (.int b3), x4], [], aa_H g) v h) : iw_s v h (fn_115_40 g b1 b2 b3) := by
  unfold fn_115_40
  obtain ⟨n24, ln24, r⟩ := rn_steps 1 (43, [some (.ref 1), some (.int b1), some (.int b2), some (.int b3), some (.int 0)], [], aa_H g) rfl r
  exact dn_115_43 r
noncomputable def fn_115 (g : aa_G) (a1 : Int32) (a2 : Int32) (a3 : Int32) : Int32 × aa_G := (match fn_31 g a1 with | none => ((-1, g)) | some W6 => (if (fn_77 a2) = 0 then (-1, g) else if (fn_66 a3) ≠ 0 then fn_115_40 (fn_103 g 463 a1 a2) a1 a2 a3 else (-1, g)))
theorem dn_115 {v : Option Value} {h : zz_H} {n : Nat} {g : aa_G} {a1 : Int32} {a2 : Int32} {a3 : Int32}  (r : rn_s n 115 (0, zz_in [.ref 1, .int a1, .int a2, .int a3] (zz_nl 115), [], aa_H g) v h) : iw_s v h (fn_115 g a1 a2 a3) := by
  have r : rn_s n 115 (0, [some (.ref 1), some (.int a1), some (.int a2), some (.int a3), none], [], aa_H g) v h := r
  unfold fn_115
  obtain ⟨n1, ln1, r⟩ := rn_steps 2 (5, [some (.ref 1), some (.int a1), some (.int a2), some (.int a3), none], [.int a1, .ref 2], aa_H g) rfl r
  obtain ⟨_, n2, v1, h1, -, ln2, rc, r⟩ := rn_call (m2 := 31) (as := [.ref 2, .int a1]) (rest := []) rfl rfl r
  obtain ⟨rfl, rfl, ho4⟩ := dn_31 rc
  have r : rn_s _ 115 (8, [some (.ref 1), some (.int a1), some (.int a2), some (.int a3), none], [zz_val (fn_31 g a1)], aa_H g) v h := r
  cases e5 : fn_31 g a1 with
  | none =>
    rw [e5] at r
    have r : rn_s _ 115 (8, [some (.ref 1), some (.int a1), some (.int a2), some (.int a3), none], [.null], aa_H g) v h := r
    dsimp only
    obtain ⟨n8, ln8, r⟩ := rn_steps 1 (26, [some (.ref 1), some (.int a1), some (.int a2), some (.int a3), none], [.int (-1)], aa_H g) rfl r
    exact rn_ire rfl r
  | some W6 =>
    rw [e5] at r
    have hw7 : ct_tw W6 := ho4 _ e5
    have r : rn_s _ 115 (8, [some (.ref 1), some (.int a1), some (.int a2), some (.int a3), none], [.ref W6], aa_H g) v h := r
    dsimp only
    obtain ⟨n9, ln9, r⟩ := rn_steps 1 (12, [some (.ref 1), some (.int a1), some (.int a2), some (.int a3), none], [.int a2], aa_H g) rfl r
    obtain ⟨_, n10, v1, h1, -, ln10, rc, r⟩ := rn_call (m2 := 77) (as := [.int a2]) (rest := []) rfl rfl r
    obtain ⟨rfl, rfl⟩ := dn_77 rc
    have r : rn_s _ 115 (15, [some (.ref 1), some (.int a1), some (.int a2), some (.int a3), none], [.int (fn_77 a2)], aa_H g) v h := r
    refine rn_if (iw_s v h) rfl decide_eq_true_iff.symm r (fun c12 l13n l13 r => ?_) (fun c12 l13n l13 r => ?_)
    · obtain ⟨n14, ln14, r⟩ := rn_steps 0 (26, [some (.ref 1), some (.int a1), some (.int a2), some (.int a3), none], [.int (-1)], aa_H g) rfl r
      exact rn_ire rfl r
    · obtain ⟨n15, ln15, r⟩ := rn_steps 0 (19, [some (.ref 1), some (.int a1), some (.int a2), some (.int a3), none], [.int a3], aa_H g) rfl r
      obtain ⟨_, n16, v1, h1, -, ln16, rc, r⟩ := rn_call (m2 := 66) (as := [.int a3]) (rest := []) rfl rfl r
      obtain ⟨rfl, rfl⟩ := dn_66 rc
      have r : rn_s _ 115 (22, [some (.ref 1), some (.int a1), some (.int a2), some (.int a3), none], [.int (fn_66 a3)], aa_H g) v h := r
      refine rn_if (iw_s v h) rfl decide_eq_true_iff.symm r (fun c18 l19n l19 r => ?_) (fun c18 l19n l19 r => ?_)
      · obtain ⟨n20, ln20, r⟩ := rn_steps 5 (37, [some (.ref 1), some (.int a1), some (.int a2), some (.int a3), none], [.int a2, .int a1, .ref 2, .ref 463], aa_H g) rfl r
        obtain ⟨_, n21, v1, h1, -, ln21, rc, r⟩ := rn_call (m2 := 103) (as := [.ref 463, .ref 2, .int a1, .int a2]) (rest := []) rfl rfl r
        obtain ⟨rfl, rfl⟩ := dn_103 rg_c463 rc
        have r : rn_s _ 115 (40, [some (.ref 1), some (.int a1), some (.int a2), some (.int a3), none], [], aa_H (fn_103 g 463 a1 a2)) v h := r
        exact dn_115_40 none rn_jn r
      · obtain ⟨n23, ln23, r⟩ := rn_steps 0 (26, [some (.ref 1), some (.int a1), some (.int a2), some (.int a3), none], [.int (-1)], aa_H g) rfl r
        exact rn_ire rfl r
-- 116: UnequalHours clash
noncomputable def fn_116_91 (g : aa_G) (b3 : Int32) (b4 : Int32) (b5 : Int32) : (Int32 × Int32) ⊕ (Int32 × aa_G) := .inl (b4, b5 + 1)
theorem dn_116_91 {v : Option Value} {h : zz_H} {n : Nat} {g : aa_G} {b3 : Int32} {b4 : Int32} {b5 : Int32} (P : (Int32 × Int32) ⊕ (Int32 × aa_G) → Prop) (hO0 : ∀ n2, n2 < n → ∀ (yb4 : Int32) (yb5 : Int32) (yx1 yx2 : Option Value) (_ : rn_jk yx1) (_ : rn_jk yx2), rn_s n2 116 (49, [some (.ref 1), yx1, yx2, some (.int b3), some (.int yb4), some (.int yb5)], [], aa_H g) v h → P (.inl (yb4, yb5))) (hR : ∀ E, iw_s v h E → P (.inr E))  (x1 x2 : Option Value) (jx1 : rn_jk x1) (jx2 : rn_jk x2) (r : rn_s n 116 (91, [some (.ref 1), x1, x2, some (.int b3), some (.int b4), some (.int b5)], [], aa_H g) v h) : P (fn_116_91 g b3 b4 b5) := by
  unfold fn_116_91
  obtain ⟨n39, ln39, r⟩ := rn_steps 1 (49, [some (.ref 1), x1, x2, some (.int b3), some (.int b4), some (.int (b5 + 1))], [], aa_H g) rfl r
  exact hO0 _ (by omega) b4 (b5 + 1) x1 x2 jx1 jx2 r
noncomputable def fn_116_49b (g : aa_G) (b3 : Int32) (b4 : Int32) (b5 : Int32) : (Int32 × Int32) ⊕ (Int32 × aa_G) := if (g 463 0) ≤ b5 then .inr (b4, g) else if b3 ≤ ((g 464 b5.toNatClampNeg) - (g 464 (b5 - 1).toNatClampNeg)) then fn_116_91 g b3 b4 b5 else fn_116_91 g b3 (b4 + 1) b5
noncomputable def fn_116_49 (g : aa_G) (b3 : Int32) (b4 : Int32) (b5 : Int32) : Int32 × aa_G := lp_f (0, g) (fun z : (Int32 × Int32) => fn_116_49b g b3 z.1 z.2) (b4, b5)
theorem dn_116_49l {v : Option Value} {h : zz_H} {N : Nat} {g : aa_G} {b3 : Int32} {d : Int32 × aa_G} : ∀ (n : Nat), n ≤ N → ∀ (b4 : Int32) (b5 : Int32) (x1 x2 : Option Value) (jx1 : rn_jk x1) (jx2 : rn_jk x2), rn_s n 116 (49, [some (.ref 1), x1, x2, some (.int b3), some (.int b4), some (.int b5)], [], aa_H g) v h → (iw_s v h) (lp_f d (fun z : (Int32 × Int32) => fn_116_49b g b3 z.1 z.2) (b4, b5)) := by
  generalize hf : (fun z : (Int32 × Int32) => fn_116_49b g b3 z.1 z.2) = f
  intro n
  induction n using Nat.strongRecOn with
  | _ n ih =>
    intro hN b4 b5 x1 x2 jx1 jx2 r
    refine lp_go ?_
    rw [← congrFun hf (b4, b5)]
    show lp_q (iw_s v h) d f (fn_116_49b g b3 b4 b5)
    unfold fn_116_49b
    obtain ⟨n25, ln25, r⟩ := rn_steps 3 (58, [some (.ref 1), x1, x2, some (.int b3), some (.int b4), some (.int b5)], [.int (g 463 0), .int b5], aa_H g) rfl r
    refine rn_ic (lp_q (iw_s v h) d f) rfl decide_eq_true_iff.symm r (fun c26 l27n l27 r => ?_) (fun c26 l27n l27 r => ?_)
    · obtain ⟨n28, ln28, r⟩ := rn_steps 0 (99, [some (.ref 1), x1, x2, some (.int b3), some (.int b4), some (.int b5)], [.int b4], aa_H g) rfl r
      exact rn_ire rfl r
    · obtain ⟨n29, ln29, r⟩ := rn_steps 3 (70, [some (.ref 1), x1, x2, some (.int b3), some (.int b4), some (.int b5)], [.int b5, .ref 464], aa_H g) rfl r
      obtain ⟨hb31, n30, ln30, r⟩ := rn_ial (k := 464) rfl ⟨by decide, by decide⟩ rfl r
      have r : rn_s _ 116 (71, [some (.ref 1), x1, x2, some (.int b3), some (.int b4), some (.int b5)], [.int (g 464 b5.toNatClampNeg)], aa_H g) v h := r
      obtain ⟨n32, ln32, r⟩ := rn_steps 5 (82, [some (.ref 1), x1, x2, some (.int b3), some (.int b4), some (.int b5)], [.int (b5 - 1), .ref 464, .int (g 464 b5.toNatClampNeg)], aa_H g) rfl r
      obtain ⟨hb34, n33, ln33, r⟩ := rn_ial (k := 464) rfl ⟨by decide, by decide⟩ rfl r
      have r : rn_s _ 116 (83, [some (.ref 1), x1, x2, some (.int b3), some (.int b4), some (.int b5)], [.int (g 464 (b5 - 1).toNatClampNeg), .int (g 464 b5.toNatClampNeg)], aa_H g) v h := r
      obtain ⟨n35, ln35, r⟩ := rn_steps 1 (85, [some (.ref 1), x1, x2, some (.int b3), some (.int b4), some (.int b5)], [.int b3, .int ((g 464 b5.toNatClampNeg) - (g 464 (b5 - 1).toNatClampNeg))], aa_H g) rfl r
      refine rn_ic (lp_q (iw_s v h) d f) rfl decide_eq_true_iff.symm r (fun c36 l37n l37 r => ?_) (fun c36 l37n l37 r => ?_)
      · exact dn_116_91 (lp_q (iw_s v h) d f) (fun n2 l2 => ih n2 (by omega) (by omega)) (fun z hz => hz) x1 x2 jx1 jx2 r
      · obtain ⟨n38, ln38, r⟩ := rn_steps 0 (91, [some (.ref 1), x1, x2, some (.int b3), some (.int (b4 + 1)), some (.int b5)], [], aa_H g) rfl r
        exact dn_116_91 (lp_q (iw_s v h) d f) (fun n2 l2 => ih n2 (by omega) (by omega)) (fun z hz => hz) x1 x2 jx1 jx2 r
theorem dn_116_49 {v : Option Value} {h : zz_H} {n : Nat} {g : aa_G} {b3 : Int32} {b4 : Int32} {b5 : Int32}  (x1 x2 : Option Value) (jx1 : rn_jk x1) (jx2 : rn_jk x2) (r : rn_s n 116 (49, [some (.ref 1), x1, x2, some (.int b3), some (.int b4), some (.int b5)], [], aa_H g) v h) : (iw_s v h) (fn_116_49 g b3 b4 b5) := dn_116_49l  n (Nat.le_refl n) b4 b5 x1 x2 jx1 jx2 r
noncomputable def fn_116_43 (g : aa_G) (b3 : Int32) : Int32 × aa_G := fn_116_49 g b3 0 1
theorem dn_116_43 {v : Option Value} {h : zz_H} {n : Nat} {g : aa_G} {b3 : Int32}  (x1 x2 x4 x5 : Option Value) (jx1 : rn_jk x1) (jx2 : rn_jk x2) (jx4 : rn_jk x4) (jx5 : rn_jk x5) (r : rn_s n 116 (43, [some (.ref 1), x1, x2, some (.int b3), x4, x5], [], aa_H g) v h) : iw_s v h (fn_116_43 g b3) := by
  unfold fn_116_43
  obtain ⟨n24, ln24, r⟩ := rn_steps 3 (49, [some (.ref 1), x1, x2, some (.int b3), some (.int 0), some (.int 1)], [], aa_H g) rfl r
  exact dn_116_49 x1 x2 jx1 jx2 r
noncomputable def fn_116 (g : aa_G) (a1 : Int32) (a2 : Int32) (a3 : Int32) : Int32 × aa_G := (match fn_31 g a1 with | none => ((-1, g)) | some W6 => (if (fn_77 a2) = 0 then (-1, g) else if (fn_14 a3 0 86400) ≠ 0 then fn_116_43 (fn_103 g 463 a1 a2) a3 else (-1, g)))
theorem dn_116 {v : Option Value} {h : zz_H} {n : Nat} {g : aa_G} {a1 : Int32} {a2 : Int32} {a3 : Int32}  (r : rn_s n 116 (0, zz_in [.ref 1, .int a1, .int a2, .int a3] (zz_nl 116), [], aa_H g) v h) : iw_s v h (fn_116 g a1 a2 a3) := by
  have r : rn_s n 116 (0, [some (.ref 1), some (.int a1), some (.int a2), some (.int a3), none, none], [], aa_H g) v h := r
  unfold fn_116
  obtain ⟨n1, ln1, r⟩ := rn_steps 2 (5, [some (.ref 1), some (.int a1), some (.int a2), some (.int a3), none, none], [.int a1, .ref 2], aa_H g) rfl r
  obtain ⟨_, n2, v1, h1, -, ln2, rc, r⟩ := rn_call (m2 := 31) (as := [.ref 2, .int a1]) (rest := []) rfl rfl r
  obtain ⟨rfl, rfl, ho4⟩ := dn_31 rc
  have r : rn_s _ 116 (8, [some (.ref 1), some (.int a1), some (.int a2), some (.int a3), none, none], [zz_val (fn_31 g a1)], aa_H g) v h := r
  cases e5 : fn_31 g a1 with
  | none =>
    rw [e5] at r
    have r : rn_s _ 116 (8, [some (.ref 1), some (.int a1), some (.int a2), some (.int a3), none, none], [.null], aa_H g) v h := r
    dsimp only
    obtain ⟨n8, ln8, r⟩ := rn_steps 1 (29, [some (.ref 1), some (.int a1), some (.int a2), some (.int a3), none, none], [.int (-1)], aa_H g) rfl r
    exact rn_ire rfl r
  | some W6 =>
    rw [e5] at r
    have hw7 : ct_tw W6 := ho4 _ e5
    have r : rn_s _ 116 (8, [some (.ref 1), some (.int a1), some (.int a2), some (.int a3), none, none], [.ref W6], aa_H g) v h := r
    dsimp only
    obtain ⟨n9, ln9, r⟩ := rn_steps 1 (12, [some (.ref 1), some (.int a1), some (.int a2), some (.int a3), none, none], [.int a2], aa_H g) rfl r
    obtain ⟨_, n10, v1, h1, -, ln10, rc, r⟩ := rn_call (m2 := 77) (as := [.int a2]) (rest := []) rfl rfl r
    obtain ⟨rfl, rfl⟩ := dn_77 rc
    have r : rn_s _ 116 (15, [some (.ref 1), some (.int a1), some (.int a2), some (.int a3), none, none], [.int (fn_77 a2)], aa_H g) v h := r
    refine rn_if (iw_s v h) rfl decide_eq_true_iff.symm r (fun c12 l13n l13 r => ?_) (fun c12 l13n l13 r => ?_)
    · obtain ⟨n14, ln14, r⟩ := rn_steps 0 (29, [some (.ref 1), some (.int a1), some (.int a2), some (.int a3), none, none], [.int (-1)], aa_H g) rfl r
      exact rn_ire rfl r
    · obtain ⟨n15, ln15, r⟩ := rn_steps 2 (22, [some (.ref 1), some (.int a1), some (.int a2), some (.int a3), none, none], [.int 86400, .int 0, .int a3], aa_H g) rfl r
      obtain ⟨_, n16, v1, h1, -, ln16, rc, r⟩ := rn_call (m2 := 14) (as := [.int a3, .int 0, .int 86400]) (rest := []) rfl rfl r
      obtain ⟨rfl, rfl⟩ := dn_14 rc
      have r : rn_s _ 116 (25, [some (.ref 1), some (.int a1), some (.int a2), some (.int a3), none, none], [.int (fn_14 a3 0 86400)], aa_H g) v h := r
      refine rn_if (iw_s v h) rfl decide_eq_true_iff.symm r (fun c18 l19n l19 r => ?_) (fun c18 l19n l19 r => ?_)
      · obtain ⟨n20, ln20, r⟩ := rn_steps 5 (40, [some (.ref 1), some (.int a1), some (.int a2), some (.int a3), none, none], [.int a2, .int a1, .ref 2, .ref 463], aa_H g) rfl r
        obtain ⟨_, n21, v1, h1, -, ln21, rc, r⟩ := rn_call (m2 := 103) (as := [.ref 463, .ref 2, .int a1, .int a2]) (rest := []) rfl rfl r
        obtain ⟨rfl, rfl⟩ := dn_103 rg_c463 rc
        have r : rn_s _ 116 (43, [some (.ref 1), some (.int a1), some (.int a2), some (.int a3), none, none], [], aa_H (fn_103 g 463 a1 a2)) v h := r
        exact dn_116_43 (some (.int a1)) (some (.int a2)) none none rn_ji rn_ji rn_jn rn_jn r
      · obtain ⟨n23, ln23, r⟩ := rn_steps 0 (29, [some (.ref 1), some (.int a1), some (.int a2), some (.int a3), none, none], [.int (-1)], aa_H g) rfl r
        exact rn_ire rfl r
-- 117: UnequalHours busiest
noncomputable def fn_117_111 (g : aa_G) (b1 : Int32) (b2 : Int32) (b3 : Int32) (b4 : Int32) (b5 : Int32) : (aa_G × Int32) ⊕ (Int32 × aa_G) := .inl (g, b5 + 1)
theorem dn_117_111 {v : Option Value} {h : zz_H} {n : Nat} {g : aa_G} {b1 : Int32} {b2 : Int32} {b3 : Int32} {b4 : Int32} {b5 : Int32} (P : (aa_G × Int32) ⊕ (Int32 × aa_G) → Prop) (hO0 : ∀ n2, n2 < n → ∀ (yg : aa_G) (yb5 : Int32) (yx6 yx7 : Option Value) (_ : rn_jk yx6) (_ : rn_jk yx7), rn_s n2 117 (70, [some (.ref 1), some (.int b1), some (.int b2), some (.int b3), some (.int b4), some (.int yb5), yx6, yx7], [], aa_H yg) v h → P (.inl (yg, yb5))) (hR : ∀ E, iw_s v h E → P (.inr E))  (x6 x7 : Option Value) (jx6 : rn_jk x6) (jx7 : rn_jk x7) (r : rn_s n 117 (111, [some (.ref 1), some (.int b1), some (.int b2), some (.int b3), some (.int b4), some (.int b5), x6, x7], [], aa_H g) v h) : P (fn_117_111 g b1 b2 b3 b4 b5) := by
  unfold fn_117_111
  obtain ⟨n67, ln67, r⟩ := rn_steps 1 (70, [some (.ref 1), some (.int b1), some (.int b2), some (.int b3), some (.int b4), some (.int (b5 + 1)), x6, x7], [], aa_H g) rfl r
  exact hO0 _ (by omega) g (b5 + 1) x6 x7 jx6 jx7 r
noncomputable def fn_117_100 (g : aa_G) (b1 : Int32) (b2 : Int32) (b3 : Int32) (b4 : Int32) (b5 : Int32) : (aa_G × Int32) ⊕ (Int32 × aa_G) := fn_117_111 (fn_118 g 463) b1 b2 b3 b4 b5
theorem dn_117_100 {v : Option Value} {h : zz_H} {n : Nat} {g : aa_G} {b1 : Int32} {b2 : Int32} {b3 : Int32} {b4 : Int32} {b5 : Int32} (P : (aa_G × Int32) ⊕ (Int32 × aa_G) → Prop) (hO0 : ∀ n2, n2 < n → ∀ (yg : aa_G) (yb5 : Int32) (yx6 yx7 : Option Value) (_ : rn_jk yx6) (_ : rn_jk yx7), rn_s n2 117 (70, [some (.ref 1), some (.int b1), some (.int b2), some (.int b3), some (.int b4), some (.int yb5), yx6, yx7], [], aa_H yg) v h → P (.inl (yg, yb5))) (hR : ∀ E, iw_s v h E → P (.inr E))  (x6 x7 : Option Value) (jx6 : rn_jk x6) (jx7 : rn_jk x7) (r : rn_s n 117 (100, [some (.ref 1), some (.int b1), some (.int b2), some (.int b3), some (.int b4), some (.int b5), x6, x7], [], aa_H g) v h) : P (fn_117_100 g b1 b2 b3 b4 b5) := by
  unfold fn_117_100
  obtain ⟨n46, ln46, r⟩ := rn_steps 3 (108, [some (.ref 1), some (.int b1), some (.int b2), some (.int b3), some (.int b4), some (.int b5), x6, x7], [.ref 475, .ref 463], aa_H g) rfl r
  obtain ⟨_, n47, v1, h1, -, ln47, rc, r⟩ := rn_call (m2 := 118) (as := [.ref 463, .ref 475]) (rest := []) rfl rfl r
  obtain ⟨rfl, rfl⟩ := dn_118 rg_c463 rc
  have r : rn_s _ 117 (111, [some (.ref 1), some (.int b1), some (.int b2), some (.int b3), some (.int b4), some (.int b5), x6, x7], [], aa_H (fn_118 g 463)) v h := r
  exact dn_117_111 (P) (fun n2 l2 => hO0 n2 (by omega)) (fun z hz => hR _ hz) x6 x7 jx6 jx7 r
noncomputable def fn_117_161 (g : aa_G) (b4 : Int32) (b5 : Int32) (b6 : Int32) (b7 : Int32) : (Int32 × Int32 × Int32) ⊕ (Int32 × aa_G) := .inl (b5, b6, b7 + 1)
theorem dn_117_161 {v : Option Value} {h : zz_H} {n : Nat} {g : aa_G} {b4 : Int32} {b5 : Int32} {b6 : Int32} {b7 : Int32} (P : (Int32 × Int32 × Int32) ⊕ (Int32 × aa_G) → Prop) (hO0 : ∀ n2, n2 < n → ∀ (yb5 : Int32) (yb6 : Int32) (yb7 : Int32) (yx1 yx2 yx3 : Option Value) (_ : rn_jk yx1) (_ : rn_jk yx2) (_ : rn_jk yx3), rn_s n2 117 (126, [some (.ref 1), yx1, yx2, yx3, some (.int b4), some (.int yb5), some (.int yb6), some (.int yb7)], [], aa_H g) v h → P (.inl (yb5, yb6, yb7))) (hR : ∀ E, iw_s v h E → P (.inr E))  (x1 x2 x3 : Option Value) (jx1 : rn_jk x1) (jx2 : rn_jk x2) (jx3 : rn_jk x3) (r : rn_s n 117 (161, [some (.ref 1), x1, x2, x3, some (.int b4), some (.int b5), some (.int b6), some (.int b7)], [], aa_H g) v h) : P (fn_117_161 g b4 b5 b6 b7) := by
  unfold fn_117_161
  obtain ⟨n68, ln68, r⟩ := rn_steps 1 (126, [some (.ref 1), x1, x2, x3, some (.int b4), some (.int b5), some (.int b6), some (.int (b7 + 1))], [], aa_H g) rfl r
  exact hO0 _ (by omega) b5 b6 (b7 + 1) x1 x2 x3 jx1 jx2 jx3 r
noncomputable def fn_117_126b (g : aa_G) (b4 : Int32) (b5 : Int32) (b6 : Int32) (b7 : Int32) : (Int32 × Int32 × Int32) ⊕ (Int32 × aa_G) := if 8 ≤ b7 then if b4 ≠ 0 then .inr (b6, g) else .inr (b5, g) else if (g 475 b7.toNatClampNeg) ≤ b6 then fn_117_161 g b4 b5 b6 b7 else fn_117_161 g b4 b7 (g 475 b7.toNatClampNeg) b7
noncomputable def fn_117_126 (g : aa_G) (b4 : Int32) (b5 : Int32) (b6 : Int32) (b7 : Int32) : Int32 × aa_G := lp_f (0, g) (fun z : (Int32 × Int32 × Int32) => fn_117_126b g b4 z.1 z.2.1 z.2.2) (b5, b6, b7)
theorem dn_117_126l {v : Option Value} {h : zz_H} {N : Nat} {g : aa_G} {b4 : Int32} {d : Int32 × aa_G} : ∀ (n : Nat), n ≤ N → ∀ (b5 : Int32) (b6 : Int32) (b7 : Int32) (x1 x2 x3 : Option Value) (jx1 : rn_jk x1) (jx2 : rn_jk x2) (jx3 : rn_jk x3), rn_s n 117 (126, [some (.ref 1), x1, x2, x3, some (.int b4), some (.int b5), some (.int b6), some (.int b7)], [], aa_H g) v h → (iw_s v h) (lp_f d (fun z : (Int32 × Int32 × Int32) => fn_117_126b g b4 z.1 z.2.1 z.2.2) (b5, b6, b7)) := by
  generalize hf : (fun z : (Int32 × Int32 × Int32) => fn_117_126b g b4 z.1 z.2.1 z.2.2) = f
  intro n
  induction n using Nat.strongRecOn with
  | _ n ih =>
    intro hN b5 b6 b7 x1 x2 x3 jx1 jx2 jx3 r
    refine lp_go ?_
    rw [← congrFun hf (b5, b6, b7)]
    show lp_q (iw_s v h) d f (fn_117_126b g b4 b5 b6 b7)
    unfold fn_117_126b
    obtain ⟨n49, ln49, r⟩ := rn_steps 3 (133, [some (.ref 1), x1, x2, x3, some (.int b4), some (.int b5), some (.int b6), some (.int b7)], [.int 8, .int b7], aa_H g) rfl r
    refine rn_ic (lp_q (iw_s v h) d f) rfl decide_eq_true_iff.symm r (fun c50 l51n l51 r => ?_) (fun c50 l51n l51 r => ?_)
    · obtain ⟨n52, ln52, r⟩ := rn_steps 0 (169, [some (.ref 1), x1, x2, x3, some (.int b4), some (.int b5), some (.int b6), some (.int b7)], [.int b4], aa_H g) rfl r
      refine rn_if (lp_q (iw_s v h) d f) rfl decide_eq_true_iff.symm r (fun c53 l54n l54 r => ?_) (fun c53 l54n l54 r => ?_)
      · obtain ⟨n55, ln55, r⟩ := rn_steps 0 (179, [some (.ref 1), x1, x2, x3, some (.int b4), some (.int b5), some (.int b6), some (.int b7)], [.int b6], aa_H g) rfl r
        exact rn_ire rfl r
      · obtain ⟨n56, ln56, r⟩ := rn_steps 1 (179, [some (.ref 1), x1, x2, x3, some (.int b4), some (.int b5), some (.int b6), some (.int b7)], [.int b5], aa_H g) rfl r
        exact rn_ire rfl r
    · obtain ⟨n57, ln57, r⟩ := rn_steps 2 (142, [some (.ref 1), x1, x2, x3, some (.int b4), some (.int b5), some (.int b6), some (.int b7)], [.int b7, .ref 475], aa_H g) rfl r
      obtain ⟨hb59, n58, ln58, r⟩ := rn_ial (k := 475) rfl ⟨by decide, by decide⟩ rfl r
      have r : rn_s _ 117 (143, [some (.ref 1), x1, x2, x3, some (.int b4), some (.int b5), some (.int b6), some (.int b7)], [.int (g 475 b7.toNatClampNeg)], aa_H g) v h := r
      obtain ⟨n60, ln60, r⟩ := rn_steps 0 (145, [some (.ref 1), x1, x2, x3, some (.int b4), some (.int b5), some (.int b6), some (.int b7)], [.int b6, .int (g 475 b7.toNatClampNeg)], aa_H g) rfl r
      refine rn_ic (lp_q (iw_s v h) d f) rfl decide_eq_true_iff.symm r (fun c61 l62n l62 r => ?_) (fun c61 l62n l62 r => ?_)
      · exact dn_117_161 (lp_q (iw_s v h) d f) (fun n2 l2 => ih n2 (by omega) (by omega)) (fun z hz => hz) x1 x2 x3 jx1 jx2 jx3 r
      · obtain ⟨n63, ln63, r⟩ := rn_steps 4 (158, [some (.ref 1), x1, x2, x3, some (.int b4), some (.int b7), some (.int b6), some (.int b7)], [.int b7, .ref 475], aa_H g) rfl r
        obtain ⟨hb65, n64, ln64, r⟩ := rn_ial (k := 475) rfl ⟨by decide, by decide⟩ rfl r
        have r : rn_s _ 117 (159, [some (.ref 1), x1, x2, x3, some (.int b4), some (.int b7), some (.int b6), some (.int b7)], [.int (g 475 b7.toNatClampNeg)], aa_H g) v h := r
        obtain ⟨n66, ln66, r⟩ := rn_steps 0 (161, [some (.ref 1), x1, x2, x3, some (.int b4), some (.int b7), some (.int (g 475 b7.toNatClampNeg)), some (.int b7)], [], aa_H g) rfl r
        exact dn_117_161 (lp_q (iw_s v h) d f) (fun n2 l2 => ih n2 (by omega) (by omega)) (fun z hz => hz) x1 x2 x3 jx1 jx2 jx3 r
theorem dn_117_126 {v : Option Value} {h : zz_H} {n : Nat} {g : aa_G} {b4 : Int32} {b5 : Int32} {b6 : Int32} {b7 : Int32}  (x1 x2 x3 : Option Value) (jx1 : rn_jk x1) (jx2 : rn_jk x2) (jx3 : rn_jk x3) (r : rn_s n 117 (126, [some (.ref 1), x1, x2, x3, some (.int b4), some (.int b5), some (.int b6), some (.int b7)], [], aa_H g) v h) : (iw_s v h) (fn_117_126 g b4 b5 b6 b7) := dn_117_126l  n (Nat.le_refl n) b5 b6 b7 x1 x2 x3 jx1 jx2 jx3 r
noncomputable def fn_117_117 (g : aa_G) (b4 : Int32) : Int32 × aa_G := fn_117_126 g b4 (-1) 0 0
theorem dn_117_117 {v : Option Value} {h : zz_H} {n : Nat} {g : aa_G} {b4 : Int32}  (x1 x2 x3 x5 x6 x7 : Option Value) (jx1 : rn_jk x1) (jx2 : rn_jk x2) (jx3 : rn_jk x3) (jx5 : rn_jk x5) (jx6 : rn_jk x6) (jx7 : rn_jk x7) (r : rn_s n 117 (117, [some (.ref 1), x1, x2, x3, some (.int b4), x5, x6, x7], [], aa_H g) v h) : iw_s v h (fn_117_117 g b4) := by
  unfold fn_117_117
  obtain ⟨n45, ln45, r⟩ := rn_steps 5 (126, [some (.ref 1), x1, x2, x3, some (.int b4), some (.int (-1)), some (.int 0), some (.int 0)], [], aa_H g) rfl r
  exact dn_117_126 x1 x2 x3 jx1 jx2 jx3 r
noncomputable def fn_117_70b (g : aa_G) (b1 : Int32) (b2 : Int32) (b3 : Int32) (b4 : Int32) (b5 : Int32) : (aa_G × Int32) ⊕ (Int32 × aa_G) := if (b2 + b3) ≤ b5 then .inr (fn_117_117 g b4) else if 36000 ≤ b5 then .inr (fn_117_117 g b4) else fn_117_100 (fn_103 g 463 b1 b5) b1 b2 b3 b4 b5
noncomputable def fn_117_70 (g : aa_G) (b1 : Int32) (b2 : Int32) (b3 : Int32) (b4 : Int32) (b5 : Int32) : Int32 × aa_G := lp_f (0, g) (fun z : (aa_G × Int32) => fn_117_70b z.1 b1 b2 b3 b4 z.2) (g, b5)
theorem dn_117_70l {v : Option Value} {h : zz_H} {N : Nat} {b1 : Int32} {b2 : Int32} {b3 : Int32} {b4 : Int32} {d : Int32 × aa_G} : ∀ (n : Nat), n ≤ N → ∀ (g : aa_G) (b5 : Int32) (x6 x7 : Option Value) (jx6 : rn_jk x6) (jx7 : rn_jk x7), rn_s n 117 (70, [some (.ref 1), some (.int b1), some (.int b2), some (.int b3), some (.int b4), some (.int b5), x6, x7], [], aa_H g) v h → (iw_s v h) (lp_f d (fun z : (aa_G × Int32) => fn_117_70b z.1 b1 b2 b3 b4 z.2) (g, b5)) := by
  generalize hf : (fun z : (aa_G × Int32) => fn_117_70b z.1 b1 b2 b3 b4 z.2) = f
  intro n
  induction n using Nat.strongRecOn with
  | _ n ih =>
    intro hN g b5 x6 x7 jx6 jx7 r
    refine lp_go ?_
    rw [← congrFun hf (g, b5)]
    show lp_q (iw_s v h) d f (fn_117_70b g b1 b2 b3 b4 b5)
    unfold fn_117_70b
    obtain ⟨n36, ln36, r⟩ := rn_steps 3 (75, [some (.ref 1), some (.int b1), some (.int b2), some (.int b3), some (.int b4), some (.int b5), x6, x7], [.int (b2 + b3), .int b5], aa_H g) rfl r
    refine rn_ic (lp_q (iw_s v h) d f) rfl decide_eq_true_iff.symm r (fun c37 l38n l38 r => ?_) (fun c37 l38n l38 r => ?_)
    · exact dn_117_117 (some (.int b1)) (some (.int b2)) (some (.int b3)) (some (.int b5)) x6 x7 rn_ji rn_ji rn_ji rn_ji jx6 jx7 r
    · obtain ⟨n39, ln39, r⟩ := rn_steps 1 (83, [some (.ref 1), some (.int b1), some (.int b2), some (.int b3), some (.int b4), some (.int b5), x6, x7], [.int 36000, .int b5], aa_H g) rfl r
      refine rn_ic (lp_q (iw_s v h) d f) rfl decide_eq_true_iff.symm r (fun c40 l41n l41 r => ?_) (fun c40 l41n l41 r => ?_)
      · exact dn_117_117 (some (.int b1)) (some (.int b2)) (some (.int b3)) (some (.int b5)) x6 x7 rn_ji rn_ji rn_ji rn_ji jx6 jx7 r
      · obtain ⟨n42, ln42, r⟩ := rn_steps 5 (97, [some (.ref 1), some (.int b1), some (.int b2), some (.int b3), some (.int b4), some (.int b5), x6, x7], [.int b5, .int b1, .ref 2, .ref 463], aa_H g) rfl r
        obtain ⟨_, n43, v1, h1, -, ln43, rc, r⟩ := rn_call (m2 := 103) (as := [.ref 463, .ref 2, .int b1, .int b5]) (rest := []) rfl rfl r
        obtain ⟨rfl, rfl⟩ := dn_103 rg_c463 rc
        have r : rn_s _ 117 (100, [some (.ref 1), some (.int b1), some (.int b2), some (.int b3), some (.int b4), some (.int b5), x6, x7], [], aa_H (fn_103 g 463 b1 b5)) v h := r
        exact dn_117_100 (lp_q (iw_s v h) d f) (fun n2 l2 => ih n2 (by omega) (by omega)) (fun z hz => hz) x6 x7 jx6 jx7 r
theorem dn_117_70 {v : Option Value} {h : zz_H} {n : Nat} {g : aa_G} {b1 : Int32} {b2 : Int32} {b3 : Int32} {b4 : Int32} {b5 : Int32}  (x6 x7 : Option Value) (jx6 : rn_jk x6) (jx7 : rn_jk x7) (r : rn_s n 117 (70, [some (.ref 1), some (.int b1), some (.int b2), some (.int b3), some (.int b4), some (.int b5), x6, x7], [], aa_H g) v h) : (iw_s v h) (fn_117_70 g b1 b2 b3 b4 b5) := dn_117_70l  n (Nat.le_refl n) g b5 x6 x7 jx6 jx7 r
noncomputable def fn_117_43b (g : aa_G) (b1 : Int32) (b2 : Int32) (b3 : Int32) (b4 : Int32) (b5 : Int32) : (aa_G × Int32) ⊕ (Int32 × aa_G) := if 8 ≤ b5 then .inr (fn_117_70 g b1 b2 b3 b4 b2) else .inl (zz_w g 475 b5.toNatClampNeg 0, b5 + 1)
noncomputable def fn_117_43 (g : aa_G) (b1 : Int32) (b2 : Int32) (b3 : Int32) (b4 : Int32) (b5 : Int32) : Int32 × aa_G := lp_f (0, g) (fun z : (aa_G × Int32) => fn_117_43b z.1 b1 b2 b3 b4 z.2) (g, b5)
theorem dn_117_43l {v : Option Value} {h : zz_H} {N : Nat} {b1 : Int32} {b2 : Int32} {b3 : Int32} {b4 : Int32} {d : Int32 × aa_G} : ∀ (n : Nat), n ≤ N → ∀ (g : aa_G) (b5 : Int32) (x6 x7 : Option Value) (jx6 : rn_jk x6) (jx7 : rn_jk x7), rn_s n 117 (43, [some (.ref 1), some (.int b1), some (.int b2), some (.int b3), some (.int b4), some (.int b5), x6, x7], [], aa_H g) v h → (iw_s v h) (lp_f d (fun z : (aa_G × Int32) => fn_117_43b z.1 b1 b2 b3 b4 z.2) (g, b5)) := by
  generalize hf : (fun z : (aa_G × Int32) => fn_117_43b z.1 b1 b2 b3 b4 z.2) = f
  intro n
  induction n using Nat.strongRecOn with
  | _ n ih =>
    intro hN g b5 x6 x7 jx6 jx7 r
    refine lp_go ?_
    rw [← congrFun hf (g, b5)]
    show lp_q (iw_s v h) d f (fn_117_43b g b1 b2 b3 b4 b5)
    unfold fn_117_43b
    obtain ⟨n28, ln28, r⟩ := rn_steps 3 (50, [some (.ref 1), some (.int b1), some (.int b2), some (.int b3), some (.int b4), some (.int b5), x6, x7], [.int 8, .int b5], aa_H g) rfl r
    refine rn_ic (lp_q (iw_s v h) d f) rfl decide_eq_true_iff.symm r (fun c29 l30n l30 r => ?_) (fun c29 l30n l30 r => ?_)
    · obtain ⟨n31, ln31, r⟩ := rn_steps 1 (70, [some (.ref 1), some (.int b1), some (.int b2), some (.int b3), some (.int b4), some (.int b2), x6, x7], [], aa_H g) rfl r
      exact dn_117_70 x6 x7 jx6 jx7 r
    · obtain ⟨n32, ln32, r⟩ := rn_steps 3 (60, [some (.ref 1), some (.int b1), some (.int b2), some (.int b3), some (.int b4), some (.int b5), x6, x7], [.int 0, .int b5, .ref 475], aa_H g) rfl r
      obtain ⟨hb34, n33, ln33, r⟩ := rn_ias (k := 475) rfl ⟨by decide, by decide⟩ rfl r
      have r : rn_s _ 117 (61, [some (.ref 1), some (.int b1), some (.int b2), some (.int b3), some (.int b4), some (.int b5), x6, x7], [], aa_H (zz_w g 475 b5.toNatClampNeg 0)) v h := r
      obtain ⟨n35, ln35, r⟩ := rn_steps 1 (43, [some (.ref 1), some (.int b1), some (.int b2), some (.int b3), some (.int b4), some (.int (b5 + 1)), x6, x7], [], aa_H (zz_w g 475 b5.toNatClampNeg 0)) rfl r
      exact ih _ (by omega) (by omega) (zz_w g 475 b5.toNatClampNeg 0) (b5 + 1) x6 x7 jx6 jx7 r
theorem dn_117_43 {v : Option Value} {h : zz_H} {n : Nat} {g : aa_G} {b1 : Int32} {b2 : Int32} {b3 : Int32} {b4 : Int32} {b5 : Int32}  (x6 x7 : Option Value) (jx6 : rn_jk x6) (jx7 : rn_jk x7) (r : rn_s n 117 (43, [some (.ref 1), some (.int b1), some (.int b2), some (.int b3), some (.int b4), some (.int b5), x6, x7], [], aa_H g) v h) : (iw_s v h) (fn_117_43 g b1 b2 b3 b4 b5) := dn_117_43l  n (Nat.le_refl n) g b5 x6 x7 jx6 jx7 r
noncomputable def fn_117 (g : aa_G) (a1 : Int32) (a2 : Int32) (a3 : Int32) (a4 : Int32) : Int32 × aa_G := (match fn_31 g a1 with | none => ((-1, g)) | some W6 => (if (fn_77 a2) = 0 then (-1, g) else if (fn_14 a3 1 60) = 0 then (-1, g) else if (fn_14 a4 0 1) ≠ 0 then fn_117_43 g a1 a2 a3 a4 0 else (-1, g)))
theorem dn_117 {v : Option Value} {h : zz_H} {n : Nat} {g : aa_G} {a1 : Int32} {a2 : Int32} {a3 : Int32} {a4 : Int32}  (r : rn_s n 117 (0, zz_in [.ref 1, .int a1, .int a2, .int a3, .int a4] (zz_nl 117), [], aa_H g) v h) : iw_s v h (fn_117 g a1 a2 a3 a4) := by
  have r : rn_s n 117 (0, [some (.ref 1), some (.int a1), some (.int a2), some (.int a3), some (.int a4), none, none, none], [], aa_H g) v h := r
  unfold fn_117
  obtain ⟨n1, ln1, r⟩ := rn_steps 2 (5, [some (.ref 1), some (.int a1), some (.int a2), some (.int a3), some (.int a4), none, none, none], [.int a1, .ref 2], aa_H g) rfl r
  obtain ⟨_, n2, v1, h1, -, ln2, rc, r⟩ := rn_call (m2 := 31) (as := [.ref 2, .int a1]) (rest := []) rfl rfl r
  obtain ⟨rfl, rfl, ho4⟩ := dn_31 rc
  have r : rn_s _ 117 (8, [some (.ref 1), some (.int a1), some (.int a2), some (.int a3), some (.int a4), none, none, none], [zz_val (fn_31 g a1)], aa_H g) v h := r
  cases e5 : fn_31 g a1 with
  | none =>
    rw [e5] at r
    have r : rn_s _ 117 (8, [some (.ref 1), some (.int a1), some (.int a2), some (.int a3), some (.int a4), none, none, none], [.null], aa_H g) v h := r
    dsimp only
    obtain ⟨n8, ln8, r⟩ := rn_steps 1 (39, [some (.ref 1), some (.int a1), some (.int a2), some (.int a3), some (.int a4), none, none, none], [.int (-1)], aa_H g) rfl r
    exact rn_ire rfl r
  | some W6 =>
    rw [e5] at r
    have hw7 : ct_tw W6 := ho4 _ e5
    have r : rn_s _ 117 (8, [some (.ref 1), some (.int a1), some (.int a2), some (.int a3), some (.int a4), none, none, none], [.ref W6], aa_H g) v h := r
    dsimp only
    obtain ⟨n9, ln9, r⟩ := rn_steps 1 (12, [some (.ref 1), some (.int a1), some (.int a2), some (.int a3), some (.int a4), none, none, none], [.int a2], aa_H g) rfl r
    obtain ⟨_, n10, v1, h1, -, ln10, rc, r⟩ := rn_call (m2 := 77) (as := [.int a2]) (rest := []) rfl rfl r
    obtain ⟨rfl, rfl⟩ := dn_77 rc
    have r : rn_s _ 117 (15, [some (.ref 1), some (.int a1), some (.int a2), some (.int a3), some (.int a4), none, none, none], [.int (fn_77 a2)], aa_H g) v h := r
    refine rn_if (iw_s v h) rfl decide_eq_true_iff.symm r (fun c12 l13n l13 r => ?_) (fun c12 l13n l13 r => ?_)
    · obtain ⟨n14, ln14, r⟩ := rn_steps 0 (39, [some (.ref 1), some (.int a1), some (.int a2), some (.int a3), some (.int a4), none, none, none], [.int (-1)], aa_H g) rfl r
      exact rn_ire rfl r
    · obtain ⟨n15, ln15, r⟩ := rn_steps 2 (22, [some (.ref 1), some (.int a1), some (.int a2), some (.int a3), some (.int a4), none, none, none], [.int 60, .int 1, .int a3], aa_H g) rfl r
      obtain ⟨_, n16, v1, h1, -, ln16, rc, r⟩ := rn_call (m2 := 14) (as := [.int a3, .int 1, .int 60]) (rest := []) rfl rfl r
      obtain ⟨rfl, rfl⟩ := dn_14 rc
      have r : rn_s _ 117 (25, [some (.ref 1), some (.int a1), some (.int a2), some (.int a3), some (.int a4), none, none, none], [.int (fn_14 a3 1 60)], aa_H g) v h := r
      refine rn_if (iw_s v h) rfl decide_eq_true_iff.symm r (fun c18 l19n l19 r => ?_) (fun c18 l19n l19 r => ?_)
      · obtain ⟨n20, ln20, r⟩ := rn_steps 0 (39, [some (.ref 1), some (.int a1), some (.int a2), some (.int a3), some (.int a4), none, none, none], [.int (-1)], aa_H g) rfl r
        exact rn_ire rfl r
      · obtain ⟨n21, ln21, r⟩ := rn_steps 2 (32, [some (.ref 1), some (.int a1), some (.int a2), some (.int a3), some (.int a4), none, none, none], [.int 1, .int 0, .int a4], aa_H g) rfl r
        obtain ⟨_, n22, v1, h1, -, ln22, rc, r⟩ := rn_call (m2 := 14) (as := [.int a4, .int 0, .int 1]) (rest := []) rfl rfl r
        obtain ⟨rfl, rfl⟩ := dn_14 rc
        have r : rn_s _ 117 (35, [some (.ref 1), some (.int a1), some (.int a2), some (.int a3), some (.int a4), none, none, none], [.int (fn_14 a4 0 1)], aa_H g) v h := r
        refine rn_if (iw_s v h) rfl decide_eq_true_iff.symm r (fun c24 l25n l25 r => ?_) (fun c24 l25n l25 r => ?_)
        · obtain ⟨n26, ln26, r⟩ := rn_steps 1 (43, [some (.ref 1), some (.int a1), some (.int a2), some (.int a3), some (.int a4), some (.int 0), none, none], [], aa_H g) rfl r
          exact dn_117_43 none none rn_jn rn_jn r
        · obtain ⟨n27, ln27, r⟩ := rn_steps 0 (39, [some (.ref 1), some (.int a1), some (.int a2), some (.int a3), some (.int a4), none, none, none], [.int (-1)], aa_H g) rfl r
          exact rn_ire rfl r
-- 119: UnequalHours quiet
noncomputable def fn_119_116 (g : aa_G) (b3 : Int32) (b5 : Int32) (b6 : Int32) (b7 : Int32) (b8 : Int32) : (Int32 × Int32 × Int32 × Int32) ⊕ (Int32 × aa_G) := .inl (b8, b5, b6, b7 + 1)
theorem dn_119_116 {v : Option Value} {h : zz_H} {n : Nat} {g : aa_G} {b3 : Int32} {b5 : Int32} {b6 : Int32} {b7 : Int32} {b8 : Int32} (P : (Int32 × Int32 × Int32 × Int32) ⊕ (Int32 × aa_G) → Prop) (hO0 : ∀ n2, n2 < n → ∀ (yb4 : Int32) (yb5 : Int32) (yb6 : Int32) (yb7 : Int32) (yx1 yx2 yx8 : Option Value) (_ : rn_jk yx1) (_ : rn_jk yx2) (_ : rn_jk yx8), rn_s n2 119 (54, [some (.ref 1), yx1, yx2, some (.int b3), some (.int yb4), some (.int yb5), some (.int yb6), some (.int yb7), yx8], [], aa_H g) v h → P (.inl (yb4, yb5, yb6, yb7))) (hR : ∀ E, iw_s v h E → P (.inr E))  (x1 x2 x4 : Option Value) (jx1 : rn_jk x1) (jx2 : rn_jk x2) (jx4 : rn_jk x4) (r : rn_s n 119 (116, [some (.ref 1), x1, x2, some (.int b3), x4, some (.int b5), some (.int b6), some (.int b7), some (.int b8)], [], aa_H g) v h) : P (fn_119_116 g b3 b5 b6 b7 b8) := by
  unfold fn_119_116
  obtain ⟨n45, ln45, r⟩ := rn_steps 3 (54, [some (.ref 1), x1, x2, some (.int b3), some (.int b8), some (.int b5), some (.int b6), some (.int (b7 + 1)), some (.int b8)], [], aa_H g) rfl r
  exact hO0 _ (by omega) b8 b5 b6 (b7 + 1) x1 x2 (some (.int b8)) jx1 jx2 rn_ji r
noncomputable def fn_119_93 (g : aa_G) (b3 : Int32) (b4 : Int32) (b5 : Int32) (b6 : Int32) (b7 : Int32) (s0 : Int32) : (Int32 × Int32 × Int32 × Int32) ⊕ (Int32 × aa_G) := if (s0 - b4) ≤ b6 then fn_119_116 g b3 b5 b6 b7 s0 else fn_119_116 g b3 b4 (s0 - b4) b7 s0
theorem dn_119_93 {v : Option Value} {h : zz_H} {n : Nat} {g : aa_G} {b3 : Int32} {b4 : Int32} {b5 : Int32} {b6 : Int32} {b7 : Int32} {s0 : Int32} (P : (Int32 × Int32 × Int32 × Int32) ⊕ (Int32 × aa_G) → Prop) (hO0 : ∀ n2, n2 < n → ∀ (yb4 : Int32) (yb5 : Int32) (yb6 : Int32) (yb7 : Int32) (yx1 yx2 yx8 : Option Value) (_ : rn_jk yx1) (_ : rn_jk yx2) (_ : rn_jk yx8), rn_s n2 119 (54, [some (.ref 1), yx1, yx2, some (.int b3), some (.int yb4), some (.int yb5), some (.int yb6), some (.int yb7), yx8], [], aa_H g) v h → P (.inl (yb4, yb5, yb6, yb7))) (hR : ∀ E, iw_s v h E → P (.inr E))  (x1 x2 x8 : Option Value) (jx1 : rn_jk x1) (jx2 : rn_jk x2) (jx8 : rn_jk x8) (r : rn_s n 119 (93, [some (.ref 1), x1, x2, some (.int b3), some (.int b4), some (.int b5), some (.int b6), some (.int b7), x8], [.int s0], aa_H g) v h) : P (fn_119_93 g b3 b4 b5 b6 b7 s0) := by
  unfold fn_119_93
  obtain ⟨n41, ln41, r⟩ := rn_steps 4 (102, [some (.ref 1), x1, x2, some (.int b3), some (.int b4), some (.int b5), some (.int b6), some (.int b7), some (.int s0)], [.int b6, .int (s0 - b4)], aa_H g) rfl r
  refine rn_ic (P) rfl decide_eq_true_iff.symm r (fun c42 l43n l43 r => ?_) (fun c42 l43n l43 r => ?_)
  · exact dn_119_116 (P) (fun n2 l2 => hO0 n2 (by omega)) (fun z hz => hR _ hz) x1 x2 (some (.int b4)) jx1 jx2 rn_ji r
  · obtain ⟨n44, ln44, r⟩ := rn_steps 5 (116, [some (.ref 1), x1, x2, some (.int b3), some (.int b4), some (.int b4), some (.int (s0 - b4)), some (.int b7), some (.int s0)], [], aa_H g) rfl r
    exact dn_119_116 (P) (fun n2 l2 => hO0 n2 (by omega)) (fun z hz => hR _ hz) x1 x2 (some (.int b4)) jx1 jx2 rn_ji r
noncomputable def fn_119_54b (g : aa_G) (b3 : Int32) (b4 : Int32) (b5 : Int32) (b6 : Int32) (b7 : Int32) : (Int32 × Int32 × Int32 × Int32) ⊕ (Int32 × aa_G) := if (g 463 0) < b7 then if b3 ≠ 0 then .inr (b6, g) else .inr (b5, g) else if (g 463 0) ≤ b7 then fn_119_93 g b3 b4 b5 b6 b7 86400 else fn_119_93 g b3 b4 b5 b6 b7 (g 464 b7.toNatClampNeg)
noncomputable def fn_119_54 (g : aa_G) (b3 : Int32) (b4 : Int32) (b5 : Int32) (b6 : Int32) (b7 : Int32) : Int32 × aa_G := lp_f (0, g) (fun z : (Int32 × Int32 × Int32 × Int32) => fn_119_54b g b3 z.1 z.2.1 z.2.2.1 z.2.2.2) (b4, b5, b6, b7)
theorem dn_119_54l {v : Option Value} {h : zz_H} {N : Nat} {g : aa_G} {b3 : Int32} {d : Int32 × aa_G} : ∀ (n : Nat), n ≤ N → ∀ (b4 : Int32) (b5 : Int32) (b6 : Int32) (b7 : Int32) (x1 x2 x8 : Option Value) (jx1 : rn_jk x1) (jx2 : rn_jk x2) (jx8 : rn_jk x8), rn_s n 119 (54, [some (.ref 1), x1, x2, some (.int b3), some (.int b4), some (.int b5), some (.int b6), some (.int b7), x8], [], aa_H g) v h → (iw_s v h) (lp_f d (fun z : (Int32 × Int32 × Int32 × Int32) => fn_119_54b g b3 z.1 z.2.1 z.2.2.1 z.2.2.2) (b4, b5, b6, b7)) := by
  generalize hf : (fun z : (Int32 × Int32 × Int32 × Int32) => fn_119_54b g b3 z.1 z.2.1 z.2.2.1 z.2.2.2) = f
  intro n
  induction n using Nat.strongRecOn with
  | _ n ih =>
    intro hN b4 b5 b6 b7 x1 x2 x8 jx1 jx2 jx8 r
    refine lp_go ?_
    rw [← congrFun hf (b4, b5, b6, b7)]
    show lp_q (iw_s v h) d f (fn_119_54b g b3 b4 b5 b6 b7)
    unfold fn_119_54b
    obtain ⟨n25, ln25, r⟩ := rn_steps 3 (63, [some (.ref 1), x1, x2, some (.int b3), some (.int b4), some (.int b5), some (.int b6), some (.int b7), x8], [.int (g 463 0), .int b7], aa_H g) rfl r
    refine rn_ic (lp_q (iw_s v h) d f) rfl decide_eq_true_iff.symm r (fun c26 l27n l27 r => ?_) (fun c26 l27n l27 r => ?_)
    · obtain ⟨n28, ln28, r⟩ := rn_steps 0 (127, [some (.ref 1), x1, x2, some (.int b3), some (.int b4), some (.int b5), some (.int b6), some (.int b7), x8], [.int b3], aa_H g) rfl r
      refine rn_if (lp_q (iw_s v h) d f) rfl decide_eq_true_iff.symm r (fun c29 l30n l30 r => ?_) (fun c29 l30n l30 r => ?_)
      · obtain ⟨n31, ln31, r⟩ := rn_steps 0 (137, [some (.ref 1), x1, x2, some (.int b3), some (.int b4), some (.int b5), some (.int b6), some (.int b7), x8], [.int b6], aa_H g) rfl r
        exact rn_ire rfl r
      · obtain ⟨n32, ln32, r⟩ := rn_steps 1 (137, [some (.ref 1), x1, x2, some (.int b3), some (.int b4), some (.int b5), some (.int b6), some (.int b7), x8], [.int b5], aa_H g) rfl r
        exact rn_ire rfl r
    · obtain ⟨n33, ln33, r⟩ := rn_steps 3 (75, [some (.ref 1), x1, x2, some (.int b3), some (.int b4), some (.int b5), some (.int b6), some (.int b7), x8], [.int (g 463 0), .int b7], aa_H g) rfl r
      refine rn_ic (lp_q (iw_s v h) d f) rfl decide_eq_true_iff.symm r (fun c34 l35n l35 r => ?_) (fun c34 l35n l35 r => ?_)
      · obtain ⟨n36, ln36, r⟩ := rn_steps 0 (93, [some (.ref 1), x1, x2, some (.int b3), some (.int b4), some (.int b5), some (.int b6), some (.int b7), x8], [.int 86400], aa_H g) rfl r
        exact dn_119_93 (lp_q (iw_s v h) d f) (fun n2 l2 => ih n2 (by omega) (by omega)) (fun z hz => hz) x1 x2 x8 jx1 jx2 jx8 r
      · obtain ⟨n37, ln37, r⟩ := rn_steps 3 (87, [some (.ref 1), x1, x2, some (.int b3), some (.int b4), some (.int b5), some (.int b6), some (.int b7), x8], [.int b7, .ref 464], aa_H g) rfl r
        obtain ⟨hb39, n38, ln38, r⟩ := rn_ial (k := 464) rfl ⟨by decide, by decide⟩ rfl r
        have r : rn_s _ 119 (88, [some (.ref 1), x1, x2, some (.int b3), some (.int b4), some (.int b5), some (.int b6), some (.int b7), x8], [.int (g 464 b7.toNatClampNeg)], aa_H g) v h := r
        obtain ⟨n40, ln40, r⟩ := rn_steps 0 (93, [some (.ref 1), x1, x2, some (.int b3), some (.int b4), some (.int b5), some (.int b6), some (.int b7), x8], [.int (g 464 b7.toNatClampNeg)], aa_H g) rfl r
        exact dn_119_93 (lp_q (iw_s v h) d f) (fun n2 l2 => ih n2 (by omega) (by omega)) (fun z hz => hz) x1 x2 x8 jx1 jx2 jx8 r
theorem dn_119_54 {v : Option Value} {h : zz_H} {n : Nat} {g : aa_G} {b3 : Int32} {b4 : Int32} {b5 : Int32} {b6 : Int32} {b7 : Int32}  (x1 x2 x8 : Option Value) (jx1 : rn_jk x1) (jx2 : rn_jk x2) (jx8 : rn_jk x8) (r : rn_s n 119 (54, [some (.ref 1), x1, x2, some (.int b3), some (.int b4), some (.int b5), some (.int b6), some (.int b7), x8], [], aa_H g) v h) : (iw_s v h) (fn_119_54 g b3 b4 b5 b6 b7) := dn_119_54l  n (Nat.le_refl n) b4 b5 b6 b7 x1 x2 x8 jx1 jx2 jx8 r
noncomputable def fn_119_42 (g : aa_G) (b3 : Int32) : Int32 × aa_G := fn_119_54 g b3 0 0 (-1) 0
theorem dn_119_42 {v : Option Value} {h : zz_H} {n : Nat} {g : aa_G} {b3 : Int32}  (x1 x2 x4 x5 x6 x7 x8 : Option Value) (jx1 : rn_jk x1) (jx2 : rn_jk x2) (jx4 : rn_jk x4) (jx5 : rn_jk x5) (jx6 : rn_jk x6) (jx7 : rn_jk x7) (jx8 : rn_jk x8) (r : rn_s n 119 (42, [some (.ref 1), x1, x2, some (.int b3), x4, x5, x6, x7, x8], [], aa_H g) v h) : iw_s v h (fn_119_42 g b3) := by
  unfold fn_119_42
  obtain ⟨n24, ln24, r⟩ := rn_steps 7 (54, [some (.ref 1), x1, x2, some (.int b3), some (.int 0), some (.int 0), some (.int (-1)), some (.int 0), x8], [], aa_H g) rfl r
  exact dn_119_54 x1 x2 x8 jx1 jx2 jx8 r
noncomputable def fn_119 (g : aa_G) (a1 : Int32) (a2 : Int32) (a3 : Int32) : Int32 × aa_G := (match fn_31 g a1 with | none => ((-1, g)) | some W6 => (if (fn_77 a2) = 0 then (-1, g) else if (fn_14 a3 0 1) ≠ 0 then fn_119_42 (fn_103 g 463 a1 a2) a3 else (-1, g)))
theorem dn_119 {v : Option Value} {h : zz_H} {n : Nat} {g : aa_G} {a1 : Int32} {a2 : Int32} {a3 : Int32}  (r : rn_s n 119 (0, zz_in [.ref 1, .int a1, .int a2, .int a3] (zz_nl 119), [], aa_H g) v h) : iw_s v h (fn_119 g a1 a2 a3) := by
  have r : rn_s n 119 (0, [some (.ref 1), some (.int a1), some (.int a2), some (.int a3), none, none, none, none, none], [], aa_H g) v h := r
  unfold fn_119
  obtain ⟨n1, ln1, r⟩ := rn_steps 2 (5, [some (.ref 1), some (.int a1), some (.int a2), some (.int a3), none, none, none, none, none], [.int a1, .ref 2], aa_H g) rfl r
  obtain ⟨_, n2, v1, h1, -, ln2, rc, r⟩ := rn_call (m2 := 31) (as := [.ref 2, .int a1]) (rest := []) rfl rfl r
  obtain ⟨rfl, rfl, ho4⟩ := dn_31 rc
  have r : rn_s _ 119 (8, [some (.ref 1), some (.int a1), some (.int a2), some (.int a3), none, none, none, none, none], [zz_val (fn_31 g a1)], aa_H g) v h := r
  cases e5 : fn_31 g a1 with
  | none =>
    rw [e5] at r
    have r : rn_s _ 119 (8, [some (.ref 1), some (.int a1), some (.int a2), some (.int a3), none, none, none, none, none], [.null], aa_H g) v h := r
    dsimp only
    obtain ⟨n8, ln8, r⟩ := rn_steps 1 (28, [some (.ref 1), some (.int a1), some (.int a2), some (.int a3), none, none, none, none, none], [.int (-1)], aa_H g) rfl r
    exact rn_ire rfl r
  | some W6 =>
    rw [e5] at r
    have hw7 : ct_tw W6 := ho4 _ e5
    have r : rn_s _ 119 (8, [some (.ref 1), some (.int a1), some (.int a2), some (.int a3), none, none, none, none, none], [.ref W6], aa_H g) v h := r
    dsimp only
    obtain ⟨n9, ln9, r⟩ := rn_steps 1 (12, [some (.ref 1), some (.int a1), some (.int a2), some (.int a3), none, none, none, none, none], [.int a2], aa_H g) rfl r
    obtain ⟨_, n10, v1, h1, -, ln10, rc, r⟩ := rn_call (m2 := 77) (as := [.int a2]) (rest := []) rfl rfl r
    obtain ⟨rfl, rfl⟩ := dn_77 rc
    have r : rn_s _ 119 (15, [some (.ref 1), some (.int a1), some (.int a2), some (.int a3), none, none, none, none, none], [.int (fn_77 a2)], aa_H g) v h := r
    refine rn_if (iw_s v h) rfl decide_eq_true_iff.symm r (fun c12 l13n l13 r => ?_) (fun c12 l13n l13 r => ?_)
    · obtain ⟨n14, ln14, r⟩ := rn_steps 0 (28, [some (.ref 1), some (.int a1), some (.int a2), some (.int a3), none, none, none, none, none], [.int (-1)], aa_H g) rfl r
      exact rn_ire rfl r
    · obtain ⟨n15, ln15, r⟩ := rn_steps 2 (21, [some (.ref 1), some (.int a1), some (.int a2), some (.int a3), none, none, none, none, none], [.int 1, .int 0, .int a3], aa_H g) rfl r
      obtain ⟨_, n16, v1, h1, -, ln16, rc, r⟩ := rn_call (m2 := 14) (as := [.int a3, .int 0, .int 1]) (rest := []) rfl rfl r
      obtain ⟨rfl, rfl⟩ := dn_14 rc
      have r : rn_s _ 119 (24, [some (.ref 1), some (.int a1), some (.int a2), some (.int a3), none, none, none, none, none], [.int (fn_14 a3 0 1)], aa_H g) v h := r
      refine rn_if (iw_s v h) rfl decide_eq_true_iff.symm r (fun c18 l19n l19 r => ?_) (fun c18 l19n l19 r => ?_)
      · obtain ⟨n20, ln20, r⟩ := rn_steps 5 (39, [some (.ref 1), some (.int a1), some (.int a2), some (.int a3), none, none, none, none, none], [.int a2, .int a1, .ref 2, .ref 463], aa_H g) rfl r
        obtain ⟨_, n21, v1, h1, -, ln21, rc, r⟩ := rn_call (m2 := 103) (as := [.ref 463, .ref 2, .int a1, .int a2]) (rest := []) rfl rfl r
        obtain ⟨rfl, rfl⟩ := dn_103 rg_c463 rc
        have r : rn_s _ 119 (42, [some (.ref 1), some (.int a1), some (.int a2), some (.int a3), none, none, none, none, none], [], aa_H (fn_103 g 463 a1 a2)) v h := r
        exact dn_119_42 (some (.int a1)) (some (.int a2)) none none none none none rn_ji rn_ji rn_jn rn_jn rn_jn rn_jn rn_jn r
      · obtain ⟨n23, ln23, r⟩ := rn_steps 0 (28, [some (.ref 1), some (.int a1), some (.int a2), some (.int a3), none, none, none, none, none], [.int (-1)], aa_H g) rfl r
        exact rn_ire rfl r
-- 138: UnequalHours same
noncomputable def fn_138_127 (g : aa_G) (b1 : Int32) (b2 : Int32) (B3 : Nat) (B4 : Nat) (b5 : Int32) (b6 : Int32) (b7 : Int32) : (Int32 × Int32) ⊕ ((aa_G × Int32 × Int32) ⊕ (Int32 × aa_G)) := .inl (b5, b7 + 1)
theorem dn_138_127 {v : Option Value} {h : zz_H} {n : Nat} {g : aa_G} {b1 : Int32} {b2 : Int32} {B3 : Nat} {B4 : Nat} {b5 : Int32} {b6 : Int32} {b7 : Int32} (P : (Int32 × Int32) ⊕ ((aa_G × Int32 × Int32) ⊕ (Int32 × aa_G)) → Prop) (hO0 : ∀ n2, n2 < n → ∀ (yg : aa_G) (yb5 : Int32) (yb6 : Int32) (yx7 : Option Value) (_ : rn_jk yx7), rn_s n2 138 (52, [some (.ref 1), some (.int b1), some (.int b2), some (.ref B3), some (.ref B4), some (.int yb5), some (.int yb6), yx7], [], aa_H yg) v h → P (.inr (.inl (yg, yb5, yb6)))) (hO1 : ∀ n2, n2 < n → ∀ (yb5 : Int32) (yb7 : Int32), rn_s n2 138 (79, [some (.ref 1), some (.int b1), some (.int b2), some (.ref B3), some (.ref B4), some (.int yb5), some (.int b6), some (.int yb7)], [], aa_H g) v h → P (.inl (yb5, yb7))) (hR : ∀ E, iw_s v h E → P (.inr (.inr E))) (hB3 : ct_tw B3) (hB4 : ct_tw B4) (r : rn_s n 138 (127, [some (.ref 1), some (.int b1), some (.int b2), some (.ref B3), some (.ref B4), some (.int b5), some (.int b6), some (.int b7)], [], aa_H g) v h) : P (fn_138_127 g b1 b2 B3 B4 b5 b6 b7) := by
  unfold fn_138_127
  obtain ⟨n59, ln59, r⟩ := rn_steps 1 (79, [some (.ref 1), some (.int b1), some (.int b2), some (.ref B3), some (.ref B4), some (.int b5), some (.int b6), some (.int (b7 + 1))], [], aa_H g) rfl r
  exact hO1 _ (by omega) b5 (b7 + 1) r
noncomputable def fn_138_79b (g : aa_G) (b1 : Int32) (b2 : Int32) (B3 : Nat) (B4 : Nat) (b5 : Int32) (b6 : Int32) (b7 : Int32) : (Int32 × Int32) ⊕ ((aa_G × Int32 × Int32) ⊕ (Int32 × aa_G)) := if (g 463 0) ≤ b7 then .inr (.inl (g, b5, b6 + 1)) else if (fn_139 g 469 (((g 464 b7.toNatClampNeg) + (fn_94 g B3 B4)) - (b6 * 86400))) = 0 then fn_138_127 g b1 b2 B3 B4 b5 b6 b7 else fn_138_127 g b1 b2 B3 B4 (b5 + 1) b6 b7
noncomputable def fn_138_79 (g : aa_G) (b1 : Int32) (b2 : Int32) (B3 : Nat) (B4 : Nat) (b5 : Int32) (b6 : Int32) (b7 : Int32) : (aa_G × Int32 × Int32) ⊕ (Int32 × aa_G) := lp_f (.inr (0, g)) (fun z : (Int32 × Int32) => fn_138_79b g b1 b2 B3 B4 z.1 b6 z.2) (b5, b7)
theorem dn_138_79l {v : Option Value} {h : zz_H} {N : Nat} {g : aa_G} {b1 : Int32} {b2 : Int32} {B3 : Nat} {B4 : Nat} {b6 : Int32} (P : (aa_G × Int32 × Int32) ⊕ (Int32 × aa_G) → Prop) (hO0 : ∀ n2, n2 < N → ∀ (yg : aa_G) (yb5 : Int32) (yb6 : Int32) (yx7 : Option Value) (_ : rn_jk yx7), rn_s n2 138 (52, [some (.ref 1), some (.int b1), some (.int b2), some (.ref B3), some (.ref B4), some (.int yb5), some (.int yb6), yx7], [], aa_H yg) v h → P (.inl (yg, yb5, yb6))) (hR : ∀ E, iw_s v h E → P (.inr E)) (hB3 : ct_tw B3) (hB4 : ct_tw B4) {d : (aa_G × Int32 × Int32) ⊕ (Int32 × aa_G)} : ∀ (n : Nat), n ≤ N → ∀ (b5 : Int32) (b7 : Int32), rn_s n 138 (79, [some (.ref 1), some (.int b1), some (.int b2), some (.ref B3), some (.ref B4), some (.int b5), some (.int b6), some (.int b7)], [], aa_H g) v h → P (lp_f d (fun z : (Int32 × Int32) => fn_138_79b g b1 b2 B3 B4 z.1 b6 z.2) (b5, b7)) := by
  generalize hf : (fun z : (Int32 × Int32) => fn_138_79b g b1 b2 B3 B4 z.1 b6 z.2) = f
  intro n
  induction n using Nat.strongRecOn with
  | _ n ih =>
    intro hN b5 b7  r
    refine lp_go ?_
    rw [← congrFun hf (b5, b7)]
    show lp_q P d f (fn_138_79b g b1 b2 B3 B4 b5 b6 b7)
    unfold fn_138_79b
    obtain ⟨n43, ln43, r⟩ := rn_steps 3 (88, [some (.ref 1), some (.int b1), some (.int b2), some (.ref B3), some (.ref B4), some (.int b5), some (.int b6), some (.int b7)], [.int (g 463 0), .int b7], aa_H g) rfl r
    refine rn_ic (lp_q P d f) rfl decide_eq_true_iff.symm r (fun c44 l45n l45 r => ?_) (fun c44 l45n l45 r => ?_)
    · obtain ⟨n46, ln46, r⟩ := rn_steps 1 (52, [some (.ref 1), some (.int b1), some (.int b2), some (.ref B3), some (.ref B4), some (.int b5), some (.int (b6 + 1)), some (.int b7)], [], aa_H g) rfl r
      exact hO0 _ (by omega) g b5 (b6 + 1) (some (.int b7)) rn_ji r
    · obtain ⟨n47, ln47, r⟩ := rn_steps 5 (104, [some (.ref 1), some (.int b1), some (.int b2), some (.ref B3), some (.ref B4), some (.int b5), some (.int b6), some (.int b7)], [.int b7, .ref 464, .ref 469], aa_H g) rfl r
      obtain ⟨hb49, n48, ln48, r⟩ := rn_ial (k := 464) rfl ⟨by decide, by decide⟩ rfl r
      have r : rn_s _ 138 (105, [some (.ref 1), some (.int b1), some (.int b2), some (.ref B3), some (.ref B4), some (.int b5), some (.int b6), some (.int b7)], [.int (g 464 b7.toNatClampNeg), .ref 469], aa_H g) v h := r
      obtain ⟨n50, ln50, r⟩ := rn_steps 1 (108, [some (.ref 1), some (.int b1), some (.int b2), some (.ref B3), some (.ref B4), some (.int b5), some (.int b6), some (.int b7)], [.ref B4, .ref B3, .int (g 464 b7.toNatClampNeg), .ref 469], aa_H g) rfl r
      obtain ⟨_, n51, v1, h1, -, ln51, rc, r⟩ := rn_call (m2 := 94) (as := [.ref B3, .ref B4]) (rest := [.int (g 464 b7.toNatClampNeg), .ref 469]) rfl rfl r
      obtain ⟨rfl, rfl⟩ := dn_94 hB3 hB4 rc
      have r : rn_s _ 138 (111, [some (.ref 1), some (.int b1), some (.int b2), some (.ref B3), some (.ref B4), some (.int b5), some (.int b6), some (.int b7)], [.int (fn_94 g B3 B4), .int (g 464 b7.toNatClampNeg), .ref 469], aa_H g) v h := r
      obtain ⟨n53, ln53, r⟩ := rn_steps 4 (118, [some (.ref 1), some (.int b1), some (.int b2), some (.ref B3), some (.ref B4), some (.int b5), some (.int b6), some (.int b7)], [.int (((g 464 b7.toNatClampNeg) + (fn_94 g B3 B4)) - (b6 * 86400)), .ref 469], aa_H g) rfl r
      obtain ⟨_, n54, v1, h1, -, ln54, rc, r⟩ := rn_call (m2 := 139) (as := [.ref 469, .int (((g 464 b7.toNatClampNeg) + (fn_94 g B3 B4)) - (b6 * 86400))]) (rest := []) rfl rfl r
      obtain ⟨rfl, rfl⟩ := dn_139 rg_c469 rc
      have r : rn_s _ 138 (121, [some (.ref 1), some (.int b1), some (.int b2), some (.ref B3), some (.ref B4), some (.int b5), some (.int b6), some (.int b7)], [.int (fn_139 g 469 (((g 464 b7.toNatClampNeg) + (fn_94 g B3 B4)) - (b6 * 86400)))], aa_H g) v h := r
      refine rn_if (lp_q P d f) rfl decide_eq_true_iff.symm r (fun c56 l57n l57 r => ?_) (fun c56 l57n l57 r => ?_)
      · exact dn_138_127 (lp_q P d f) (fun n2 l2 => hO0 n2 (by omega)) (fun n2 l2 => ih n2 (by omega) (by omega)) (fun z hz => hR _ hz) hB3 hB4 r
      · obtain ⟨n58, ln58, r⟩ := rn_steps 0 (127, [some (.ref 1), some (.int b1), some (.int b2), some (.ref B3), some (.ref B4), some (.int (b5 + 1)), some (.int b6), some (.int b7)], [], aa_H g) rfl r
        exact dn_138_127 (lp_q P d f) (fun n2 l2 => hO0 n2 (by omega)) (fun n2 l2 => ih n2 (by omega) (by omega)) (fun z hz => hR _ hz) hB3 hB4 r
theorem dn_138_79 {v : Option Value} {h : zz_H} {n : Nat} {g : aa_G} {b1 : Int32} {b2 : Int32} {B3 : Nat} {B4 : Nat} {b5 : Int32} {b6 : Int32} {b7 : Int32} (P : (aa_G × Int32 × Int32) ⊕ (Int32 × aa_G) → Prop) (hO0 : ∀ n2, n2 < n → ∀ (yg : aa_G) (yb5 : Int32) (yb6 : Int32) (yx7 : Option Value) (_ : rn_jk yx7), rn_s n2 138 (52, [some (.ref 1), some (.int b1), some (.int b2), some (.ref B3), some (.ref B4), some (.int yb5), some (.int yb6), yx7], [], aa_H yg) v h → P (.inl (yg, yb5, yb6))) (hR : ∀ E, iw_s v h E → P (.inr E)) (hB3 : ct_tw B3) (hB4 : ct_tw B4) (r : rn_s n 138 (79, [some (.ref 1), some (.int b1), some (.int b2), some (.ref B3), some (.ref B4), some (.int b5), some (.int b6), some (.int b7)], [], aa_H g) v h) : P (fn_138_79 g b1 b2 B3 B4 b5 b6 b7) := dn_138_79l P hO0 hR hB3 hB4 n (Nat.le_refl n) b5 b7 r
noncomputable def fn_138_76 (g : aa_G) (b1 : Int32) (b2 : Int32) (B3 : Nat) (B4 : Nat) (b5 : Int32) (b6 : Int32) : (aa_G × Int32 × Int32) ⊕ (Int32 × aa_G) := fn_138_79 g b1 b2 B3 B4 b5 b6 0
theorem dn_138_76 {v : Option Value} {h : zz_H} {n : Nat} {g : aa_G} {b1 : Int32} {b2 : Int32} {B3 : Nat} {B4 : Nat} {b5 : Int32} {b6 : Int32} (P : (aa_G × Int32 × Int32) ⊕ (Int32 × aa_G) → Prop) (hO0 : ∀ n2, n2 < n → ∀ (yg : aa_G) (yb5 : Int32) (yb6 : Int32) (yx7 : Option Value) (_ : rn_jk yx7), rn_s n2 138 (52, [some (.ref 1), some (.int b1), some (.int b2), some (.ref B3), some (.ref B4), some (.int yb5), some (.int yb6), yx7], [], aa_H yg) v h → P (.inl (yg, yb5, yb6))) (hR : ∀ E, iw_s v h E → P (.inr E)) (hB3 : ct_tw B3) (hB4 : ct_tw B4) (x7 : Option Value) (jx7 : rn_jk x7) (r : rn_s n 138 (76, [some (.ref 1), some (.int b1), some (.int b2), some (.ref B3), some (.ref B4), some (.int b5), some (.int b6), x7], [], aa_H g) v h) : P (fn_138_76 g b1 b2 B3 B4 b5 b6) := by
  unfold fn_138_76
  obtain ⟨n42, ln42, r⟩ := rn_steps 1 (79, [some (.ref 1), some (.int b1), some (.int b2), some (.ref B3), some (.ref B4), some (.int b5), some (.int b6), some (.int 0)], [], aa_H g) rfl r
  exact dn_138_79 (P) (fun n2 l2 => hO0 n2 (by omega)) (fun z hz => hR _ hz) hB3 hB4 r
noncomputable def fn_138_52b (g : aa_G) (b1 : Int32) (b2 : Int32) (B3 : Nat) (B4 : Nat) (b5 : Int32) (b6 : Int32) : (aa_G × Int32 × Int32) ⊕ (Int32 × aa_G) := if 1 < b6 then .inr (b5, g) else fn_138_76 (fn_103 g 469 (b1 - b1 / 4 * 4) (b2 + b6)) b1 b2 B3 B4 b5 b6
noncomputable def fn_138_52 (g : aa_G) (b1 : Int32) (b2 : Int32) (B3 : Nat) (B4 : Nat) (b5 : Int32) (b6 : Int32) : Int32 × aa_G := lp_f (0, g) (fun z : (aa_G × Int32 × Int32) => fn_138_52b z.1 b1 b2 B3 B4 z.2.1 z.2.2) (g, b5, b6)
theorem dn_138_52l {v : Option Value} {h : zz_H} {N : Nat} {b1 : Int32} {b2 : Int32} {B3 : Nat} {B4 : Nat} (hB3 : ct_tw B3) (hB4 : ct_tw B4) {d : Int32 × aa_G} : ∀ (n : Nat), n ≤ N → ∀ (g : aa_G) (b5 : Int32) (b6 : Int32) (x7 : Option Value) (jx7 : rn_jk x7), rn_s n 138 (52, [some (.ref 1), some (.int b1), some (.int b2), some (.ref B3), some (.ref B4), some (.int b5), some (.int b6), x7], [], aa_H g) v h → (iw_s v h) (lp_f d (fun z : (aa_G × Int32 × Int32) => fn_138_52b z.1 b1 b2 B3 B4 z.2.1 z.2.2) (g, b5, b6)) := by
  generalize hf : (fun z : (aa_G × Int32 × Int32) => fn_138_52b z.1 b1 b2 B3 B4 z.2.1 z.2.2) = f
  intro n
  induction n using Nat.strongRecOn with
  | _ n ih =>
    intro hN g b5 b6 x7 jx7 r
    refine lp_go ?_
    rw [← congrFun hf (g, b5, b6)]
    show lp_q (iw_s v h) d f (fn_138_52b g b1 b2 B3 B4 b5 b6)
    unfold fn_138_52b
    obtain ⟨n35, ln35, r⟩ := rn_steps 1 (55, [some (.ref 1), some (.int b1), some (.int b2), some (.ref B3), some (.ref B4), some (.int b5), some (.int b6), x7], [.int 1, .int b6], aa_H g) rfl r
    refine rn_ic (lp_q (iw_s v h) d f) rfl decide_eq_true_iff.symm r (fun c36 l37n l37 r => ?_) (fun c36 l37n l37 r => ?_)
    · obtain ⟨n38, ln38, r⟩ := rn_steps 0 (141, [some (.ref 1), some (.int b1), some (.int b2), some (.ref B3), some (.ref B4), some (.int b5), some (.int b6), x7], [.int b5], aa_H g) rfl r
      exact rn_ire rfl r
    · obtain ⟨n39, ln39, r⟩ := rn_steps 9 (73, [some (.ref 1), some (.int b1), some (.int b2), some (.ref B3), some (.ref B4), some (.int b5), some (.int b6), x7], [.int (b2 + b6), .int (b1 - b1 / 4 * 4), .ref 2, .ref 469], aa_H g) rfl r
      obtain ⟨_, n40, v1, h1, -, ln40, rc, r⟩ := rn_call (m2 := 103) (as := [.ref 469, .ref 2, .int (b1 - b1 / 4 * 4), .int (b2 + b6)]) (rest := []) rfl rfl r
      obtain ⟨rfl, rfl⟩ := dn_103 rg_c469 rc
      have r : rn_s _ 138 (76, [some (.ref 1), some (.int b1), some (.int b2), some (.ref B3), some (.ref B4), some (.int b5), some (.int b6), x7], [], aa_H (fn_103 g 469 (b1 - b1 / 4 * 4) (b2 + b6))) v h := r
      exact dn_138_76 (lp_q (iw_s v h) d f) (fun n2 l2 => ih n2 (by omega) (by omega)) (fun z hz => hz) hB3 hB4 x7 jx7 r
theorem dn_138_52 {v : Option Value} {h : zz_H} {n : Nat} {g : aa_G} {b1 : Int32} {b2 : Int32} {B3 : Nat} {B4 : Nat} {b5 : Int32} {b6 : Int32} (hB3 : ct_tw B3) (hB4 : ct_tw B4) (x7 : Option Value) (jx7 : rn_jk x7) (r : rn_s n 138 (52, [some (.ref 1), some (.int b1), some (.int b2), some (.ref B3), some (.ref B4), some (.int b5), some (.int b6), x7], [], aa_H g) v h) : (iw_s v h) (fn_138_52 g b1 b2 B3 B4 b5 b6) := dn_138_52l hB3 hB4 n (Nat.le_refl n) g b5 b6 x7 jx7 r
noncomputable def fn_138_46 (g : aa_G) (b1 : Int32) (b2 : Int32) (B3 : Nat) (B4 : Nat) : Int32 × aa_G := fn_138_52 g b1 b2 B3 B4 0 (-1)
theorem dn_138_46 {v : Option Value} {h : zz_H} {n : Nat} {g : aa_G} {b1 : Int32} {b2 : Int32} {B3 : Nat} {B4 : Nat} (hB3 : ct_tw B3) (hB4 : ct_tw B4) (x5 x6 x7 : Option Value) (jx5 : rn_jk x5) (jx6 : rn_jk x6) (jx7 : rn_jk x7) (r : rn_s n 138 (46, [some (.ref 1), some (.int b1), some (.int b2), some (.ref B3), some (.ref B4), x5, x6, x7], [], aa_H g) v h) : iw_s v h (fn_138_46 g b1 b2 B3 B4) := by
  unfold fn_138_46
  obtain ⟨n34, ln34, r⟩ := rn_steps 3 (52, [some (.ref 1), some (.int b1), some (.int b2), some (.ref B3), some (.ref B4), some (.int 0), some (.int (-1)), x7], [], aa_H g) rfl r
  exact dn_138_52 hB3 hB4 x7 jx7 r
noncomputable def fn_138 (g : aa_G) (a1 : Int32) (a2 : Int32) : Int32 × aa_G := (match fn_133 g a1 with | none => ((match fn_134 g a1 with | none => ((-1, g)) | some W13 => ((-1, g)))) | some W6 => ((match fn_134 g a1 with | none => ((-1, g)) | some W22 => (if (fn_77 a2) ≠ 0 then fn_138_46 (fn_103 g 463 (a1 / 4) a2) a1 a2 W6 W22 else (-1, g)))))
theorem dn_138 {v : Option Value} {h : zz_H} {n : Nat} {g : aa_G} {a1 : Int32} {a2 : Int32}  (r : rn_s n 138 (0, zz_in [.ref 1, .int a1, .int a2] (zz_nl 138), [], aa_H g) v h) : iw_s v h (fn_138 g a1 a2) := by
  have r : rn_s n 138 (0, [some (.ref 1), some (.int a1), some (.int a2), none, none, none, none, none], [], aa_H g) v h := r
  unfold fn_138
  obtain ⟨n1, ln1, r⟩ := rn_steps 1 (2, [some (.ref 1), some (.int a1), some (.int a2), none, none, none, none, none], [.int a1, .ref 1], aa_H g) rfl r
  obtain ⟨_, n2, v1, h1, -, ln2, rc, r⟩ := rn_call (m2 := 133) (as := [.ref 1, .int a1]) (rest := []) rfl rfl r
  obtain ⟨rfl, rfl, ho4⟩ := dn_133 rc
  have r : rn_s _ 138 (5, [some (.ref 1), some (.int a1), some (.int a2), none, none, none, none, none], [zz_val (fn_133 g a1)], aa_H g) v h := r
  cases e5 : fn_133 g a1 with
  | none =>
    rw [e5] at r
    have r : rn_s _ 138 (5, [some (.ref 1), some (.int a1), some (.int a2), none, none, none, none, none], [.null], aa_H g) v h := r
    dsimp only
    obtain ⟨n8, ln8, r⟩ := rn_steps 2 (8, [some (.ref 1), some (.int a1), some (.int a2), some (.null), none, none, none, none], [.int a1, .ref 1], aa_H g) rfl r
    obtain ⟨_, n9, v1, h1, -, ln9, rc, r⟩ := rn_call (m2 := 134) (as := [.ref 1, .int a1]) (rest := []) rfl rfl r
    obtain ⟨rfl, rfl, ho11⟩ := dn_134 rc
    have r : rn_s _ 138 (11, [some (.ref 1), some (.int a1), some (.int a2), some (.null), none, none, none, none], [zz_val (fn_134 g a1)], aa_H g) v h := r
    cases e12 : fn_134 g a1 with
    | none =>
      rw [e12] at r
      have r : rn_s _ 138 (11, [some (.ref 1), some (.int a1), some (.int a2), some (.null), none, none, none, none], [.null], aa_H g) v h := r
      dsimp only
      obtain ⟨n15, ln15, r⟩ := rn_steps 3 (30, [some (.ref 1), some (.int a1), some (.int a2), some (.null), some (.null), none, none, none], [.int (-1)], aa_H g) rfl r
      exact rn_ire rfl r
    | some W13 =>
      rw [e12] at r
      have hw14 : ct_tw W13 := ho11 _ e12
      have r : rn_s _ 138 (11, [some (.ref 1), some (.int a1), some (.int a2), some (.null), none, none, none, none], [.ref W13], aa_H g) v h := r
      dsimp only
      obtain ⟨n16, ln16, r⟩ := rn_steps 3 (30, [some (.ref 1), some (.int a1), some (.int a2), some (.null), some (.ref W13), none, none, none], [.int (-1)], aa_H g) rfl r
      exact rn_ire rfl r
  | some W6 =>
    rw [e5] at r
    have hw7 : ct_tw W6 := ho4 _ e5
    have r : rn_s _ 138 (5, [some (.ref 1), some (.int a1), some (.int a2), none, none, none, none, none], [.ref W6], aa_H g) v h := r
    dsimp only
    obtain ⟨n17, ln17, r⟩ := rn_steps 2 (8, [some (.ref 1), some (.int a1), some (.int a2), some (.ref W6), none, none, none, none], [.int a1, .ref 1], aa_H g) rfl r
    obtain ⟨_, n18, v1, h1, -, ln18, rc, r⟩ := rn_call (m2 := 134) (as := [.ref 1, .int a1]) (rest := []) rfl rfl r
    obtain ⟨rfl, rfl, ho20⟩ := dn_134 rc
    have r : rn_s _ 138 (11, [some (.ref 1), some (.int a1), some (.int a2), some (.ref W6), none, none, none, none], [zz_val (fn_134 g a1)], aa_H g) v h := r
    cases e21 : fn_134 g a1 with
    | none =>
      rw [e21] at r
      have r : rn_s _ 138 (11, [some (.ref 1), some (.int a1), some (.int a2), some (.ref W6), none, none, none, none], [.null], aa_H g) v h := r
      dsimp only
      obtain ⟨n24, ln24, r⟩ := rn_steps 5 (30, [some (.ref 1), some (.int a1), some (.int a2), some (.ref W6), some (.null), none, none, none], [.int (-1)], aa_H g) rfl r
      exact rn_ire rfl r
    | some W22 =>
      rw [e21] at r
      have hw23 : ct_tw W22 := ho20 _ e21
      have r : rn_s _ 138 (11, [some (.ref 1), some (.int a1), some (.int a2), some (.ref W6), none, none, none, none], [.ref W22], aa_H g) v h := r
      dsimp only
      obtain ⟨n25, ln25, r⟩ := rn_steps 5 (23, [some (.ref 1), some (.int a1), some (.int a2), some (.ref W6), some (.ref W22), none, none, none], [.int a2], aa_H g) rfl r
      obtain ⟨_, n26, v1, h1, -, ln26, rc, r⟩ := rn_call (m2 := 77) (as := [.int a2]) (rest := []) rfl rfl r
      obtain ⟨rfl, rfl⟩ := dn_77 rc
      have r : rn_s _ 138 (26, [some (.ref 1), some (.int a1), some (.int a2), some (.ref W6), some (.ref W22), none, none, none], [.int (fn_77 a2)], aa_H g) v h := r
      refine rn_if (iw_s v h) rfl decide_eq_true_iff.symm r (fun c28 l29n l29 r => ?_) (fun c28 l29n l29 r => ?_)
      · obtain ⟨n30, ln30, r⟩ := rn_steps 7 (43, [some (.ref 1), some (.int a1), some (.int a2), some (.ref W6), some (.ref W22), none, none, none], [.int a2, .int (a1 / 4), .ref 2, .ref 463], aa_H g) rfl r
        obtain ⟨_, n31, v1, h1, -, ln31, rc, r⟩ := rn_call (m2 := 103) (as := [.ref 463, .ref 2, .int (a1 / 4), .int a2]) (rest := []) rfl rfl r
        obtain ⟨rfl, rfl⟩ := dn_103 rg_c463 rc
        have r : rn_s _ 138 (46, [some (.ref 1), some (.int a1), some (.int a2), some (.ref W6), some (.ref W22), none, none, none], [], aa_H (fn_103 g 463 (a1 / 4) a2)) v h := r
        exact dn_138_46 hw7 hw23 none none none rn_jn rn_jn rn_jn r
      · obtain ⟨n33, ln33, r⟩ := rn_steps 0 (30, [some (.ref 1), some (.int a1), some (.int a2), some (.ref W6), some (.ref W22), none, none, none], [.int (-1)], aa_H g) rfl r
        exact rn_ire rfl r
-- 102: UnequalHours ring
noncomputable def fn_102_37 (g : aa_G) (b3 : Int32) (b4 : Int32) : Int32 × aa_G := if b3 ≠ (-1) then if (fn_14 b3 0 ((g 463 0) - 1)) ≠ 0 then if b4.toInt = 0 then (g 464 b3.toNatClampNeg, g) else if b4.toInt = 1 then (g 465 b3.toNatClampNeg, g) else if b4.toInt = 2 then (fn_111 g (g 465 b3.toNatClampNeg), g) else (-1, g) else (-1, g) else (g 463 0, g)
theorem dn_102_37 {v : Option Value} {h : zz_H} {n : Nat} {g : aa_G} {b3 : Int32} {b4 : Int32}  (x1 x2 x5 : Option Value) (jx1 : rn_jk x1) (jx2 : rn_jk x2) (jx5 : rn_jk x5) (r : rn_s n 102 (37, [some (.ref 1), x1, x2, some (.int b3), some (.int b4), x5], [], aa_H g) v h) : iw_s v h (fn_102_37 g b3 b4) := by
  unfold fn_102_37
  obtain ⟨n18, ln18, r⟩ := rn_steps 1 (39, [some (.ref 1), x1, x2, some (.int b3), some (.int b4), x5], [.int (-1), .int b3], aa_H g) rfl r
  refine rn_ic (iw_s v h) rfl decide_eq_true_iff.symm r (fun c19 l20n l20 r => ?_) (fun c19 l20n l20 r => ?_)
  · obtain ⟨n21, ln21, r⟩ := rn_steps 6 (61, [some (.ref 1), x1, x2, some (.int b3), some (.int b4), x5], [.int ((g 463 0) - 1), .int 0, .int b3], aa_H g) rfl r
    obtain ⟨_, n22, v1, h1, -, ln22, rc, r⟩ := rn_call (m2 := 14) (as := [.int b3, .int 0, .int ((g 463 0) - 1)]) (rest := []) rfl rfl r
    obtain ⟨rfl, rfl⟩ := dn_14 rc
    have r : rn_s _ 102 (64, [some (.ref 1), x1, x2, some (.int b3), some (.int b4), x5], [.int (fn_14 b3 0 ((g 463 0) - 1))], aa_H g) v h := r
    refine rn_if (iw_s v h) rfl decide_eq_true_iff.symm r (fun c24 l25n l25 r => ?_) (fun c24 l25n l25 r => ?_)
    · obtain ⟨n26, ln26, r⟩ := rn_steps 0 (71, [some (.ref 1), x1, x2, some (.int b3), some (.int b4), x5], [.int b4], aa_H g) rfl r
      obtain ⟨n27, ln27, r⟩ := rn_swi rfl r
      refine rn_sw1 (iw_s v h) r (fun c28 r => ?_) (fun c28 r => ?_)
      · have r : rn_s _ 102 (96, [some (.ref 1), x1, x2, some (.int b3), some (.int b4), x5], [], aa_H g) v h := r
        obtain ⟨n29, ln29, r⟩ := rn_steps 3 (104, [some (.ref 1), x1, x2, some (.int b3), some (.int b4), x5], [.int b3, .ref 464], aa_H g) rfl r
        obtain ⟨hb31, n30, ln30, r⟩ := rn_ial (k := 464) rfl ⟨by decide, by decide⟩ rfl r
        have r : rn_s _ 102 (105, [some (.ref 1), x1, x2, some (.int b3), some (.int b4), x5], [.int (g 464 b3.toNatClampNeg)], aa_H g) v h := r
        exact rn_ire rfl r
      · refine rn_sw1 (iw_s v h) r (fun c32 r => ?_) (fun c32 r => ?_)
        · have r : rn_s _ 102 (106, [some (.ref 1), x1, x2, some (.int b3), some (.int b4), x5], [], aa_H g) v h := r
          obtain ⟨n33, ln33, r⟩ := rn_steps 3 (114, [some (.ref 1), x1, x2, some (.int b3), some (.int b4), x5], [.int b3, .ref 465], aa_H g) rfl r
          obtain ⟨hb35, n34, ln34, r⟩ := rn_ial (k := 465) rfl ⟨by decide, by decide⟩ rfl r
          have r : rn_s _ 102 (115, [some (.ref 1), x1, x2, some (.int b3), some (.int b4), x5], [.int (g 465 b3.toNatClampNeg)], aa_H g) v h := r
          exact rn_ire rfl r
        · refine rn_sw1 (iw_s v h) r (fun c36 r => ?_) (fun c36 r => ?_)
          · have r : rn_s _ 102 (116, [some (.ref 1), x1, x2, some (.int b3), some (.int b4), x5], [], aa_H g) v h := r
            obtain ⟨n37, ln37, r⟩ := rn_steps 6 (131, [some (.ref 1), x1, x2, some (.int b3), some (.int b4), x5], [.int b3, .ref 465, .ref 4], aa_H g) rfl r
            obtain ⟨hb39, n38, ln38, r⟩ := rn_ial (k := 465) rfl ⟨by decide, by decide⟩ rfl r
            have r : rn_s _ 102 (132, [some (.ref 1), x1, x2, some (.int b3), some (.int b4), x5], [.int (g 465 b3.toNatClampNeg), .ref 4], aa_H g) v h := r
            obtain ⟨_, n40, v1, h1, -, ln40, rc, r⟩ := rn_call (m2 := 111) (as := [.ref 4, .int (g 465 b3.toNatClampNeg)]) (rest := []) rfl rfl r
            obtain ⟨rfl, rfl⟩ := dn_111 rc
            have r : rn_s _ 102 (135, [some (.ref 1), x1, x2, some (.int b3), some (.int b4), x5], [.int (fn_111 g (g 465 b3.toNatClampNeg))], aa_H g) v h := r
            exact rn_ire rfl r
          · have r : rn_s _ 102 (136, [some (.ref 1), x1, x2, some (.int b3), some (.int b4), x5], [], aa_H g) v h := r
            obtain ⟨n42, ln42, r⟩ := rn_steps 0 (137, [some (.ref 1), x1, x2, some (.int b3), some (.int b4), x5], [.int (-1)], aa_H g) rfl r
            exact rn_ire rfl r
    · obtain ⟨n43, ln43, r⟩ := rn_steps 0 (68, [some (.ref 1), x1, x2, some (.int b3), some (.int b4), x5], [.int (-1)], aa_H g) rfl r
      exact rn_ire rfl r
  · obtain ⟨n44, ln44, r⟩ := rn_steps 2 (49, [some (.ref 1), x1, x2, some (.int b3), some (.int b4), x5], [.int (g 463 0)], aa_H g) rfl r
    exact rn_ire rfl r
noncomputable def fn_102 (g : aa_G) (a1 : Int32) (a2 : Int32) (a3 : Int32) (a4 : Int32) : Int32 × aa_G := (match fn_31 g a1 with | none => ((-1, g)) | some W6 => (if (fn_77 a2) ≠ 0 then fn_102_37 (fn_103 g 463 a1 a2) a3 a4 else (-1, g)))
theorem dn_102 {v : Option Value} {h : zz_H} {n : Nat} {g : aa_G} {a1 : Int32} {a2 : Int32} {a3 : Int32} {a4 : Int32}  (r : rn_s n 102 (0, zz_in [.ref 1, .int a1, .int a2, .int a3, .int a4] (zz_nl 102), [], aa_H g) v h) : iw_s v h (fn_102 g a1 a2 a3 a4) := by
  have r : rn_s n 102 (0, [some (.ref 1), some (.int a1), some (.int a2), some (.int a3), some (.int a4), none], [], aa_H g) v h := r
  unfold fn_102
  obtain ⟨n1, ln1, r⟩ := rn_steps 2 (5, [some (.ref 1), some (.int a1), some (.int a2), some (.int a3), some (.int a4), none], [.int a1, .ref 2], aa_H g) rfl r
  obtain ⟨_, n2, v1, h1, -, ln2, rc, r⟩ := rn_call (m2 := 31) (as := [.ref 2, .int a1]) (rest := []) rfl rfl r
  obtain ⟨rfl, rfl, ho4⟩ := dn_31 rc
  have r : rn_s _ 102 (8, [some (.ref 1), some (.int a1), some (.int a2), some (.int a3), some (.int a4), none], [zz_val (fn_31 g a1)], aa_H g) v h := r
  cases e5 : fn_31 g a1 with
  | none =>
    rw [e5] at r
    have r : rn_s _ 102 (8, [some (.ref 1), some (.int a1), some (.int a2), some (.int a3), some (.int a4), none], [.null], aa_H g) v h := r
    dsimp only
    obtain ⟨n8, ln8, r⟩ := rn_steps 3 (23, [some (.ref 1), some (.int a1), some (.int a2), some (.int a3), some (.int a4), some (.null)], [.int (-1)], aa_H g) rfl r
    exact rn_ire rfl r
  | some W6 =>
    rw [e5] at r
    have hw7 : ct_tw W6 := ho4 _ e5
    have r : rn_s _ 102 (8, [some (.ref 1), some (.int a1), some (.int a2), some (.int a3), some (.int a4), none], [.ref W6], aa_H g) v h := r
    dsimp only
    obtain ⟨n9, ln9, r⟩ := rn_steps 3 (16, [some (.ref 1), some (.int a1), some (.int a2), some (.int a3), some (.int a4), some (.ref W6)], [.int a2], aa_H g) rfl r
    obtain ⟨_, n10, v1, h1, -, ln10, rc, r⟩ := rn_call (m2 := 77) (as := [.int a2]) (rest := []) rfl rfl r
    obtain ⟨rfl, rfl⟩ := dn_77 rc
    have r : rn_s _ 102 (19, [some (.ref 1), some (.int a1), some (.int a2), some (.int a3), some (.int a4), some (.ref W6)], [.int (fn_77 a2)], aa_H g) v h := r
    refine rn_if (iw_s v h) rfl decide_eq_true_iff.symm r (fun c12 l13n l13 r => ?_) (fun c12 l13n l13 r => ?_)
    · obtain ⟨n14, ln14, r⟩ := rn_steps 5 (34, [some (.ref 1), some (.int a1), some (.int a2), some (.int a3), some (.int a4), some (.ref W6)], [.int a2, .int a1, .ref 2, .ref 463], aa_H g) rfl r
      obtain ⟨_, n15, v1, h1, -, ln15, rc, r⟩ := rn_call (m2 := 103) (as := [.ref 463, .ref 2, .int a1, .int a2]) (rest := []) rfl rfl r
      obtain ⟨rfl, rfl⟩ := dn_103 rg_c463 rc
      have r : rn_s _ 102 (37, [some (.ref 1), some (.int a1), some (.int a2), some (.int a3), some (.int a4), some (.ref W6)], [], aa_H (fn_103 g 463 a1 a2)) v h := r
      exact dn_102_37 (some (.int a1)) (some (.int a2)) (some (.ref W6)) rn_ji rn_ji rn_jr r
    · obtain ⟨n17, ln17, r⟩ := rn_steps 0 (23, [some (.ref 1), some (.int a1), some (.int a2), some (.int a3), some (.int a4), some (.ref W6)], [.int (-1)], aa_H g) rfl r
      exact rn_ire rfl r
end
section
/-! METHODS READ (printed by wip/dc/dc.py) -/
-- 197: UnequalHoursModel between
noncomputable def fn_197 (a0 : Int32) (a1 : Int32) (a2 : Int32) (a3 : Int32) : Int32 := if a3 ≠ 0 then if 0 ≤ ((a1 - a0) * a2) then a0 + (((a1 - a0) * a2) / a3) else a0 + (-(((a3 - 1) - ((a1 - a0) * a2)) / a3)) else a0
theorem dn_197 {v : Option Value} {h : zz_H} {n : Nat} {g : aa_G} {a0 : Int32} {a1 : Int32} {a2 : Int32} {a3 : Int32}  (r : rn_s n 197 (0, zz_in [.int a0, .int a1, .int a2, .int a3] (zz_nl 197), [], aa_H g) v h) : ir_s g v h (fn_197 a0 a1 a2 a3) := by
  have r : rn_s n 197 (0, [some (.int a0), some (.int a1), some (.int a2), some (.int a3), none], [], aa_H g) v h := r
  unfold fn_197
  obtain ⟨n1, ln1, r⟩ := rn_steps 0 (1, [some (.int a0), some (.int a1), some (.int a2), some (.int a3), none], [.int a3], aa_H g) rfl r
  refine rn_if (ir_s g v h) rfl decide_eq_true_iff.symm r (fun c2 l3n l3 r => ?_) (fun c2 l3n l3 r => ?_)
  · obtain ⟨n4, ln4, r⟩ := rn_steps 7 (16, [some (.int a0), some (.int a1), some (.int a2), some (.int a3), some (.int ((a1 - a0) * a2))], [.int ((a1 - a0) * a2), .int a0], aa_H g) rfl r
    refine rn_if (ir_s g v h) rfl decide_eq_true_iff.symm r (fun c5 l6n l6 r => ?_) (fun c5 l6n l6 r => ?_)
    · obtain ⟨n7, ln7, r⟩ := rn_steps 1 (34, [some (.int a0), some (.int a1), some (.int a2), some (.int a3), some (.int ((a1 - a0) * a2))], [.int a3, .int ((a1 - a0) * a2), .int a0], aa_H g) rfl r
      obtain ⟨hd9, n8, ln8, r⟩ := rn_div rfl r
      have r : rn_s _ 197 (35, [some (.int a0), some (.int a1), some (.int a2), some (.int a3), some (.int ((a1 - a0) * a2))], [.int (((a1 - a0) * a2) / a3), .int a0], aa_H g) v h := r
      obtain ⟨n10, ln10, r⟩ := rn_steps 0 (36, [some (.int a0), some (.int a1), some (.int a2), some (.int a3), some (.int ((a1 - a0) * a2))], [.int (a0 + (((a1 - a0) * a2) / a3))], aa_H g) rfl r
      exact rn_ire rfl r
    · obtain ⟨n11, ln11, r⟩ := rn_steps 5 (26, [some (.int a0), some (.int a1), some (.int a2), some (.int a3), some (.int ((a1 - a0) * a2))], [.int a3, .int ((a3 - 1) - ((a1 - a0) * a2)), .int a0], aa_H g) rfl r
      obtain ⟨hd13, n12, ln12, r⟩ := rn_div rfl r
      have r : rn_s _ 197 (27, [some (.int a0), some (.int a1), some (.int a2), some (.int a3), some (.int ((a1 - a0) * a2))], [.int (((a3 - 1) - ((a1 - a0) * a2)) / a3), .int a0], aa_H g) v h := r
      obtain ⟨n14, ln14, r⟩ := rn_steps 2 (36, [some (.int a0), some (.int a1), some (.int a2), some (.int a3), some (.int ((a1 - a0) * a2))], [.int (a0 + (-(((a3 - 1) - ((a1 - a0) * a2)) / a3)))], aa_H g) rfl r
      exact rn_ire rfl r
  · obtain ⟨n15, ln15, r⟩ := rn_steps 0 (5, [some (.int a0), some (.int a1), some (.int a2), some (.int a3), none], [.int a0], aa_H g) rfl r
    exact rn_ire rfl r
-- 196: UnequalHoursModel layBetween
noncomputable def fn_196_81 (g : aa_G) (b2 : Int32) (b3 : Int32) (b4 : Int32) (s0 : Int32) : Int32 × aa_G := (1, zz_w g 540 15 (fn_197 (g 541 s0.toNatClampNeg) (g 541 (b2 + 2).toNatClampNeg) b3 (b3 + b4)))
theorem dn_196_81 {v : Option Value} {h : zz_H} {n : Nat} {g : aa_G} {b2 : Int32} {b3 : Int32} {b4 : Int32} {s0 : Int32}  (x1 : Option Value) (jx1 : rn_jk x1) (r : rn_s n 196 (81, [some (.ref 540), x1, some (.int b2), some (.int b3), some (.int b4)], [.int s0, .ref 541, .ref 540], aa_H g) v h) : iw_s v h (fn_196_81 g b2 b3 b4 s0) := by
  unfold fn_196_81
  obtain ⟨hb29, n28, ln28, r⟩ := rn_ial (k := 541) rfl ⟨by decide, by decide⟩ rfl r
  have r : rn_s _ 196 (82, [some (.ref 540), x1, some (.int b2), some (.int b3), some (.int b4)], [.int (g 541 s0.toNatClampNeg), .ref 540], aa_H g) v h := r
  obtain ⟨n30, ln30, r⟩ := rn_steps 4 (89, [some (.ref 540), x1, some (.int b2), some (.int b3), some (.int b4)], [.int (b2 + 2), .ref 541, .int (g 541 s0.toNatClampNeg), .ref 540], aa_H g) rfl r
  obtain ⟨hb32, n31, ln31, r⟩ := rn_ial (k := 541) rfl ⟨by decide, by decide⟩ rfl r
  have r : rn_s _ 196 (90, [some (.ref 540), x1, some (.int b2), some (.int b3), some (.int b4)], [.int (g 541 (b2 + 2).toNatClampNeg), .int (g 541 s0.toNatClampNeg), .ref 540], aa_H g) v h := r
  obtain ⟨n33, ln33, r⟩ := rn_steps 3 (95, [some (.ref 540), x1, some (.int b2), some (.int b3), some (.int b4)], [.int (b3 + b4), .int b3, .int (g 541 (b2 + 2).toNatClampNeg), .int (g 541 s0.toNatClampNeg), .ref 540], aa_H g) rfl r
  obtain ⟨_, n34, v1, h1, -, ln34, rc, r⟩ := rn_call (m2 := 197) (as := [.int (g 541 s0.toNatClampNeg), .int (g 541 (b2 + 2).toNatClampNeg), .int b3, .int (b3 + b4)]) (rest := [.ref 540]) rfl rfl r
  obtain ⟨rfl, rfl⟩ := dn_197 rc
  have r : rn_s _ 196 (98, [some (.ref 540), x1, some (.int b2), some (.int b3), some (.int b4)], [.int (fn_197 (g 541 s0.toNatClampNeg) (g 541 (b2 + 2).toNatClampNeg) b3 (b3 + b4)), .ref 540], aa_H g) v h := r
  obtain ⟨n36, ln36, r⟩ := rn_steps 1 (102, [some (.ref 540), x1, some (.int b2), some (.int b3), some (.int b4)], [.int 1], aa_H (zz_w g 540 15 (fn_197 (g 541 s0.toNatClampNeg) (g 541 (b2 + 2).toNatClampNeg) b3 (b3 + b4)))) rfl r
  exact rn_ire rfl r
noncomputable def fn_196_53 (g : aa_G) (b1 : Int32) (b2 : Int32) (b3 : Int32) (b4 : Int32) (s0 : Int32) : Int32 × aa_G := fn_196_81 (zz_w g 540 14 (fn_197 (g 541 s0.toNatClampNeg) (g 541 (b2 + 1).toNatClampNeg) b3 (b3 + b4))) b2 b3 b4 (b1 + 2)
theorem dn_196_53 {v : Option Value} {h : zz_H} {n : Nat} {g : aa_G} {b1 : Int32} {b2 : Int32} {b3 : Int32} {b4 : Int32} {s0 : Int32}  (r : rn_s n 196 (53, [some (.ref 540), some (.int b1), some (.int b2), some (.int b3), some (.int b4)], [.int s0, .ref 541, .ref 540], aa_H g) v h) : iw_s v h (fn_196_53 g b1 b2 b3 b4 s0) := by
  unfold fn_196_53
  obtain ⟨hb20, n19, ln19, r⟩ := rn_ial (k := 541) rfl ⟨by decide, by decide⟩ rfl r
  have r : rn_s _ 196 (54, [some (.ref 540), some (.int b1), some (.int b2), some (.int b3), some (.int b4)], [.int (g 541 s0.toNatClampNeg), .ref 540], aa_H g) v h := r
  obtain ⟨n21, ln21, r⟩ := rn_steps 4 (61, [some (.ref 540), some (.int b1), some (.int b2), some (.int b3), some (.int b4)], [.int (b2 + 1), .ref 541, .int (g 541 s0.toNatClampNeg), .ref 540], aa_H g) rfl r
  obtain ⟨hb23, n22, ln22, r⟩ := rn_ial (k := 541) rfl ⟨by decide, by decide⟩ rfl r
  have r : rn_s _ 196 (62, [some (.ref 540), some (.int b1), some (.int b2), some (.int b3), some (.int b4)], [.int (g 541 (b2 + 1).toNatClampNeg), .int (g 541 s0.toNatClampNeg), .ref 540], aa_H g) v h := r
  obtain ⟨n24, ln24, r⟩ := rn_steps 3 (67, [some (.ref 540), some (.int b1), some (.int b2), some (.int b3), some (.int b4)], [.int (b3 + b4), .int b3, .int (g 541 (b2 + 1).toNatClampNeg), .int (g 541 s0.toNatClampNeg), .ref 540], aa_H g) rfl r
  obtain ⟨_, n25, v1, h1, -, ln25, rc, r⟩ := rn_call (m2 := 197) (as := [.int (g 541 s0.toNatClampNeg), .int (g 541 (b2 + 1).toNatClampNeg), .int b3, .int (b3 + b4)]) (rest := [.ref 540]) rfl rfl r
  obtain ⟨rfl, rfl⟩ := dn_197 rc
  have r : rn_s _ 196 (70, [some (.ref 540), some (.int b1), some (.int b2), some (.int b3), some (.int b4)], [.int (fn_197 (g 541 s0.toNatClampNeg) (g 541 (b2 + 1).toNatClampNeg) b3 (b3 + b4)), .ref 540], aa_H g) v h := r
  obtain ⟨n27, ln27, r⟩ := rn_steps 6 (81, [some (.ref 540), some (.int b1), some (.int b2), some (.int b3), some (.int b4)], [.int (b1 + 2), .ref 541, .ref 540], aa_H (zz_w g 540 14 (fn_197 (g 541 s0.toNatClampNeg) (g 541 (b2 + 1).toNatClampNeg) b3 (b3 + b4)))) rfl r
  exact dn_196_81 (some (.int b1)) rn_ji r
noncomputable def fn_196_32 (g : aa_G) (b1 : Int32) (b2 : Int32) (b3 : Int32) (b4 : Int32) (s0 : Int32) : Int32 × aa_G := if s0 = (-1) then fn_196_53 (zz_w g 540 13 s0) b1 b2 b3 b4 (b1 + 1) else (0, zz_w g 540 13 s0)
theorem dn_196_32 {v : Option Value} {h : zz_H} {n : Nat} {g : aa_G} {b1 : Int32} {b2 : Int32} {b3 : Int32} {b4 : Int32} {s0 : Int32}  (r : rn_s n 196 (32, [some (.ref 540), some (.int b1), some (.int b2), some (.int b3), some (.int b4)], [.int s0, .ref 540], aa_H g) v h) : iw_s v h (fn_196_32 g b1 b2 b3 b4 s0) := by
  unfold fn_196_32
  obtain ⟨n14, ln14, r⟩ := rn_steps 3 (40, [some (.ref 540), some (.int b1), some (.int b2), some (.int b3), some (.int b4)], [.int (-1), .int s0], aa_H (zz_w g 540 13 s0)) rfl r
  refine rn_ic (iw_s v h) rfl decide_eq_true_iff.symm r (fun c15 l16n l16 r => ?_) (fun c15 l16n l16 r => ?_)
  · obtain ⟨n17, ln17, r⟩ := rn_steps 5 (53, [some (.ref 540), some (.int b1), some (.int b2), some (.int b3), some (.int b4)], [.int (b1 + 1), .ref 541, .ref 540], aa_H (zz_w g 540 13 s0)) rfl r
    exact dn_196_53 r
  · obtain ⟨n18, ln18, r⟩ := rn_steps 0 (44, [some (.ref 540), some (.int b1), some (.int b2), some (.int b3), some (.int b4)], [.int 0], aa_H (zz_w g 540 13 s0)) rfl r
    exact rn_ire rfl r
noncomputable def fn_196 (g : aa_G) (a1 : Int32) (a2 : Int32) (a3 : Int32) (a4 : Int32) : Int32 × aa_G := if (g 541 (a1 + 3).toNatClampNeg) = (-1) then fn_196_32 g a1 a2 a3 a4 (g 541 (a2 + 3).toNatClampNeg) else fn_196_32 g a1 a2 a3 a4 (g 541 (a1 + 3).toNatClampNeg)
theorem dn_196 {v : Option Value} {h : zz_H} {n : Nat} {g : aa_G} {a1 : Int32} {a2 : Int32} {a3 : Int32} {a4 : Int32}  (r : rn_s n 196 (0, zz_in [.ref 540, .int a1, .int a2, .int a3, .int a4] (zz_nl 196), [], aa_H g) v h) : iw_s v h (fn_196 g a1 a2 a3 a4) := by
  have r : rn_s n 196 (0, [some (.ref 540), some (.int a1), some (.int a2), some (.int a3), some (.int a4)], [], aa_H g) v h := r
  unfold fn_196
  obtain ⟨n1, ln1, r⟩ := rn_steps 5 (8, [some (.ref 540), some (.int a1), some (.int a2), some (.int a3), some (.int a4)], [.int (a1 + 3), .ref 541, .ref 540], aa_H g) rfl r
  obtain ⟨hb3, n2, ln2, r⟩ := rn_ial (k := 541) rfl ⟨by decide, by decide⟩ rfl r
  have r : rn_s _ 196 (9, [some (.ref 540), some (.int a1), some (.int a2), some (.int a3), some (.int a4)], [.int (g 541 (a1 + 3).toNatClampNeg), .ref 540], aa_H g) v h := r
  obtain ⟨n4, ln4, r⟩ := rn_steps 0 (10, [some (.ref 540), some (.int a1), some (.int a2), some (.int a3), some (.int a4)], [.int (-1), .int (g 541 (a1 + 3).toNatClampNeg), .ref 540], aa_H g) rfl r
  refine rn_ic (iw_s v h) rfl decide_eq_true_iff.symm r (fun c5 l6n l6 r => ?_) (fun c5 l6n l6 r => ?_)
  · obtain ⟨n7, ln7, r⟩ := rn_steps 4 (31, [some (.ref 540), some (.int a1), some (.int a2), some (.int a3), some (.int a4)], [.int (a2 + 3), .ref 541, .ref 540], aa_H g) rfl r
    obtain ⟨hb9, n8, ln8, r⟩ := rn_ial (k := 541) rfl ⟨by decide, by decide⟩ rfl r
    have r : rn_s _ 196 (32, [some (.ref 540), some (.int a1), some (.int a2), some (.int a3), some (.int a4)], [.int (g 541 (a2 + 3).toNatClampNeg), .ref 540], aa_H g) v h := r
    exact dn_196_32 r
  · obtain ⟨n10, ln10, r⟩ := rn_steps 4 (20, [some (.ref 540), some (.int a1), some (.int a2), some (.int a3), some (.int a4)], [.int (a1 + 3), .ref 541, .ref 540], aa_H g) rfl r
    obtain ⟨hb12, n11, ln11, r⟩ := rn_ial (k := 541) rfl ⟨by decide, by decide⟩ rfl r
    have r : rn_s _ 196 (21, [some (.ref 540), some (.int a1), some (.int a2), some (.int a3), some (.int a4)], [.int (g 541 (a1 + 3).toNatClampNeg), .ref 540], aa_H g) v h := r
    obtain ⟨n13, ln13, r⟩ := rn_steps 0 (32, [some (.ref 540), some (.int a1), some (.int a2), some (.int a3), some (.int a4)], [.int (g 541 (a1 + 3).toNatClampNeg), .ref 540], aa_H g) rfl r
    exact dn_196_32 r
-- 175: UnequalHoursModel pointAt
noncomputable def fn_175 (a0 : Int32) (a1 : Int32) : Int32 := ((3 + (50 * a0)) + 2) + (4 * a1)
theorem dn_175 {v : Option Value} {h : zz_H} {n : Nat} {g : aa_G} {a0 : Int32} {a1 : Int32}  (r : rn_s n 175 (0, zz_in [.int a0, .int a1] (zz_nl 175), [], aa_H g) v h) : ir_s g v h (fn_175 a0 a1) := by
  have r : rn_s n 175 (0, [some (.int a0), some (.int a1)], [], aa_H g) v h := r
  unfold fn_175
  obtain ⟨n1, ln1, r⟩ := rn_steps 10 (12, [some (.int a0), some (.int a1)], [.int (((3 + (50 * a0)) + 2) + (4 * a1))], aa_H g) rfl r
  exact rn_ire rfl r
-- 164: UnequalHoursModel townAt
noncomputable def fn_164 (a0 : Int32) : Int32 := 3 + (50 * a0)
theorem dn_164 {v : Option Value} {h : zz_H} {n : Nat} {g : aa_G} {a0 : Int32}  (r : rn_s n 164 (0, zz_in [.int a0] (zz_nl 164), [], aa_H g) v h) : ir_s g v h (fn_164 a0) := by
  have r : rn_s n 164 (0, [some (.int a0)], [], aa_H g) v h := r
  unfold fn_164
  obtain ⟨n1, ln1, r⟩ := rn_steps 4 (6, [some (.int a0)], [.int (3 + (50 * a0))], aa_H g) rfl r
  exact rn_ire rfl r
-- 195: UnequalHoursModel lay
noncomputable def fn_195_117 (g : aa_G) (b1 : Int32) (b3 : Int32) (b4 : Int32) (b5 : Int32) (b6 : Int32) (b7 : Int32) (b8 : Int32) : (Int32 × Int32 × Int32 × Int32 × Int32) ⊕ (Int32 × aa_G) := .inl (b4, b5, b6, b7, b8 + 1)
theorem dn_195_117 {v : Option Value} {h : zz_H} {n : Nat} {g : aa_G} {b1 : Int32} {b3 : Int32} {b4 : Int32} {b5 : Int32} {b6 : Int32} {b7 : Int32} {b8 : Int32} (P : (Int32 × Int32 × Int32 × Int32 × Int32) ⊕ (Int32 × aa_G) → Prop) (hO0 : ∀ n2, n2 < n → ∀ (yb4 : Int32) (yb5 : Int32) (yb6 : Int32) (yb7 : Int32) (yb8 : Int32) (yx2 yx9 : Option Value) (_ : rn_jk yx2) (_ : rn_jk yx9), rn_s n2 195 (21, [some (.ref 540), some (.int b1), yx2, some (.int b3), some (.int yb4), some (.int yb5), some (.int yb6), some (.int yb7), some (.int yb8), yx9], [], aa_H g) v h → P (.inl (yb4, yb5, yb6, yb7, yb8))) (hR : ∀ E, iw_s v h E → P (.inr E))  (x2 x9 : Option Value) (jx2 : rn_jk x2) (jx9 : rn_jk x9) (r : rn_s n 195 (117, [some (.ref 540), some (.int b1), x2, some (.int b3), some (.int b4), some (.int b5), some (.int b6), some (.int b7), some (.int b8), x9], [], aa_H g) v h) : P (fn_195_117 g b1 b3 b4 b5 b6 b7 b8) := by
  unfold fn_195_117
  obtain ⟨n47, ln47, r⟩ := rn_steps 1 (21, [some (.ref 540), some (.int b1), x2, some (.int b3), some (.int b4), some (.int b5), some (.int b6), some (.int b7), some (.int (b8 + 1)), x9], [], aa_H g) rfl r
  exact hO0 _ (by omega) b4 b5 b6 b7 (b8 + 1) x2 x9 jx2 jx9 r
noncomputable def fn_195_115 (g : aa_G) (b1 : Int32) (b3 : Int32) (b4 : Int32) (b6 : Int32) (b7 : Int32) (b8 : Int32) (s0 : Int32) : (Int32 × Int32 × Int32 × Int32 × Int32) ⊕ (Int32 × aa_G) := fn_195_117 g b1 b3 b4 s0 b6 b7 b8
theorem dn_195_115 {v : Option Value} {h : zz_H} {n : Nat} {g : aa_G} {b1 : Int32} {b3 : Int32} {b4 : Int32} {b6 : Int32} {b7 : Int32} {b8 : Int32} {s0 : Int32} (P : (Int32 × Int32 × Int32 × Int32 × Int32) ⊕ (Int32 × aa_G) → Prop) (hO0 : ∀ n2, n2 < n → ∀ (yb4 : Int32) (yb5 : Int32) (yb6 : Int32) (yb7 : Int32) (yb8 : Int32) (yx2 yx9 : Option Value) (_ : rn_jk yx2) (_ : rn_jk yx9), rn_s n2 195 (21, [some (.ref 540), some (.int b1), yx2, some (.int b3), some (.int yb4), some (.int yb5), some (.int yb6), some (.int yb7), some (.int yb8), yx9], [], aa_H g) v h → P (.inl (yb4, yb5, yb6, yb7, yb8))) (hR : ∀ E, iw_s v h E → P (.inr E))  (x2 x5 x9 : Option Value) (jx2 : rn_jk x2) (jx5 : rn_jk x5) (jx9 : rn_jk x9) (r : rn_s n 195 (115, [some (.ref 540), some (.int b1), x2, some (.int b3), some (.int b4), x5, some (.int b6), some (.int b7), some (.int b8), x9], [.int s0], aa_H g) v h) : P (fn_195_115 g b1 b3 b4 b6 b7 b8 s0) := by
  unfold fn_195_115
  obtain ⟨n70, ln70, r⟩ := rn_steps 0 (117, [some (.ref 540), some (.int b1), x2, some (.int b3), some (.int b4), some (.int s0), some (.int b6), some (.int b7), some (.int b8), x9], [], aa_H g) rfl r
  exact dn_195_117 (P) (fun n2 l2 => hO0 n2 (by omega)) (fun z hz => hR _ hz) x2 x9 jx2 jx9 r
noncomputable def fn_195_113 (g : aa_G) (b1 : Int32) (b3 : Int32) (b4 : Int32) (b5 : Int32) (b6 : Int32) (b7 : Int32) (b8 : Int32) : (Int32 × Int32 × Int32 × Int32 × Int32) ⊕ (Int32 × aa_G) := fn_195_115 g b1 b3 b4 b6 b7 b8 b5
theorem dn_195_113 {v : Option Value} {h : zz_H} {n : Nat} {g : aa_G} {b1 : Int32} {b3 : Int32} {b4 : Int32} {b5 : Int32} {b6 : Int32} {b7 : Int32} {b8 : Int32} (P : (Int32 × Int32 × Int32 × Int32 × Int32) ⊕ (Int32 × aa_G) → Prop) (hO0 : ∀ n2, n2 < n → ∀ (yb4 : Int32) (yb5 : Int32) (yb6 : Int32) (yb7 : Int32) (yb8 : Int32) (yx2 yx9 : Option Value) (_ : rn_jk yx2) (_ : rn_jk yx9), rn_s n2 195 (21, [some (.ref 540), some (.int b1), yx2, some (.int b3), some (.int yb4), some (.int yb5), some (.int yb6), some (.int yb7), some (.int yb8), yx9], [], aa_H g) v h → P (.inl (yb4, yb5, yb6, yb7, yb8))) (hR : ∀ E, iw_s v h E → P (.inr E))  (x2 x9 : Option Value) (jx2 : rn_jk x2) (jx9 : rn_jk x9) (r : rn_s n 195 (113, [some (.ref 540), some (.int b1), x2, some (.int b3), some (.int b4), some (.int b5), some (.int b6), some (.int b7), some (.int b8), x9], [], aa_H g) v h) : P (fn_195_113 g b1 b3 b4 b5 b6 b7 b8) := by
  unfold fn_195_113
  obtain ⟨n69, ln69, r⟩ := rn_steps 0 (115, [some (.ref 540), some (.int b1), x2, some (.int b3), some (.int b4), some (.int b5), some (.int b6), some (.int b7), some (.int b8), x9], [.int b5], aa_H g) rfl r
  exact dn_195_115 (P) (fun n2 l2 => hO0 n2 (by omega)) (fun z hz => hR _ hz) x2 (some (.int b5)) x9 jx2 rn_ji jx9 r
noncomputable def fn_195_94 (g : aa_G) (b1 : Int32) (b3 : Int32) (b5 : Int32) (b6 : Int32) (b7 : Int32) (b8 : Int32) (b9 : Int32) (s0 : Int32) : (Int32 × Int32 × Int32 × Int32 × Int32) ⊕ (Int32 × aa_G) := if b9 < b3 then fn_195_113 g b1 b3 s0 b5 b6 b7 b8 else if b5 ≠ (-1) then fn_195_113 g b1 b3 s0 b5 b6 b7 b8 else fn_195_115 g b1 b3 s0 b6 b7 b8 b8
theorem dn_195_94 {v : Option Value} {h : zz_H} {n : Nat} {g : aa_G} {b1 : Int32} {b3 : Int32} {b5 : Int32} {b6 : Int32} {b7 : Int32} {b8 : Int32} {b9 : Int32} {s0 : Int32} (P : (Int32 × Int32 × Int32 × Int32 × Int32) ⊕ (Int32 × aa_G) → Prop) (hO0 : ∀ n2, n2 < n → ∀ (yb4 : Int32) (yb5 : Int32) (yb6 : Int32) (yb7 : Int32) (yb8 : Int32) (yx2 yx9 : Option Value) (_ : rn_jk yx2) (_ : rn_jk yx9), rn_s n2 195 (21, [some (.ref 540), some (.int b1), yx2, some (.int b3), some (.int yb4), some (.int yb5), some (.int yb6), some (.int yb7), some (.int yb8), yx9], [], aa_H g) v h → P (.inl (yb4, yb5, yb6, yb7, yb8))) (hR : ∀ E, iw_s v h E → P (.inr E))  (x2 x4 : Option Value) (jx2 : rn_jk x2) (jx4 : rn_jk x4) (r : rn_s n 195 (94, [some (.ref 540), some (.int b1), x2, some (.int b3), x4, some (.int b5), some (.int b6), some (.int b7), some (.int b8), some (.int b9)], [.int s0], aa_H g) v h) : P (fn_195_94 g b1 b3 b5 b6 b7 b8 b9 s0) := by
  unfold fn_195_94
  obtain ⟨n53, ln53, r⟩ := rn_steps 2 (99, [some (.ref 540), some (.int b1), x2, some (.int b3), some (.int s0), some (.int b5), some (.int b6), some (.int b7), some (.int b8), some (.int b9)], [.int b3, .int b9], aa_H g) rfl r
  refine rn_ic (P) rfl decide_eq_true_iff.symm r (fun c54 l55n l55 r => ?_) (fun c54 l55n l55 r => ?_)
  · exact dn_195_113 (P) (fun n2 l2 => hO0 n2 (by omega)) (fun z hz => hR _ hz) x2 (some (.int b9)) jx2 rn_ji r
  · obtain ⟨n56, ln56, r⟩ := rn_steps 1 (105, [some (.ref 540), some (.int b1), x2, some (.int b3), some (.int s0), some (.int b5), some (.int b6), some (.int b7), some (.int b8), some (.int b9)], [.int (-1), .int b5], aa_H g) rfl r
    refine rn_ic (P) rfl decide_eq_true_iff.symm r (fun c57 l58n l58 r => ?_) (fun c57 l58n l58 r => ?_)
    · exact dn_195_113 (P) (fun n2 l2 => hO0 n2 (by omega)) (fun z hz => hR _ hz) x2 (some (.int b9)) jx2 rn_ji r
    · obtain ⟨n59, ln59, r⟩ := rn_steps 1 (115, [some (.ref 540), some (.int b1), x2, some (.int b3), some (.int s0), some (.int b5), some (.int b6), some (.int b7), some (.int b8), some (.int b9)], [.int b8], aa_H g) rfl r
      exact dn_195_115 (P) (fun n2 l2 => hO0 n2 (by omega)) (fun z hz => hR _ hz) x2 (some (.int b5)) (some (.int b9)) jx2 rn_ji rn_ji r
noncomputable def fn_195_75 (g : aa_G) (b1 : Int32) (b3 : Int32) (b4 : Int32) (b5 : Int32) (b8 : Int32) (b9 : Int32) (s0 : Int32) : (Int32 × Int32 × Int32 × Int32 × Int32) ⊕ (Int32 × aa_G) := if b3 < b9 then fn_195_94 g b1 b3 b5 s0 b8 b8 b9 b4 else fn_195_94 g b1 b3 b5 s0 b8 b8 b9 b8
theorem dn_195_75 {v : Option Value} {h : zz_H} {n : Nat} {g : aa_G} {b1 : Int32} {b3 : Int32} {b4 : Int32} {b5 : Int32} {b8 : Int32} {b9 : Int32} {s0 : Int32} (P : (Int32 × Int32 × Int32 × Int32 × Int32) ⊕ (Int32 × aa_G) → Prop) (hO0 : ∀ n2, n2 < n → ∀ (yb4 : Int32) (yb5 : Int32) (yb6 : Int32) (yb7 : Int32) (yb8 : Int32) (yx2 yx9 : Option Value) (_ : rn_jk yx2) (_ : rn_jk yx9), rn_s n2 195 (21, [some (.ref 540), some (.int b1), yx2, some (.int b3), some (.int yb4), some (.int yb5), some (.int yb6), some (.int yb7), some (.int yb8), yx9], [], aa_H g) v h → P (.inl (yb4, yb5, yb6, yb7, yb8))) (hR : ∀ E, iw_s v h E → P (.inr E))  (x2 x6 x7 : Option Value) (jx2 : rn_jk x2) (jx6 : rn_jk x6) (jx7 : rn_jk x7) (r : rn_s n 195 (75, [some (.ref 540), some (.int b1), x2, some (.int b3), some (.int b4), some (.int b5), x6, x7, some (.int b8), some (.int b9)], [.int s0], aa_H g) v h) : P (fn_195_75 g b1 b3 b4 b5 b8 b9 s0) := by
  unfold fn_195_75
  obtain ⟨n42, ln42, r⟩ := rn_steps 4 (84, [some (.ref 540), some (.int b1), x2, some (.int b3), some (.int b4), some (.int b5), some (.int s0), some (.int b8), some (.int b8), some (.int b9)], [.int b3, .int b9], aa_H g) rfl r
  refine rn_ic (P) rfl decide_eq_true_iff.symm r (fun c43 l44n l44 r => ?_) (fun c43 l44n l44 r => ?_)
  · obtain ⟨n45, ln45, r⟩ := rn_steps 0 (94, [some (.ref 540), some (.int b1), x2, some (.int b3), some (.int b4), some (.int b5), some (.int s0), some (.int b8), some (.int b8), some (.int b9)], [.int b4], aa_H g) rfl r
    exact dn_195_94 (P) (fun n2 l2 => hO0 n2 (by omega)) (fun z hz => hR _ hz) x2 (some (.int b4)) jx2 rn_ji r
  · obtain ⟨n46, ln46, r⟩ := rn_steps 1 (94, [some (.ref 540), some (.int b1), x2, some (.int b3), some (.int b4), some (.int b5), some (.int s0), some (.int b8), some (.int b8), some (.int b9)], [.int b8], aa_H g) rfl r
    exact dn_195_94 (P) (fun n2 l2 => hO0 n2 (by omega)) (fun z hz => hR _ hz) x2 (some (.int b4)) jx2 rn_ji r
noncomputable def fn_195_263 (g : aa_G) (s0 : Int32) (s1 : Int32) (s2 : Int32) (s3 : Int32) : Int32 × aa_G := ((fn_196 g s3 s2 s1 s0).1, (fn_196 g s3 s2 s1 s0).2)
theorem dn_195_263 {v : Option Value} {h : zz_H} {n : Nat} {g : aa_G} {s0 : Int32} {s1 : Int32} {s2 : Int32} {s3 : Int32}  (x0 x1 x2 x3 x4 x5 x6 x7 x8 x9 : Option Value) (jx0 : rn_jk x0) (jx1 : rn_jk x1) (jx2 : rn_jk x2) (jx3 : rn_jk x3) (jx4 : rn_jk x4) (jx5 : rn_jk x5) (jx6 : rn_jk x6) (jx7 : rn_jk x7) (jx8 : rn_jk x8) (jx9 : rn_jk x9) (r : rn_s n 195 (263, [x0, x1, x2, x3, x4, x5, x6, x7, x8, x9], [.int s0, .int s1, .int s2, .int s3, .ref 540], aa_H g) v h) : iw_s v h (fn_195_263 g s0 s1 s2 s3) := by
  unfold fn_195_263
  obtain ⟨_, n87, v1, h1, -, ln87, rc, r⟩ := rn_call (m2 := 196) (as := [.ref 540, .int s3, .int s2, .int s1, .int s0]) (rest := []) rfl rfl r
  obtain ⟨rfl, rfl⟩ := dn_196 rc
  have r : rn_s _ 195 (266, [x0, x1, x2, x3, x4, x5, x6, x7, x8, x9], [.int ((fn_196 g s3 s2 s1 s0).1)], aa_H ((fn_196 g s3 s2 s1 s0).2)) v h := r
  exact rn_ire rfl r
noncomputable def fn_195_247 (g : aa_G) (b9 : Int32) (s0 : Int32) (s1 : Int32) (s2 : Int32) : Int32 × aa_G := if 0 ≤ b9 then fn_195_263 g b9 s0 s1 s2 else fn_195_263 g (b9 + 360) s0 s1 s2
theorem dn_195_247 {v : Option Value} {h : zz_H} {n : Nat} {g : aa_G} {b9 : Int32} {s0 : Int32} {s1 : Int32} {s2 : Int32}  (x0 x1 x2 x3 x4 x5 x6 x7 x8 : Option Value) (jx0 : rn_jk x0) (jx1 : rn_jk x1) (jx2 : rn_jk x2) (jx3 : rn_jk x3) (jx4 : rn_jk x4) (jx5 : rn_jk x5) (jx6 : rn_jk x6) (jx7 : rn_jk x7) (jx8 : rn_jk x8) (r : rn_s n 195 (247, [x0, x1, x2, x3, x4, x5, x6, x7, x8, some (.int b9)], [.int s0, .int s1, .int s2, .ref 540], aa_H g) v h) : iw_s v h (fn_195_247 g b9 s0 s1 s2) := by
  unfold fn_195_247
  obtain ⟨n82, ln82, r⟩ := rn_steps 0 (249, [x0, x1, x2, x3, x4, x5, x6, x7, x8, some (.int b9)], [.int b9, .int s0, .int s1, .int s2, .ref 540], aa_H g) rfl r
  refine rn_if (iw_s v h) rfl decide_eq_true_iff.symm r (fun c83 l84n l84 r => ?_) (fun c83 l84n l84 r => ?_)
  · obtain ⟨n85, ln85, r⟩ := rn_steps 0 (263, [x0, x1, x2, x3, x4, x5, x6, x7, x8, some (.int b9)], [.int b9, .int s0, .int s1, .int s2, .ref 540], aa_H g) rfl r
    exact dn_195_263 x0 x1 x2 x3 x4 x5 x6 x7 x8 (some (.int b9)) jx0 jx1 jx2 jx3 jx4 jx5 jx6 jx7 jx8 rn_ji r
  · obtain ⟨n86, ln86, r⟩ := rn_steps 3 (263, [x0, x1, x2, x3, x4, x5, x6, x7, x8, some (.int b9)], [.int (b9 + 360), .int s0, .int s1, .int s2, .ref 540], aa_H g) rfl r
    exact dn_195_263 x0 x1 x2 x3 x4 x5 x6 x7 x8 (some (.int b9)) jx0 jx1 jx2 jx3 jx4 jx5 jx6 jx7 jx8 rn_ji r
noncomputable def fn_195_216 (g : aa_G) (b1 : Int32) (b4 : Int32) (b8 : Int32) (b9 : Int32) (s0 : Int32) : Int32 × aa_G := if 0 ≤ b8 then fn_195_247 g b9 b8 (fn_175 b1 s0) (fn_175 b1 b4) else fn_195_247 g b9 (b8 + 360) (fn_175 b1 s0) (fn_175 b1 b4)
theorem dn_195_216 {v : Option Value} {h : zz_H} {n : Nat} {g : aa_G} {b1 : Int32} {b4 : Int32} {b8 : Int32} {b9 : Int32} {s0 : Int32}  (x2 x3 x5 x6 x7 : Option Value) (jx2 : rn_jk x2) (jx3 : rn_jk x3) (jx5 : rn_jk x5) (jx6 : rn_jk x6) (jx7 : rn_jk x7) (r : rn_s n 195 (216, [some (.ref 540), some (.int b1), x2, x3, some (.int b4), x5, x6, x7, some (.int b8), some (.int b9)], [.int s0], aa_H g) v h) : iw_s v h (fn_195_216 g b1 b4 b8 b9 s0) := by
  unfold fn_195_216
  obtain ⟨n71, ln71, r⟩ := rn_steps 3 (222, [some (.ref 540), some (.int b1), x2, x3, some (.int b4), some (.int s0), x6, x7, some (.int b8), some (.int b9)], [.int b4, .int b1, .ref 540], aa_H g) rfl r
  obtain ⟨_, n72, v1, h1, -, ln72, rc, r⟩ := rn_call (m2 := 175) (as := [.int b1, .int b4]) (rest := [.ref 540]) rfl rfl r
  obtain ⟨rfl, rfl⟩ := dn_175 rc
  have r : rn_s _ 195 (225, [some (.ref 540), some (.int b1), x2, x3, some (.int b4), some (.int s0), x6, x7, some (.int b8), some (.int b9)], [.int (fn_175 b1 b4), .ref 540], aa_H g) v h := r
  obtain ⟨n74, ln74, r⟩ := rn_steps 1 (228, [some (.ref 540), some (.int b1), x2, x3, some (.int b4), some (.int s0), x6, x7, some (.int b8), some (.int b9)], [.int s0, .int b1, .int (fn_175 b1 b4), .ref 540], aa_H g) rfl r
  obtain ⟨_, n75, v1, h1, -, ln75, rc, r⟩ := rn_call (m2 := 175) (as := [.int b1, .int s0]) (rest := [.int (fn_175 b1 b4), .ref 540]) rfl rfl r
  obtain ⟨rfl, rfl⟩ := dn_175 rc
  have r : rn_s _ 195 (231, [some (.ref 540), some (.int b1), x2, x3, some (.int b4), some (.int s0), x6, x7, some (.int b8), some (.int b9)], [.int (fn_175 b1 s0), .int (fn_175 b1 b4), .ref 540], aa_H g) v h := r
  obtain ⟨n77, ln77, r⟩ := rn_steps 0 (233, [some (.ref 540), some (.int b1), x2, x3, some (.int b4), some (.int s0), x6, x7, some (.int b8), some (.int b9)], [.int b8, .int (fn_175 b1 s0), .int (fn_175 b1 b4), .ref 540], aa_H g) rfl r
  refine rn_if (iw_s v h) rfl decide_eq_true_iff.symm r (fun c78 l79n l79 r => ?_) (fun c78 l79n l79 r => ?_)
  · obtain ⟨n80, ln80, r⟩ := rn_steps 0 (247, [some (.ref 540), some (.int b1), x2, x3, some (.int b4), some (.int s0), x6, x7, some (.int b8), some (.int b9)], [.int b8, .int (fn_175 b1 s0), .int (fn_175 b1 b4), .ref 540], aa_H g) rfl r
    exact dn_195_247 (some (.ref 540)) (some (.int b1)) x2 x3 (some (.int b4)) (some (.int s0)) x6 x7 (some (.int b8)) rn_jr rn_ji jx2 jx3 rn_ji rn_ji jx6 jx7 rn_ji r
  · obtain ⟨n81, ln81, r⟩ := rn_steps 3 (247, [some (.ref 540), some (.int b1), x2, x3, some (.int b4), some (.int s0), x6, x7, some (.int b8), some (.int b9)], [.int (b8 + 360), .int (fn_175 b1 s0), .int (fn_175 b1 b4), .ref 540], aa_H g) rfl r
    exact dn_195_247 (some (.ref 540)) (some (.int b1)) x2 x3 (some (.int b4)) (some (.int s0)) x6 x7 (some (.int b8)) rn_jr rn_ji jx2 jx3 rn_ji rn_ji jx6 jx7 rn_ji r
noncomputable def fn_195_195 (g : aa_G) (b1 : Int32) (b3 : Int32) (b4 : Int32) (b5 : Int32) (b6 : Int32) (b8 : Int32) (s0 : Int32) (s1 : Int32) : Int32 × aa_G := if b5 ≠ (-1) then fn_195_216 g b1 b4 b8 ((g 541 (fn_175 s1 s0).toNatClampNeg) - b3) b5 else fn_195_216 g b1 b4 b8 ((g 541 (fn_175 s1 s0).toNatClampNeg) - b3) b6
theorem dn_195_195 {v : Option Value} {h : zz_H} {n : Nat} {g : aa_G} {b1 : Int32} {b3 : Int32} {b4 : Int32} {b5 : Int32} {b6 : Int32} {b8 : Int32} {s0 : Int32} {s1 : Int32}  (x2 x7 x9 : Option Value) (jx2 : rn_jk x2) (jx7 : rn_jk x7) (jx9 : rn_jk x9) (r : rn_s n 195 (195, [some (.ref 540), some (.int b1), x2, some (.int b3), some (.int b4), some (.int b5), some (.int b6), x7, some (.int b8), x9], [.int s0, .int s1, .ref 541], aa_H g) v h) : iw_s v h (fn_195_195 g b1 b3 b4 b5 b6 b8 s0 s1) := by
  unfold fn_195_195
  obtain ⟨_, n60, v1, h1, -, ln60, rc, r⟩ := rn_call (m2 := 175) (as := [.int s1, .int s0]) (rest := [.ref 541]) rfl rfl r
  obtain ⟨rfl, rfl⟩ := dn_175 rc
  have r : rn_s _ 195 (198, [some (.ref 540), some (.int b1), x2, some (.int b3), some (.int b4), some (.int b5), some (.int b6), x7, some (.int b8), x9], [.int (fn_175 s1 s0), .ref 541], aa_H g) v h := r
  obtain ⟨hb63, n62, ln62, r⟩ := rn_ial (k := 541) rfl ⟨by decide, by decide⟩ rfl r
  have r : rn_s _ 195 (199, [some (.ref 540), some (.int b1), x2, some (.int b3), some (.int b4), some (.int b5), some (.int b6), x7, some (.int b8), x9], [.int (g 541 (fn_175 s1 s0).toNatClampNeg)], aa_H g) v h := r
  obtain ⟨n64, ln64, r⟩ := rn_steps 4 (206, [some (.ref 540), some (.int b1), x2, some (.int b3), some (.int b4), some (.int b5), some (.int b6), x7, some (.int b8), some (.int ((g 541 (fn_175 s1 s0).toNatClampNeg) - b3))], [.int (-1), .int b5], aa_H g) rfl r
  refine rn_ic (iw_s v h) rfl decide_eq_true_iff.symm r (fun c65 l66n l66 r => ?_) (fun c65 l66n l66 r => ?_)
  · obtain ⟨n67, ln67, r⟩ := rn_steps 0 (216, [some (.ref 540), some (.int b1), x2, some (.int b3), some (.int b4), some (.int b5), some (.int b6), x7, some (.int b8), some (.int ((g 541 (fn_175 s1 s0).toNatClampNeg) - b3))], [.int b5], aa_H g) rfl r
    exact dn_195_216 x2 (some (.int b3)) (some (.int b5)) (some (.int b6)) x7 jx2 rn_ji rn_ji rn_ji jx7 r
  · obtain ⟨n68, ln68, r⟩ := rn_steps 1 (216, [some (.ref 540), some (.int b1), x2, some (.int b3), some (.int b4), some (.int b5), some (.int b6), x7, some (.int b8), some (.int ((g 541 (fn_175 s1 s0).toNatClampNeg) - b3))], [.int b6], aa_H g) rfl r
    exact dn_195_216 x2 (some (.int b3)) (some (.int b5)) (some (.int b6)) x7 jx2 rn_ji rn_ji rn_ji jx7 r
noncomputable def fn_195_175 (g : aa_G) (b1 : Int32) (b3 : Int32) (b5 : Int32) (b6 : Int32) (b8 : Int32) (s0 : Int32) : Int32 × aa_G := if b5 ≠ (-1) then fn_195_195 g b1 b3 s0 b5 b6 b8 b5 b1 else fn_195_195 g b1 b3 s0 b5 b6 b8 b6 b1
theorem dn_195_175 {v : Option Value} {h : zz_H} {n : Nat} {g : aa_G} {b1 : Int32} {b3 : Int32} {b5 : Int32} {b6 : Int32} {b8 : Int32} {s0 : Int32}  (x2 x4 x7 x9 : Option Value) (jx2 : rn_jk x2) (jx4 : rn_jk x4) (jx7 : rn_jk x7) (jx9 : rn_jk x9) (r : rn_s n 195 (175, [some (.ref 540), some (.int b1), x2, some (.int b3), x4, some (.int b5), some (.int b6), x7, some (.int b8), x9], [.int s0], aa_H g) v h) : iw_s v h (fn_195_175 g b1 b3 b5 b6 b8 s0) := by
  unfold fn_195_175
  obtain ⟨n48, ln48, r⟩ := rn_steps 5 (185, [some (.ref 540), some (.int b1), x2, some (.int b3), some (.int s0), some (.int b5), some (.int b6), x7, some (.int b8), x9], [.int (-1), .int b5, .int b1, .ref 541], aa_H g) rfl r
  refine rn_ic (iw_s v h) rfl decide_eq_true_iff.symm r (fun c49 l50n l50 r => ?_) (fun c49 l50n l50 r => ?_)
  · obtain ⟨n51, ln51, r⟩ := rn_steps 0 (195, [some (.ref 540), some (.int b1), x2, some (.int b3), some (.int s0), some (.int b5), some (.int b6), x7, some (.int b8), x9], [.int b5, .int b1, .ref 541], aa_H g) rfl r
    exact dn_195_195 x2 x7 x9 jx2 jx7 jx9 r
  · obtain ⟨n52, ln52, r⟩ := rn_steps 1 (195, [some (.ref 540), some (.int b1), x2, some (.int b3), some (.int s0), some (.int b5), some (.int b6), x7, some (.int b8), x9], [.int b6, .int b1, .ref 541], aa_H g) rfl r
    exact dn_195_195 x2 x7 x9 jx2 jx7 jx9 r
noncomputable def fn_195_155 (g : aa_G) (b1 : Int32) (b3 : Int32) (b4 : Int32) (b5 : Int32) (b6 : Int32) (b7 : Int32) (s0 : Int32) (s1 : Int32) (s3 : Int32) : Int32 × aa_G := if b4 ≠ (-1) then fn_195_175 g b1 b3 b5 b6 (s3 - (g 541 (fn_175 s1 s0).toNatClampNeg)) b4 else fn_195_175 g b1 b3 b5 b6 (s3 - (g 541 (fn_175 s1 s0).toNatClampNeg)) b7
theorem dn_195_155 {v : Option Value} {h : zz_H} {n : Nat} {g : aa_G} {b1 : Int32} {b3 : Int32} {b4 : Int32} {b5 : Int32} {b6 : Int32} {b7 : Int32} {s0 : Int32} {s1 : Int32} {s3 : Int32}  (x2 x8 x9 : Option Value) (jx2 : rn_jk x2) (jx8 : rn_jk x8) (jx9 : rn_jk x9) (r : rn_s n 195 (155, [some (.ref 540), some (.int b1), x2, some (.int b3), some (.int b4), some (.int b5), some (.int b6), some (.int b7), x8, x9], [.int s0, .int s1, .ref 541, .int s3], aa_H g) v h) : iw_s v h (fn_195_155 g b1 b3 b4 b5 b6 b7 s0 s1 s3) := by
  unfold fn_195_155
  obtain ⟨_, n33, v1, h1, -, ln33, rc, r⟩ := rn_call (m2 := 175) (as := [.int s1, .int s0]) (rest := [.ref 541, .int s3]) rfl rfl r
  obtain ⟨rfl, rfl⟩ := dn_175 rc
  have r : rn_s _ 195 (158, [some (.ref 540), some (.int b1), x2, some (.int b3), some (.int b4), some (.int b5), some (.int b6), some (.int b7), x8, x9], [.int (fn_175 s1 s0), .ref 541, .int s3], aa_H g) v h := r
  obtain ⟨hb36, n35, ln35, r⟩ := rn_ial (k := 541) rfl ⟨by decide, by decide⟩ rfl r
  have r : rn_s _ 195 (159, [some (.ref 540), some (.int b1), x2, some (.int b3), some (.int b4), some (.int b5), some (.int b6), some (.int b7), x8, x9], [.int (g 541 (fn_175 s1 s0).toNatClampNeg), .int s3], aa_H g) v h := r
  obtain ⟨n37, ln37, r⟩ := rn_steps 3 (165, [some (.ref 540), some (.int b1), x2, some (.int b3), some (.int b4), some (.int b5), some (.int b6), some (.int b7), some (.int (s3 - (g 541 (fn_175 s1 s0).toNatClampNeg))), x9], [.int (-1), .int b4], aa_H g) rfl r
  refine rn_ic (iw_s v h) rfl decide_eq_true_iff.symm r (fun c38 l39n l39 r => ?_) (fun c38 l39n l39 r => ?_)
  · obtain ⟨n40, ln40, r⟩ := rn_steps 0 (175, [some (.ref 540), some (.int b1), x2, some (.int b3), some (.int b4), some (.int b5), some (.int b6), some (.int b7), some (.int (s3 - (g 541 (fn_175 s1 s0).toNatClampNeg))), x9], [.int b4], aa_H g) rfl r
    exact dn_195_175 x2 (some (.int b4)) (some (.int b7)) x9 jx2 rn_ji rn_ji jx9 r
  · obtain ⟨n41, ln41, r⟩ := rn_steps 1 (175, [some (.ref 540), some (.int b1), x2, some (.int b3), some (.int b4), some (.int b5), some (.int b6), some (.int b7), some (.int (s3 - (g 541 (fn_175 s1 s0).toNatClampNeg))), x9], [.int b7], aa_H g) rfl r
    exact dn_195_175 x2 (some (.int b4)) (some (.int b7)) x9 jx2 rn_ji rn_ji jx9 r
noncomputable def fn_195_21b (g : aa_G) (b1 : Int32) (b3 : Int32) (b4 : Int32) (b5 : Int32) (b6 : Int32) (b7 : Int32) (b8 : Int32) : (Int32 × Int32 × Int32 × Int32 × Int32) ⊕ (Int32 × aa_G) := if (g 541 ((fn_164 b1) + 1).toNatClampNeg) ≤ b8 then if b6 ≠ (-1) then if b4 ≠ (-1) then .inr (fn_195_155 (zz_w g 540 13 0) b1 b3 b4 b5 b6 b7 b4 b1 b3) else .inr (fn_195_155 (zz_w g 540 13 0) b1 b3 b4 b5 b6 b7 b7 b1 b3) else .inr (0, zz_w g 540 13 0) else if b8 ≠ (g 540 16) then if b6 ≠ (-1) then fn_195_75 g b1 b3 b4 b5 b8 (g 541 (fn_175 b1 b8).toNatClampNeg) b6 else fn_195_75 g b1 b3 b4 b5 b8 (g 541 (fn_175 b1 b8).toNatClampNeg) b8 else fn_195_117 g b1 b3 b4 b5 b6 b7 b8
noncomputable def fn_195_21 (g : aa_G) (b1 : Int32) (b3 : Int32) (b4 : Int32) (b5 : Int32) (b6 : Int32) (b7 : Int32) (b8 : Int32) : Int32 × aa_G := lp_f (0, g) (fun z : (Int32 × Int32 × Int32 × Int32 × Int32) => fn_195_21b g b1 b3 z.1 z.2.1 z.2.2.1 z.2.2.2.1 z.2.2.2.2) (b4, b5, b6, b7, b8)
theorem dn_195_21l {v : Option Value} {h : zz_H} {N : Nat} {g : aa_G} {b1 : Int32} {b3 : Int32} {d : Int32 × aa_G} : ∀ (n : Nat), n ≤ N → ∀ (b4 : Int32) (b5 : Int32) (b6 : Int32) (b7 : Int32) (b8 : Int32) (x2 x9 : Option Value) (jx2 : rn_jk x2) (jx9 : rn_jk x9), rn_s n 195 (21, [some (.ref 540), some (.int b1), x2, some (.int b3), some (.int b4), some (.int b5), some (.int b6), some (.int b7), some (.int b8), x9], [], aa_H g) v h → (iw_s v h) (lp_f d (fun z : (Int32 × Int32 × Int32 × Int32 × Int32) => fn_195_21b g b1 b3 z.1 z.2.1 z.2.2.1 z.2.2.2.1 z.2.2.2.2) (b4, b5, b6, b7, b8)) := by
  generalize hf : (fun z : (Int32 × Int32 × Int32 × Int32 × Int32) => fn_195_21b g b1 b3 z.1 z.2.1 z.2.2.1 z.2.2.2.1 z.2.2.2.2) = f
  intro n
  induction n using Nat.strongRecOn with
  | _ n ih =>
    intro hN b4 b5 b6 b7 b8 x2 x9 jx2 jx9 r
    refine lp_go ?_
    rw [← congrFun hf (b4, b5, b6, b7, b8)]
    show lp_q (iw_s v h) d f (fn_195_21b g b1 b3 b4 b5 b6 b7 b8)
    unfold fn_195_21b
    obtain ⟨n2, ln2, r⟩ := rn_steps 3 (28, [some (.ref 540), some (.int b1), x2, some (.int b3), some (.int b4), some (.int b5), some (.int b6), some (.int b7), some (.int b8), x9], [.int b1, .ref 541, .int b8], aa_H g) rfl r
    obtain ⟨_, n3, v1, h1, -, ln3, rc, r⟩ := rn_call (m2 := 164) (as := [.int b1]) (rest := [.ref 541, .int b8]) rfl rfl r
    obtain ⟨rfl, rfl⟩ := dn_164 rc
    have r : rn_s _ 195 (31, [some (.ref 540), some (.int b1), x2, some (.int b3), some (.int b4), some (.int b5), some (.int b6), some (.int b7), some (.int b8), x9], [.int (fn_164 b1), .ref 541, .int b8], aa_H g) v h := r
    obtain ⟨n5, ln5, r⟩ := rn_steps 1 (33, [some (.ref 540), some (.int b1), x2, some (.int b3), some (.int b4), some (.int b5), some (.int b6), some (.int b7), some (.int b8), x9], [.int ((fn_164 b1) + 1), .ref 541, .int b8], aa_H g) rfl r
    obtain ⟨hb7, n6, ln6, r⟩ := rn_ial (k := 541) rfl ⟨by decide, by decide⟩ rfl r
    have r : rn_s _ 195 (34, [some (.ref 540), some (.int b1), x2, some (.int b3), some (.int b4), some (.int b5), some (.int b6), some (.int b7), some (.int b8), x9], [.int (g 541 ((fn_164 b1) + 1).toNatClampNeg), .int b8], aa_H g) v h := r
    refine rn_ic (lp_q (iw_s v h) d f) rfl decide_eq_true_iff.symm r (fun c8 l9n l9 r => ?_) (fun c8 l9n l9 r => ?_)
    · obtain ⟨n10, ln10, r⟩ := rn_steps 4 (131, [some (.ref 540), some (.int b1), x2, some (.int b3), some (.int b4), some (.int b5), some (.int b6), some (.int b7), some (.int b8), x9], [.int (-1), .int b6], aa_H (zz_w g 540 13 0)) rfl r
      refine rn_ic (lp_q (iw_s v h) d f) rfl decide_eq_true_iff.symm r (fun c11 l12n l12 r => ?_) (fun c11 l12n l12 r => ?_)
      · obtain ⟨n13, ln13, r⟩ := rn_steps 5 (145, [some (.ref 540), some (.int b1), x2, some (.int b3), some (.int b4), some (.int b5), some (.int b6), some (.int b7), some (.int b8), x9], [.int (-1), .int b4, .int b1, .ref 541, .int b3], aa_H (zz_w g 540 13 0)) rfl r
        refine rn_ic (lp_q (iw_s v h) d f) rfl decide_eq_true_iff.symm r (fun c14 l15n l15 r => ?_) (fun c14 l15n l15 r => ?_)
        · obtain ⟨n16, ln16, r⟩ := rn_steps 0 (155, [some (.ref 540), some (.int b1), x2, some (.int b3), some (.int b4), some (.int b5), some (.int b6), some (.int b7), some (.int b8), x9], [.int b4, .int b1, .ref 541, .int b3], aa_H (zz_w g 540 13 0)) rfl r
          exact dn_195_155 x2 (some (.int b8)) x9 jx2 rn_ji jx9 r
        · obtain ⟨n17, ln17, r⟩ := rn_steps 1 (155, [some (.ref 540), some (.int b1), x2, some (.int b3), some (.int b4), some (.int b5), some (.int b6), some (.int b7), some (.int b8), x9], [.int b7, .int b1, .ref 541, .int b3], aa_H (zz_w g 540 13 0)) rfl r
          exact dn_195_155 x2 (some (.int b8)) x9 jx2 rn_ji jx9 r
      · obtain ⟨n18, ln18, r⟩ := rn_steps 0 (135, [some (.ref 540), some (.int b1), x2, some (.int b3), some (.int b4), some (.int b5), some (.int b6), some (.int b7), some (.int b8), x9], [.int 0], aa_H (zz_w g 540 13 0)) rfl r
        exact rn_ire rfl r
    · obtain ⟨n19, ln19, r⟩ := rn_steps 2 (43, [some (.ref 540), some (.int b1), x2, some (.int b3), some (.int b4), some (.int b5), some (.int b6), some (.int b7), some (.int b8), x9], [.int (g 540 16), .int b8], aa_H g) rfl r
      refine rn_ic (lp_q (iw_s v h) d f) rfl decide_eq_true_iff.symm r (fun c20 l21n l21 r => ?_) (fun c20 l21n l21 r => ?_)
      · obtain ⟨n22, ln22, r⟩ := rn_steps 3 (56, [some (.ref 540), some (.int b1), x2, some (.int b3), some (.int b4), some (.int b5), some (.int b6), some (.int b7), some (.int b8), x9], [.int b8, .int b1, .ref 541], aa_H g) rfl r
        obtain ⟨_, n23, v1, h1, -, ln23, rc, r⟩ := rn_call (m2 := 175) (as := [.int b1, .int b8]) (rest := [.ref 541]) rfl rfl r
        obtain ⟨rfl, rfl⟩ := dn_175 rc
        have r : rn_s _ 195 (59, [some (.ref 540), some (.int b1), x2, some (.int b3), some (.int b4), some (.int b5), some (.int b6), some (.int b7), some (.int b8), x9], [.int (fn_175 b1 b8), .ref 541], aa_H g) v h := r
        obtain ⟨hb26, n25, ln25, r⟩ := rn_ial (k := 541) rfl ⟨by decide, by decide⟩ rfl r
        have r : rn_s _ 195 (60, [some (.ref 540), some (.int b1), x2, some (.int b3), some (.int b4), some (.int b5), some (.int b6), some (.int b7), some (.int b8), x9], [.int (g 541 (fn_175 b1 b8).toNatClampNeg)], aa_H g) v h := r
        obtain ⟨n27, ln27, r⟩ := rn_steps 2 (65, [some (.ref 540), some (.int b1), x2, some (.int b3), some (.int b4), some (.int b5), some (.int b6), some (.int b7), some (.int b8), some (.int (g 541 (fn_175 b1 b8).toNatClampNeg))], [.int (-1), .int b6], aa_H g) rfl r
        refine rn_ic (lp_q (iw_s v h) d f) rfl decide_eq_true_iff.symm r (fun c28 l29n l29 r => ?_) (fun c28 l29n l29 r => ?_)
        · obtain ⟨n30, ln30, r⟩ := rn_steps 0 (75, [some (.ref 540), some (.int b1), x2, some (.int b3), some (.int b4), some (.int b5), some (.int b6), some (.int b7), some (.int b8), some (.int (g 541 (fn_175 b1 b8).toNatClampNeg))], [.int b6], aa_H g) rfl r
          exact dn_195_75 (lp_q (iw_s v h) d f) (fun n2 l2 => ih n2 (by omega) (by omega)) (fun z hz => hz) x2 (some (.int b6)) (some (.int b7)) jx2 rn_ji rn_ji r
        · obtain ⟨n31, ln31, r⟩ := rn_steps 1 (75, [some (.ref 540), some (.int b1), x2, some (.int b3), some (.int b4), some (.int b5), some (.int b6), some (.int b7), some (.int b8), some (.int (g 541 (fn_175 b1 b8).toNatClampNeg))], [.int b8], aa_H g) rfl r
          exact dn_195_75 (lp_q (iw_s v h) d f) (fun n2 l2 => ih n2 (by omega) (by omega)) (fun z hz => hz) x2 (some (.int b6)) (some (.int b7)) jx2 rn_ji rn_ji r
      · obtain ⟨n32, ln32, r⟩ := rn_steps 0 (117, [some (.ref 540), some (.int b1), x2, some (.int b3), some (.int b4), some (.int b5), some (.int b6), some (.int b7), some (.int b8), x9], [], aa_H g) rfl r
        exact dn_195_117 (lp_q (iw_s v h) d f) (fun n2 l2 => ih n2 (by omega) (by omega)) (fun z hz => hz) x2 x9 jx2 jx9 r
theorem dn_195_21 {v : Option Value} {h : zz_H} {n : Nat} {g : aa_G} {b1 : Int32} {b3 : Int32} {b4 : Int32} {b5 : Int32} {b6 : Int32} {b7 : Int32} {b8 : Int32}  (x2 x9 : Option Value) (jx2 : rn_jk x2) (jx9 : rn_jk x9) (r : rn_s n 195 (21, [some (.ref 540), some (.int b1), x2, some (.int b3), some (.int b4), some (.int b5), some (.int b6), some (.int b7), some (.int b8), x9], [], aa_H g) v h) : (iw_s v h) (fn_195_21 g b1 b3 b4 b5 b6 b7 b8) := dn_195_21l  n (Nat.le_refl n) b4 b5 b6 b7 b8 x2 x9 jx2 jx9 r
noncomputable def fn_195 (g : aa_G) (a1 : Int32) (a2 : Int32) : Int32 × aa_G := fn_195_21 g a1 (a2 - a2 / 360 * 360) (-1) (-1) (-1) (-1) 0
theorem dn_195 {v : Option Value} {h : zz_H} {n : Nat} {g : aa_G} {a1 : Int32} {a2 : Int32}  (r : rn_s n 195 (0, zz_in [.ref 540, .int a1, .int a2] (zz_nl 195), [], aa_H g) v h) : iw_s v h (fn_195 g a1 a2) := by
  have r : rn_s n 195 (0, [some (.ref 540), some (.int a1), some (.int a2), none, none, none, none, none, none, none], [], aa_H g) v h := r
  unfold fn_195
  obtain ⟨n1, ln1, r⟩ := rn_steps 13 (21, [some (.ref 540), some (.int a1), some (.int a2), some (.int (a2 - a2 / 360 * 360)), some (.int (-1)), some (.int (-1)), some (.int (-1)), some (.int (-1)), some (.int 0), none], [], aa_H g) rfl r
  exact dn_195_21 (some (.int a2)) none rn_ji rn_jn r
-- 154: UnequalHoursModel isIn
noncomputable def fn_154 (a0 : Int32) (a1 : Int32) (a2 : Int32) : Int32 := if a0 < a1 then 0 else if a2 < a0 then 0 else 1
theorem dn_154 {v : Option Value} {h : zz_H} {n : Nat} {g : aa_G} {a0 : Int32} {a1 : Int32} {a2 : Int32}  (r : rn_s n 154 (0, zz_in [.int a0, .int a1, .int a2] (zz_nl 154), [], aa_H g) v h) : ir_s g v h (fn_154 a0 a1 a2) := by
  have r : rn_s n 154 (0, [some (.int a0), some (.int a1), some (.int a2)], [], aa_H g) v h := r
  unfold fn_154
  obtain ⟨n1, ln1, r⟩ := rn_steps 1 (2, [some (.int a0), some (.int a1), some (.int a2)], [.int a1, .int a0], aa_H g) rfl r
  refine rn_ic (ir_s g v h) rfl decide_eq_true_iff.symm r (fun c2 l3n l3 r => ?_) (fun c2 l3n l3 r => ?_)
  · obtain ⟨n4, ln4, r⟩ := rn_steps 0 (15, [some (.int a0), some (.int a1), some (.int a2)], [.int 0], aa_H g) rfl r
    exact rn_ire rfl r
  · obtain ⟨n5, ln5, r⟩ := rn_steps 1 (7, [some (.int a0), some (.int a1), some (.int a2)], [.int a2, .int a0], aa_H g) rfl r
    refine rn_ic (ir_s g v h) rfl decide_eq_true_iff.symm r (fun c6 l7n l7 r => ?_) (fun c6 l7n l7 r => ?_)
    · obtain ⟨n8, ln8, r⟩ := rn_steps 0 (15, [some (.int a0), some (.int a1), some (.int a2)], [.int 0], aa_H g) rfl r
      exact rn_ire rfl r
    · obtain ⟨n9, ln9, r⟩ := rn_steps 1 (15, [some (.int a0), some (.int a1), some (.int a2)], [.int 1], aa_H g) rfl r
      exact rn_ire rfl r
-- 193: UnequalHoursModel isDay
noncomputable def fn_193 (a0 : Int32) : Int32 := fn_154 a0 0 35999
theorem dn_193 {v : Option Value} {h : zz_H} {n : Nat} {g : aa_G} {a0 : Int32}  (r : rn_s n 193 (0, zz_in [.int a0] (zz_nl 193), [], aa_H g) v h) : ir_s g v h (fn_193 a0) := by
  have r : rn_s n 193 (0, [some (.int a0)], [], aa_H g) v h := r
  unfold fn_193
  obtain ⟨n1, ln1, r⟩ := rn_steps 2 (4, [some (.int a0)], [.int 35999, .int 0, .int a0], aa_H g) rfl r
  obtain ⟨_, n2, v1, h1, -, ln2, rc, r⟩ := rn_call (m2 := 154) (as := [.int a0, .int 0, .int 35999]) (rest := []) rfl rfl r
  obtain ⟨rfl, rfl⟩ := dn_154 rc
  have r : rn_s _ 193 (7, [some (.int a0)], [.int (fn_154 a0 0 35999)], aa_H g) v h := r
  exact rn_ire rfl r
-- 194: UnequalHoursModel layHalf
noncomputable def fn_194_77 (g : aa_G) (b3 : Int32) (b4 : Int32) (s0 : Int32) : Int32 × aa_G := if b3 ≠ 0 then (1, zz_w (zz_w g 540 17 s0) 540 18 (b4 - s0)) else (1, zz_w (zz_w g 540 17 s0) 540 18 ((g 540 15) - s0))
theorem dn_194_77 {v : Option Value} {h : zz_H} {n : Nat} {g : aa_G} {b3 : Int32} {b4 : Int32} {s0 : Int32}  (x1 x2 : Option Value) (jx1 : rn_jk x1) (jx2 : rn_jk x2) (r : rn_s n 194 (77, [some (.ref 540), x1, x2, some (.int b3), some (.int b4)], [.int s0, .ref 540], aa_H g) v h) : iw_s v h (fn_194_77 g b3 b4 s0) := by
  unfold fn_194_77
  obtain ⟨n35, ln35, r⟩ := rn_steps 2 (82, [some (.ref 540), x1, x2, some (.int b3), some (.int b4)], [.int b3, .ref 540], aa_H (zz_w g 540 17 s0)) rfl r
  refine rn_if (iw_s v h) rfl decide_eq_true_iff.symm r (fun c36 l37n l37 r => ?_) (fun c36 l37n l37 r => ?_)
  · obtain ⟨n38, ln38, r⟩ := rn_steps 5 (103, [some (.ref 540), x1, x2, some (.int b3), some (.int b4)], [.int 1], aa_H (zz_w (zz_w g 540 17 s0) 540 18 (b4 - s0))) rfl r
    exact rn_ire rfl r
  · obtain ⟨n39, ln39, r⟩ := rn_steps 7 (103, [some (.ref 540), x1, x2, some (.int b3), some (.int b4)], [.int 1], aa_H (zz_w (zz_w g 540 17 s0) 540 18 ((g 540 15) - s0))) rfl r
    exact rn_ire rfl r
noncomputable def fn_194_56 (g : aa_G) (b3 : Int32) (b4 : Int32) (s0 : Int32) : Int32 × aa_G := if s0 ≠ 0 then if b3 ≠ 0 then fn_194_77 g b3 b4 (g 540 15) else fn_194_77 g b3 b4 (g 540 14) else (0, g)
theorem dn_194_56 {v : Option Value} {h : zz_H} {n : Nat} {g : aa_G} {b3 : Int32} {b4 : Int32} {s0 : Int32}  (x1 x2 : Option Value) (jx1 : rn_jk x1) (jx2 : rn_jk x2) (r : rn_s n 194 (56, [some (.ref 540), x1, x2, some (.int b3), some (.int b4)], [.int s0], aa_H g) v h) : iw_s v h (fn_194_56 g b3 b4 s0) := by
  unfold fn_194_56
  refine rn_if (iw_s v h) rfl decide_eq_true_iff.symm r (fun c27 l28n l28 r => ?_) (fun c27 l28n l28 r => ?_)
  · obtain ⟨n29, ln29, r⟩ := rn_steps 1 (63, [some (.ref 540), x1, x2, some (.int b3), some (.int b4)], [.int b3, .ref 540], aa_H g) rfl r
    refine rn_if (iw_s v h) rfl decide_eq_true_iff.symm r (fun c30 l31n l31 r => ?_) (fun c30 l31n l31 r => ?_)
    · obtain ⟨n32, ln32, r⟩ := rn_steps 1 (77, [some (.ref 540), x1, x2, some (.int b3), some (.int b4)], [.int (g 540 15), .ref 540], aa_H g) rfl r
      exact dn_194_77 x1 x2 jx1 jx2 r
    · obtain ⟨n33, ln33, r⟩ := rn_steps 2 (77, [some (.ref 540), x1, x2, some (.int b3), some (.int b4)], [.int (g 540 14), .ref 540], aa_H g) rfl r
      exact dn_194_77 x1 x2 jx1 jx2 r
  · obtain ⟨n34, ln34, r⟩ := rn_steps 0 (60, [some (.ref 540), x1, x2, some (.int b3), some (.int b4)], [.int 0], aa_H g) rfl r
    exact rn_ire rfl r
noncomputable def fn_194_50 (g : aa_G) (b1 : Int32) (b2 : Int32) (b3 : Int32) (b4 : Int32) : Int32 × aa_G := fn_194_56 ((fn_195 g b1 b2).2) b3 b4 ((fn_195 g b1 b2).1)
theorem dn_194_50 {v : Option Value} {h : zz_H} {n : Nat} {g : aa_G} {b1 : Int32} {b2 : Int32} {b3 : Int32} {b4 : Int32}  (r : rn_s n 194 (50, [some (.ref 540), some (.int b1), some (.int b2), some (.int b3), some (.int b4)], [], aa_H g) v h) : iw_s v h (fn_194_50 g b1 b2 b3 b4) := by
  unfold fn_194_50
  obtain ⟨n20, ln20, r⟩ := rn_steps 2 (53, [some (.ref 540), some (.int b1), some (.int b2), some (.int b3), some (.int b4)], [.int b2, .int b1, .ref 540], aa_H g) rfl r
  obtain ⟨_, n21, v1, h1, -, ln21, rc, r⟩ := rn_call (m2 := 195) (as := [.ref 540, .int b1, .int b2]) (rest := []) rfl rfl r
  obtain ⟨rfl, rfl⟩ := dn_195 rc
  have r : rn_s _ 194 (56, [some (.ref 540), some (.int b1), some (.int b2), some (.int b3), some (.int b4)], [.int ((fn_195 g b1 b2).1)], aa_H ((fn_195 g b1 b2).2)) v h := r
  exact dn_194_56 (some (.int b1)) (some (.int b2)) rn_ji rn_ji r
noncomputable def fn_194_36 (g : aa_G) (b1 : Int32) (b2 : Int32) (b3 : Int32) (s0 : Int32) : Int32 × aa_G := if s0 ≠ 0 then fn_194_50 g b1 b2 b3 (86400 + (g 540 14)) else (0, g)
theorem dn_194_36 {v : Option Value} {h : zz_H} {n : Nat} {g : aa_G} {b1 : Int32} {b2 : Int32} {b3 : Int32} {s0 : Int32}  (x4 : Option Value) (jx4 : rn_jk x4) (r : rn_s n 194 (36, [some (.ref 540), some (.int b1), some (.int b2), some (.int b3), x4], [.int s0], aa_H g) v h) : iw_s v h (fn_194_36 g b1 b2 b3 s0) := by
  unfold fn_194_36
  refine rn_if (iw_s v h) rfl decide_eq_true_iff.symm r (fun c23 l24n l24 r => ?_) (fun c23 l24n l24 r => ?_)
  · obtain ⟨n25, ln25, r⟩ := rn_steps 4 (50, [some (.ref 540), some (.int b1), some (.int b2), some (.int b3), some (.int (86400 + (g 540 14)))], [], aa_H g) rfl r
    exact dn_194_50 r
  · obtain ⟨n26, ln26, r⟩ := rn_steps 0 (40, [some (.ref 540), some (.int b1), some (.int b2), some (.int b3), x4], [.int 0], aa_H g) rfl r
    exact rn_ire rfl r
noncomputable def fn_194_20 (g : aa_G) (b1 : Int32) (b2 : Int32) (b3 : Int32) : Int32 × aa_G := if b3 ≠ 1 then fn_194_50 g b1 b2 b3 0 else fn_194_36 ((fn_195 g b1 (b2 + 1)).2) b1 b2 b3 ((fn_195 g b1 (b2 + 1)).1)
theorem dn_194_20 {v : Option Value} {h : zz_H} {n : Nat} {g : aa_G} {b1 : Int32} {b2 : Int32} {b3 : Int32}  (x4 : Option Value) (jx4 : rn_jk x4) (r : rn_s n 194 (20, [some (.ref 540), some (.int b1), some (.int b2), some (.int b3), x4], [], aa_H g) v h) : iw_s v h (fn_194_20 g b1 b2 b3) := by
  unfold fn_194_20
  obtain ⟨n14, ln14, r⟩ := rn_steps 3 (25, [some (.ref 540), some (.int b1), some (.int b2), some (.int b3), some (.int 0)], [.int 1, .int b3], aa_H g) rfl r
  refine rn_ic (iw_s v h) rfl decide_eq_true_iff.symm r (fun c15 l16n l16 r => ?_) (fun c15 l16n l16 r => ?_)
  · exact dn_194_50 r
  · obtain ⟨n17, ln17, r⟩ := rn_steps 4 (33, [some (.ref 540), some (.int b1), some (.int b2), some (.int b3), some (.int 0)], [.int (b2 + 1), .int b1, .ref 540], aa_H g) rfl r
    obtain ⟨_, n18, v1, h1, -, ln18, rc, r⟩ := rn_call (m2 := 195) (as := [.ref 540, .int b1, .int (b2 + 1)]) (rest := []) rfl rfl r
    obtain ⟨rfl, rfl⟩ := dn_195 rc
    have r : rn_s _ 194 (36, [some (.ref 540), some (.int b1), some (.int b2), some (.int b3), some (.int 0)], [.int ((fn_195 g b1 (b2 + 1)).1)], aa_H ((fn_195 g b1 (b2 + 1)).2)) v h := r
    exact dn_194_36 (some (.int 0)) rn_ji r
noncomputable def fn_194 (g : aa_G) (a1 : Int32) (a2 : Int32) (a3 : Int32) : Int32 × aa_G := if (fn_193 a2) = 0 then (0, g) else if a3 ≠ 1 then fn_194_20 g a1 a2 a3 else if a2 ≠ 35999 then fn_194_20 g a1 a2 a3 else (0, g)
theorem dn_194 {v : Option Value} {h : zz_H} {n : Nat} {g : aa_G} {a1 : Int32} {a2 : Int32} {a3 : Int32}  (r : rn_s n 194 (0, zz_in [.ref 540, .int a1, .int a2, .int a3] (zz_nl 194), [], aa_H g) v h) : iw_s v h (fn_194 g a1 a2 a3) := by
  have r : rn_s n 194 (0, [some (.ref 540), some (.int a1), some (.int a2), some (.int a3), none], [], aa_H g) v h := r
  unfold fn_194
  obtain ⟨n1, ln1, r⟩ := rn_steps 0 (1, [some (.ref 540), some (.int a1), some (.int a2), some (.int a3), none], [.int a2], aa_H g) rfl r
  obtain ⟨_, n2, v1, h1, -, ln2, rc, r⟩ := rn_call (m2 := 193) (as := [.int a2]) (rest := []) rfl rfl r
  obtain ⟨rfl, rfl⟩ := dn_193 rc
  have r : rn_s _ 194 (4, [some (.ref 540), some (.int a1), some (.int a2), some (.int a3), none], [.int (fn_193 a2)], aa_H g) v h := r
  refine rn_if (iw_s v h) rfl decide_eq_true_iff.symm r (fun c4 l5n l5 r => ?_) (fun c4 l5n l5 r => ?_)
  · obtain ⟨n6, ln6, r⟩ := rn_steps 0 (19, [some (.ref 540), some (.int a1), some (.int a2), some (.int a3), none], [.int 0], aa_H g) rfl r
    exact rn_ire rfl r
  · obtain ⟨n7, ln7, r⟩ := rn_steps 1 (9, [some (.ref 540), some (.int a1), some (.int a2), some (.int a3), none], [.int 1, .int a3], aa_H g) rfl r
    refine rn_ic (iw_s v h) rfl decide_eq_true_iff.symm r (fun c8 l9n l9 r => ?_) (fun c8 l9n l9 r => ?_)
    · exact dn_194_20 none rn_jn r
    · obtain ⟨n10, ln10, r⟩ := rn_steps 1 (15, [some (.ref 540), some (.int a1), some (.int a2), some (.int a3), none], [.int 35999, .int a2], aa_H g) rfl r
      refine rn_ic (iw_s v h) rfl decide_eq_true_iff.symm r (fun c11 l12n l12 r => ?_) (fun c11 l12n l12 r => ?_)
      · exact dn_194_20 none rn_jn r
      · obtain ⟨n13, ln13, r⟩ := rn_steps 0 (19, [some (.ref 540), some (.int a1), some (.int a2), some (.int a3), none], [.int 0], aa_H g) rfl r
        exact rn_ire rfl r
-- 200: UnequalHoursModel find
noncomputable def fn_200_75 (g : aa_G) (b2 : Int32) (b3 : Int32) (s0 : Int32) : Int32 × aa_G := if s0 ≠ 0 then (1, zz_w g 540 21 ((b3 + (86400 * (b2 - (g 540 20)))) - (g 540 17))) else (0, g)
theorem dn_200_75 {v : Option Value} {h : zz_H} {n : Nat} {g : aa_G} {b2 : Int32} {b3 : Int32} {s0 : Int32}  (x1 : Option Value) (jx1 : rn_jk x1) (r : rn_s n 200 (75, [some (.ref 540), x1, some (.int b2), some (.int b3)], [.int s0], aa_H g) v h) : iw_s v h (fn_200_75 g b2 b3 s0) := by
  unfold fn_200_75
  refine rn_if (iw_s v h) rfl decide_eq_true_iff.symm r (fun c29 l30n l30 r => ?_) (fun c29 l30n l30 r => ?_)
  · obtain ⟨n31, ln31, r⟩ := rn_steps 13 (101, [some (.ref 540), x1, some (.int b2), some (.int b3)], [.int 1], aa_H (zz_w g 540 21 ((b3 + (86400 * (b2 - (g 540 20)))) - (g 540 17)))) rfl r
    exact rn_ire rfl r
  · obtain ⟨n32, ln32, r⟩ := rn_steps 0 (79, [some (.ref 540), x1, some (.int b2), some (.int b3)], [.int 0], aa_H g) rfl r
    exact rn_ire rfl r
noncomputable def fn_200_59 (g : aa_G) (b1 : Int32) (b2 : Int32) (b3 : Int32) (s0 : Int32) : Int32 × aa_G := fn_200_75 ((fn_194 (zz_w g 540 19 s0) b1 (g 540 20) s0).2) b2 b3 ((fn_194 (zz_w g 540 19 s0) b1 (g 540 20) s0).1)
theorem dn_200_59 {v : Option Value} {h : zz_H} {n : Nat} {g : aa_G} {b1 : Int32} {b2 : Int32} {b3 : Int32} {s0 : Int32}  (r : rn_s n 200 (59, [some (.ref 540), some (.int b1), some (.int b2), some (.int b3)], [.int s0, .ref 540], aa_H g) v h) : iw_s v h (fn_200_59 g b1 b2 b3 s0) := by
  unfold fn_200_59
  obtain ⟨n26, ln26, r⟩ := rn_steps 6 (72, [some (.ref 540), some (.int b1), some (.int b2), some (.int b3)], [.int s0, .int (g 540 20), .int b1, .ref 540], aa_H (zz_w g 540 19 s0)) rfl r
  obtain ⟨_, n27, v1, h1, -, ln27, rc, r⟩ := rn_call (m2 := 194) (as := [.ref 540, .int b1, .int (g 540 20), .int s0]) (rest := []) rfl rfl r
  obtain ⟨rfl, rfl⟩ := dn_194 rc
  have r : rn_s _ 200 (75, [some (.ref 540), some (.int b1), some (.int b2), some (.int b3)], [.int ((fn_194 (zz_w g 540 19 s0) b1 (g 540 20) s0).1)], aa_H ((fn_194 (zz_w g 540 19 s0) b1 (g 540 20) s0).2)) v h := r
  exact dn_200_75 (some (.int b1)) rn_ji r
noncomputable def fn_200_58 (g : aa_G) (b1 : Int32) (b2 : Int32) (b3 : Int32) : Int32 × aa_G := fn_200_59 g b1 b2 b3 1
theorem dn_200_58 {v : Option Value} {h : zz_H} {n : Nat} {g : aa_G} {b1 : Int32} {b2 : Int32} {b3 : Int32}  (r : rn_s n 200 (58, [some (.ref 540), some (.int b1), some (.int b2), some (.int b3)], [.ref 540], aa_H g) v h) : iw_s v h (fn_200_58 g b1 b2 b3) := by
  unfold fn_200_58
  obtain ⟨n25, ln25, r⟩ := rn_steps 0 (59, [some (.ref 540), some (.int b1), some (.int b2), some (.int b3)], [.int 1, .ref 540], aa_H g) rfl r
  exact dn_200_59 r
noncomputable def fn_200_34 (g : aa_G) (b1 : Int32) (b2 : Int32) (b3 : Int32) (s0 : Int32) : Int32 × aa_G := if b3 < (g 540 14) then fn_200_58 (zz_w g 540 20 s0) b1 b2 b3 else if (g 540 15) ≤ b3 then fn_200_58 (zz_w g 540 20 s0) b1 b2 b3 else fn_200_59 (zz_w g 540 20 s0) b1 b2 b3 0
theorem dn_200_34 {v : Option Value} {h : zz_H} {n : Nat} {g : aa_G} {b1 : Int32} {b2 : Int32} {b3 : Int32} {s0 : Int32}  (r : rn_s n 200 (34, [some (.ref 540), some (.int b1), some (.int b2), some (.int b3)], [.int s0, .ref 540], aa_H g) v h) : iw_s v h (fn_200_34 g b1 b2 b3 s0) := by
  unfold fn_200_34
  obtain ⟨n18, ln18, r⟩ := rn_steps 4 (43, [some (.ref 540), some (.int b1), some (.int b2), some (.int b3)], [.int (g 540 14), .int b3, .ref 540], aa_H (zz_w g 540 20 s0)) rfl r
  refine rn_ic (iw_s v h) rfl decide_eq_true_iff.symm r (fun c19 l20n l20 r => ?_) (fun c19 l20n l20 r => ?_)
  · exact dn_200_58 r
  · obtain ⟨n21, ln21, r⟩ := rn_steps 2 (51, [some (.ref 540), some (.int b1), some (.int b2), some (.int b3)], [.int (g 540 15), .int b3, .ref 540], aa_H (zz_w g 540 20 s0)) rfl r
    refine rn_ic (iw_s v h) rfl decide_eq_true_iff.symm r (fun c22 l23n l23 r => ?_) (fun c22 l23n l23 r => ?_)
    · exact dn_200_58 r
    · obtain ⟨n24, ln24, r⟩ := rn_steps 1 (59, [some (.ref 540), some (.int b1), some (.int b2), some (.int b3)], [.int 0, .ref 540], aa_H (zz_w g 540 20 s0)) rfl r
      exact dn_200_59 r
noncomputable def fn_200_13 (g : aa_G) (b1 : Int32) (b2 : Int32) (b3 : Int32) (s0 : Int32) : Int32 × aa_G := if s0 ≠ 0 then if (g 540 14) ≤ b3 then fn_200_34 g b1 b2 b3 b2 else fn_200_34 g b1 b2 b3 (b2 - 1) else (0, g)
theorem dn_200_13 {v : Option Value} {h : zz_H} {n : Nat} {g : aa_G} {b1 : Int32} {b2 : Int32} {b3 : Int32} {s0 : Int32}  (r : rn_s n 200 (13, [some (.ref 540), some (.int b1), some (.int b2), some (.int b3)], [.int s0], aa_H g) v h) : iw_s v h (fn_200_13 g b1 b2 b3 s0) := by
  unfold fn_200_13
  refine rn_if (iw_s v h) rfl decide_eq_true_iff.symm r (fun c10 l11n l11 r => ?_) (fun c10 l11n l11 r => ?_)
  · obtain ⟨n12, ln12, r⟩ := rn_steps 3 (24, [some (.ref 540), some (.int b1), some (.int b2), some (.int b3)], [.int (g 540 14), .int b3, .ref 540], aa_H g) rfl r
    refine rn_ic (iw_s v h) rfl decide_eq_true_iff.symm r (fun c13 l14n l14 r => ?_) (fun c13 l14n l14 r => ?_)
    · obtain ⟨n15, ln15, r⟩ := rn_steps 0 (34, [some (.ref 540), some (.int b1), some (.int b2), some (.int b3)], [.int b2, .ref 540], aa_H g) rfl r
      exact dn_200_34 r
    · obtain ⟨n16, ln16, r⟩ := rn_steps 3 (34, [some (.ref 540), some (.int b1), some (.int b2), some (.int b3)], [.int (b2 - 1), .ref 540], aa_H g) rfl r
      exact dn_200_34 r
  · obtain ⟨n17, ln17, r⟩ := rn_steps 0 (17, [some (.ref 540), some (.int b1), some (.int b2), some (.int b3)], [.int 0], aa_H g) rfl r
    exact rn_ire rfl r
noncomputable def fn_200 (g : aa_G) (a1 : Int32) (a2 : Int32) (a3 : Int32) : Int32 × aa_G := if (fn_193 a2) = 0 then (0, g) else fn_200_13 ((fn_195 g a1 a2).2) a1 a2 a3 ((fn_195 g a1 a2).1)
theorem dn_200 {v : Option Value} {h : zz_H} {n : Nat} {g : aa_G} {a1 : Int32} {a2 : Int32} {a3 : Int32}  (r : rn_s n 200 (0, zz_in [.ref 540, .int a1, .int a2, .int a3] (zz_nl 200), [], aa_H g) v h) : iw_s v h (fn_200 g a1 a2 a3) := by
  have r : rn_s n 200 (0, [some (.ref 540), some (.int a1), some (.int a2), some (.int a3)], [], aa_H g) v h := r
  unfold fn_200
  obtain ⟨n1, ln1, r⟩ := rn_steps 0 (1, [some (.ref 540), some (.int a1), some (.int a2), some (.int a3)], [.int a2], aa_H g) rfl r
  obtain ⟨_, n2, v1, h1, -, ln2, rc, r⟩ := rn_call (m2 := 193) (as := [.int a2]) (rest := []) rfl rfl r
  obtain ⟨rfl, rfl⟩ := dn_193 rc
  have r : rn_s _ 200 (4, [some (.ref 540), some (.int a1), some (.int a2), some (.int a3)], [.int (fn_193 a2)], aa_H g) v h := r
  refine rn_if (iw_s v h) rfl decide_eq_true_iff.symm r (fun c4 l5n l5 r => ?_) (fun c4 l5n l5 r => ?_)
  · obtain ⟨n6, ln6, r⟩ := rn_steps 0 (17, [some (.ref 540), some (.int a1), some (.int a2), some (.int a3)], [.int 0], aa_H g) rfl r
    exact rn_ire rfl r
  · obtain ⟨n7, ln7, r⟩ := rn_steps 2 (10, [some (.ref 540), some (.int a1), some (.int a2), some (.int a3)], [.int a2, .int a1, .ref 540], aa_H g) rfl r
    obtain ⟨_, n8, v1, h1, -, ln8, rc, r⟩ := rn_call (m2 := 195) (as := [.ref 540, .int a1, .int a2]) (rest := []) rfl rfl r
    obtain ⟨rfl, rfl⟩ := dn_195 rc
    have r : rn_s _ 200 (13, [some (.ref 540), some (.int a1), some (.int a2), some (.int a3)], [.int ((fn_195 g a1 a2).1)], aa_H ((fn_195 g a1 a2).2)) v h := r
    exact dn_200_13 r
-- 192: UnequalHoursModel isTown
noncomputable def fn_192 (g : aa_G) (a1 : Int32) : Int32 := fn_154 a1 0 ((g 541 (0 : Int32).toNatClampNeg) - 1)
theorem dn_192 {v : Option Value} {h : zz_H} {n : Nat} {g : aa_G} {a1 : Int32}  (r : rn_s n 192 (0, zz_in [.ref 540, .int a1] (zz_nl 192), [], aa_H g) v h) : ir_s g v h (fn_192 g a1) := by
  have r : rn_s n 192 (0, [some (.ref 540), some (.int a1)], [], aa_H g) v h := r
  unfold fn_192
  obtain ⟨n1, ln1, r⟩ := rn_steps 4 (7, [some (.ref 540), some (.int a1)], [.int 0, .ref 541, .int 0, .int a1], aa_H g) rfl r
  obtain ⟨hb3, n2, ln2, r⟩ := rn_ial (k := 541) rfl ⟨by decide, by decide⟩ rfl r
  have r : rn_s _ 192 (8, [some (.ref 540), some (.int a1)], [.int (g 541 (0 : Int32).toNatClampNeg), .int 0, .int a1], aa_H g) v h := r
  obtain ⟨n4, ln4, r⟩ := rn_steps 1 (10, [some (.ref 540), some (.int a1)], [.int ((g 541 (0 : Int32).toNatClampNeg) - 1), .int 0, .int a1], aa_H g) rfl r
  obtain ⟨_, n5, v1, h1, -, ln5, rc, r⟩ := rn_call (m2 := 154) (as := [.int a1, .int 0, .int ((g 541 (0 : Int32).toNatClampNeg) - 1)]) (rest := []) rfl rfl r
  obtain ⟨rfl, rfl⟩ := dn_154 rc
  have r : rn_s _ 192 (13, [some (.ref 540), some (.int a1)], [.int (fn_154 a1 0 ((g 541 (0 : Int32).toNatClampNeg) - 1))], aa_H g) v h := r
  exact rn_ire rfl r
-- 191: UnequalHoursModel canAsk
noncomputable def fn_191 (g : aa_G) (a1 : Int32) (a2 : Int32) : Int32 := if (fn_192 g a1) = 0 then 0 else if (fn_193 a2) = 0 then 0 else 1
theorem dn_191 {v : Option Value} {h : zz_H} {n : Nat} {g : aa_G} {a1 : Int32} {a2 : Int32}  (r : rn_s n 191 (0, zz_in [.ref 540, .int a1, .int a2] (zz_nl 191), [], aa_H g) v h) : ir_s g v h (fn_191 g a1 a2) := by
  have r : rn_s n 191 (0, [some (.ref 540), some (.int a1), some (.int a2)], [], aa_H g) v h := r
  unfold fn_191
  obtain ⟨n1, ln1, r⟩ := rn_steps 1 (2, [some (.ref 540), some (.int a1), some (.int a2)], [.int a1, .ref 540], aa_H g) rfl r
  obtain ⟨_, n2, v1, h1, -, ln2, rc, r⟩ := rn_call (m2 := 192) (as := [.ref 540, .int a1]) (rest := []) rfl rfl r
  obtain ⟨rfl, rfl⟩ := dn_192 rc
  have r : rn_s _ 191 (5, [some (.ref 540), some (.int a1), some (.int a2)], [.int (fn_192 g a1)], aa_H g) v h := r
  refine rn_if (ir_s g v h) rfl decide_eq_true_iff.symm r (fun c4 l5n l5 r => ?_) (fun c4 l5n l5 r => ?_)
  · obtain ⟨n6, ln6, r⟩ := rn_steps 0 (20, [some (.ref 540), some (.int a1), some (.int a2)], [.int 0], aa_H g) rfl r
    exact rn_ire rfl r
  · obtain ⟨n7, ln7, r⟩ := rn_steps 0 (9, [some (.ref 540), some (.int a1), some (.int a2)], [.int a2], aa_H g) rfl r
    obtain ⟨_, n8, v1, h1, -, ln8, rc, r⟩ := rn_call (m2 := 193) (as := [.int a2]) (rest := []) rfl rfl r
    obtain ⟨rfl, rfl⟩ := dn_193 rc
    have r : rn_s _ 191 (12, [some (.ref 540), some (.int a1), some (.int a2)], [.int (fn_193 a2)], aa_H g) v h := r
    refine rn_if (ir_s g v h) rfl decide_eq_true_iff.symm r (fun c10 l11n l11 r => ?_) (fun c10 l11n l11 r => ?_)
    · obtain ⟨n12, ln12, r⟩ := rn_steps 0 (20, [some (.ref 540), some (.int a1), some (.int a2)], [.int 0], aa_H g) rfl r
      exact rn_ire rfl r
    · obtain ⟨n13, ln13, r⟩ := rn_steps 1 (20, [some (.ref 540), some (.int a1), some (.int a2)], [.int 1], aa_H g) rfl r
      exact rn_ire rfl r
-- 204: UnequalHoursModel isPlace
noncomputable def fn_204 (g : aa_G) (a1 : Int32) (a2 : Int32) : Int32 := if (fn_154 a1 0 1) = 0 then 0 else if (fn_154 a2 0 ((12 * (g 541 (1 : Int32).toNatClampNeg)) - 1)) = 0 then 0 else 1
theorem dn_204 {v : Option Value} {h : zz_H} {n : Nat} {g : aa_G} {a1 : Int32} {a2 : Int32}  (r : rn_s n 204 (0, zz_in [.ref 540, .int a1, .int a2] (zz_nl 204), [], aa_H g) v h) : ir_s g v h (fn_204 g a1 a2) := by
  have r : rn_s n 204 (0, [some (.ref 540), some (.int a1), some (.int a2)], [], aa_H g) v h := r
  unfold fn_204
  obtain ⟨n1, ln1, r⟩ := rn_steps 2 (3, [some (.ref 540), some (.int a1), some (.int a2)], [.int 1, .int 0, .int a1], aa_H g) rfl r
  obtain ⟨_, n2, v1, h1, -, ln2, rc, r⟩ := rn_call (m2 := 154) (as := [.int a1, .int 0, .int 1]) (rest := []) rfl rfl r
  obtain ⟨rfl, rfl⟩ := dn_154 rc
  have r : rn_s _ 204 (6, [some (.ref 540), some (.int a1), some (.int a2)], [.int (fn_154 a1 0 1)], aa_H g) v h := r
  refine rn_if (ir_s g v h) rfl decide_eq_true_iff.symm r (fun c4 l5n l5 r => ?_) (fun c4 l5n l5 r => ?_)
  · obtain ⟨n6, ln6, r⟩ := rn_steps 0 (33, [some (.ref 540), some (.int a1), some (.int a2)], [.int 0], aa_H g) rfl r
    exact rn_ire rfl r
  · obtain ⟨n7, ln7, r⟩ := rn_steps 5 (18, [some (.ref 540), some (.int a1), some (.int a2)], [.int 1, .ref 541, .int 12, .int 0, .int a2], aa_H g) rfl r
    obtain ⟨hb9, n8, ln8, r⟩ := rn_ial (k := 541) rfl ⟨by decide, by decide⟩ rfl r
    have r : rn_s _ 204 (19, [some (.ref 540), some (.int a1), some (.int a2)], [.int (g 541 (1 : Int32).toNatClampNeg), .int 12, .int 0, .int a2], aa_H g) v h := r
    obtain ⟨n10, ln10, r⟩ := rn_steps 2 (22, [some (.ref 540), some (.int a1), some (.int a2)], [.int ((12 * (g 541 (1 : Int32).toNatClampNeg)) - 1), .int 0, .int a2], aa_H g) rfl r
    obtain ⟨_, n11, v1, h1, -, ln11, rc, r⟩ := rn_call (m2 := 154) (as := [.int a2, .int 0, .int ((12 * (g 541 (1 : Int32).toNatClampNeg)) - 1)]) (rest := []) rfl rfl r
    obtain ⟨rfl, rfl⟩ := dn_154 rc
    have r : rn_s _ 204 (25, [some (.ref 540), some (.int a1), some (.int a2)], [.int (fn_154 a2 0 ((12 * (g 541 (1 : Int32).toNatClampNeg)) - 1))], aa_H g) v h := r
    refine rn_if (ir_s g v h) rfl decide_eq_true_iff.symm r (fun c13 l14n l14 r => ?_) (fun c13 l14n l14 r => ?_)
    · obtain ⟨n15, ln15, r⟩ := rn_steps 0 (33, [some (.ref 540), some (.int a1), some (.int a2)], [.int 0], aa_H g) rfl r
      exact rn_ire rfl r
    · obtain ⟨n16, ln16, r⟩ := rn_steps 1 (33, [some (.ref 540), some (.int a1), some (.int a2)], [.int 1], aa_H g) rfl r
      exact rn_ire rfl r
-- 206: UnequalHoursModel sincePlace
noncomputable def fn_206 (g : aa_G) (a1 : Int32) : Int32 := ((((a1.toInt64 * ((g 540 18).toInt64)) + (12 * ((g 541 (1 : Int32).toNatClampNeg).toInt64))) - 1) / (12 * ((g 541 (1 : Int32).toNatClampNeg).toInt64))).toInt32
theorem dn_206 {v : Option Value} {h : zz_H} {n : Nat} {g : aa_G} {a1 : Int32}  (r : rn_s n 206 (0, zz_in [.ref 540, .int a1] (zz_nl 206), [], aa_H g) v h) : ir_s g v h (fn_206 g a1) := by
  have r : rn_s n 206 (0, [some (.ref 540), some (.int a1), none, none], [], aa_H g) v h := r
  unfold fn_206
  obtain ⟨n1, ln1, r⟩ := rn_steps 3 (8, [some (.ref 540), some (.int a1), none, none], [.int 1, .ref 541, .long 12], aa_H g) rfl r
  obtain ⟨hb3, n2, ln2, r⟩ := rn_ial (k := 541) rfl ⟨by decide, by decide⟩ rfl r
  have r : rn_s _ 206 (9, [some (.ref 540), some (.int a1), none, none], [.int (g 541 (1 : Int32).toNatClampNeg), .long 12], aa_H g) v h := r
  obtain ⟨n4, ln4, r⟩ := rn_steps 13 (25, [some (.ref 540), some (.int a1), some (.long (12 * ((g 541 (1 : Int32).toNatClampNeg).toInt64))), none], [.long (12 * ((g 541 (1 : Int32).toNatClampNeg).toInt64)), .long (((a1.toInt64 * ((g 540 18).toInt64)) + (12 * ((g 541 (1 : Int32).toNatClampNeg).toInt64))) - 1)], aa_H g) rfl r
  obtain ⟨hd6, n5, ln5, r⟩ := rn_ldiv rfl r
  have r : rn_s _ 206 (26, [some (.ref 540), some (.int a1), some (.long (12 * ((g 541 (1 : Int32).toNatClampNeg).toInt64))), none], [.long ((((a1.toInt64 * ((g 540 18).toInt64)) + (12 * ((g 541 (1 : Int32).toNatClampNeg).toInt64))) - 1) / (12 * ((g 541 (1 : Int32).toNatClampNeg).toInt64)))], aa_H g) v h := r
  obtain ⟨n7, ln7, r⟩ := rn_steps 0 (27, [some (.ref 540), some (.int a1), some (.long (12 * ((g 541 (1 : Int32).toNatClampNeg).toInt64))), none], [.int (((((a1.toInt64 * ((g 540 18).toInt64)) + (12 * ((g 541 (1 : Int32).toNatClampNeg).toInt64))) - 1) / (12 * ((g 541 (1 : Int32).toNatClampNeg).toInt64))).toInt32)], aa_H g) rfl r
  exact rn_ire rfl r
-- 205: UnequalHoursModel backOf
noncomputable def fn_205_7 (g : aa_G) (b4 : Int32) (s0 : Int32) : Int32 × aa_G := if s0 ≠ 0 then if (g 540 18) ≤ (fn_206 g b4) then (-2, g) else ((g 540 17) + (fn_206 g b4), g) else (-2, g)
theorem dn_205_7 {v : Option Value} {h : zz_H} {n : Nat} {g : aa_G} {b4 : Int32} {s0 : Int32}  (x1 x2 x3 x5 : Option Value) (jx1 : rn_jk x1) (jx2 : rn_jk x2) (jx3 : rn_jk x3) (jx5 : rn_jk x5) (r : rn_s n 205 (7, [some (.ref 540), x1, x2, x3, some (.int b4), x5], [.int s0], aa_H g) v h) : iw_s v h (fn_205_7 g b4 s0) := by
  unfold fn_205_7
  refine rn_if (iw_s v h) rfl decide_eq_true_iff.symm r (fun c4 l5n l5 r => ?_) (fun c4 l5n l5 r => ?_)
  · obtain ⟨n6, ln6, r⟩ := rn_steps 1 (16, [some (.ref 540), x1, x2, x3, some (.int b4), x5], [.int b4, .ref 540], aa_H g) rfl r
    obtain ⟨_, n7, v1, h1, -, ln7, rc, r⟩ := rn_call (m2 := 206) (as := [.ref 540, .int b4]) (rest := []) rfl rfl r
    obtain ⟨rfl, rfl⟩ := dn_206 rc
    have r : rn_s _ 205 (19, [some (.ref 540), x1, x2, x3, some (.int b4), x5], [.int (fn_206 g b4)], aa_H g) v h := r
    obtain ⟨n9, ln9, r⟩ := rn_steps 3 (27, [some (.ref 540), x1, x2, x3, some (.int b4), some (.int (fn_206 g b4))], [.int (g 540 18), .int (fn_206 g b4)], aa_H g) rfl r
    refine rn_ic (iw_s v h) rfl decide_eq_true_iff.symm r (fun c10 l11n l11 r => ?_) (fun c10 l11n l11 r => ?_)
    · obtain ⟨n12, ln12, r⟩ := rn_steps 0 (42, [some (.ref 540), x1, x2, x3, some (.int b4), some (.int (fn_206 g b4))], [.int (-2)], aa_H g) rfl r
      exact rn_ire rfl r
    · obtain ⟨n13, ln13, r⟩ := rn_steps 4 (42, [some (.ref 540), x1, x2, x3, some (.int b4), some (.int (fn_206 g b4))], [.int ((g 540 17) + (fn_206 g b4))], aa_H g) rfl r
      exact rn_ire rfl r
  · obtain ⟨n14, ln14, r⟩ := rn_steps 0 (12, [some (.ref 540), x1, x2, x3, some (.int b4), x5], [.int (-2)], aa_H g) rfl r
    exact rn_ire rfl r
noncomputable def fn_205 (g : aa_G) (a1 : Int32) (a2 : Int32) (a3 : Int32) (a4 : Int32) : Int32 × aa_G := fn_205_7 ((fn_194 g a1 a2 a3).2) a4 ((fn_194 g a1 a2 a3).1)
theorem dn_205 {v : Option Value} {h : zz_H} {n : Nat} {g : aa_G} {a1 : Int32} {a2 : Int32} {a3 : Int32} {a4 : Int32}  (r : rn_s n 205 (0, zz_in [.ref 540, .int a1, .int a2, .int a3, .int a4] (zz_nl 205), [], aa_H g) v h) : iw_s v h (fn_205 g a1 a2 a3 a4) := by
  have r : rn_s n 205 (0, [some (.ref 540), some (.int a1), some (.int a2), some (.int a3), some (.int a4), none], [], aa_H g) v h := r
  unfold fn_205
  obtain ⟨n1, ln1, r⟩ := rn_steps 3 (4, [some (.ref 540), some (.int a1), some (.int a2), some (.int a3), some (.int a4), none], [.int a3, .int a2, .int a1, .ref 540], aa_H g) rfl r
  obtain ⟨_, n2, v1, h1, -, ln2, rc, r⟩ := rn_call (m2 := 194) (as := [.ref 540, .int a1, .int a2, .int a3]) (rest := []) rfl rfl r
  obtain ⟨rfl, rfl⟩ := dn_194 rc
  have r : rn_s _ 205 (7, [some (.ref 540), some (.int a1), some (.int a2), some (.int a3), some (.int a4), none], [.int ((fn_194 g a1 a2 a3).1)], aa_H ((fn_194 g a1 a2 a3).2)) v h := r
  exact dn_205_7 (some (.int a1)) (some (.int a2)) (some (.int a3)) none rn_ji rn_ji rn_ji rn_jn r
-- 202: UnequalHoursModel placeOf
noncomputable def fn_202 (g : aa_G) (a1 : Int32) : Int32 := (((a1.toInt64 * 12) * ((g 541 (1 : Int32).toNatClampNeg).toInt64)) / ((g 540 18).toInt64)).toInt32
theorem dn_202 {v : Option Value} {h : zz_H} {n : Nat} {g : aa_G} {a1 : Int32}  (r : rn_s n 202 (0, zz_in [.ref 540, .int a1] (zz_nl 202), [], aa_H g) v h) : ir_s g v h (fn_202 g a1) := by
  have r : rn_s n 202 (0, [some (.ref 540), some (.int a1)], [], aa_H g) v h := r
  unfold fn_202
  obtain ⟨n1, ln1, r⟩ := rn_steps 6 (11, [some (.ref 540), some (.int a1)], [.int 1, .ref 541, .long (a1.toInt64 * 12)], aa_H g) rfl r
  obtain ⟨hb3, n2, ln2, r⟩ := rn_ial (k := 541) rfl ⟨by decide, by decide⟩ rfl r
  have r : rn_s _ 202 (12, [some (.ref 540), some (.int a1)], [.int (g 541 (1 : Int32).toNatClampNeg), .long (a1.toInt64 * 12)], aa_H g) v h := r
  obtain ⟨n4, ln4, r⟩ := rn_steps 4 (19, [some (.ref 540), some (.int a1)], [.long ((g 540 18).toInt64), .long ((a1.toInt64 * 12) * ((g 541 (1 : Int32).toNatClampNeg).toInt64))], aa_H g) rfl r
  obtain ⟨hd6, n5, ln5, r⟩ := rn_ldiv rfl r
  have r : rn_s _ 202 (20, [some (.ref 540), some (.int a1)], [.long (((a1.toInt64 * 12) * ((g 541 (1 : Int32).toNatClampNeg).toInt64)) / ((g 540 18).toInt64))], aa_H g) v h := r
  obtain ⟨n7, ln7, r⟩ := rn_steps 0 (21, [some (.ref 540), some (.int a1)], [.int ((((a1.toInt64 * 12) * ((g 541 (1 : Int32).toNatClampNeg).toInt64)) / ((g 540 18).toInt64)).toInt32)], aa_H g) rfl r
  exact rn_ire rfl r
-- 201: UnequalHoursModel tells
noncomputable def fn_201 (g : aa_G) (a1 : Int32) : Int32 := if a1.toInt = 0 then g 540 20 else if a1.toInt = 1 then g 540 19 else if a1.toInt = 2 then (fn_202 g (g 540 21)) / (g 541 (1 : Int32).toNatClampNeg) else if a1.toInt = 3 then (fn_202 g (g 540 21)) - (fn_202 g (g 540 21)) / (g 541 (1 : Int32).toNatClampNeg) * (g 541 (1 : Int32).toNatClampNeg) else if a1.toInt = 4 then fn_202 g (g 540 21) else g 540 21
theorem dn_201 {v : Option Value} {h : zz_H} {n : Nat} {g : aa_G} {a1 : Int32}  (r : rn_s n 201 (0, zz_in [.ref 540, .int a1] (zz_nl 201), [], aa_H g) v h) : ir_s g v h (fn_201 g a1) := by
  have r : rn_s n 201 (0, [some (.ref 540), some (.int a1)], [], aa_H g) v h := r
  unfold fn_201
  obtain ⟨n1, ln1, r⟩ := rn_steps 0 (1, [some (.ref 540), some (.int a1)], [.int a1], aa_H g) rfl r
  obtain ⟨n2, ln2, r⟩ := rn_swi rfl r
  refine rn_sw1 (ir_s g v h) r (fun c3 r => ?_) (fun c3 r => ?_)
  · have r : rn_s _ 201 (36, [some (.ref 540), some (.int a1)], [], aa_H g) v h := r
    obtain ⟨n4, ln4, r⟩ := rn_steps 1 (40, [some (.ref 540), some (.int a1)], [.int (g 540 20)], aa_H g) rfl r
    exact rn_ire rfl r
  · refine rn_sw1 (ir_s g v h) r (fun c5 r => ?_) (fun c5 r => ?_)
    · have r : rn_s _ 201 (41, [some (.ref 540), some (.int a1)], [], aa_H g) v h := r
      obtain ⟨n6, ln6, r⟩ := rn_steps 1 (45, [some (.ref 540), some (.int a1)], [.int (g 540 19)], aa_H g) rfl r
      exact rn_ire rfl r
    · refine rn_sw1 (ir_s g v h) r (fun c7 r => ?_) (fun c7 r => ?_)
      · have r : rn_s _ 201 (46, [some (.ref 540), some (.int a1)], [], aa_H g) v h := r
        obtain ⟨n8, ln8, r⟩ := rn_steps 2 (51, [some (.ref 540), some (.int a1)], [.int (g 540 21), .ref 540], aa_H g) rfl r
        obtain ⟨_, n9, v1, h1, -, ln9, rc, r⟩ := rn_call (m2 := 202) (as := [.ref 540, .int (g 540 21)]) (rest := []) rfl rfl r
        obtain ⟨rfl, rfl⟩ := dn_202 rc
        have r : rn_s _ 201 (54, [some (.ref 540), some (.int a1)], [.int (fn_202 g (g 540 21))], aa_H g) v h := r
        obtain ⟨n11, ln11, r⟩ := rn_steps 2 (59, [some (.ref 540), some (.int a1)], [.int 1, .ref 541, .int (fn_202 g (g 540 21))], aa_H g) rfl r
        obtain ⟨hb13, n12, ln12, r⟩ := rn_ial (k := 541) rfl ⟨by decide, by decide⟩ rfl r
        have r : rn_s _ 201 (60, [some (.ref 540), some (.int a1)], [.int (g 541 (1 : Int32).toNatClampNeg), .int (fn_202 g (g 540 21))], aa_H g) v h := r
        obtain ⟨hd15, n14, ln14, r⟩ := rn_div rfl r
        have r : rn_s _ 201 (61, [some (.ref 540), some (.int a1)], [.int ((fn_202 g (g 540 21)) / (g 541 (1 : Int32).toNatClampNeg))], aa_H g) v h := r
        exact rn_ire rfl r
      · refine rn_sw1 (ir_s g v h) r (fun c16 r => ?_) (fun c16 r => ?_)
        · have r : rn_s _ 201 (62, [some (.ref 540), some (.int a1)], [], aa_H g) v h := r
          obtain ⟨n17, ln17, r⟩ := rn_steps 2 (67, [some (.ref 540), some (.int a1)], [.int (g 540 21), .ref 540], aa_H g) rfl r
          obtain ⟨_, n18, v1, h1, -, ln18, rc, r⟩ := rn_call (m2 := 202) (as := [.ref 540, .int (g 540 21)]) (rest := []) rfl rfl r
          obtain ⟨rfl, rfl⟩ := dn_202 rc
          have r : rn_s _ 201 (70, [some (.ref 540), some (.int a1)], [.int (fn_202 g (g 540 21))], aa_H g) v h := r
          obtain ⟨n20, ln20, r⟩ := rn_steps 2 (75, [some (.ref 540), some (.int a1)], [.int 1, .ref 541, .int (fn_202 g (g 540 21))], aa_H g) rfl r
          obtain ⟨hb22, n21, ln21, r⟩ := rn_ial (k := 541) rfl ⟨by decide, by decide⟩ rfl r
          have r : rn_s _ 201 (76, [some (.ref 540), some (.int a1)], [.int (g 541 (1 : Int32).toNatClampNeg), .int (fn_202 g (g 540 21))], aa_H g) v h := r
          obtain ⟨hd24, n23, ln23, r⟩ := rn_rem rfl r
          have r : rn_s _ 201 (77, [some (.ref 540), some (.int a1)], [.int ((fn_202 g (g 540 21)) - (fn_202 g (g 540 21)) / (g 541 (1 : Int32).toNatClampNeg) * (g 541 (1 : Int32).toNatClampNeg))], aa_H g) v h := r
          exact rn_ire rfl r
        · refine rn_sw1 (ir_s g v h) r (fun c25 r => ?_) (fun c25 r => ?_)
          · have r : rn_s _ 201 (78, [some (.ref 540), some (.int a1)], [], aa_H g) v h := r
            obtain ⟨n26, ln26, r⟩ := rn_steps 2 (83, [some (.ref 540), some (.int a1)], [.int (g 540 21), .ref 540], aa_H g) rfl r
            obtain ⟨_, n27, v1, h1, -, ln27, rc, r⟩ := rn_call (m2 := 202) (as := [.ref 540, .int (g 540 21)]) (rest := []) rfl rfl r
            obtain ⟨rfl, rfl⟩ := dn_202 rc
            have r : rn_s _ 201 (86, [some (.ref 540), some (.int a1)], [.int (fn_202 g (g 540 21))], aa_H g) v h := r
            exact rn_ire rfl r
          · have r : rn_s _ 201 (87, [some (.ref 540), some (.int a1)], [], aa_H g) v h := r
            obtain ⟨n29, ln29, r⟩ := rn_steps 1 (91, [some (.ref 540), some (.int a1)], [.int (g 540 21)], aa_H g) rfl r
            exact rn_ire rfl r
-- 209: UnequalHoursModel offsetOf
noncomputable def fn_209 (g : aa_G) (a1 : Int32) : Int32 := g 541 (fn_164 a1).toNatClampNeg
theorem dn_209 {v : Option Value} {h : zz_H} {n : Nat} {g : aa_G} {a1 : Int32}  (r : rn_s n 209 (0, zz_in [.ref 540, .int a1] (zz_nl 209), [], aa_H g) v h) : ir_s g v h (fn_209 g a1) := by
  have r : rn_s n 209 (0, [some (.ref 540), some (.int a1)], [], aa_H g) v h := r
  unfold fn_209
  obtain ⟨n1, ln1, r⟩ := rn_steps 2 (5, [some (.ref 540), some (.int a1)], [.int a1, .ref 541], aa_H g) rfl r
  obtain ⟨_, n2, v1, h1, -, ln2, rc, r⟩ := rn_call (m2 := 164) (as := [.int a1]) (rest := [.ref 541]) rfl rfl r
  obtain ⟨rfl, rfl⟩ := dn_164 rc
  have r : rn_s _ 209 (8, [some (.ref 540), some (.int a1)], [.int (fn_164 a1), .ref 541], aa_H g) v h := r
  obtain ⟨hb5, n4, ln4, r⟩ := rn_ial (k := 541) rfl ⟨by decide, by decide⟩ rfl r
  have r : rn_s _ 209 (9, [some (.ref 540), some (.int a1)], [.int (g 541 (fn_164 a1).toNatClampNeg)], aa_H g) v h := r
  exact rn_ire rfl r
-- 208: UnequalHoursModel goOver
noncomputable def fn_208_54 (g : aa_G) (b2 : Int64) (b4 : Int64) (b7 : Int64) (b9 : Int64) (s0 : Int64) : aa_G := zz_w (zz_w g 540 22 s0.toInt32) 540 23 ((b7 - (s0 * 86400)).toInt32)
theorem dn_208_54 {v : Option Value} {h : zz_H} {n : Nat} {g : aa_G} {b2 : Int64} {b4 : Int64} {b7 : Int64} {b9 : Int64} {s0 : Int64}  (x1 x6 : Option Value) (jx1 : rn_jk x1) (jx6 : rn_jk x6) (r : rn_s n 208 (54, [some (.ref 540), x1, some (.long b2), none, some (.long b4), none, x6, some (.long b7), none, some (.long b9), none], [.long s0], aa_H g) v h) : ig_s v h (fn_208_54 g b2 b4 b7 b9 s0) := by
  unfold fn_208_54
  obtain ⟨n12, ln12, r⟩ := rn_steps 12 (77, [some (.ref 540), x1, some (.long b2), none, some (.long b4), none, x6, some (.long b7), none, some (.long s0), none], [], aa_H (zz_w (zz_w g 540 22 s0.toInt32) 540 23 ((b7 - (s0 * 86400)).toInt32))) rfl r
  exact rn_ret 1 rfl r
noncomputable def fn_208 (g : aa_G) (a1 : Int32) (a2 : Int64) (a3 : Int64) (a4 : Int32) : aa_G := if 0 ≤ (lg_cmp ((((a2 * 86400) + a3) - ((fn_209 g a1).toInt64)) + ((fn_209 g a4).toInt64)) ((((((a2 * 86400) + a3) - ((fn_209 g a1).toInt64)) + ((fn_209 g a4).toInt64)) / 86400) * 86400)) then fn_208_54 g a2 a3 ((((a2 * 86400) + a3) - ((fn_209 g a1).toInt64)) + ((fn_209 g a4).toInt64)) (((((a2 * 86400) + a3) - ((fn_209 g a1).toInt64)) + ((fn_209 g a4).toInt64)) / 86400) (((((a2 * 86400) + a3) - ((fn_209 g a1).toInt64)) + ((fn_209 g a4).toInt64)) / 86400) else fn_208_54 g a2 a3 ((((a2 * 86400) + a3) - ((fn_209 g a1).toInt64)) + ((fn_209 g a4).toInt64)) (((((a2 * 86400) + a3) - ((fn_209 g a1).toInt64)) + ((fn_209 g a4).toInt64)) / 86400) ((((((a2 * 86400) + a3) - ((fn_209 g a1).toInt64)) + ((fn_209 g a4).toInt64)) / 86400) - 1)
theorem dn_208 {v : Option Value} {h : zz_H} {n : Nat} {g : aa_G} {a1 : Int32} {a2 : Int64} {a3 : Int64} {a4 : Int32}  (r : rn_s n 208 (0, zz_in [.ref 540, .int a1, .long a2, .long a3, .int a4] (zz_nl 208), [], aa_H g) v h) : ig_s v h (fn_208 g a1 a2 a3 a4) := by
  have r : rn_s n 208 (0, [some (.ref 540), some (.int a1), some (.long a2), none, some (.long a3), none, some (.int a4), none, none, none, none], [], aa_H g) v h := r
  unfold fn_208
  obtain ⟨n1, ln1, r⟩ := rn_steps 6 (10, [some (.ref 540), some (.int a1), some (.long a2), none, some (.long a3), none, some (.int a4), none, none, none, none], [.int a1, .ref 540, .long ((a2 * 86400) + a3)], aa_H g) rfl r
  obtain ⟨_, n2, v1, h1, -, ln2, rc, r⟩ := rn_call (m2 := 209) (as := [.ref 540, .int a1]) (rest := [.long ((a2 * 86400) + a3)]) rfl rfl r
  obtain ⟨rfl, rfl⟩ := dn_209 rc
  have r : rn_s _ 208 (13, [some (.ref 540), some (.int a1), some (.long a2), none, some (.long a3), none, some (.int a4), none, none, none, none], [.int (fn_209 g a1), .long ((a2 * 86400) + a3)], aa_H g) v h := r
  obtain ⟨n4, ln4, r⟩ := rn_steps 3 (18, [some (.ref 540), some (.int a1), some (.long a2), none, some (.long a3), none, some (.int a4), none, none, none, none], [.int a4, .ref 540, .long (((a2 * 86400) + a3) - ((fn_209 g a1).toInt64))], aa_H g) rfl r
  obtain ⟨_, n5, v1, h1, -, ln5, rc, r⟩ := rn_call (m2 := 209) (as := [.ref 540, .int a4]) (rest := [.long (((a2 * 86400) + a3) - ((fn_209 g a1).toInt64))]) rfl rfl r
  obtain ⟨rfl, rfl⟩ := dn_209 rc
  have r : rn_s _ 208 (21, [some (.ref 540), some (.int a1), some (.long a2), none, some (.long a3), none, some (.int a4), none, none, none, none], [.int (fn_209 g a4), .long (((a2 * 86400) + a3) - ((fn_209 g a1).toInt64))], aa_H g) v h := r
  obtain ⟨n7, ln7, r⟩ := rn_steps 11 (42, [some (.ref 540), some (.int a1), some (.long a2), none, some (.long a3), none, some (.int a4), some (.long ((((a2 * 86400) + a3) - ((fn_209 g a1).toInt64)) + ((fn_209 g a4).toInt64))), none, some (.long (((((a2 * 86400) + a3) - ((fn_209 g a1).toInt64)) + ((fn_209 g a4).toInt64)) / 86400)), none], [.int (lg_cmp ((((a2 * 86400) + a3) - ((fn_209 g a1).toInt64)) + ((fn_209 g a4).toInt64)) ((((((a2 * 86400) + a3) - ((fn_209 g a1).toInt64)) + ((fn_209 g a4).toInt64)) / 86400) * 86400))], aa_H g) rfl r
  refine rn_if (ig_s v h) rfl decide_eq_true_iff.symm r (fun c8 l9n l9 r => ?_) (fun c8 l9n l9 r => ?_)
  · obtain ⟨n10, ln10, r⟩ := rn_steps 0 (54, [some (.ref 540), some (.int a1), some (.long a2), none, some (.long a3), none, some (.int a4), some (.long ((((a2 * 86400) + a3) - ((fn_209 g a1).toInt64)) + ((fn_209 g a4).toInt64))), none, some (.long (((((a2 * 86400) + a3) - ((fn_209 g a1).toInt64)) + ((fn_209 g a4).toInt64)) / 86400)), none], [.long (((((a2 * 86400) + a3) - ((fn_209 g a1).toInt64)) + ((fn_209 g a4).toInt64)) / 86400)], aa_H g) rfl r
    exact dn_208_54 (some (.int a1)) (some (.int a4)) rn_ji rn_ji r
  · obtain ⟨n11, ln11, r⟩ := rn_steps 3 (54, [some (.ref 540), some (.int a1), some (.long a2), none, some (.long a3), none, some (.int a4), some (.long ((((a2 * 86400) + a3) - ((fn_209 g a1).toInt64)) + ((fn_209 g a4).toInt64))), none, some (.long (((((a2 * 86400) + a3) - ((fn_209 g a1).toInt64)) + ((fn_209 g a4).toInt64)) / 86400)), none], [.long ((((((a2 * 86400) + a3) - ((fn_209 g a1).toInt64)) + ((fn_209 g a4).toInt64)) / 86400) - 1)], aa_H g) rfl r
    exact dn_208_54 (some (.int a1)) (some (.int a4)) rn_ji rn_ji r
-- 199: UnequalHoursModel isSecond
noncomputable def fn_199 (a0 : Int32) : Int32 := fn_154 a0 0 86399
theorem dn_199 {v : Option Value} {h : zz_H} {n : Nat} {g : aa_G} {a0 : Int32}  (r : rn_s n 199 (0, zz_in [.int a0] (zz_nl 199), [], aa_H g) v h) : ir_s g v h (fn_199 a0) := by
  have r : rn_s n 199 (0, [some (.int a0)], [], aa_H g) v h := r
  unfold fn_199
  obtain ⟨n1, ln1, r⟩ := rn_steps 2 (4, [some (.int a0)], [.int 86399, .int 0, .int a0], aa_H g) rfl r
  obtain ⟨_, n2, v1, h1, -, ln2, rc, r⟩ := rn_call (m2 := 154) (as := [.int a0, .int 0, .int 86399]) (rest := []) rfl rfl r
  obtain ⟨rfl, rfl⟩ := dn_154 rc
  have r : rn_s _ 199 (7, [some (.int a0)], [.int (fn_154 a0 0 86399)], aa_H g) v h := r
  exact rn_ire rfl r
-- 207: UnequalHoursModel over
noncomputable def fn_207_50 (g : aa_G) (b5 : Int32) : Int32 × aa_G := if b5 ≠ 0 then (g 540 23, g) else (g 540 22, g)
theorem dn_207_50 {v : Option Value} {h : zz_H} {n : Nat} {g : aa_G} {b5 : Int32}  (x1 x2 x3 x4 : Option Value) (jx1 : rn_jk x1) (jx2 : rn_jk x2) (jx3 : rn_jk x3) (jx4 : rn_jk x4) (r : rn_s n 207 (50, [some (.ref 540), x1, x2, x3, x4, some (.int b5)], [], aa_H g) v h) : iw_s v h (fn_207_50 g b5) := by
  unfold fn_207_50
  obtain ⟨n28, ln28, r⟩ := rn_steps 0 (52, [some (.ref 540), x1, x2, x3, x4, some (.int b5)], [.int b5], aa_H g) rfl r
  refine rn_if (iw_s v h) rfl decide_eq_true_iff.symm r (fun c29 l30n l30 r => ?_) (fun c29 l30n l30 r => ?_)
  · obtain ⟨n31, ln31, r⟩ := rn_steps 1 (66, [some (.ref 540), x1, x2, x3, x4, some (.int b5)], [.int (g 540 23)], aa_H g) rfl r
    exact rn_ire rfl r
  · obtain ⟨n32, ln32, r⟩ := rn_steps 2 (66, [some (.ref 540), x1, x2, x3, x4, some (.int b5)], [.int (g 540 22)], aa_H g) rfl r
    exact rn_ire rfl r
noncomputable def fn_207 (g : aa_G) (a1 : Int32) (a2 : Int32) (a3 : Int32) (a4 : Int32) (a5 : Int32) : Int32 × aa_G := if (fn_191 g a1 a2) = 0 then (-1000000, g) else if (fn_199 a3) = 0 then (-1000000, g) else if (fn_192 g a4) = 0 then (-1000000, g) else if (fn_154 a5 0 1) ≠ 0 then fn_207_50 (fn_208 g a1 a2.toInt64 a3.toInt64 a4) a5 else (-1000000, g)
theorem dn_207 {v : Option Value} {h : zz_H} {n : Nat} {g : aa_G} {a1 : Int32} {a2 : Int32} {a3 : Int32} {a4 : Int32} {a5 : Int32}  (r : rn_s n 207 (0, zz_in [.ref 540, .int a1, .int a2, .int a3, .int a4, .int a5] (zz_nl 207), [], aa_H g) v h) : iw_s v h (fn_207 g a1 a2 a3 a4 a5) := by
  have r : rn_s n 207 (0, [some (.ref 540), some (.int a1), some (.int a2), some (.int a3), some (.int a4), some (.int a5)], [], aa_H g) v h := r
  unfold fn_207
  obtain ⟨n1, ln1, r⟩ := rn_steps 2 (3, [some (.ref 540), some (.int a1), some (.int a2), some (.int a3), some (.int a4), some (.int a5)], [.int a2, .int a1, .ref 540], aa_H g) rfl r
  obtain ⟨_, n2, v1, h1, -, ln2, rc, r⟩ := rn_call (m2 := 191) (as := [.ref 540, .int a1, .int a2]) (rest := []) rfl rfl r
  obtain ⟨rfl, rfl⟩ := dn_191 rc
  have r : rn_s _ 207 (6, [some (.ref 540), some (.int a1), some (.int a2), some (.int a3), some (.int a4), some (.int a5)], [.int (fn_191 g a1 a2)], aa_H g) v h := r
  refine rn_if (iw_s v h) rfl decide_eq_true_iff.symm r (fun c4 l5n l5 r => ?_) (fun c4 l5n l5 r => ?_)
  · obtain ⟨n6, ln6, r⟩ := rn_steps 0 (38, [some (.ref 540), some (.int a1), some (.int a2), some (.int a3), some (.int a4), some (.int a5)], [.int (-1000000)], aa_H g) rfl r
    exact rn_ire rfl r
  · obtain ⟨n7, ln7, r⟩ := rn_steps 0 (10, [some (.ref 540), some (.int a1), some (.int a2), some (.int a3), some (.int a4), some (.int a5)], [.int a3], aa_H g) rfl r
    obtain ⟨_, n8, v1, h1, -, ln8, rc, r⟩ := rn_call (m2 := 199) (as := [.int a3]) (rest := []) rfl rfl r
    obtain ⟨rfl, rfl⟩ := dn_199 rc
    have r : rn_s _ 207 (13, [some (.ref 540), some (.int a1), some (.int a2), some (.int a3), some (.int a4), some (.int a5)], [.int (fn_199 a3)], aa_H g) v h := r
    refine rn_if (iw_s v h) rfl decide_eq_true_iff.symm r (fun c10 l11n l11 r => ?_) (fun c10 l11n l11 r => ?_)
    · obtain ⟨n12, ln12, r⟩ := rn_steps 0 (38, [some (.ref 540), some (.int a1), some (.int a2), some (.int a3), some (.int a4), some (.int a5)], [.int (-1000000)], aa_H g) rfl r
      exact rn_ire rfl r
    · obtain ⟨n13, ln13, r⟩ := rn_steps 1 (19, [some (.ref 540), some (.int a1), some (.int a2), some (.int a3), some (.int a4), some (.int a5)], [.int a4, .ref 540], aa_H g) rfl r
      obtain ⟨_, n14, v1, h1, -, ln14, rc, r⟩ := rn_call (m2 := 192) (as := [.ref 540, .int a4]) (rest := []) rfl rfl r
      obtain ⟨rfl, rfl⟩ := dn_192 rc
      have r : rn_s _ 207 (22, [some (.ref 540), some (.int a1), some (.int a2), some (.int a3), some (.int a4), some (.int a5)], [.int (fn_192 g a4)], aa_H g) v h := r
      refine rn_if (iw_s v h) rfl decide_eq_true_iff.symm r (fun c16 l17n l17 r => ?_) (fun c16 l17n l17 r => ?_)
      · obtain ⟨n18, ln18, r⟩ := rn_steps 0 (38, [some (.ref 540), some (.int a1), some (.int a2), some (.int a3), some (.int a4), some (.int a5)], [.int (-1000000)], aa_H g) rfl r
        exact rn_ire rfl r
      · obtain ⟨n19, ln19, r⟩ := rn_steps 2 (29, [some (.ref 540), some (.int a1), some (.int a2), some (.int a3), some (.int a4), some (.int a5)], [.int 1, .int 0, .int a5], aa_H g) rfl r
        obtain ⟨_, n20, v1, h1, -, ln20, rc, r⟩ := rn_call (m2 := 154) (as := [.int a5, .int 0, .int 1]) (rest := []) rfl rfl r
        obtain ⟨rfl, rfl⟩ := dn_154 rc
        have r : rn_s _ 207 (32, [some (.ref 540), some (.int a1), some (.int a2), some (.int a3), some (.int a4), some (.int a5)], [.int (fn_154 a5 0 1)], aa_H g) v h := r
        refine rn_if (iw_s v h) rfl decide_eq_true_iff.symm r (fun c22 l23n l23 r => ?_) (fun c22 l23n l23 r => ?_)
        · obtain ⟨n24, ln24, r⟩ := rn_steps 6 (47, [some (.ref 540), some (.int a1), some (.int a2), some (.int a3), some (.int a4), some (.int a5)], [.int a4, .long a3.toInt64, .long a2.toInt64, .int a1, .ref 540], aa_H g) rfl r
          obtain ⟨_, n25, v1, h1, -, ln25, rc, r⟩ := rn_call (m2 := 208) (as := [.ref 540, .int a1, .long a2.toInt64, .long a3.toInt64, .int a4]) (rest := []) rfl rfl r
          obtain ⟨rfl, rfl⟩ := dn_208 rc
          have r : rn_s _ 207 (50, [some (.ref 540), some (.int a1), some (.int a2), some (.int a3), some (.int a4), some (.int a5)], [], aa_H (fn_208 g a1 a2.toInt64 a3.toInt64 a4)) v h := r
          exact dn_207_50 (some (.int a1)) (some (.int a2)) (some (.int a3)) (some (.int a4)) rn_ji rn_ji rn_ji rn_ji r
        · obtain ⟨n27, ln27, r⟩ := rn_steps 0 (38, [some (.ref 540), some (.int a1), some (.int a2), some (.int a3), some (.int a4), some (.int a5)], [.int (-1000000)], aa_H g) rfl r
          exact rn_ire rfl r
-- 239: UnequalHoursModel isKey
noncomputable def fn_239 (g : aa_G) (a1 : Int32) : Int32 := if (fn_154 a1 0 15) = 0 then 0 else if (fn_192 g (a1 / 4)) = 0 then 0 else if (fn_192 g (a1 - a1 / 4 * 4)) = 0 then 0 else 1
theorem dn_239 {v : Option Value} {h : zz_H} {n : Nat} {g : aa_G} {a1 : Int32}  (r : rn_s n 239 (0, zz_in [.ref 540, .int a1] (zz_nl 239), [], aa_H g) v h) : ir_s g v h (fn_239 g a1) := by
  have r : rn_s n 239 (0, [some (.ref 540), some (.int a1)], [], aa_H g) v h := r
  unfold fn_239
  obtain ⟨n1, ln1, r⟩ := rn_steps 2 (4, [some (.ref 540), some (.int a1)], [.int 15, .int 0, .int a1], aa_H g) rfl r
  obtain ⟨_, n2, v1, h1, -, ln2, rc, r⟩ := rn_call (m2 := 154) (as := [.int a1, .int 0, .int 15]) (rest := []) rfl rfl r
  obtain ⟨rfl, rfl⟩ := dn_154 rc
  have r : rn_s _ 239 (7, [some (.ref 540), some (.int a1)], [.int (fn_154 a1 0 15)], aa_H g) v h := r
  refine rn_if (ir_s g v h) rfl decide_eq_true_iff.symm r (fun c4 l5n l5 r => ?_) (fun c4 l5n l5 r => ?_)
  · obtain ⟨n6, ln6, r⟩ := rn_steps 0 (35, [some (.ref 540), some (.int a1)], [.int 0], aa_H g) rfl r
    exact rn_ire rfl r
  · obtain ⟨n7, ln7, r⟩ := rn_steps 3 (14, [some (.ref 540), some (.int a1)], [.int (a1 / 4), .ref 540], aa_H g) rfl r
    obtain ⟨_, n8, v1, h1, -, ln8, rc, r⟩ := rn_call (m2 := 192) (as := [.ref 540, .int (a1 / 4)]) (rest := []) rfl rfl r
    obtain ⟨rfl, rfl⟩ := dn_192 rc
    have r : rn_s _ 239 (17, [some (.ref 540), some (.int a1)], [.int (fn_192 g (a1 / 4))], aa_H g) v h := r
    refine rn_if (ir_s g v h) rfl decide_eq_true_iff.symm r (fun c10 l11n l11 r => ?_) (fun c10 l11n l11 r => ?_)
    · obtain ⟨n12, ln12, r⟩ := rn_steps 0 (35, [some (.ref 540), some (.int a1)], [.int 0], aa_H g) rfl r
      exact rn_ire rfl r
    · obtain ⟨n13, ln13, r⟩ := rn_steps 3 (24, [some (.ref 540), some (.int a1)], [.int (a1 - a1 / 4 * 4), .ref 540], aa_H g) rfl r
      obtain ⟨_, n14, v1, h1, -, ln14, rc, r⟩ := rn_call (m2 := 192) (as := [.ref 540, .int (a1 - a1 / 4 * 4)]) (rest := []) rfl rfl r
      obtain ⟨rfl, rfl⟩ := dn_192 rc
      have r : rn_s _ 239 (27, [some (.ref 540), some (.int a1)], [.int (fn_192 g (a1 - a1 / 4 * 4))], aa_H g) v h := r
      refine rn_if (ir_s g v h) rfl decide_eq_true_iff.symm r (fun c16 l17n l17 r => ?_) (fun c16 l17n l17 r => ?_)
      · obtain ⟨n18, ln18, r⟩ := rn_steps 0 (35, [some (.ref 540), some (.int a1)], [.int 0], aa_H g) rfl r
        exact rn_ire rfl r
      · obtain ⟨n19, ln19, r⟩ := rn_steps 1 (35, [some (.ref 540), some (.int a1)], [.int 1], aa_H g) rfl r
        exact rn_ire rfl r
-- 225: UnequalHoursModel sinceHour
noncomputable def fn_225 (g : aa_G) (a1 : Int32) : Int32 := ((a1 * (g 540 18)) + 11) / 12
theorem dn_225 {v : Option Value} {h : zz_H} {n : Nat} {g : aa_G} {a1 : Int32}  (r : rn_s n 225 (0, zz_in [.ref 540, .int a1] (zz_nl 225), [], aa_H g) v h) : ir_s g v h (fn_225 g a1) := by
  have r : rn_s n 225 (0, [some (.ref 540), some (.int a1)], [], aa_H g) v h := r
  unfold fn_225
  obtain ⟨n1, ln1, r⟩ := rn_steps 7 (12, [some (.ref 540), some (.int a1)], [.int (((a1 * (g 540 18)) + 11) / 12)], aa_H g) rfl r
  exact rn_ire rfl r
-- 229: UnequalHoursModel layHour
noncomputable def fn_229_10 (g : aa_G) (b3 : Int32) (s0 : Int32) : Int32 × aa_G := if s0 ≠ 0 then (1, zz_w (zz_w g 540 29 ((g 540 17) + (fn_225 g (b3 - b3 / 12 * 12)))) 540 30 ((g 540 17) + (fn_225 (zz_w g 540 29 ((g 540 17) + (fn_225 g (b3 - b3 / 12 * 12)))) ((b3 - b3 / 12 * 12) + 1)))) else (0, g)
theorem dn_229_10 {v : Option Value} {h : zz_H} {n : Nat} {g : aa_G} {b3 : Int32} {s0 : Int32}  (x1 x2 : Option Value) (jx1 : rn_jk x1) (jx2 : rn_jk x2) (r : rn_s n 229 (10, [some (.ref 540), x1, x2, some (.int b3)], [.int s0], aa_H g) v h) : iw_s v h (fn_229_10 g b3 s0) := by
  unfold fn_229_10
  refine rn_if (iw_s v h) rfl decide_eq_true_iff.symm r (fun c4 l5n l5 r => ?_) (fun c4 l5n l5 r => ?_)
  · obtain ⟨n6, ln6, r⟩ := rn_steps 6 (25, [some (.ref 540), x1, x2, some (.int b3)], [.int (b3 - b3 / 12 * 12), .ref 540, .int (g 540 17), .ref 540], aa_H g) rfl r
    obtain ⟨_, n7, v1, h1, -, ln7, rc, r⟩ := rn_call (m2 := 225) (as := [.ref 540, .int (b3 - b3 / 12 * 12)]) (rest := [.int (g 540 17), .ref 540]) rfl rfl r
    obtain ⟨rfl, rfl⟩ := dn_225 rc
    have r : rn_s _ 229 (28, [some (.ref 540), x1, x2, some (.int b3)], [.int (fn_225 g (b3 - b3 / 12 * 12)), .int (g 540 17), .ref 540], aa_H g) v h := r
    obtain ⟨n9, ln9, r⟩ := rn_steps 10 (44, [some (.ref 540), x1, x2, some (.int b3)], [.int ((b3 - b3 / 12 * 12) + 1), .ref 540, .int (g 540 17), .ref 540], aa_H (zz_w g 540 29 ((g 540 17) + (fn_225 g (b3 - b3 / 12 * 12))))) rfl r
    obtain ⟨_, n10, v1, h1, -, ln10, rc, r⟩ := rn_call (m2 := 225) (as := [.ref 540, .int ((b3 - b3 / 12 * 12) + 1)]) (rest := [.int (g 540 17), .ref 540]) rfl rfl r
    obtain ⟨rfl, rfl⟩ := dn_225 rc
    have r : rn_s _ 229 (47, [some (.ref 540), x1, x2, some (.int b3)], [.int (fn_225 (zz_w g 540 29 ((g 540 17) + (fn_225 g (b3 - b3 / 12 * 12)))) ((b3 - b3 / 12 * 12) + 1)), .int (g 540 17), .ref 540], aa_H (zz_w g 540 29 ((g 540 17) + (fn_225 g (b3 - b3 / 12 * 12))))) v h := r
    obtain ⟨n12, ln12, r⟩ := rn_steps 2 (52, [some (.ref 540), x1, x2, some (.int b3)], [.int 1], aa_H (zz_w (zz_w g 540 29 ((g 540 17) + (fn_225 g (b3 - b3 / 12 * 12)))) 540 30 ((g 540 17) + (fn_225 (zz_w g 540 29 ((g 540 17) + (fn_225 g (b3 - b3 / 12 * 12)))) ((b3 - b3 / 12 * 12) + 1))))) rfl r
    exact rn_ire rfl r
  · obtain ⟨n13, ln13, r⟩ := rn_steps 0 (14, [some (.ref 540), x1, x2, some (.int b3)], [.int 0], aa_H g) rfl r
    exact rn_ire rfl r
noncomputable def fn_229 (g : aa_G) (a1 : Int32) (a2 : Int32) (a3 : Int32) : Int32 × aa_G := fn_229_10 ((fn_194 g a1 a2 (a3 / 12)).2) a3 ((fn_194 g a1 a2 (a3 / 12)).1)
theorem dn_229 {v : Option Value} {h : zz_H} {n : Nat} {g : aa_G} {a1 : Int32} {a2 : Int32} {a3 : Int32}  (r : rn_s n 229 (0, zz_in [.ref 540, .int a1, .int a2, .int a3] (zz_nl 229), [], aa_H g) v h) : iw_s v h (fn_229 g a1 a2 a3) := by
  have r : rn_s n 229 (0, [some (.ref 540), some (.int a1), some (.int a2), some (.int a3)], [], aa_H g) v h := r
  unfold fn_229
  obtain ⟨n1, ln1, r⟩ := rn_steps 5 (7, [some (.ref 540), some (.int a1), some (.int a2), some (.int a3)], [.int (a3 / 12), .int a2, .int a1, .ref 540], aa_H g) rfl r
  obtain ⟨_, n2, v1, h1, -, ln2, rc, r⟩ := rn_call (m2 := 194) (as := [.ref 540, .int a1, .int a2, .int (a3 / 12)]) (rest := []) rfl rfl r
  obtain ⟨rfl, rfl⟩ := dn_194 rc
  have r : rn_s _ 229 (10, [some (.ref 540), some (.int a1), some (.int a2), some (.int a3)], [.int ((fn_194 g a1 a2 (a3 / 12)).1)], aa_H ((fn_194 g a1 a2 (a3 / 12)).2)) v h := r
  exact dn_229_10 (some (.int a1)) (some (.int a2)) rn_ji rn_ji r
end
section
/-! METHODS READ (printed by wip/dc/dc.py) -/
-- 190: UnequalHoursModel table
noncomputable def fn_190_32 (g : aa_G) (s0 : Int32) : Int32 × aa_G := if s0 = 0 then (-2, g) else (g 540 18, g)
theorem dn_190_32 {v : Option Value} {h : zz_H} {n : Nat} {g : aa_G} {s0 : Int32}  (x1 x2 x3 x4 : Option Value) (jx1 : rn_jk x1) (jx2 : rn_jk x2) (jx3 : rn_jk x3) (jx4 : rn_jk x4) (r : rn_s n 190 (32, [some (.ref 540), x1, x2, x3, x4], [.int s0], aa_H g) v h) : iw_s v h (fn_190_32 g s0) := by
  unfold fn_190_32
  refine rn_if (iw_s v h) rfl decide_eq_true_iff.symm r (fun c43 l44n l44 r => ?_) (fun c43 l44n l44 r => ?_)
  · obtain ⟨n45, ln45, r⟩ := rn_steps 0 (44, [some (.ref 540), x1, x2, x3, x4], [.int (-2)], aa_H g) rfl r
    exact rn_ire rfl r
  · obtain ⟨n46, ln46, r⟩ := rn_steps 2 (44, [some (.ref 540), x1, x2, x3, x4], [.int (g 540 18)], aa_H g) rfl r
    exact rn_ire rfl r
noncomputable def fn_190_51 (g : aa_G) (b3 : Int32) (s0 : Int32) : Int32 × aa_G := if b3 ≠ 4 then if s0 ≠ 0 then if b3 ≠ 0 then if b3 ≠ 1 then ((g 540 15) - (g 540 14), g) else (g 540 15, g) else (g 540 14, g) else (-2, g) else if s0 = 0 then (g 540 13, g) else (-1, g)
theorem dn_190_51 {v : Option Value} {h : zz_H} {n : Nat} {g : aa_G} {b3 : Int32} {s0 : Int32}  (x1 x2 x4 : Option Value) (jx1 : rn_jk x1) (jx2 : rn_jk x2) (jx4 : rn_jk x4) (r : rn_s n 190 (51, [some (.ref 540), x1, x2, some (.int b3), x4], [.int s0], aa_H g) v h) : iw_s v h (fn_190_51 g b3 s0) := by
  unfold fn_190_51
  obtain ⟨n22, ln22, r⟩ := rn_steps 2 (55, [some (.ref 540), x1, x2, some (.int b3), some (.int s0)], [.int 4, .int b3], aa_H g) rfl r
  refine rn_ic (iw_s v h) rfl decide_eq_true_iff.symm r (fun c23 l24n l24 r => ?_) (fun c23 l24n l24 r => ?_)
  · obtain ⟨n25, ln25, r⟩ := rn_steps 0 (74, [some (.ref 540), x1, x2, some (.int b3), some (.int s0)], [.int s0], aa_H g) rfl r
    refine rn_if (iw_s v h) rfl decide_eq_true_iff.symm r (fun c26 l27n l27 r => ?_) (fun c26 l27n l27 r => ?_)
    · obtain ⟨n28, ln28, r⟩ := rn_steps 0 (83, [some (.ref 540), x1, x2, some (.int b3), some (.int s0)], [.int b3], aa_H g) rfl r
      refine rn_if (iw_s v h) rfl decide_eq_true_iff.symm r (fun c29 l30n l30 r => ?_) (fun c29 l30n l30 r => ?_)
      · obtain ⟨n31, ln31, r⟩ := rn_steps 1 (95, [some (.ref 540), x1, x2, some (.int b3), some (.int s0)], [.int 1, .int b3], aa_H g) rfl r
        refine rn_ic (iw_s v h) rfl decide_eq_true_iff.symm r (fun c32 l33n l33 r => ?_) (fun c32 l33n l33 r => ?_)
        · obtain ⟨n34, ln34, r⟩ := rn_steps 4 (114, [some (.ref 540), x1, x2, some (.int b3), some (.int s0)], [.int ((g 540 15) - (g 540 14))], aa_H g) rfl r
          exact rn_ire rfl r
        · obtain ⟨n35, ln35, r⟩ := rn_steps 2 (114, [some (.ref 540), x1, x2, some (.int b3), some (.int s0)], [.int (g 540 15)], aa_H g) rfl r
          exact rn_ire rfl r
      · obtain ⟨n36, ln36, r⟩ := rn_steps 2 (114, [some (.ref 540), x1, x2, some (.int b3), some (.int s0)], [.int (g 540 14)], aa_H g) rfl r
        exact rn_ire rfl r
    · obtain ⟨n37, ln37, r⟩ := rn_steps 1 (114, [some (.ref 540), x1, x2, some (.int b3), some (.int s0)], [.int (-2)], aa_H g) rfl r
      exact rn_ire rfl r
  · obtain ⟨n38, ln38, r⟩ := rn_steps 0 (60, [some (.ref 540), x1, x2, some (.int b3), some (.int s0)], [.int s0], aa_H g) rfl r
    refine rn_if (iw_s v h) rfl decide_eq_true_iff.symm r (fun c39 l40n l40 r => ?_) (fun c39 l40n l40 r => ?_)
    · obtain ⟨n41, ln41, r⟩ := rn_steps 1 (71, [some (.ref 540), x1, x2, some (.int b3), some (.int s0)], [.int (g 540 13)], aa_H g) rfl r
      exact rn_ire rfl r
    · obtain ⟨n42, ln42, r⟩ := rn_steps 1 (71, [some (.ref 540), x1, x2, some (.int b3), some (.int s0)], [.int (-1)], aa_H g) rfl r
      exact rn_ire rfl r
noncomputable def fn_190 (g : aa_G) (a1 : Int32) (a2 : Int32) (a3 : Int32) : Int32 × aa_G := if (fn_191 g a1 a2) = 0 then (-1, g) else if (fn_154 a3 0 4) ≠ 0 then if a3 ≠ 3 then fn_190_51 ((fn_195 g a1 a2).2) a3 ((fn_195 g a1 a2).1) else fn_190_32 ((fn_194 g a1 a2 1).2) ((fn_194 g a1 a2 1).1) else (-1, g)
theorem dn_190 {v : Option Value} {h : zz_H} {n : Nat} {g : aa_G} {a1 : Int32} {a2 : Int32} {a3 : Int32}  (r : rn_s n 190 (0, zz_in [.ref 540, .int a1, .int a2, .int a3] (zz_nl 190), [], aa_H g) v h) : iw_s v h (fn_190 g a1 a2 a3) := by
  have r : rn_s n 190 (0, [some (.ref 540), some (.int a1), some (.int a2), some (.int a3), none], [], aa_H g) v h := r
  unfold fn_190
  obtain ⟨n1, ln1, r⟩ := rn_steps 2 (3, [some (.ref 540), some (.int a1), some (.int a2), some (.int a3), none], [.int a2, .int a1, .ref 540], aa_H g) rfl r
  obtain ⟨_, n2, v1, h1, -, ln2, rc, r⟩ := rn_call (m2 := 191) (as := [.ref 540, .int a1, .int a2]) (rest := []) rfl rfl r
  obtain ⟨rfl, rfl⟩ := dn_191 rc
  have r : rn_s _ 190 (6, [some (.ref 540), some (.int a1), some (.int a2), some (.int a3), none], [.int (fn_191 g a1 a2)], aa_H g) v h := r
  refine rn_if (iw_s v h) rfl decide_eq_true_iff.symm r (fun c4 l5n l5 r => ?_) (fun c4 l5n l5 r => ?_)
  · obtain ⟨n6, ln6, r⟩ := rn_steps 0 (19, [some (.ref 540), some (.int a1), some (.int a2), some (.int a3), none], [.int (-1)], aa_H g) rfl r
    exact rn_ire rfl r
  · obtain ⟨n7, ln7, r⟩ := rn_steps 2 (12, [some (.ref 540), some (.int a1), some (.int a2), some (.int a3), none], [.int 4, .int 0, .int a3], aa_H g) rfl r
    obtain ⟨_, n8, v1, h1, -, ln8, rc, r⟩ := rn_call (m2 := 154) (as := [.int a3, .int 0, .int 4]) (rest := []) rfl rfl r
    obtain ⟨rfl, rfl⟩ := dn_154 rc
    have r : rn_s _ 190 (15, [some (.ref 540), some (.int a1), some (.int a2), some (.int a3), none], [.int (fn_154 a3 0 4)], aa_H g) v h := r
    refine rn_if (iw_s v h) rfl decide_eq_true_iff.symm r (fun c10 l11n l11 r => ?_) (fun c10 l11n l11 r => ?_)
    · obtain ⟨n12, ln12, r⟩ := rn_steps 1 (22, [some (.ref 540), some (.int a1), some (.int a2), some (.int a3), none], [.int 3, .int a3], aa_H g) rfl r
      refine rn_ic (iw_s v h) rfl decide_eq_true_iff.symm r (fun c13 l14n l14 r => ?_) (fun c13 l14n l14 r => ?_)
      · obtain ⟨n15, ln15, r⟩ := rn_steps 2 (48, [some (.ref 540), some (.int a1), some (.int a2), some (.int a3), none], [.int a2, .int a1, .ref 540], aa_H g) rfl r
        obtain ⟨_, n16, v1, h1, -, ln16, rc, r⟩ := rn_call (m2 := 195) (as := [.ref 540, .int a1, .int a2]) (rest := []) rfl rfl r
        obtain ⟨rfl, rfl⟩ := dn_195 rc
        have r : rn_s _ 190 (51, [some (.ref 540), some (.int a1), some (.int a2), some (.int a3), none], [.int ((fn_195 g a1 a2).1)], aa_H ((fn_195 g a1 a2).2)) v h := r
        exact dn_190_51 (some (.int a1)) (some (.int a2)) none rn_ji rn_ji rn_jn r
      · obtain ⟨n18, ln18, r⟩ := rn_steps 3 (29, [some (.ref 540), some (.int a1), some (.int a2), some (.int a3), none], [.int 1, .int a2, .int a1, .ref 540], aa_H g) rfl r
        obtain ⟨_, n19, v1, h1, -, ln19, rc, r⟩ := rn_call (m2 := 194) (as := [.ref 540, .int a1, .int a2, .int 1]) (rest := []) rfl rfl r
        obtain ⟨rfl, rfl⟩ := dn_194 rc
        have r : rn_s _ 190 (32, [some (.ref 540), some (.int a1), some (.int a2), some (.int a3), none], [.int ((fn_194 g a1 a2 1).1)], aa_H ((fn_194 g a1 a2 1).2)) v h := r
        exact dn_190_32 (some (.int a1)) (some (.int a2)) (some (.int a3)) none rn_ji rn_ji rn_ji rn_jn r
    · obtain ⟨n21, ln21, r⟩ := rn_steps 0 (19, [some (.ref 540), some (.int a1), some (.int a2), some (.int a3), none], [.int (-1)], aa_H g) rfl r
      exact rn_ire rfl r
-- 198: UnequalHoursModel turn
noncomputable def fn_198_35 (g : aa_G) (b4 : Int32) (s0 : Int32) : Int32 × aa_G := if s0 = 0 then (-2, g) else (fn_201 g b4, g)
theorem dn_198_35 {v : Option Value} {h : zz_H} {n : Nat} {g : aa_G} {b4 : Int32} {s0 : Int32}  (x1 x2 x3 : Option Value) (jx1 : rn_jk x1) (jx2 : rn_jk x2) (jx3 : rn_jk x3) (r : rn_s n 198 (35, [some (.ref 540), x1, x2, x3, some (.int b4)], [.int s0], aa_H g) v h) : iw_s v h (fn_198_35 g b4 s0) := by
  unfold fn_198_35
  refine rn_if (iw_s v h) rfl decide_eq_true_iff.symm r (fun c22 l23n l23 r => ?_) (fun c22 l23n l23 r => ?_)
  · obtain ⟨n24, ln24, r⟩ := rn_steps 0 (49, [some (.ref 540), x1, x2, x3, some (.int b4)], [.int (-2)], aa_H g) rfl r
    exact rn_ire rfl r
  · obtain ⟨n25, ln25, r⟩ := rn_steps 1 (41, [some (.ref 540), x1, x2, x3, some (.int b4)], [.int b4, .ref 540], aa_H g) rfl r
    obtain ⟨_, n26, v1, h1, -, ln26, rc, r⟩ := rn_call (m2 := 201) (as := [.ref 540, .int b4]) (rest := []) rfl rfl r
    obtain ⟨rfl, rfl⟩ := dn_201 rc
    have r : rn_s _ 198 (44, [some (.ref 540), x1, x2, x3, some (.int b4)], [.int (fn_201 g b4)], aa_H g) v h := r
    obtain ⟨n28, ln28, r⟩ := rn_steps 0 (49, [some (.ref 540), x1, x2, x3, some (.int b4)], [.int (fn_201 g b4)], aa_H g) rfl r
    exact rn_ire rfl r
noncomputable def fn_198 (g : aa_G) (a1 : Int32) (a2 : Int32) (a3 : Int32) (a4 : Int32) : Int32 × aa_G := if (fn_191 g a1 a2) = 0 then (-1, g) else if (fn_199 a3) = 0 then (-1, g) else if (fn_154 a4 0 5) ≠ 0 then fn_198_35 ((fn_200 g a1 a2 a3).2) a4 ((fn_200 g a1 a2 a3).1) else (-1, g)
theorem dn_198 {v : Option Value} {h : zz_H} {n : Nat} {g : aa_G} {a1 : Int32} {a2 : Int32} {a3 : Int32} {a4 : Int32}  (r : rn_s n 198 (0, zz_in [.ref 540, .int a1, .int a2, .int a3, .int a4] (zz_nl 198), [], aa_H g) v h) : iw_s v h (fn_198 g a1 a2 a3 a4) := by
  have r : rn_s n 198 (0, [some (.ref 540), some (.int a1), some (.int a2), some (.int a3), some (.int a4)], [], aa_H g) v h := r
  unfold fn_198
  obtain ⟨n1, ln1, r⟩ := rn_steps 2 (3, [some (.ref 540), some (.int a1), some (.int a2), some (.int a3), some (.int a4)], [.int a2, .int a1, .ref 540], aa_H g) rfl r
  obtain ⟨_, n2, v1, h1, -, ln2, rc, r⟩ := rn_call (m2 := 191) (as := [.ref 540, .int a1, .int a2]) (rest := []) rfl rfl r
  obtain ⟨rfl, rfl⟩ := dn_191 rc
  have r : rn_s _ 198 (6, [some (.ref 540), some (.int a1), some (.int a2), some (.int a3), some (.int a4)], [.int (fn_191 g a1 a2)], aa_H g) v h := r
  refine rn_if (iw_s v h) rfl decide_eq_true_iff.symm r (fun c4 l5n l5 r => ?_) (fun c4 l5n l5 r => ?_)
  · obtain ⟨n6, ln6, r⟩ := rn_steps 0 (27, [some (.ref 540), some (.int a1), some (.int a2), some (.int a3), some (.int a4)], [.int (-1)], aa_H g) rfl r
    exact rn_ire rfl r
  · obtain ⟨n7, ln7, r⟩ := rn_steps 0 (10, [some (.ref 540), some (.int a1), some (.int a2), some (.int a3), some (.int a4)], [.int a3], aa_H g) rfl r
    obtain ⟨_, n8, v1, h1, -, ln8, rc, r⟩ := rn_call (m2 := 199) (as := [.int a3]) (rest := []) rfl rfl r
    obtain ⟨rfl, rfl⟩ := dn_199 rc
    have r : rn_s _ 198 (13, [some (.ref 540), some (.int a1), some (.int a2), some (.int a3), some (.int a4)], [.int (fn_199 a3)], aa_H g) v h := r
    refine rn_if (iw_s v h) rfl decide_eq_true_iff.symm r (fun c10 l11n l11 r => ?_) (fun c10 l11n l11 r => ?_)
    · obtain ⟨n12, ln12, r⟩ := rn_steps 0 (27, [some (.ref 540), some (.int a1), some (.int a2), some (.int a3), some (.int a4)], [.int (-1)], aa_H g) rfl r
      exact rn_ire rfl r
    · obtain ⟨n13, ln13, r⟩ := rn_steps 2 (20, [some (.ref 540), some (.int a1), some (.int a2), some (.int a3), some (.int a4)], [.int 5, .int 0, .int a4], aa_H g) rfl r
      obtain ⟨_, n14, v1, h1, -, ln14, rc, r⟩ := rn_call (m2 := 154) (as := [.int a4, .int 0, .int 5]) (rest := []) rfl rfl r
      obtain ⟨rfl, rfl⟩ := dn_154 rc
      have r : rn_s _ 198 (23, [some (.ref 540), some (.int a1), some (.int a2), some (.int a3), some (.int a4)], [.int (fn_154 a4 0 5)], aa_H g) v h := r
      refine rn_if (iw_s v h) rfl decide_eq_true_iff.symm r (fun c16 l17n l17 r => ?_) (fun c16 l17n l17 r => ?_)
      · obtain ⟨n18, ln18, r⟩ := rn_steps 3 (32, [some (.ref 540), some (.int a1), some (.int a2), some (.int a3), some (.int a4)], [.int a3, .int a2, .int a1, .ref 540], aa_H g) rfl r
        obtain ⟨_, n19, v1, h1, -, ln19, rc, r⟩ := rn_call (m2 := 200) (as := [.ref 540, .int a1, .int a2, .int a3]) (rest := []) rfl rfl r
        obtain ⟨rfl, rfl⟩ := dn_200 rc
        have r : rn_s _ 198 (35, [some (.ref 540), some (.int a1), some (.int a2), some (.int a3), some (.int a4)], [.int ((fn_200 g a1 a2 a3).1)], aa_H ((fn_200 g a1 a2 a3).2)) v h := r
        exact dn_198_35 (some (.int a1)) (some (.int a2)) (some (.int a3)) rn_ji rn_ji rn_ji r
      · obtain ⟨n21, ln21, r⟩ := rn_steps 0 (27, [some (.ref 540), some (.int a1), some (.int a2), some (.int a3), some (.int a4)], [.int (-1)], aa_H g) rfl r
        exact rn_ire rfl r
-- 203: UnequalHoursModel back
noncomputable def fn_203 (g : aa_G) (a1 : Int32) (a2 : Int32) (a3 : Int32) (a4 : Int32) : Int32 × aa_G := if (fn_191 g a1 a2) = 0 then (-1, g) else if (fn_204 g a3 a4) = 0 then (-1, g) else ((fn_205 g a1 a2 a3 a4).1, (fn_205 g a1 a2 a3 a4).2)
theorem dn_203 {v : Option Value} {h : zz_H} {n : Nat} {g : aa_G} {a1 : Int32} {a2 : Int32} {a3 : Int32} {a4 : Int32}  (r : rn_s n 203 (0, zz_in [.ref 540, .int a1, .int a2, .int a3, .int a4] (zz_nl 203), [], aa_H g) v h) : iw_s v h (fn_203 g a1 a2 a3 a4) := by
  have r : rn_s n 203 (0, [some (.ref 540), some (.int a1), some (.int a2), some (.int a3), some (.int a4)], [], aa_H g) v h := r
  unfold fn_203
  obtain ⟨n1, ln1, r⟩ := rn_steps 2 (3, [some (.ref 540), some (.int a1), some (.int a2), some (.int a3), some (.int a4)], [.int a2, .int a1, .ref 540], aa_H g) rfl r
  obtain ⟨_, n2, v1, h1, -, ln2, rc, r⟩ := rn_call (m2 := 191) (as := [.ref 540, .int a1, .int a2]) (rest := []) rfl rfl r
  obtain ⟨rfl, rfl⟩ := dn_191 rc
  have r : rn_s _ 203 (6, [some (.ref 540), some (.int a1), some (.int a2), some (.int a3), some (.int a4)], [.int (fn_191 g a1 a2)], aa_H g) v h := r
  refine rn_if (iw_s v h) rfl decide_eq_true_iff.symm r (fun c4 l5n l5 r => ?_) (fun c4 l5n l5 r => ?_)
  · obtain ⟨n6, ln6, r⟩ := rn_steps 0 (32, [some (.ref 540), some (.int a1), some (.int a2), some (.int a3), some (.int a4)], [.int (-1)], aa_H g) rfl r
    exact rn_ire rfl r
  · obtain ⟨n7, ln7, r⟩ := rn_steps 2 (13, [some (.ref 540), some (.int a1), some (.int a2), some (.int a3), some (.int a4)], [.int a4, .int a3, .ref 540], aa_H g) rfl r
    obtain ⟨_, n8, v1, h1, -, ln8, rc, r⟩ := rn_call (m2 := 204) (as := [.ref 540, .int a3, .int a4]) (rest := []) rfl rfl r
    obtain ⟨rfl, rfl⟩ := dn_204 rc
    have r : rn_s _ 203 (16, [some (.ref 540), some (.int a1), some (.int a2), some (.int a3), some (.int a4)], [.int (fn_204 g a3 a4)], aa_H g) v h := r
    refine rn_if (iw_s v h) rfl decide_eq_true_iff.symm r (fun c10 l11n l11 r => ?_) (fun c10 l11n l11 r => ?_)
    · obtain ⟨n12, ln12, r⟩ := rn_steps 0 (32, [some (.ref 540), some (.int a1), some (.int a2), some (.int a3), some (.int a4)], [.int (-1)], aa_H g) rfl r
      exact rn_ire rfl r
    · obtain ⟨n13, ln13, r⟩ := rn_steps 4 (25, [some (.ref 540), some (.int a1), some (.int a2), some (.int a3), some (.int a4)], [.int a4, .int a3, .int a2, .int a1, .ref 540], aa_H g) rfl r
      obtain ⟨_, n14, v1, h1, -, ln14, rc, r⟩ := rn_call (m2 := 205) (as := [.ref 540, .int a1, .int a2, .int a3, .int a4]) (rest := []) rfl rfl r
      obtain ⟨rfl, rfl⟩ := dn_205 rc
      have r : rn_s _ 203 (28, [some (.ref 540), some (.int a1), some (.int a2), some (.int a3), some (.int a4)], [.int ((fn_205 g a1 a2 a3 a4).1)], aa_H ((fn_205 g a1 a2 a3 a4).2)) v h := r
      obtain ⟨n16, ln16, r⟩ := rn_steps 0 (32, [some (.ref 540), some (.int a1), some (.int a2), some (.int a3), some (.int a4)], [.int ((fn_205 g a1 a2 a3 a4).1)], aa_H ((fn_205 g a1 a2 a3 a4).2)) rfl r
      exact rn_ire rfl r
-- 210: UnequalHoursModel date
noncomputable def fn_210_61 (g : aa_G) (b2 : Int32) (b3 : Int32) (b4 : Int32) (s0 : Int32) : Int32 × aa_G := if s0 ≠ 0 then if b4 ≠ 1 then if b3 < (g 540 15) then (b2, g) else (b2 + 1, g) else if b3 < (g 540 14) then (b2 - 1, g) else (b2, g) else (-2, g)
theorem dn_210_61 {v : Option Value} {h : zz_H} {n : Nat} {g : aa_G} {b2 : Int32} {b3 : Int32} {b4 : Int32} {s0 : Int32}  (x1 : Option Value) (jx1 : rn_jk x1) (r : rn_s n 210 (61, [some (.ref 540), x1, some (.int b2), some (.int b3), some (.int b4)], [.int s0], aa_H g) v h) : iw_s v h (fn_210_61 g b2 b3 b4 s0) := by
  unfold fn_210_61
  refine rn_if (iw_s v h) rfl decide_eq_true_iff.symm r (fun c34 l35n l35 r => ?_) (fun c34 l35n l35 r => ?_)
  · obtain ⟨n36, ln36, r⟩ := rn_steps 1 (70, [some (.ref 540), x1, some (.int b2), some (.int b3), some (.int b4)], [.int 1, .int b4], aa_H g) rfl r
    refine rn_ic (iw_s v h) rfl decide_eq_true_iff.symm r (fun c37 l38n l38 r => ?_) (fun c37 l38n l38 r => ?_)
    · obtain ⟨n39, ln39, r⟩ := rn_steps 2 (96, [some (.ref 540), x1, some (.int b2), some (.int b3), some (.int b4)], [.int (g 540 15), .int b3], aa_H g) rfl r
      refine rn_ic (iw_s v h) rfl decide_eq_true_iff.symm r (fun c40 l41n l41 r => ?_) (fun c40 l41n l41 r => ?_)
      · obtain ⟨n42, ln42, r⟩ := rn_steps 0 (106, [some (.ref 540), x1, some (.int b2), some (.int b3), some (.int b4)], [.int b2], aa_H g) rfl r
        exact rn_ire rfl r
      · obtain ⟨n43, ln43, r⟩ := rn_steps 3 (106, [some (.ref 540), x1, some (.int b2), some (.int b3), some (.int b4)], [.int (b2 + 1)], aa_H g) rfl r
        exact rn_ire rfl r
    · obtain ⟨n44, ln44, r⟩ := rn_steps 2 (78, [some (.ref 540), x1, some (.int b2), some (.int b3), some (.int b4)], [.int (g 540 14), .int b3], aa_H g) rfl r
      refine rn_ic (iw_s v h) rfl decide_eq_true_iff.symm r (fun c45 l46n l46 r => ?_) (fun c45 l46n l46 r => ?_)
      · obtain ⟨n47, ln47, r⟩ := rn_steps 3 (106, [some (.ref 540), x1, some (.int b2), some (.int b3), some (.int b4)], [.int (b2 - 1)], aa_H g) rfl r
        exact rn_ire rfl r
      · obtain ⟨n48, ln48, r⟩ := rn_steps 1 (106, [some (.ref 540), x1, some (.int b2), some (.int b3), some (.int b4)], [.int b2], aa_H g) rfl r
        exact rn_ire rfl r
  · obtain ⟨n49, ln49, r⟩ := rn_steps 0 (66, [some (.ref 540), x1, some (.int b2), some (.int b3), some (.int b4)], [.int (-2)], aa_H g) rfl r
    exact rn_ire rfl r
noncomputable def fn_210 (g : aa_G) (a1 : Int32) (a2 : Int32) (a3 : Int32) (a4 : Int32) : Int32 × aa_G := if (fn_191 g a1 a2) = 0 then (-1, g) else if (fn_199 a3) = 0 then (-1, g) else if (fn_154 a4 0 3) ≠ 0 then if a4 ≠ 0 then if a4 ≠ 3 then fn_210_61 ((fn_195 g a1 a2).2) a2 a3 a4 ((fn_195 g a1 a2).1) else if a3 < 43200 then (a2 - 1, g) else (a2, g) else (a2, g) else (-1, g)
theorem dn_210 {v : Option Value} {h : zz_H} {n : Nat} {g : aa_G} {a1 : Int32} {a2 : Int32} {a3 : Int32} {a4 : Int32}  (r : rn_s n 210 (0, zz_in [.ref 540, .int a1, .int a2, .int a3, .int a4] (zz_nl 210), [], aa_H g) v h) : iw_s v h (fn_210 g a1 a2 a3 a4) := by
  have r : rn_s n 210 (0, [some (.ref 540), some (.int a1), some (.int a2), some (.int a3), some (.int a4)], [], aa_H g) v h := r
  unfold fn_210
  obtain ⟨n1, ln1, r⟩ := rn_steps 2 (3, [some (.ref 540), some (.int a1), some (.int a2), some (.int a3), some (.int a4)], [.int a2, .int a1, .ref 540], aa_H g) rfl r
  obtain ⟨_, n2, v1, h1, -, ln2, rc, r⟩ := rn_call (m2 := 191) (as := [.ref 540, .int a1, .int a2]) (rest := []) rfl rfl r
  obtain ⟨rfl, rfl⟩ := dn_191 rc
  have r : rn_s _ 210 (6, [some (.ref 540), some (.int a1), some (.int a2), some (.int a3), some (.int a4)], [.int (fn_191 g a1 a2)], aa_H g) v h := r
  refine rn_if (iw_s v h) rfl decide_eq_true_iff.symm r (fun c4 l5n l5 r => ?_) (fun c4 l5n l5 r => ?_)
  · obtain ⟨n6, ln6, r⟩ := rn_steps 0 (27, [some (.ref 540), some (.int a1), some (.int a2), some (.int a3), some (.int a4)], [.int (-1)], aa_H g) rfl r
    exact rn_ire rfl r
  · obtain ⟨n7, ln7, r⟩ := rn_steps 0 (10, [some (.ref 540), some (.int a1), some (.int a2), some (.int a3), some (.int a4)], [.int a3], aa_H g) rfl r
    obtain ⟨_, n8, v1, h1, -, ln8, rc, r⟩ := rn_call (m2 := 199) (as := [.int a3]) (rest := []) rfl rfl r
    obtain ⟨rfl, rfl⟩ := dn_199 rc
    have r : rn_s _ 210 (13, [some (.ref 540), some (.int a1), some (.int a2), some (.int a3), some (.int a4)], [.int (fn_199 a3)], aa_H g) v h := r
    refine rn_if (iw_s v h) rfl decide_eq_true_iff.symm r (fun c10 l11n l11 r => ?_) (fun c10 l11n l11 r => ?_)
    · obtain ⟨n12, ln12, r⟩ := rn_steps 0 (27, [some (.ref 540), some (.int a1), some (.int a2), some (.int a3), some (.int a4)], [.int (-1)], aa_H g) rfl r
      exact rn_ire rfl r
    · obtain ⟨n13, ln13, r⟩ := rn_steps 2 (20, [some (.ref 540), some (.int a1), some (.int a2), some (.int a3), some (.int a4)], [.int 3, .int 0, .int a4], aa_H g) rfl r
      obtain ⟨_, n14, v1, h1, -, ln14, rc, r⟩ := rn_call (m2 := 154) (as := [.int a4, .int 0, .int 3]) (rest := []) rfl rfl r
      obtain ⟨rfl, rfl⟩ := dn_154 rc
      have r : rn_s _ 210 (23, [some (.ref 540), some (.int a1), some (.int a2), some (.int a3), some (.int a4)], [.int (fn_154 a4 0 3)], aa_H g) v h := r
      refine rn_if (iw_s v h) rfl decide_eq_true_iff.symm r (fun c16 l17n l17 r => ?_) (fun c16 l17n l17 r => ?_)
      · obtain ⟨n18, ln18, r⟩ := rn_steps 0 (30, [some (.ref 540), some (.int a1), some (.int a2), some (.int a3), some (.int a4)], [.int a4], aa_H g) rfl r
        refine rn_if (iw_s v h) rfl decide_eq_true_iff.symm r (fun c19 l20n l20 r => ?_) (fun c19 l20n l20 r => ?_)
        · obtain ⟨n21, ln21, r⟩ := rn_steps 1 (38, [some (.ref 540), some (.int a1), some (.int a2), some (.int a3), some (.int a4)], [.int 3, .int a4], aa_H g) rfl r
          refine rn_ic (iw_s v h) rfl decide_eq_true_iff.symm r (fun c22 l23n l23 r => ?_) (fun c22 l23n l23 r => ?_)
          · obtain ⟨n24, ln24, r⟩ := rn_steps 2 (58, [some (.ref 540), some (.int a1), some (.int a2), some (.int a3), some (.int a4)], [.int a2, .int a1, .ref 540], aa_H g) rfl r
            obtain ⟨_, n25, v1, h1, -, ln25, rc, r⟩ := rn_call (m2 := 195) (as := [.ref 540, .int a1, .int a2]) (rest := []) rfl rfl r
            obtain ⟨rfl, rfl⟩ := dn_195 rc
            have r : rn_s _ 210 (61, [some (.ref 540), some (.int a1), some (.int a2), some (.int a3), some (.int a4)], [.int ((fn_195 g a1 a2).1)], aa_H ((fn_195 g a1 a2).2)) v h := r
            exact dn_210_61 (some (.int a1)) rn_ji r
          · obtain ⟨n27, ln27, r⟩ := rn_steps 1 (44, [some (.ref 540), some (.int a1), some (.int a2), some (.int a3), some (.int a4)], [.int 43200, .int a3], aa_H g) rfl r
            refine rn_ic (iw_s v h) rfl decide_eq_true_iff.symm r (fun c28 l29n l29 r => ?_) (fun c28 l29n l29 r => ?_)
            · obtain ⟨n30, ln30, r⟩ := rn_steps 2 (54, [some (.ref 540), some (.int a1), some (.int a2), some (.int a3), some (.int a4)], [.int (a2 - 1)], aa_H g) rfl r
              exact rn_ire rfl r
            · obtain ⟨n31, ln31, r⟩ := rn_steps 1 (54, [some (.ref 540), some (.int a1), some (.int a2), some (.int a3), some (.int a4)], [.int a2], aa_H g) rfl r
              exact rn_ire rfl r
        · obtain ⟨n32, ln32, r⟩ := rn_steps 0 (34, [some (.ref 540), some (.int a1), some (.int a2), some (.int a3), some (.int a4)], [.int a2], aa_H g) rfl r
          exact rn_ire rfl r
      · obtain ⟨n33, ln33, r⟩ := rn_steps 0 (27, [some (.ref 540), some (.int a1), some (.int a2), some (.int a3), some (.int a4)], [.int (-1)], aa_H g) rfl r
        exact rn_ire rfl r
-- 230: UnequalHoursModel middle
noncomputable def fn_230_35 (g : aa_G) (b3 : Int32) (b4 : Int32) (s0 : Int32) : Int32 × aa_G := if s0 ≠ 0 then if b4 ≠ 0 then if b3 ≠ 0 then (((g 540 17) + ((g 540 18) / 2)) - 86400, g) else (((g 540 17) + ((g 540 18) / 2)) - 43200, g) else ((g 540 17) + ((g 540 18) / 2), g) else (-1000000, g)
theorem dn_230_35 {v : Option Value} {h : zz_H} {n : Nat} {g : aa_G} {b3 : Int32} {b4 : Int32} {s0 : Int32}  (x1 x2 x5 : Option Value) (jx1 : rn_jk x1) (jx2 : rn_jk x2) (jx5 : rn_jk x5) (r : rn_s n 230 (35, [some (.ref 540), x1, x2, some (.int b3), some (.int b4), x5], [.int s0], aa_H g) v h) : iw_s v h (fn_230_35 g b3 b4 s0) := by
  unfold fn_230_35
  refine rn_if (iw_s v h) rfl decide_eq_true_iff.symm r (fun c22 l23n l23 r => ?_) (fun c22 l23n l23 r => ?_)
  · obtain ⟨n24, ln24, r⟩ := rn_steps 8 (57, [some (.ref 540), x1, x2, some (.int b3), some (.int b4), some (.int ((g 540 17) + ((g 540 18) / 2)))], [.int b4], aa_H g) rfl r
    refine rn_if (iw_s v h) rfl decide_eq_true_iff.symm r (fun c25 l26n l26 r => ?_) (fun c25 l26n l26 r => ?_)
    · obtain ⟨n27, ln27, r⟩ := rn_steps 1 (68, [some (.ref 540), x1, x2, some (.int b3), some (.int b4), some (.int ((g 540 17) + ((g 540 18) / 2)))], [.int b3, .int ((g 540 17) + ((g 540 18) / 2))], aa_H g) rfl r
      refine rn_if (iw_s v h) rfl decide_eq_true_iff.symm r (fun c28 l29n l29 r => ?_) (fun c28 l29n l29 r => ?_)
      · obtain ⟨n30, ln30, r⟩ := rn_steps 1 (79, [some (.ref 540), x1, x2, some (.int b3), some (.int b4), some (.int ((g 540 17) + ((g 540 18) / 2)))], [.int (((g 540 17) + ((g 540 18) / 2)) - 86400)], aa_H g) rfl r
        exact rn_ire rfl r
      · obtain ⟨n31, ln31, r⟩ := rn_steps 2 (79, [some (.ref 540), x1, x2, some (.int b3), some (.int b4), some (.int ((g 540 17) + ((g 540 18) / 2)))], [.int (((g 540 17) + ((g 540 18) / 2)) - 43200)], aa_H g) rfl r
        exact rn_ire rfl r
    · obtain ⟨n32, ln32, r⟩ := rn_steps 1 (79, [some (.ref 540), x1, x2, some (.int b3), some (.int b4), some (.int ((g 540 17) + ((g 540 18) / 2)))], [.int ((g 540 17) + ((g 540 18) / 2))], aa_H g) rfl r
      exact rn_ire rfl r
  · obtain ⟨n33, ln33, r⟩ := rn_steps 0 (41, [some (.ref 540), x1, x2, some (.int b3), some (.int b4), x5], [.int (-1000000)], aa_H g) rfl r
    exact rn_ire rfl r
noncomputable def fn_230 (g : aa_G) (a1 : Int32) (a2 : Int32) (a3 : Int32) (a4 : Int32) : Int32 × aa_G := if (fn_191 g a1 a2) = 0 then (-1000000, g) else if (fn_154 a3 0 1) = 0 then (-1000000, g) else if (fn_154 a4 0 1) = 0 then (-1000000, g) else fn_230_35 ((fn_194 g a1 a2 a3).2) a3 a4 ((fn_194 g a1 a2 a3).1)
theorem dn_230 {v : Option Value} {h : zz_H} {n : Nat} {g : aa_G} {a1 : Int32} {a2 : Int32} {a3 : Int32} {a4 : Int32}  (r : rn_s n 230 (0, zz_in [.ref 540, .int a1, .int a2, .int a3, .int a4] (zz_nl 230), [], aa_H g) v h) : iw_s v h (fn_230 g a1 a2 a3 a4) := by
  have r : rn_s n 230 (0, [some (.ref 540), some (.int a1), some (.int a2), some (.int a3), some (.int a4), none], [], aa_H g) v h := r
  unfold fn_230
  obtain ⟨n1, ln1, r⟩ := rn_steps 2 (3, [some (.ref 540), some (.int a1), some (.int a2), some (.int a3), some (.int a4), none], [.int a2, .int a1, .ref 540], aa_H g) rfl r
  obtain ⟨_, n2, v1, h1, -, ln2, rc, r⟩ := rn_call (m2 := 191) (as := [.ref 540, .int a1, .int a2]) (rest := []) rfl rfl r
  obtain ⟨rfl, rfl⟩ := dn_191 rc
  have r : rn_s _ 230 (6, [some (.ref 540), some (.int a1), some (.int a2), some (.int a3), some (.int a4), none], [.int (fn_191 g a1 a2)], aa_H g) v h := r
  refine rn_if (iw_s v h) rfl decide_eq_true_iff.symm r (fun c4 l5n l5 r => ?_) (fun c4 l5n l5 r => ?_)
  · obtain ⟨n6, ln6, r⟩ := rn_steps 0 (41, [some (.ref 540), some (.int a1), some (.int a2), some (.int a3), some (.int a4), none], [.int (-1000000)], aa_H g) rfl r
    exact rn_ire rfl r
  · obtain ⟨n7, ln7, r⟩ := rn_steps 2 (12, [some (.ref 540), some (.int a1), some (.int a2), some (.int a3), some (.int a4), none], [.int 1, .int 0, .int a3], aa_H g) rfl r
    obtain ⟨_, n8, v1, h1, -, ln8, rc, r⟩ := rn_call (m2 := 154) (as := [.int a3, .int 0, .int 1]) (rest := []) rfl rfl r
    obtain ⟨rfl, rfl⟩ := dn_154 rc
    have r : rn_s _ 230 (15, [some (.ref 540), some (.int a1), some (.int a2), some (.int a3), some (.int a4), none], [.int (fn_154 a3 0 1)], aa_H g) v h := r
    refine rn_if (iw_s v h) rfl decide_eq_true_iff.symm r (fun c10 l11n l11 r => ?_) (fun c10 l11n l11 r => ?_)
    · obtain ⟨n12, ln12, r⟩ := rn_steps 0 (41, [some (.ref 540), some (.int a1), some (.int a2), some (.int a3), some (.int a4), none], [.int (-1000000)], aa_H g) rfl r
      exact rn_ire rfl r
    · obtain ⟨n13, ln13, r⟩ := rn_steps 2 (22, [some (.ref 540), some (.int a1), some (.int a2), some (.int a3), some (.int a4), none], [.int 1, .int 0, .int a4], aa_H g) rfl r
      obtain ⟨_, n14, v1, h1, -, ln14, rc, r⟩ := rn_call (m2 := 154) (as := [.int a4, .int 0, .int 1]) (rest := []) rfl rfl r
      obtain ⟨rfl, rfl⟩ := dn_154 rc
      have r : rn_s _ 230 (25, [some (.ref 540), some (.int a1), some (.int a2), some (.int a3), some (.int a4), none], [.int (fn_154 a4 0 1)], aa_H g) v h := r
      refine rn_if (iw_s v h) rfl decide_eq_true_iff.symm r (fun c16 l17n l17 r => ?_) (fun c16 l17n l17 r => ?_)
      · obtain ⟨n18, ln18, r⟩ := rn_steps 0 (41, [some (.ref 540), some (.int a1), some (.int a2), some (.int a3), some (.int a4), none], [.int (-1000000)], aa_H g) rfl r
        exact rn_ire rfl r
      · obtain ⟨n19, ln19, r⟩ := rn_steps 3 (32, [some (.ref 540), some (.int a1), some (.int a2), some (.int a3), some (.int a4), none], [.int a3, .int a2, .int a1, .ref 540], aa_H g) rfl r
        obtain ⟨_, n20, v1, h1, -, ln20, rc, r⟩ := rn_call (m2 := 194) (as := [.ref 540, .int a1, .int a2, .int a3]) (rest := []) rfl rfl r
        obtain ⟨rfl, rfl⟩ := dn_194 rc
        have r : rn_s _ 230 (35, [some (.ref 540), some (.int a1), some (.int a2), some (.int a3), some (.int a4), none], [.int ((fn_194 g a1 a2 a3).1)], aa_H ((fn_194 g a1 a2 a3).2)) v h := r
        exact dn_230_35 (some (.int a1)) (some (.int a2)) none rn_ji rn_ji rn_jn r
-- 231: UnequalHoursModel apart
noncomputable def fn_231_53 (g : aa_G) (b6 : Int32) (s0 : Int32) : Int32 × aa_G := if b6 = (-2) then (-1000000, g) else if s0 ≠ (-2) then (s0 - b6, g) else (-1000000, g)
theorem dn_231_53 {v : Option Value} {h : zz_H} {n : Nat} {g : aa_G} {b6 : Int32} {s0 : Int32}  (x0 x1 x2 x3 x4 x5 x7 : Option Value) (jx0 : rn_jk x0) (jx1 : rn_jk x1) (jx2 : rn_jk x2) (jx3 : rn_jk x3) (jx4 : rn_jk x4) (jx5 : rn_jk x5) (jx7 : rn_jk x7) (r : rn_s n 231 (53, [x0, x1, x2, x3, x4, x5, some (.int b6), x7], [.int s0], aa_H g) v h) : iw_s v h (fn_231_53 g b6 s0) := by
  unfold fn_231_53
  obtain ⟨n25, ln25, r⟩ := rn_steps 2 (59, [x0, x1, x2, x3, x4, x5, some (.int b6), some (.int s0)], [.int (-2), .int b6], aa_H g) rfl r
  refine rn_ic (iw_s v h) rfl decide_eq_true_iff.symm r (fun c26 l27n l27 r => ?_) (fun c26 l27n l27 r => ?_)
  · obtain ⟨n28, ln28, r⟩ := rn_steps 1 (80, [x0, x1, x2, x3, x4, x5, some (.int b6), some (.int s0)], [.int (-1000000)], aa_H g) rfl r
    exact rn_ire rfl r
  · obtain ⟨n29, ln29, r⟩ := rn_steps 1 (66, [x0, x1, x2, x3, x4, x5, some (.int b6), some (.int s0)], [.int (-2), .int s0], aa_H g) rfl r
    refine rn_ic (iw_s v h) rfl decide_eq_true_iff.symm r (fun c30 l31n l31 r => ?_) (fun c30 l31n l31 r => ?_)
    · obtain ⟨n32, ln32, r⟩ := rn_steps 2 (80, [x0, x1, x2, x3, x4, x5, some (.int b6), some (.int s0)], [.int (s0 - b6)], aa_H g) rfl r
      exact rn_ire rfl r
    · obtain ⟨n33, ln33, r⟩ := rn_steps 1 (80, [x0, x1, x2, x3, x4, x5, some (.int b6), some (.int s0)], [.int (-1000000)], aa_H g) rfl r
      exact rn_ire rfl r
noncomputable def fn_231_42 (g : aa_G) (b1 : Int32) (b2 : Int32) (b3 : Int32) (b5 : Int32) (s0 : Int32) : Int32 × aa_G := fn_231_53 ((fn_205 g b1 b2 b3 b5).2) s0 ((fn_205 g b1 b2 b3 b5).1)
theorem dn_231_42 {v : Option Value} {h : zz_H} {n : Nat} {g : aa_G} {b1 : Int32} {b2 : Int32} {b3 : Int32} {b5 : Int32} {s0 : Int32}  (x4 x6 x7 : Option Value) (jx4 : rn_jk x4) (jx6 : rn_jk x6) (jx7 : rn_jk x7) (r : rn_s n 231 (42, [some (.ref 540), some (.int b1), some (.int b2), some (.int b3), x4, some (.int b5), x6, x7], [.int s0], aa_H g) v h) : iw_s v h (fn_231_42 g b1 b2 b3 b5 s0) := by
  unfold fn_231_42
  obtain ⟨n22, ln22, r⟩ := rn_steps 5 (50, [some (.ref 540), some (.int b1), some (.int b2), some (.int b3), x4, some (.int b5), some (.int s0), x7], [.int b5, .int b3, .int b2, .int b1, .ref 540], aa_H g) rfl r
  obtain ⟨_, n23, v1, h1, -, ln23, rc, r⟩ := rn_call (m2 := 205) (as := [.ref 540, .int b1, .int b2, .int b3, .int b5]) (rest := []) rfl rfl r
  obtain ⟨rfl, rfl⟩ := dn_205 rc
  have r : rn_s _ 231 (53, [some (.ref 540), some (.int b1), some (.int b2), some (.int b3), x4, some (.int b5), some (.int s0), x7], [.int ((fn_205 g b1 b2 b3 b5).1)], aa_H ((fn_205 g b1 b2 b3 b5).2)) v h := r
  exact dn_231_53 (some (.ref 540)) (some (.int b1)) (some (.int b2)) (some (.int b3)) x4 (some (.int b5)) x7 rn_jr rn_ji rn_ji rn_ji jx4 rn_ji jx7 r
noncomputable def fn_231 (g : aa_G) (a1 : Int32) (a2 : Int32) (a3 : Int32) (a4 : Int32) (a5 : Int32) : Int32 × aa_G := if (fn_191 g a1 a2) = 0 then (-1000000, g) else if (fn_204 g a3 a4) = 0 then (-1000000, g) else if (fn_204 g a3 a5) ≠ 0 then fn_231_42 ((fn_205 g a1 a2 a3 a4).2) a1 a2 a3 a5 ((fn_205 g a1 a2 a3 a4).1) else (-1000000, g)
theorem dn_231 {v : Option Value} {h : zz_H} {n : Nat} {g : aa_G} {a1 : Int32} {a2 : Int32} {a3 : Int32} {a4 : Int32} {a5 : Int32}  (r : rn_s n 231 (0, zz_in [.ref 540, .int a1, .int a2, .int a3, .int a4, .int a5] (zz_nl 231), [], aa_H g) v h) : iw_s v h (fn_231 g a1 a2 a3 a4 a5) := by
  have r : rn_s n 231 (0, [some (.ref 540), some (.int a1), some (.int a2), some (.int a3), some (.int a4), some (.int a5), none, none], [], aa_H g) v h := r
  unfold fn_231
  obtain ⟨n1, ln1, r⟩ := rn_steps 2 (3, [some (.ref 540), some (.int a1), some (.int a2), some (.int a3), some (.int a4), some (.int a5), none, none], [.int a2, .int a1, .ref 540], aa_H g) rfl r
  obtain ⟨_, n2, v1, h1, -, ln2, rc, r⟩ := rn_call (m2 := 191) (as := [.ref 540, .int a1, .int a2]) (rest := []) rfl rfl r
  obtain ⟨rfl, rfl⟩ := dn_191 rc
  have r : rn_s _ 231 (6, [some (.ref 540), some (.int a1), some (.int a2), some (.int a3), some (.int a4), some (.int a5), none, none], [.int (fn_191 g a1 a2)], aa_H g) v h := r
  refine rn_if (iw_s v h) rfl decide_eq_true_iff.symm r (fun c4 l5n l5 r => ?_) (fun c4 l5n l5 r => ?_)
  · obtain ⟨n6, ln6, r⟩ := rn_steps 0 (32, [some (.ref 540), some (.int a1), some (.int a2), some (.int a3), some (.int a4), some (.int a5), none, none], [.int (-1000000)], aa_H g) rfl r
    exact rn_ire rfl r
  · obtain ⟨n7, ln7, r⟩ := rn_steps 2 (13, [some (.ref 540), some (.int a1), some (.int a2), some (.int a3), some (.int a4), some (.int a5), none, none], [.int a4, .int a3, .ref 540], aa_H g) rfl r
    obtain ⟨_, n8, v1, h1, -, ln8, rc, r⟩ := rn_call (m2 := 204) (as := [.ref 540, .int a3, .int a4]) (rest := []) rfl rfl r
    obtain ⟨rfl, rfl⟩ := dn_204 rc
    have r : rn_s _ 231 (16, [some (.ref 540), some (.int a1), some (.int a2), some (.int a3), some (.int a4), some (.int a5), none, none], [.int (fn_204 g a3 a4)], aa_H g) v h := r
    refine rn_if (iw_s v h) rfl decide_eq_true_iff.symm r (fun c10 l11n l11 r => ?_) (fun c10 l11n l11 r => ?_)
    · obtain ⟨n12, ln12, r⟩ := rn_steps 0 (32, [some (.ref 540), some (.int a1), some (.int a2), some (.int a3), some (.int a4), some (.int a5), none, none], [.int (-1000000)], aa_H g) rfl r
      exact rn_ire rfl r
    · obtain ⟨n13, ln13, r⟩ := rn_steps 2 (23, [some (.ref 540), some (.int a1), some (.int a2), some (.int a3), some (.int a4), some (.int a5), none, none], [.int a5, .int a3, .ref 540], aa_H g) rfl r
      obtain ⟨_, n14, v1, h1, -, ln14, rc, r⟩ := rn_call (m2 := 204) (as := [.ref 540, .int a3, .int a5]) (rest := []) rfl rfl r
      obtain ⟨rfl, rfl⟩ := dn_204 rc
      have r : rn_s _ 231 (26, [some (.ref 540), some (.int a1), some (.int a2), some (.int a3), some (.int a4), some (.int a5), none, none], [.int (fn_204 g a3 a5)], aa_H g) v h := r
      refine rn_if (iw_s v h) rfl decide_eq_true_iff.symm r (fun c16 l17n l17 r => ?_) (fun c16 l17n l17 r => ?_)
      · obtain ⟨n18, ln18, r⟩ := rn_steps 4 (39, [some (.ref 540), some (.int a1), some (.int a2), some (.int a3), some (.int a4), some (.int a5), none, none], [.int a4, .int a3, .int a2, .int a1, .ref 540], aa_H g) rfl r
        obtain ⟨_, n19, v1, h1, -, ln19, rc, r⟩ := rn_call (m2 := 205) (as := [.ref 540, .int a1, .int a2, .int a3, .int a4]) (rest := []) rfl rfl r
        obtain ⟨rfl, rfl⟩ := dn_205 rc
        have r : rn_s _ 231 (42, [some (.ref 540), some (.int a1), some (.int a2), some (.int a3), some (.int a4), some (.int a5), none, none], [.int ((fn_205 g a1 a2 a3 a4).1)], aa_H ((fn_205 g a1 a2 a3 a4).2)) v h := r
        exact dn_231_42 (some (.int a4)) none none rn_ji rn_jn rn_jn r
      · obtain ⟨n21, ln21, r⟩ := rn_steps 0 (32, [some (.ref 540), some (.int a1), some (.int a2), some (.int a3), some (.int a4), some (.int a5), none, none], [.int (-1000000)], aa_H g) rfl r
        exact rn_ire rfl r
-- 222: UnequalHoursModel lightOf
noncomputable def fn_222_7 (g : aa_G) (s0 : Int32) : Int32 × aa_G := if s0 = 0 then (-1, g) else (g 540 18, g)
theorem dn_222_7 {v : Option Value} {h : zz_H} {n : Nat} {g : aa_G} {s0 : Int32}  (x1 x2 : Option Value) (jx1 : rn_jk x1) (jx2 : rn_jk x2) (r : rn_s n 222 (7, [some (.ref 540), x1, x2], [.int s0], aa_H g) v h) : iw_s v h (fn_222_7 g s0) := by
  unfold fn_222_7
  refine rn_if (iw_s v h) rfl decide_eq_true_iff.symm r (fun c4 l5n l5 r => ?_) (fun c4 l5n l5 r => ?_)
  · obtain ⟨n6, ln6, r⟩ := rn_steps 0 (18, [some (.ref 540), x1, x2], [.int (-1)], aa_H g) rfl r
    exact rn_ire rfl r
  · obtain ⟨n7, ln7, r⟩ := rn_steps 2 (18, [some (.ref 540), x1, x2], [.int (g 540 18)], aa_H g) rfl r
    exact rn_ire rfl r
noncomputable def fn_222 (g : aa_G) (a1 : Int32) (a2 : Int32) : Int32 × aa_G := fn_222_7 ((fn_194 g a1 a2 0).2) ((fn_194 g a1 a2 0).1)
theorem dn_222 {v : Option Value} {h : zz_H} {n : Nat} {g : aa_G} {a1 : Int32} {a2 : Int32}  (r : rn_s n 222 (0, zz_in [.ref 540, .int a1, .int a2] (zz_nl 222), [], aa_H g) v h) : iw_s v h (fn_222 g a1 a2) := by
  have r : rn_s n 222 (0, [some (.ref 540), some (.int a1), some (.int a2)], [], aa_H g) v h := r
  unfold fn_222
  obtain ⟨n1, ln1, r⟩ := rn_steps 3 (4, [some (.ref 540), some (.int a1), some (.int a2)], [.int 0, .int a2, .int a1, .ref 540], aa_H g) rfl r
  obtain ⟨_, n2, v1, h1, -, ln2, rc, r⟩ := rn_call (m2 := 194) (as := [.ref 540, .int a1, .int a2, .int 0]) (rest := []) rfl rfl r
  obtain ⟨rfl, rfl⟩ := dn_194 rc
  have r : rn_s _ 222 (7, [some (.ref 540), some (.int a1), some (.int a2)], [.int ((fn_194 g a1 a2 0).1)], aa_H ((fn_194 g a1 a2 0).2)) v h := r
  exact dn_222_7 (some (.int a1)) (some (.int a2)) rn_ji rn_ji r
-- 221: UnequalHoursModel jar
noncomputable def fn_221_117 (g : aa_G) (b4 : Int32) (b5 : Int32) (s0 : Int32) : Int32 × aa_G := if b5 ≠ 0 then (s0 - (((b4 - (g 540 17)) * 12) / (g 540 18)), g) else (s0, g)
theorem dn_221_117 {v : Option Value} {h : zz_H} {n : Nat} {g : aa_G} {b4 : Int32} {b5 : Int32} {s0 : Int32}  (x1 x2 x3 x6 x7 : Option Value) (jx1 : rn_jk x1) (jx2 : rn_jk x2) (jx3 : rn_jk x3) (jx6 : rn_jk x6) (jx7 : rn_jk x7) (r : rn_s n 221 (117, [some (.ref 540), x1, x2, x3, some (.int b4), some (.int b5), x6, x7], [.int s0], aa_H g) v h) : iw_s v h (fn_221_117 g b4 b5 s0) := by
  unfold fn_221_117
  obtain ⟨n54, ln54, r⟩ := rn_isx (i := 7) rfl rfl jx6 rfl ⟨Nat.le_of_ble_eq_true rfl, Nat.le_of_ble_eq_true rfl⟩ r
  have r : rn_s _ 221 (119, [some (.ref 540), x1, x2, x3, some (.int b4), some (.int b5), x6, some (.int s0)], [], aa_H g) v h := r
  obtain ⟨n55, ln55, r⟩ := rn_steps 0 (121, [some (.ref 540), x1, x2, x3, some (.int b4), some (.int b5), x6, some (.int s0)], [.int b5], aa_H g) rfl r
  refine rn_if (iw_s v h) rfl decide_eq_true_iff.symm r (fun c56 l57n l57 r => ?_) (fun c56 l57n l57 r => ?_)
  · obtain ⟨n58, ln58, r⟩ := rn_steps 8 (145, [some (.ref 540), x1, x2, x3, some (.int b4), some (.int b5), x6, some (.int s0)], [.int (g 540 18), .int ((b4 - (g 540 17)) * 12), .int s0], aa_H g) rfl r
    obtain ⟨hd60, n59, ln59, r⟩ := rn_div rfl r
    have r : rn_s _ 221 (146, [some (.ref 540), x1, x2, x3, some (.int b4), some (.int b5), x6, some (.int s0)], [.int (((b4 - (g 540 17)) * 12) / (g 540 18)), .int s0], aa_H g) v h := r
    obtain ⟨n61, ln61, r⟩ := rn_steps 0 (147, [some (.ref 540), x1, x2, x3, some (.int b4), some (.int b5), x6, some (.int s0)], [.int (s0 - (((b4 - (g 540 17)) * 12) / (g 540 18)))], aa_H g) rfl r
    exact rn_ire rfl r
  · obtain ⟨n62, ln62, r⟩ := rn_steps 1 (147, [some (.ref 540), x1, x2, x3, some (.int b4), some (.int b5), x6, some (.int s0)], [.int s0], aa_H g) rfl r
    exact rn_ire rfl r
noncomputable def fn_221_59 (g : aa_G) (b4 : Int32) (b5 : Int32) (b6 : Int32) (s0 : Int32) : Int32 × aa_G := if s0 = 0 then (-100, g) else if b4 < (g 540 17) then (-100, g) else if b4 < ((g 540 17) + (g 540 18)) then if (((b4 - (g 540 17)) * 12) / b6) ≤ 12 then fn_221_117 g b4 b5 (((b4 - (g 540 17)) * 12) / b6) else fn_221_117 g b4 b5 12 else (-100, g)
theorem dn_221_59 {v : Option Value} {h : zz_H} {n : Nat} {g : aa_G} {b4 : Int32} {b5 : Int32} {b6 : Int32} {s0 : Int32}  (x1 x2 x3 x7 : Option Value) (jx1 : rn_jk x1) (jx2 : rn_jk x2) (jx3 : rn_jk x3) (jx7 : rn_jk x7) (r : rn_s n 221 (59, [some (.ref 540), x1, x2, x3, some (.int b4), some (.int b5), some (.int b6), x7], [.int s0], aa_H g) v h) : iw_s v h (fn_221_59 g b4 b5 b6 s0) := by
  unfold fn_221_59
  refine rn_if (iw_s v h) rfl decide_eq_true_iff.symm r (fun c35 l36n l36 r => ?_) (fun c35 l36n l36 r => ?_)
  · obtain ⟨n37, ln37, r⟩ := rn_steps 0 (87, [some (.ref 540), x1, x2, x3, some (.int b4), some (.int b5), some (.int b6), x7], [.int (-100)], aa_H g) rfl r
    exact rn_ire rfl r
  · obtain ⟨n38, ln38, r⟩ := rn_steps 2 (68, [some (.ref 540), x1, x2, x3, some (.int b4), some (.int b5), some (.int b6), x7], [.int (g 540 17), .int b4], aa_H g) rfl r
    refine rn_ic (iw_s v h) rfl decide_eq_true_iff.symm r (fun c39 l40n l40 r => ?_) (fun c39 l40n l40 r => ?_)
    · obtain ⟨n41, ln41, r⟩ := rn_steps 0 (87, [some (.ref 540), x1, x2, x3, some (.int b4), some (.int b5), some (.int b6), x7], [.int (-100)], aa_H g) rfl r
      exact rn_ire rfl r
    · obtain ⟨n42, ln42, r⟩ := rn_steps 5 (82, [some (.ref 540), x1, x2, x3, some (.int b4), some (.int b5), some (.int b6), x7], [.int ((g 540 17) + (g 540 18)), .int b4], aa_H g) rfl r
      refine rn_ic (iw_s v h) rfl decide_eq_true_iff.symm r (fun c43 l44n l44 r => ?_) (fun c43 l44n l44 r => ?_)
      · obtain ⟨n45, ln45, r⟩ := rn_steps 6 (100, [some (.ref 540), x1, x2, x3, some (.int b4), some (.int b5), some (.int b6), x7], [.int b6, .int ((b4 - (g 540 17)) * 12)], aa_H g) rfl r
        obtain ⟨hd47, n46, ln46, r⟩ := rn_div rfl r
        have r : rn_s _ 221 (101, [some (.ref 540), x1, x2, x3, some (.int b4), some (.int b5), some (.int b6), x7], [.int (((b4 - (g 540 17)) * 12) / b6)], aa_H g) v h := r
        obtain ⟨n48, ln48, r⟩ := rn_steps 2 (107, [some (.ref 540), x1, x2, x3, some (.int b4), some (.int b5), some (.int b6), some (.int (((b4 - (g 540 17)) * 12) / b6))], [.int 12, .int (((b4 - (g 540 17)) * 12) / b6)], aa_H g) rfl r
        refine rn_ic (iw_s v h) rfl decide_eq_true_iff.symm r (fun c49 l50n l50 r => ?_) (fun c49 l50n l50 r => ?_)
        · obtain ⟨n51, ln51, r⟩ := rn_steps 0 (117, [some (.ref 540), x1, x2, x3, some (.int b4), some (.int b5), some (.int b6), some (.int (((b4 - (g 540 17)) * 12) / b6))], [.int (((b4 - (g 540 17)) * 12) / b6)], aa_H g) rfl r
          exact dn_221_117 x1 x2 x3 (some (.int b6)) (some (.int (((b4 - (g 540 17)) * 12) / b6))) jx1 jx2 jx3 rn_ji rn_ji r
        · obtain ⟨n52, ln52, r⟩ := rn_steps 1 (117, [some (.ref 540), x1, x2, x3, some (.int b4), some (.int b5), some (.int b6), some (.int (((b4 - (g 540 17)) * 12) / b6))], [.int 12], aa_H g) rfl r
          exact dn_221_117 x1 x2 x3 (some (.int b6)) (some (.int (((b4 - (g 540 17)) * 12) / b6))) jx1 jx2 jx3 rn_ji rn_ji r
      · obtain ⟨n53, ln53, r⟩ := rn_steps 0 (87, [some (.ref 540), x1, x2, x3, some (.int b4), some (.int b5), some (.int b6), x7], [.int (-100)], aa_H g) rfl r
        exact rn_ire rfl r
noncomputable def fn_221_44 (g : aa_G) (b1 : Int32) (b3 : Int32) (b4 : Int32) (b5 : Int32) (s0 : Int32) : Int32 × aa_G := if s0 = (-1) then (-100, g) else fn_221_59 ((fn_194 g b1 b3 0).2) b4 b5 s0 ((fn_194 g b1 b3 0).1)
theorem dn_221_44 {v : Option Value} {h : zz_H} {n : Nat} {g : aa_G} {b1 : Int32} {b3 : Int32} {b4 : Int32} {b5 : Int32} {s0 : Int32}  (x2 x6 x7 : Option Value) (jx2 : rn_jk x2) (jx6 : rn_jk x6) (jx7 : rn_jk x7) (r : rn_s n 221 (44, [some (.ref 540), some (.int b1), x2, some (.int b3), some (.int b4), some (.int b5), x6, x7], [.int s0], aa_H g) v h) : iw_s v h (fn_221_44 g b1 b3 b4 b5 s0) := by
  unfold fn_221_44
  obtain ⟨n28, ln28, r⟩ := rn_steps 2 (49, [some (.ref 540), some (.int b1), x2, some (.int b3), some (.int b4), some (.int b5), some (.int s0), x7], [.int (-1), .int s0], aa_H g) rfl r
  refine rn_ic (iw_s v h) rfl decide_eq_true_iff.symm r (fun c29 l30n l30 r => ?_) (fun c29 l30n l30 r => ?_)
  · obtain ⟨n31, ln31, r⟩ := rn_steps 0 (87, [some (.ref 540), some (.int b1), x2, some (.int b3), some (.int b4), some (.int b5), some (.int s0), x7], [.int (-100)], aa_H g) rfl r
    exact rn_ire rfl r
  · obtain ⟨n32, ln32, r⟩ := rn_steps 3 (56, [some (.ref 540), some (.int b1), x2, some (.int b3), some (.int b4), some (.int b5), some (.int s0), x7], [.int 0, .int b3, .int b1, .ref 540], aa_H g) rfl r
    obtain ⟨_, n33, v1, h1, -, ln33, rc, r⟩ := rn_call (m2 := 194) (as := [.ref 540, .int b1, .int b3, .int 0]) (rest := []) rfl rfl r
    obtain ⟨rfl, rfl⟩ := dn_194 rc
    have r : rn_s _ 221 (59, [some (.ref 540), some (.int b1), x2, some (.int b3), some (.int b4), some (.int b5), some (.int s0), x7], [.int ((fn_194 g b1 b3 0).1)], aa_H ((fn_194 g b1 b3 0).2)) v h := r
    exact dn_221_59 (some (.int b1)) x2 (some (.int b3)) x7 rn_ji jx2 rn_ji jx7 r
noncomputable def fn_221 (g : aa_G) (a1 : Int32) (a2 : Int32) (a3 : Int32) (a4 : Int32) (a5 : Int32) : Int32 × aa_G := if (fn_191 g a1 a2) = 0 then (-1000, g) else if (fn_193 a3) = 0 then (-1000, g) else if (fn_199 a4) = 0 then (-1000, g) else if (fn_154 a5 0 1) ≠ 0 then fn_221_44 ((fn_222 g a1 a2).2) a1 a3 a4 a5 ((fn_222 g a1 a2).1) else (-1000, g)
theorem dn_221 {v : Option Value} {h : zz_H} {n : Nat} {g : aa_G} {a1 : Int32} {a2 : Int32} {a3 : Int32} {a4 : Int32} {a5 : Int32}  (r : rn_s n 221 (0, zz_in [.ref 540, .int a1, .int a2, .int a3, .int a4, .int a5] (zz_nl 221), [], aa_H g) v h) : iw_s v h (fn_221 g a1 a2 a3 a4 a5) := by
  have r : rn_s n 221 (0, [some (.ref 540), some (.int a1), some (.int a2), some (.int a3), some (.int a4), some (.int a5), none, none], [], aa_H g) v h := r
  unfold fn_221
  obtain ⟨n1, ln1, r⟩ := rn_steps 2 (3, [some (.ref 540), some (.int a1), some (.int a2), some (.int a3), some (.int a4), some (.int a5), none, none], [.int a2, .int a1, .ref 540], aa_H g) rfl r
  obtain ⟨_, n2, v1, h1, -, ln2, rc, r⟩ := rn_call (m2 := 191) (as := [.ref 540, .int a1, .int a2]) (rest := []) rfl rfl r
  obtain ⟨rfl, rfl⟩ := dn_191 rc
  have r : rn_s _ 221 (6, [some (.ref 540), some (.int a1), some (.int a2), some (.int a3), some (.int a4), some (.int a5), none, none], [.int (fn_191 g a1 a2)], aa_H g) v h := r
  refine rn_if (iw_s v h) rfl decide_eq_true_iff.symm r (fun c4 l5n l5 r => ?_) (fun c4 l5n l5 r => ?_)
  · obtain ⟨n6, ln6, r⟩ := rn_steps 0 (37, [some (.ref 540), some (.int a1), some (.int a2), some (.int a3), some (.int a4), some (.int a5), none, none], [.int (-1000)], aa_H g) rfl r
    exact rn_ire rfl r
  · obtain ⟨n7, ln7, r⟩ := rn_steps 0 (10, [some (.ref 540), some (.int a1), some (.int a2), some (.int a3), some (.int a4), some (.int a5), none, none], [.int a3], aa_H g) rfl r
    obtain ⟨_, n8, v1, h1, -, ln8, rc, r⟩ := rn_call (m2 := 193) (as := [.int a3]) (rest := []) rfl rfl r
    obtain ⟨rfl, rfl⟩ := dn_193 rc
    have r : rn_s _ 221 (13, [some (.ref 540), some (.int a1), some (.int a2), some (.int a3), some (.int a4), some (.int a5), none, none], [.int (fn_193 a3)], aa_H g) v h := r
    refine rn_if (iw_s v h) rfl decide_eq_true_iff.symm r (fun c10 l11n l11 r => ?_) (fun c10 l11n l11 r => ?_)
    · obtain ⟨n12, ln12, r⟩ := rn_steps 0 (37, [some (.ref 540), some (.int a1), some (.int a2), some (.int a3), some (.int a4), some (.int a5), none, none], [.int (-1000)], aa_H g) rfl r
      exact rn_ire rfl r
    · obtain ⟨n13, ln13, r⟩ := rn_steps 0 (18, [some (.ref 540), some (.int a1), some (.int a2), some (.int a3), some (.int a4), some (.int a5), none, none], [.int a4], aa_H g) rfl r
      obtain ⟨_, n14, v1, h1, -, ln14, rc, r⟩ := rn_call (m2 := 199) (as := [.int a4]) (rest := []) rfl rfl r
      obtain ⟨rfl, rfl⟩ := dn_199 rc
      have r : rn_s _ 221 (21, [some (.ref 540), some (.int a1), some (.int a2), some (.int a3), some (.int a4), some (.int a5), none, none], [.int (fn_199 a4)], aa_H g) v h := r
      refine rn_if (iw_s v h) rfl decide_eq_true_iff.symm r (fun c16 l17n l17 r => ?_) (fun c16 l17n l17 r => ?_)
      · obtain ⟨n18, ln18, r⟩ := rn_steps 0 (37, [some (.ref 540), some (.int a1), some (.int a2), some (.int a3), some (.int a4), some (.int a5), none, none], [.int (-1000)], aa_H g) rfl r
        exact rn_ire rfl r
      · obtain ⟨n19, ln19, r⟩ := rn_steps 2 (28, [some (.ref 540), some (.int a1), some (.int a2), some (.int a3), some (.int a4), some (.int a5), none, none], [.int 1, .int 0, .int a5], aa_H g) rfl r
        obtain ⟨_, n20, v1, h1, -, ln20, rc, r⟩ := rn_call (m2 := 154) (as := [.int a5, .int 0, .int 1]) (rest := []) rfl rfl r
        obtain ⟨rfl, rfl⟩ := dn_154 rc
        have r : rn_s _ 221 (31, [some (.ref 540), some (.int a1), some (.int a2), some (.int a3), some (.int a4), some (.int a5), none, none], [.int (fn_154 a5 0 1)], aa_H g) v h := r
        refine rn_if (iw_s v h) rfl decide_eq_true_iff.symm r (fun c22 l23n l23 r => ?_) (fun c22 l23n l23 r => ?_)
        · obtain ⟨n24, ln24, r⟩ := rn_steps 2 (41, [some (.ref 540), some (.int a1), some (.int a2), some (.int a3), some (.int a4), some (.int a5), none, none], [.int a2, .int a1, .ref 540], aa_H g) rfl r
          obtain ⟨_, n25, v1, h1, -, ln25, rc, r⟩ := rn_call (m2 := 222) (as := [.ref 540, .int a1, .int a2]) (rest := []) rfl rfl r
          obtain ⟨rfl, rfl⟩ := dn_222 rc
          have r : rn_s _ 221 (44, [some (.ref 540), some (.int a1), some (.int a2), some (.int a3), some (.int a4), some (.int a5), none, none], [.int ((fn_222 g a1 a2).1)], aa_H ((fn_222 g a1 a2).2)) v h := r
          exact dn_221_44 (some (.int a2)) none none rn_ji rn_jn rn_jn r
        · obtain ⟨n27, ln27, r⟩ := rn_steps 0 (37, [some (.ref 540), some (.int a1), some (.int a2), some (.int a3), some (.int a4), some (.int a5), none, none], [.int (-1000)], aa_H g) rfl r
          exact rn_ire rfl r
-- 224: UnequalHoursModel areDays
noncomputable def fn_224 (a0 : Int32) (a1 : Int32) (a2 : Int32) : Int32 := if (fn_193 a0) = 0 then 0 else if (fn_193 a1) = 0 then 0 else if (fn_154 (a1 - a0) 0 a2) = 0 then 0 else 1
theorem dn_224 {v : Option Value} {h : zz_H} {n : Nat} {g : aa_G} {a0 : Int32} {a1 : Int32} {a2 : Int32}  (r : rn_s n 224 (0, zz_in [.int a0, .int a1, .int a2] (zz_nl 224), [], aa_H g) v h) : ir_s g v h (fn_224 a0 a1 a2) := by
  have r : rn_s n 224 (0, [some (.int a0), some (.int a1), some (.int a2)], [], aa_H g) v h := r
  unfold fn_224
  obtain ⟨n1, ln1, r⟩ := rn_steps 0 (1, [some (.int a0), some (.int a1), some (.int a2)], [.int a0], aa_H g) rfl r
  obtain ⟨_, n2, v1, h1, -, ln2, rc, r⟩ := rn_call (m2 := 193) (as := [.int a0]) (rest := []) rfl rfl r
  obtain ⟨rfl, rfl⟩ := dn_193 rc
  have r : rn_s _ 224 (4, [some (.int a0), some (.int a1), some (.int a2)], [.int (fn_193 a0)], aa_H g) v h := r
  refine rn_if (ir_s g v h) rfl decide_eq_true_iff.symm r (fun c4 l5n l5 r => ?_) (fun c4 l5n l5 r => ?_)
  · obtain ⟨n6, ln6, r⟩ := rn_steps 0 (30, [some (.int a0), some (.int a1), some (.int a2)], [.int 0], aa_H g) rfl r
    exact rn_ire rfl r
  · obtain ⟨n7, ln7, r⟩ := rn_steps 0 (8, [some (.int a0), some (.int a1), some (.int a2)], [.int a1], aa_H g) rfl r
    obtain ⟨_, n8, v1, h1, -, ln8, rc, r⟩ := rn_call (m2 := 193) (as := [.int a1]) (rest := []) rfl rfl r
    obtain ⟨rfl, rfl⟩ := dn_193 rc
    have r : rn_s _ 224 (11, [some (.int a0), some (.int a1), some (.int a2)], [.int (fn_193 a1)], aa_H g) v h := r
    refine rn_if (ir_s g v h) rfl decide_eq_true_iff.symm r (fun c10 l11n l11 r => ?_) (fun c10 l11n l11 r => ?_)
    · obtain ⟨n12, ln12, r⟩ := rn_steps 0 (30, [some (.int a0), some (.int a1), some (.int a2)], [.int 0], aa_H g) rfl r
      exact rn_ire rfl r
    · obtain ⟨n13, ln13, r⟩ := rn_steps 4 (19, [some (.int a0), some (.int a1), some (.int a2)], [.int a2, .int 0, .int (a1 - a0)], aa_H g) rfl r
      obtain ⟨_, n14, v1, h1, -, ln14, rc, r⟩ := rn_call (m2 := 154) (as := [.int (a1 - a0), .int 0, .int a2]) (rest := []) rfl rfl r
      obtain ⟨rfl, rfl⟩ := dn_154 rc
      have r : rn_s _ 224 (22, [some (.int a0), some (.int a1), some (.int a2)], [.int (fn_154 (a1 - a0) 0 a2)], aa_H g) v h := r
      refine rn_if (ir_s g v h) rfl decide_eq_true_iff.symm r (fun c16 l17n l17 r => ?_) (fun c16 l17n l17 r => ?_)
      · obtain ⟨n18, ln18, r⟩ := rn_steps 0 (30, [some (.int a0), some (.int a1), some (.int a2)], [.int 0], aa_H g) rfl r
        exact rn_ire rfl r
      · obtain ⟨n19, ln19, r⟩ := rn_steps 1 (30, [some (.int a0), some (.int a1), some (.int a2)], [.int 1], aa_H g) rfl r
        exact rn_ire rfl r
-- 223: UnequalHoursModel work
noncomputable def fn_223_88 (g : aa_G) (b1 : Int32) (b3 : Int32) (b4 : Int32) (b5 : Int32) (b7 : Int32) (s0 : Int32) (s1 : Int32) : (aa_G × Int32 × Int32) ⊕ (Int32 × aa_G) := .inl (g, s1 + s0, b7 + 1)
theorem dn_223_88 {v : Option Value} {h : zz_H} {n : Nat} {g : aa_G} {b1 : Int32} {b3 : Int32} {b4 : Int32} {b5 : Int32} {b7 : Int32} {s0 : Int32} {s1 : Int32} (P : (aa_G × Int32 × Int32) ⊕ (Int32 × aa_G) → Prop) (hO0 : ∀ n2, n2 < n → ∀ (yg : aa_G) (yb6 : Int32) (yb7 : Int32) (yx2 : Option Value) (_ : rn_jk yx2), rn_s n2 223 (52, [some (.ref 540), some (.int b1), yx2, some (.int b3), some (.int b4), some (.int b5), some (.int yb6), some (.int yb7)], [], aa_H yg) v h → P (.inl (yg, yb6, yb7))) (hR : ∀ E, iw_s v h E → P (.inr E))  (x2 x6 : Option Value) (jx2 : rn_jk x2) (jx6 : rn_jk x6) (r : rn_s n 223 (88, [some (.ref 540), some (.int b1), x2, some (.int b3), some (.int b4), some (.int b5), x6, some (.int b7)], [.int s0, .int s1], aa_H g) v h) : P (fn_223_88 g b1 b3 b4 b5 b7 s0 s1) := by
  unfold fn_223_88
  obtain ⟨n43, ln43, r⟩ := rn_steps 3 (52, [some (.ref 540), some (.int b1), x2, some (.int b3), some (.int b4), some (.int b5), some (.int (s1 + s0)), some (.int (b7 + 1))], [], aa_H g) rfl r
  exact hO0 _ (by omega) g (s1 + s0) (b7 + 1) x2 jx2 r
noncomputable def fn_223_68 (g : aa_G) (b1 : Int32) (b3 : Int32) (b4 : Int32) (b5 : Int32) (b7 : Int32) (s0 : Int32) (s1 : Int32) : (aa_G × Int32 × Int32) ⊕ (Int32 × aa_G) := if s0 = 0 then fn_223_88 g b1 b3 b4 b5 b7 0 s1 else fn_223_88 g b1 b3 b4 b5 b7 ((fn_225 g b5) - (fn_225 g b4)) s1
theorem dn_223_68 {v : Option Value} {h : zz_H} {n : Nat} {g : aa_G} {b1 : Int32} {b3 : Int32} {b4 : Int32} {b5 : Int32} {b7 : Int32} {s0 : Int32} {s1 : Int32} (P : (aa_G × Int32 × Int32) ⊕ (Int32 × aa_G) → Prop) (hO0 : ∀ n2, n2 < n → ∀ (yg : aa_G) (yb6 : Int32) (yb7 : Int32) (yx2 : Option Value) (_ : rn_jk yx2), rn_s n2 223 (52, [some (.ref 540), some (.int b1), yx2, some (.int b3), some (.int b4), some (.int b5), some (.int yb6), some (.int yb7)], [], aa_H yg) v h → P (.inl (yg, yb6, yb7))) (hR : ∀ E, iw_s v h E → P (.inr E))  (x2 x6 : Option Value) (jx2 : rn_jk x2) (jx6 : rn_jk x6) (r : rn_s n 223 (68, [some (.ref 540), some (.int b1), x2, some (.int b3), some (.int b4), some (.int b5), x6, some (.int b7)], [.int s0, .int s1], aa_H g) v h) : P (fn_223_68 g b1 b3 b4 b5 b7 s0 s1) := by
  unfold fn_223_68
  refine rn_if (P) rfl decide_eq_true_iff.symm r (fun c33 l34n l34 r => ?_) (fun c33 l34n l34 r => ?_)
  · obtain ⟨n35, ln35, r⟩ := rn_steps 0 (88, [some (.ref 540), some (.int b1), x2, some (.int b3), some (.int b4), some (.int b5), x6, some (.int b7)], [.int 0, .int s1], aa_H g) rfl r
    exact dn_223_88 (P) (fun n2 l2 => hO0 n2 (by omega)) (fun z hz => hR _ hz) x2 x6 jx2 jx6 r
  · obtain ⟨n36, ln36, r⟩ := rn_steps 1 (74, [some (.ref 540), some (.int b1), x2, some (.int b3), some (.int b4), some (.int b5), x6, some (.int b7)], [.int b5, .ref 540, .int s1], aa_H g) rfl r
    obtain ⟨_, n37, v1, h1, -, ln37, rc, r⟩ := rn_call (m2 := 225) (as := [.ref 540, .int b5]) (rest := [.int s1]) rfl rfl r
    obtain ⟨rfl, rfl⟩ := dn_225 rc
    have r : rn_s _ 223 (77, [some (.ref 540), some (.int b1), x2, some (.int b3), some (.int b4), some (.int b5), x6, some (.int b7)], [.int (fn_225 g b5), .int s1], aa_H g) v h := r
    obtain ⟨n39, ln39, r⟩ := rn_steps 1 (80, [some (.ref 540), some (.int b1), x2, some (.int b3), some (.int b4), some (.int b5), x6, some (.int b7)], [.int b4, .ref 540, .int (fn_225 g b5), .int s1], aa_H g) rfl r
    obtain ⟨_, n40, v1, h1, -, ln40, rc, r⟩ := rn_call (m2 := 225) (as := [.ref 540, .int b4]) (rest := [.int (fn_225 g b5), .int s1]) rfl rfl r
    obtain ⟨rfl, rfl⟩ := dn_225 rc
    have r : rn_s _ 223 (83, [some (.ref 540), some (.int b1), x2, some (.int b3), some (.int b4), some (.int b5), x6, some (.int b7)], [.int (fn_225 g b4), .int (fn_225 g b5), .int s1], aa_H g) v h := r
    obtain ⟨n42, ln42, r⟩ := rn_steps 1 (88, [some (.ref 540), some (.int b1), x2, some (.int b3), some (.int b4), some (.int b5), x6, some (.int b7)], [.int ((fn_225 g b5) - (fn_225 g b4)), .int s1], aa_H g) rfl r
    exact dn_223_88 (P) (fun n2 l2 => hO0 n2 (by omega)) (fun z hz => hR _ hz) x2 x6 jx2 jx6 r
noncomputable def fn_223_52b (g : aa_G) (b1 : Int32) (b3 : Int32) (b4 : Int32) (b5 : Int32) (b6 : Int32) (b7 : Int32) : (aa_G × Int32 × Int32) ⊕ (Int32 × aa_G) := if b3 < b7 then .inr (b6, g) else fn_223_68 ((fn_194 g b1 b7 0).2) b1 b3 b4 b5 b7 ((fn_194 g b1 b7 0).1) b6
noncomputable def fn_223_52 (g : aa_G) (b1 : Int32) (b3 : Int32) (b4 : Int32) (b5 : Int32) (b6 : Int32) (b7 : Int32) : Int32 × aa_G := lp_f (0, g) (fun z : (aa_G × Int32 × Int32) => fn_223_52b z.1 b1 b3 b4 b5 z.2.1 z.2.2) (g, b6, b7)
theorem dn_223_52l {v : Option Value} {h : zz_H} {N : Nat} {b1 : Int32} {b3 : Int32} {b4 : Int32} {b5 : Int32} {d : Int32 × aa_G} : ∀ (n : Nat), n ≤ N → ∀ (g : aa_G) (b6 : Int32) (b7 : Int32) (x2 : Option Value) (jx2 : rn_jk x2), rn_s n 223 (52, [some (.ref 540), some (.int b1), x2, some (.int b3), some (.int b4), some (.int b5), some (.int b6), some (.int b7)], [], aa_H g) v h → (iw_s v h) (lp_f d (fun z : (aa_G × Int32 × Int32) => fn_223_52b z.1 b1 b3 b4 b5 z.2.1 z.2.2) (g, b6, b7)) := by
  generalize hf : (fun z : (aa_G × Int32 × Int32) => fn_223_52b z.1 b1 b3 b4 b5 z.2.1 z.2.2) = f
  intro n
  induction n using Nat.strongRecOn with
  | _ n ih =>
    intro hN g b6 b7 x2 jx2 r
    refine lp_go ?_
    rw [← congrFun hf (g, b6, b7)]
    show lp_q (iw_s v h) d f (fn_223_52b g b1 b3 b4 b5 b6 b7)
    unfold fn_223_52b
    obtain ⟨n26, ln26, r⟩ := rn_steps 1 (55, [some (.ref 540), some (.int b1), x2, some (.int b3), some (.int b4), some (.int b5), some (.int b6), some (.int b7)], [.int b3, .int b7], aa_H g) rfl r
    refine rn_ic (lp_q (iw_s v h) d f) rfl decide_eq_true_iff.symm r (fun c27 l28n l28 r => ?_) (fun c27 l28n l28 r => ?_)
    · obtain ⟨n29, ln29, r⟩ := rn_steps 0 (99, [some (.ref 540), some (.int b1), x2, some (.int b3), some (.int b4), some (.int b5), some (.int b6), some (.int b7)], [.int b6], aa_H g) rfl r
      exact rn_ire rfl r
    · obtain ⟨n30, ln30, r⟩ := rn_steps 4 (65, [some (.ref 540), some (.int b1), x2, some (.int b3), some (.int b4), some (.int b5), some (.int b6), some (.int b7)], [.int 0, .int b7, .int b1, .ref 540, .int b6], aa_H g) rfl r
      obtain ⟨_, n31, v1, h1, -, ln31, rc, r⟩ := rn_call (m2 := 194) (as := [.ref 540, .int b1, .int b7, .int 0]) (rest := [.int b6]) rfl rfl r
      obtain ⟨rfl, rfl⟩ := dn_194 rc
      have r : rn_s _ 223 (68, [some (.ref 540), some (.int b1), x2, some (.int b3), some (.int b4), some (.int b5), some (.int b6), some (.int b7)], [.int ((fn_194 g b1 b7 0).1), .int b6], aa_H ((fn_194 g b1 b7 0).2)) v h := r
      exact dn_223_68 (lp_q (iw_s v h) d f) (fun n2 l2 => ih n2 (by omega) (by omega)) (fun z hz => hz) x2 (some (.int b6)) jx2 rn_ji r
theorem dn_223_52 {v : Option Value} {h : zz_H} {n : Nat} {g : aa_G} {b1 : Int32} {b3 : Int32} {b4 : Int32} {b5 : Int32} {b6 : Int32} {b7 : Int32}  (x2 : Option Value) (jx2 : rn_jk x2) (r : rn_s n 223 (52, [some (.ref 540), some (.int b1), x2, some (.int b3), some (.int b4), some (.int b5), some (.int b6), some (.int b7)], [], aa_H g) v h) : (iw_s v h) (fn_223_52 g b1 b3 b4 b5 b6 b7) := dn_223_52l  n (Nat.le_refl n) g b6 b7 x2 jx2 r
noncomputable def fn_223 (g : aa_G) (a1 : Int32) (a2 : Int32) (a3 : Int32) (a4 : Int32) (a5 : Int32) : Int32 × aa_G := if (fn_192 g a1) = 0 then (-1, g) else if (fn_224 a2 a3 359) = 0 then (-1, g) else if (fn_154 a4 0 11) = 0 then (-1, g) else if (fn_154 a5 (a4 + 1) 12) ≠ 0 then fn_223_52 g a1 a3 a4 a5 0 a2 else (-1, g)
theorem dn_223 {v : Option Value} {h : zz_H} {n : Nat} {g : aa_G} {a1 : Int32} {a2 : Int32} {a3 : Int32} {a4 : Int32} {a5 : Int32}  (r : rn_s n 223 (0, zz_in [.ref 540, .int a1, .int a2, .int a3, .int a4, .int a5] (zz_nl 223), [], aa_H g) v h) : iw_s v h (fn_223 g a1 a2 a3 a4 a5) := by
  have r : rn_s n 223 (0, [some (.ref 540), some (.int a1), some (.int a2), some (.int a3), some (.int a4), some (.int a5), none, none], [], aa_H g) v h := r
  unfold fn_223
  obtain ⟨n1, ln1, r⟩ := rn_steps 1 (2, [some (.ref 540), some (.int a1), some (.int a2), some (.int a3), some (.int a4), some (.int a5), none, none], [.int a1, .ref 540], aa_H g) rfl r
  obtain ⟨_, n2, v1, h1, -, ln2, rc, r⟩ := rn_call (m2 := 192) (as := [.ref 540, .int a1]) (rest := []) rfl rfl r
  obtain ⟨rfl, rfl⟩ := dn_192 rc
  have r : rn_s _ 223 (5, [some (.ref 540), some (.int a1), some (.int a2), some (.int a3), some (.int a4), some (.int a5), none, none], [.int (fn_192 g a1)], aa_H g) v h := r
  refine rn_if (iw_s v h) rfl decide_eq_true_iff.symm r (fun c4 l5n l5 r => ?_) (fun c4 l5n l5 r => ?_)
  · obtain ⟨n6, ln6, r⟩ := rn_steps 0 (45, [some (.ref 540), some (.int a1), some (.int a2), some (.int a3), some (.int a4), some (.int a5), none, none], [.int (-1)], aa_H g) rfl r
    exact rn_ire rfl r
  · obtain ⟨n7, ln7, r⟩ := rn_steps 2 (13, [some (.ref 540), some (.int a1), some (.int a2), some (.int a3), some (.int a4), some (.int a5), none, none], [.int 359, .int a3, .int a2], aa_H g) rfl r
    obtain ⟨_, n8, v1, h1, -, ln8, rc, r⟩ := rn_call (m2 := 224) (as := [.int a2, .int a3, .int 359]) (rest := []) rfl rfl r
    obtain ⟨rfl, rfl⟩ := dn_224 rc
    have r : rn_s _ 223 (16, [some (.ref 540), some (.int a1), some (.int a2), some (.int a3), some (.int a4), some (.int a5), none, none], [.int (fn_224 a2 a3 359)], aa_H g) v h := r
    refine rn_if (iw_s v h) rfl decide_eq_true_iff.symm r (fun c10 l11n l11 r => ?_) (fun c10 l11n l11 r => ?_)
    · obtain ⟨n12, ln12, r⟩ := rn_steps 0 (45, [some (.ref 540), some (.int a1), some (.int a2), some (.int a3), some (.int a4), some (.int a5), none, none], [.int (-1)], aa_H g) rfl r
      exact rn_ire rfl r
    · obtain ⟨n13, ln13, r⟩ := rn_steps 2 (24, [some (.ref 540), some (.int a1), some (.int a2), some (.int a3), some (.int a4), some (.int a5), none, none], [.int 11, .int 0, .int a4], aa_H g) rfl r
      obtain ⟨_, n14, v1, h1, -, ln14, rc, r⟩ := rn_call (m2 := 154) (as := [.int a4, .int 0, .int 11]) (rest := []) rfl rfl r
      obtain ⟨rfl, rfl⟩ := dn_154 rc
      have r : rn_s _ 223 (27, [some (.ref 540), some (.int a1), some (.int a2), some (.int a3), some (.int a4), some (.int a5), none, none], [.int (fn_154 a4 0 11)], aa_H g) v h := r
      refine rn_if (iw_s v h) rfl decide_eq_true_iff.symm r (fun c16 l17n l17 r => ?_) (fun c16 l17n l17 r => ?_)
      · obtain ⟨n18, ln18, r⟩ := rn_steps 0 (45, [some (.ref 540), some (.int a1), some (.int a2), some (.int a3), some (.int a4), some (.int a5), none, none], [.int (-1)], aa_H g) rfl r
        exact rn_ire rfl r
      · obtain ⟨n19, ln19, r⟩ := rn_steps 4 (38, [some (.ref 540), some (.int a1), some (.int a2), some (.int a3), some (.int a4), some (.int a5), none, none], [.int 12, .int (a4 + 1), .int a5], aa_H g) rfl r
        obtain ⟨_, n20, v1, h1, -, ln20, rc, r⟩ := rn_call (m2 := 154) (as := [.int a5, .int (a4 + 1), .int 12]) (rest := []) rfl rfl r
        obtain ⟨rfl, rfl⟩ := dn_154 rc
        have r : rn_s _ 223 (41, [some (.ref 540), some (.int a1), some (.int a2), some (.int a3), some (.int a4), some (.int a5), none, none], [.int (fn_154 a5 (a4 + 1) 12)], aa_H g) v h := r
        refine rn_if (iw_s v h) rfl decide_eq_true_iff.symm r (fun c22 l23n l23 r => ?_) (fun c22 l23n l23 r => ?_)
        · obtain ⟨n24, ln24, r⟩ := rn_steps 3 (52, [some (.ref 540), some (.int a1), some (.int a2), some (.int a3), some (.int a4), some (.int a5), some (.int 0), some (.int a2)], [], aa_H g) rfl r
          exact dn_223_52 (some (.int a2)) rn_ji r
        · obtain ⟨n25, ln25, r⟩ := rn_steps 0 (45, [some (.ref 540), some (.int a1), some (.int a2), some (.int a3), some (.int a4), some (.int a5), none, none], [.int (-1)], aa_H g) rfl r
          exact rn_ire rfl r
end
