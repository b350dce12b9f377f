section
/-! METHODS READ (printed by wip/dc/dc.py) -/
-- 98: UnequalHours exact
noncomputable def fn_98_105 (g : aa_G) (b4 : Int32) (b6 : Int32) (b7 : Int32) : (Int32 × Int32) ⊕ (Int32 × aa_G) := .inl (b6, b7 + 1)
theorem dn_98_105 {v : Option Value} {h : zz_H} {n : Nat} {g : aa_G} {b4 : Int32} {b6 : Int32} {b7 : Int32} (P : (Int32 × Int32) ⊕ (Int32 × aa_G) → Prop) (hO0 : ∀ n2, n2 < n → ∀ (yb6 : Int32) (yb7 : Int32) (yx1 yx2 yx3 yx5 : Option Value) (_ : rn_jk yx1) (_ : rn_jk yx2) (_ : rn_jk yx3) (_ : rn_jk yx5), rn_s n2 98 (73, [some (.ref 1), yx1, yx2, yx3, some (.int b4), yx5, some (.int yb6), some (.int yb7)], [], aa_H g) v h → P (.inl (yb6, yb7))) (hR : ∀ E, iw_s v h E → P (.inr E))  (x1 x2 x3 x5 : Option Value) (jx1 : rn_jk x1) (jx2 : rn_jk x2) (jx3 : rn_jk x3) (jx5 : rn_jk x5) (r : rn_s n 98 (105, [some (.ref 1), x1, x2, x3, some (.int b4), x5, some (.int b6), some (.int b7)], [], aa_H g) v h) : P (fn_98_105 g b4 b6 b7) := by
  unfold fn_98_105
  obtain ⟨n62, ln62, r⟩ := rn_steps 1 (73, [some (.ref 1), x1, x2, x3, some (.int b4), x5, some (.int b6), some (.int (b7 + 1))], [], aa_H g) rfl r
  exact hO0 _ (by omega) b6 (b7 + 1) x1 x2 x3 x5 jx1 jx2 jx3 jx5 r
noncomputable def fn_98_73b (g : aa_G) (b4 : Int32) (b6 : Int32) (b7 : Int32) : (Int32 × Int32) ⊕ (Int32 × aa_G) := if 12 < b7 then if b4 ≠ 0 then .inr (12 / b6, g) else .inr ((g 461 4) / b6, g) else if (12 - 12 / b7 * b7) ≠ 0 then fn_98_105 g b4 b6 b7 else if ((g 461 4) - (g 461 4) / b7 * b7) ≠ 0 then fn_98_105 g b4 b6 b7 else fn_98_105 g b4 b7 b7
noncomputable def fn_98_73 (g : aa_G) (b4 : Int32) (b6 : Int32) (b7 : Int32) : Int32 × aa_G := lp_f (0, g) (fun z : (Int32 × Int32) => fn_98_73b g b4 z.1 z.2) (b6, b7)
theorem dn_98_73l {v : Option Value} {h : zz_H} {N : Nat} {g : aa_G} {b4 : Int32} {d : Int32 × aa_G} : ∀ (n : Nat), n ≤ N → ∀ (b6 : Int32) (b7 : Int32) (x1 x2 x3 x5 : Option Value) (jx1 : rn_jk x1) (jx2 : rn_jk x2) (jx3 : rn_jk x3) (jx5 : rn_jk x5), rn_s n 98 (73, [some (.ref 1), x1, x2, x3, some (.int b4), x5, some (.int b6), some (.int b7)], [], aa_H g) v h → (iw_s v h) (lp_f d (fun z : (Int32 × Int32) => fn_98_73b g b4 z.1 z.2) (b6, b7)) := by
  generalize hf : (fun z : (Int32 × Int32) => fn_98_73b g b4 z.1 z.2) = f
  intro n
  induction n using Nat.strongRecOn with
  | _ n ih =>
    intro hN b6 b7 x1 x2 x3 x5 jx1 jx2 jx3 jx5 r
    refine lp_go ?_
    rw [← congrFun hf (b6, b7)]
    show lp_q (iw_s v h) d f (fn_98_73b g b4 b6 b7)
    unfold fn_98_73b
    obtain ⟨n37, ln37, r⟩ := rn_steps 1 (77, [some (.ref 1), x1, x2, x3, some (.int b4), x5, some (.int b6), some (.int b7)], [.int 12, .int b7], aa_H g) rfl r
    refine rn_ic (lp_q (iw_s v h) d f) rfl decide_eq_true_iff.symm r (fun c38 l39n l39 r => ?_) (fun c38 l39n l39 r => ?_)
    · obtain ⟨n40, ln40, r⟩ := rn_steps 0 (113, [some (.ref 1), x1, x2, x3, some (.int b4), x5, some (.int b6), some (.int b7)], [.int b4], aa_H g) rfl r
      refine rn_if (lp_q (iw_s v h) d f) rfl decide_eq_true_iff.symm r (fun c41 l42n l42 r => ?_) (fun c41 l42n l42 r => ?_)
      · obtain ⟨n43, ln43, r⟩ := rn_steps 1 (133, [some (.ref 1), x1, x2, x3, some (.int b4), x5, some (.int b6), some (.int b7)], [.int b6, .int 12], aa_H g) rfl r
        obtain ⟨hd45, n44, ln44, r⟩ := rn_div rfl r
        have r : rn_s _ 98 (134, [some (.ref 1), x1, x2, x3, some (.int b4), x5, some (.int b6), some (.int b7)], [.int (12 / b6)], aa_H g) v h := r
        exact rn_ire rfl r
      · obtain ⟨n46, ln46, r⟩ := rn_steps 3 (125, [some (.ref 1), x1, x2, x3, some (.int b4), x5, some (.int b6), some (.int b7)], [.int b6, .int (g 461 4)], aa_H g) rfl r
        obtain ⟨hd48, n47, ln47, r⟩ := rn_div rfl r
        have r : rn_s _ 98 (126, [some (.ref 1), x1, x2, x3, some (.int b4), x5, some (.int b6), some (.int b7)], [.int ((g 461 4) / b6)], aa_H g) v h := r
        obtain ⟨n49, ln49, r⟩ := rn_steps 0 (134, [some (.ref 1), x1, x2, x3, some (.int b4), x5, some (.int b6), some (.int b7)], [.int ((g 461 4) / b6)], aa_H g) rfl r
        exact rn_ire rfl r
    · obtain ⟨n50, ln50, r⟩ := rn_steps 1 (84, [some (.ref 1), x1, x2, x3, some (.int b4), x5, some (.int b6), some (.int b7)], [.int b7, .int 12], aa_H g) rfl r
      obtain ⟨hd52, n51, ln51, r⟩ := rn_rem rfl r
      have r : rn_s _ 98 (85, [some (.ref 1), x1, x2, x3, some (.int b4), x5, some (.int b6), some (.int b7)], [.int (12 - 12 / b7 * b7)], aa_H g) v h := r
      refine rn_if (lp_q (iw_s v h) d f) rfl decide_eq_true_iff.symm r (fun c53 l54n l54 r => ?_) (fun c53 l54n l54 r => ?_)
      · exact dn_98_105 (lp_q (iw_s v h) d f) (fun n2 l2 => ih n2 (by omega) (by omega)) (fun z hz => hz) x1 x2 x3 x5 jx1 jx2 jx3 jx5 r
      · obtain ⟨n55, ln55, r⟩ := rn_steps 3 (97, [some (.ref 1), x1, x2, x3, some (.int b4), x5, some (.int b6), some (.int b7)], [.int b7, .int (g 461 4)], aa_H g) rfl r
        obtain ⟨hd57, n56, ln56, r⟩ := rn_rem rfl r
        have r : rn_s _ 98 (98, [some (.ref 1), x1, x2, x3, some (.int b4), x5, some (.int b6), some (.int b7)], [.int ((g 461 4) - (g 461 4) / b7 * b7)], aa_H g) v h := r
        refine rn_if (lp_q (iw_s v h) d f) rfl decide_eq_true_iff.symm r (fun c58 l59n l59 r => ?_) (fun c58 l59n l59 r => ?_)
        · exact dn_98_105 (lp_q (iw_s v h) d f) (fun n2 l2 => ih n2 (by omega) (by omega)) (fun z hz => hz) x1 x2 x3 x5 jx1 jx2 jx3 jx5 r
        · obtain ⟨n60, ln60, r⟩ := rn_steps 0 (103, [some (.ref 1), x1, x2, x3, some (.int b4), x5, some (.int b6), some (.int b7)], [.int b7], aa_H g) rfl r
          obtain ⟨n61, ln61, r⟩ := rn_isx (i := 6) rfl rfl jx5 rfl ⟨Nat.le_of_ble_eq_true rfl, Nat.le_of_ble_eq_true rfl⟩ r
          have r : rn_s _ 98 (105, [some (.ref 1), x1, x2, x3, some (.int b4), x5, some (.int b7), some (.int b7)], [], aa_H g) v h := r
          exact dn_98_105 (lp_q (iw_s v h) d f) (fun n2 l2 => ih n2 (by omega) (by omega)) (fun z hz => hz) x1 x2 x3 x5 jx1 jx2 jx3 jx5 r
theorem dn_98_73 {v : Option Value} {h : zz_H} {n : Nat} {g : aa_G} {b4 : Int32} {b6 : Int32} {b7 : Int32}  (x1 x2 x3 x5 : Option Value) (jx1 : rn_jk x1) (jx2 : rn_jk x2) (jx3 : rn_jk x3) (jx5 : rn_jk x5) (r : rn_s n 98 (73, [some (.ref 1), x1, x2, x3, some (.int b4), x5, some (.int b6), some (.int b7)], [], aa_H g) v h) : (iw_s v h) (fn_98_73 g b4 b6 b7) := dn_98_73l  n (Nat.le_refl n) b6 b7 x1 x2 x3 x5 jx1 jx2 jx3 jx5 r
noncomputable def fn_98_54 (g : aa_G) (b4 : Int32) : Int32 × aa_G := if (g 461 0) ≠ 0 then fn_98_73 g b4 1 2 else (-2, g)
theorem dn_98_54 {v : Option Value} {h : zz_H} {n : Nat} {g : aa_G} {b4 : Int32}  (x1 x2 x3 x5 x6 x7 : Option Value) (jx1 : rn_jk x1) (jx2 : rn_jk x2) (jx3 : rn_jk x3) (jx5 : rn_jk x5) (jx6 : rn_jk x6) (jx7 : rn_jk x7) (r : rn_s n 98 (54, [some (.ref 1), x1, x2, x3, some (.int b4), x5, x6, x7], [], aa_H g) v h) : iw_s v h (fn_98_54 g b4) := by
  unfold fn_98_54
  obtain ⟨n30, ln30, r⟩ := rn_steps 2 (61, [some (.ref 1), x1, x2, x3, some (.int b4), x5, x6, x7], [.int (g 461 0)], aa_H g) rfl r
  refine rn_if (iw_s v h) rfl decide_eq_true_iff.symm r (fun c31 l32n l32 r => ?_) (fun c31 l32n l32 r => ?_)
  · obtain ⟨n33, ln33, r⟩ := rn_steps 0 (68, [some (.ref 1), x1, x2, x3, some (.int b4), x5, x6, x7], [.int 1], aa_H g) rfl r
    obtain ⟨n34, ln34, r⟩ := rn_isx (i := 6) rfl rfl jx5 rfl ⟨Nat.le_of_ble_eq_true rfl, Nat.le_of_ble_eq_true rfl⟩ r
    have r : rn_s _ 98 (70, [some (.ref 1), x1, x2, x3, some (.int b4), x5, some (.int 1), x7], [], aa_H g) v h := r
    obtain ⟨n35, ln35, r⟩ := rn_steps 1 (73, [some (.ref 1), x1, x2, x3, some (.int b4), x5, some (.int 1), some (.int 2)], [], aa_H g) rfl r
    exact dn_98_73 x1 x2 x3 x5 jx1 jx2 jx3 jx5 r
  · obtain ⟨n36, ln36, r⟩ := rn_steps 0 (66, [some (.ref 1), x1, x2, x3, some (.int b4), x5, x6, x7], [.int (-2)], aa_H g) rfl r
    exact rn_ire rfl r
noncomputable def fn_98 (g : aa_G) (a1 : Int32) (a2 : Int32) (a3 : Int32) (a4 : Int32) : Int32 × aa_G := (match fn_31 g a1 with | none => ((-1, g)) | some W6 => (if (fn_77 a2) = 0 then (-1, g) else if (fn_14 a3 0 1) = 0 then (-1, g) else if (fn_14 a4 0 1) ≠ 0 then fn_98_54 (fn_78 g 461 (some W6) a2 a3) a4 else (-1, g)))
theorem dn_98 {v : Option Value} {h : zz_H} {n : Nat} {g : aa_G} {a1 : Int32} {a2 : Int32} {a3 : Int32} {a4 : Int32}  (r : rn_s n 98 (0, zz_in [.ref 1, .int a1, .int a2, .int a3, .int a4] (zz_nl 98), [], aa_H g) v h) : iw_s v h (fn_98 g a1 a2 a3 a4) := by
  have r : rn_s n 98 (0, [some (.ref 1), some (.int a1), some (.int a2), some (.int a3), some (.int a4), none, none, none], [], aa_H g) v h := r
  unfold fn_98
  obtain ⟨n1, ln1, r⟩ := rn_steps 2 (5, [some (.ref 1), some (.int a1), some (.int a2), some (.int a3), some (.int a4), none, none, none], [.int a1, .ref 2], aa_H g) rfl r
  obtain ⟨_, n2, v1, h1, -, ln2, rc, r⟩ := rn_call (m2 := 31) (as := [.ref 2, .int a1]) (rest := []) rfl rfl r
  obtain ⟨rfl, rfl, ho4⟩ := dn_31 rc
  have r : rn_s _ 98 (8, [some (.ref 1), some (.int a1), some (.int a2), some (.int a3), some (.int a4), none, none, none], [zz_val (fn_31 g a1)], aa_H g) v h := r
  cases e5 : fn_31 g a1 with
  | none =>
    rw [e5] at r
    have r : rn_s _ 98 (8, [some (.ref 1), some (.int a1), some (.int a2), some (.int a3), some (.int a4), none, none, none], [.null], aa_H g) v h := r
    dsimp only
    obtain ⟨n8, ln8, r⟩ := rn_steps 3 (42, [some (.ref 1), some (.int a1), some (.int a2), some (.int a3), some (.int a4), some (.null), none, none], [.int (-1)], aa_H g) rfl r
    exact rn_ire rfl r
  | some W6 =>
    rw [e5] at r
    have hw7 : ct_tw W6 := ho4 _ e5
    have r : rn_s _ 98 (8, [some (.ref 1), some (.int a1), some (.int a2), some (.int a3), some (.int a4), none, none, none], [.ref W6], aa_H g) v h := r
    dsimp only
    obtain ⟨n9, ln9, r⟩ := rn_steps 3 (16, [some (.ref 1), some (.int a1), some (.int a2), some (.int a3), some (.int a4), some (.ref W6), none, none], [.int a2], aa_H g) rfl r
    obtain ⟨_, n10, v1, h1, -, ln10, rc, r⟩ := rn_call (m2 := 77) (as := [.int a2]) (rest := []) rfl rfl r
    obtain ⟨rfl, rfl⟩ := dn_77 rc
    have r : rn_s _ 98 (19, [some (.ref 1), some (.int a1), some (.int a2), some (.int a3), some (.int a4), some (.ref W6), none, none], [.int (fn_77 a2)], aa_H g) v h := r
    refine rn_if (iw_s v h) rfl decide_eq_true_iff.symm r (fun c12 l13n l13 r => ?_) (fun c12 l13n l13 r => ?_)
    · obtain ⟨n14, ln14, r⟩ := rn_steps 0 (42, [some (.ref 1), some (.int a1), some (.int a2), some (.int a3), some (.int a4), some (.ref W6), none, none], [.int (-1)], aa_H g) rfl r
      exact rn_ire rfl r
    · obtain ⟨n15, ln15, r⟩ := rn_steps 2 (25, [some (.ref 1), some (.int a1), some (.int a2), some (.int a3), some (.int a4), some (.ref W6), none, none], [.int 1, .int 0, .int a3], aa_H g) rfl r
      obtain ⟨_, n16, v1, h1, -, ln16, rc, r⟩ := rn_call (m2 := 14) (as := [.int a3, .int 0, .int 1]) (rest := []) rfl rfl r
      obtain ⟨rfl, rfl⟩ := dn_14 rc
      have r : rn_s _ 98 (28, [some (.ref 1), some (.int a1), some (.int a2), some (.int a3), some (.int a4), some (.ref W6), none, none], [.int (fn_14 a3 0 1)], aa_H g) v h := r
      refine rn_if (iw_s v h) rfl decide_eq_true_iff.symm r (fun c18 l19n l19 r => ?_) (fun c18 l19n l19 r => ?_)
      · obtain ⟨n20, ln20, r⟩ := rn_steps 0 (42, [some (.ref 1), some (.int a1), some (.int a2), some (.int a3), some (.int a4), some (.ref W6), none, none], [.int (-1)], aa_H g) rfl r
        exact rn_ire rfl r
      · obtain ⟨n21, ln21, r⟩ := rn_steps 2 (35, [some (.ref 1), some (.int a1), some (.int a2), some (.int a3), some (.int a4), some (.ref W6), none, none], [.int 1, .int 0, .int a4], aa_H g) rfl r
        obtain ⟨_, n22, v1, h1, -, ln22, rc, r⟩ := rn_call (m2 := 14) (as := [.int a4, .int 0, .int 1]) (rest := []) rfl rfl r
        obtain ⟨rfl, rfl⟩ := dn_14 rc
        have r : rn_s _ 98 (38, [some (.ref 1), some (.int a1), some (.int a2), some (.int a3), some (.int a4), some (.ref W6), none, none], [.int (fn_14 a4 0 1)], aa_H g) v h := r
        refine rn_if (iw_s v h) rfl decide_eq_true_iff.symm r (fun c24 l25n l25 r => ?_) (fun c24 l25n l25 r => ?_)
        · obtain ⟨n26, ln26, r⟩ := rn_steps 4 (51, [some (.ref 1), some (.int a1), some (.int a2), some (.int a3), some (.int a4), some (.ref W6), none, none], [.int a3, .int a2, .ref W6, .ref 461], aa_H g) rfl r
          obtain ⟨_, n27, v1, h1, -, ln27, rc, r⟩ := rn_call (m2 := 78) (as := [.ref 461, .ref W6, .int a2, .int a3]) (rest := []) rfl rfl r
          obtain ⟨rfl, rfl⟩ := dn_78 sp_c461 (rn_o1 hw7) rc
          have r : rn_s _ 98 (54, [some (.ref 1), some (.int a1), some (.int a2), some (.int a3), some (.int a4), some (.ref W6), none, none], [], aa_H (fn_78 g 461 (some W6) a2 a3)) v h := r
          exact dn_98_54 (some (.int a1)) (some (.int a2)) (some (.int a3)) (some (.ref W6)) none none rn_ji rn_ji rn_ji rn_jr rn_jn rn_jn r
        · obtain ⟨n29, ln29, r⟩ := rn_steps 0 (42, [some (.ref 1), some (.int a1), some (.int a2), some (.int a3), some (.int a4), some (.ref W6), none, none], [.int (-1)], aa_H g) rfl r
          exact rn_ire rfl r
-- 100: UnequalHours Span hourBegins
noncomputable def fn_100 (g : aa_G) (P : Nat) (a1 : Int32) : Int32 := (g P 3) + ((((a1 * (g P 4)) + 12) - 1) / 12)
theorem dn_100 {v : Option Value} {h : zz_H} {n : Nat} {g : aa_G} {P : Nat} {a1 : Int32} (hP : sp_ok P) (r : rn_s n 100 (0, zz_in [.ref P, .int a1] (zz_nl 100), [], aa_H g) v h) : ir_s g v h (fn_100 g P a1) := by
  have r : rn_s n 100 (0, [some (.ref P), some (.int a1)], [], aa_H g) v h := r
  unfold fn_100
  obtain ⟨n1, ln1, r⟩ := rn_steps 0 (1, [some (.ref P), some (.int a1)], [.ref P], aa_H g) rfl r
  obtain ⟨n2, ln2, r⟩ := rn_gf rfl (sp_hk hP) (sp_hl hP) rfl r
  have r : rn_s _ 100 (4, [some (.ref P), some (.int a1)], [.int (g P 3)], aa_H g) v h := r
  obtain ⟨n3, ln3, r⟩ := rn_steps 1 (6, [some (.ref P), some (.int a1)], [.ref P, .int a1, .int (g P 3)], aa_H g) rfl r
  obtain ⟨n4, ln4, r⟩ := rn_gf rfl (sp_hk hP) (sp_hl hP) rfl r
  have r : rn_s _ 100 (9, [some (.ref P), some (.int a1)], [.int (g P 4), .int a1, .int (g P 3)], aa_H g) v h := r
  obtain ⟨n5, ln5, r⟩ := rn_steps 7 (19, [some (.ref P), some (.int a1)], [.int ((g P 3) + ((((a1 * (g P 4)) + 12) - 1) / 12))], aa_H g) rfl r
  exact rn_ire rfl r
-- 99: UnequalHours watch
noncomputable def fn_99_54 (g : aa_G) (b3 : Int32) (b4 : Int32) : Int32 × aa_G := if (g 461 0) ≠ 0 then if b4 ≠ 0 then ((fn_100 g 461 ((3 * b3) + 3)) - (fn_100 g 461 (3 * b3)), g) else (fn_100 g 461 (3 * b3), g) else (-2, g)
theorem dn_99_54 {v : Option Value} {h : zz_H} {n : Nat} {g : aa_G} {b3 : Int32} {b4 : Int32}  (x1 x2 x5 x6 : Option Value) (jx1 : rn_jk x1) (jx2 : rn_jk x2) (jx5 : rn_jk x5) (jx6 : rn_jk x6) (r : rn_s n 99 (54, [some (.ref 1), x1, x2, some (.int b3), some (.int b4), x5, x6], [], aa_H g) v h) : iw_s v h (fn_99_54 g b3 b4) := by
  unfold fn_99_54
  obtain ⟨n30, ln30, r⟩ := rn_steps 2 (61, [some (.ref 1), x1, x2, some (.int b3), some (.int b4), x5, x6], [.int (g 461 0)], aa_H g) rfl r
  refine rn_if (iw_s v h) rfl decide_eq_true_iff.symm r (fun c31 l32n l32 r => ?_) (fun c31 l32n l32 r => ?_)
  · obtain ⟨n33, ln33, r⟩ := rn_steps 4 (74, [some (.ref 1), x1, x2, some (.int b3), some (.int b4), x5, x6], [.int (3 * b3), .ref 461], aa_H g) rfl r
    obtain ⟨_, n34, v1, h1, -, ln34, rc, r⟩ := rn_call (m2 := 100) (as := [.ref 461, .int (3 * b3)]) (rest := []) rfl rfl r
    obtain ⟨rfl, rfl⟩ := dn_100 sp_c461 rc
    have r : rn_s _ 99 (77, [some (.ref 1), x1, x2, some (.int b3), some (.int b4), x5, x6], [.int (fn_100 g 461 (3 * b3))], aa_H g) v h := r
    obtain ⟨n36, ln36, r⟩ := rn_isx (i := 6) rfl rfl jx5 rfl ⟨Nat.le_of_ble_eq_true rfl, Nat.le_of_ble_eq_true rfl⟩ r
    have r : rn_s _ 99 (79, [some (.ref 1), x1, x2, some (.int b3), some (.int b4), x5, some (.int (fn_100 g 461 (3 * b3)))], [], aa_H g) v h := r
    obtain ⟨n37, ln37, r⟩ := rn_steps 0 (81, [some (.ref 1), x1, x2, some (.int b3), some (.int b4), x5, some (.int (fn_100 g 461 (3 * b3)))], [.int b4], aa_H g) rfl r
    refine rn_if (iw_s v h) rfl decide_eq_true_iff.symm r (fun c38 l39n l39 r => ?_) (fun c38 l39n l39 r => ?_)
    · obtain ⟨n40, ln40, r⟩ := rn_steps 6 (98, [some (.ref 1), x1, x2, some (.int b3), some (.int b4), x5, some (.int (fn_100 g 461 (3 * b3)))], [.int ((3 * b3) + 3), .ref 461], aa_H g) rfl r
      obtain ⟨_, n41, v1, h1, -, ln41, rc, r⟩ := rn_call (m2 := 100) (as := [.ref 461, .int ((3 * b3) + 3)]) (rest := []) rfl rfl r
      obtain ⟨rfl, rfl⟩ := dn_100 sp_c461 rc
      have r : rn_s _ 99 (101, [some (.ref 1), x1, x2, some (.int b3), some (.int b4), x5, some (.int (fn_100 g 461 (3 * b3)))], [.int (fn_100 g 461 ((3 * b3) + 3))], aa_H g) v h := r
      obtain ⟨n43, ln43, r⟩ := rn_steps 1 (104, [some (.ref 1), x1, x2, some (.int b3), some (.int b4), x5, some (.int (fn_100 g 461 (3 * b3)))], [.int ((fn_100 g 461 ((3 * b3) + 3)) - (fn_100 g 461 (3 * b3)))], aa_H g) rfl r
      exact rn_ire rfl r
    · obtain ⟨n44, ln44, r⟩ := rn_steps 1 (104, [some (.ref 1), x1, x2, some (.int b3), some (.int b4), x5, some (.int (fn_100 g 461 (3 * b3)))], [.int (fn_100 g 461 (3 * b3))], aa_H g) rfl r
      exact rn_ire rfl r
  · obtain ⟨n45, ln45, r⟩ := rn_steps 0 (66, [some (.ref 1), x1, x2, some (.int b3), some (.int b4), x5, x6], [.int (-2)], aa_H g) rfl r
    exact rn_ire rfl r
noncomputable def fn_99 (g : aa_G) (a1 : Int32) (a2 : Int32) (a3 : Int32) (a4 : Int32) : Int32 × aa_G := (match fn_31 g a1 with | none => ((-1, g)) | some W6 => (if (fn_77 a2) = 0 then (-1, g) else if (fn_14 a3 0 3) = 0 then (-1, g) else if (fn_14 a4 0 1) ≠ 0 then fn_99_54 (fn_78 g 461 (some W6) a2 1) a3 a4 else (-1, g)))
theorem dn_99 {v : Option Value} {h : zz_H} {n : Nat} {g : aa_G} {a1 : Int32} {a2 : Int32} {a3 : Int32} {a4 : Int32}  (r : rn_s n 99 (0, zz_in [.ref 1, .int a1, .int a2, .int a3, .int a4] (zz_nl 99), [], aa_H g) v h) : iw_s v h (fn_99 g a1 a2 a3 a4) := by
  have r : rn_s n 99 (0, [some (.ref 1), some (.int a1), some (.int a2), some (.int a3), some (.int a4), none, none], [], aa_H g) v h := r
  unfold fn_99
  obtain ⟨n1, ln1, r⟩ := rn_steps 2 (5, [some (.ref 1), some (.int a1), some (.int a2), some (.int a3), some (.int a4), none, none], [.int a1, .ref 2], aa_H g) rfl r
  obtain ⟨_, n2, v1, h1, -, ln2, rc, r⟩ := rn_call (m2 := 31) (as := [.ref 2, .int a1]) (rest := []) rfl rfl r
  obtain ⟨rfl, rfl, ho4⟩ := dn_31 rc
  have r : rn_s _ 99 (8, [some (.ref 1), some (.int a1), some (.int a2), some (.int a3), some (.int a4), none, none], [zz_val (fn_31 g a1)], aa_H g) v h := r
  cases e5 : fn_31 g a1 with
  | none =>
    rw [e5] at r
    have r : rn_s _ 99 (8, [some (.ref 1), some (.int a1), some (.int a2), some (.int a3), some (.int a4), none, none], [.null], aa_H g) v h := r
    dsimp only
    obtain ⟨n8, ln8, r⟩ := rn_steps 3 (42, [some (.ref 1), some (.int a1), some (.int a2), some (.int a3), some (.int a4), some (.null), none], [.int (-1)], aa_H g) rfl r
    exact rn_ire rfl r
  | some W6 =>
    rw [e5] at r
    have hw7 : ct_tw W6 := ho4 _ e5
    have r : rn_s _ 99 (8, [some (.ref 1), some (.int a1), some (.int a2), some (.int a3), some (.int a4), none, none], [.ref W6], aa_H g) v h := r
    dsimp only
    obtain ⟨n9, ln9, r⟩ := rn_steps 3 (16, [some (.ref 1), some (.int a1), some (.int a2), some (.int a3), some (.int a4), some (.ref W6), none], [.int a2], aa_H g) rfl r
    obtain ⟨_, n10, v1, h1, -, ln10, rc, r⟩ := rn_call (m2 := 77) (as := [.int a2]) (rest := []) rfl rfl r
    obtain ⟨rfl, rfl⟩ := dn_77 rc
    have r : rn_s _ 99 (19, [some (.ref 1), some (.int a1), some (.int a2), some (.int a3), some (.int a4), some (.ref W6), none], [.int (fn_77 a2)], aa_H g) v h := r
    refine rn_if (iw_s v h) rfl decide_eq_true_iff.symm r (fun c12 l13n l13 r => ?_) (fun c12 l13n l13 r => ?_)
    · obtain ⟨n14, ln14, r⟩ := rn_steps 0 (42, [some (.ref 1), some (.int a1), some (.int a2), some (.int a3), some (.int a4), some (.ref W6), none], [.int (-1)], aa_H g) rfl r
      exact rn_ire rfl r
    · obtain ⟨n15, ln15, r⟩ := rn_steps 2 (25, [some (.ref 1), some (.int a1), some (.int a2), some (.int a3), some (.int a4), some (.ref W6), none], [.int 3, .int 0, .int a3], aa_H g) rfl r
      obtain ⟨_, n16, v1, h1, -, ln16, rc, r⟩ := rn_call (m2 := 14) (as := [.int a3, .int 0, .int 3]) (rest := []) rfl rfl r
      obtain ⟨rfl, rfl⟩ := dn_14 rc
      have r : rn_s _ 99 (28, [some (.ref 1), some (.int a1), some (.int a2), some (.int a3), some (.int a4), some (.ref W6), none], [.int (fn_14 a3 0 3)], aa_H g) v h := r
      refine rn_if (iw_s v h) rfl decide_eq_true_iff.symm r (fun c18 l19n l19 r => ?_) (fun c18 l19n l19 r => ?_)
      · obtain ⟨n20, ln20, r⟩ := rn_steps 0 (42, [some (.ref 1), some (.int a1), some (.int a2), some (.int a3), some (.int a4), some (.ref W6), none], [.int (-1)], aa_H g) rfl r
        exact rn_ire rfl r
      · obtain ⟨n21, ln21, r⟩ := rn_steps 2 (35, [some (.ref 1), some (.int a1), some (.int a2), some (.int a3), some (.int a4), some (.ref W6), none], [.int 1, .int 0, .int a4], aa_H g) rfl r
        obtain ⟨_, n22, v1, h1, -, ln22, rc, r⟩ := rn_call (m2 := 14) (as := [.int a4, .int 0, .int 1]) (rest := []) rfl rfl r
        obtain ⟨rfl, rfl⟩ := dn_14 rc
        have r : rn_s _ 99 (38, [some (.ref 1), some (.int a1), some (.int a2), some (.int a3), some (.int a4), some (.ref W6), none], [.int (fn_14 a4 0 1)], aa_H g) v h := r
        refine rn_if (iw_s v h) rfl decide_eq_true_iff.symm r (fun c24 l25n l25 r => ?_) (fun c24 l25n l25 r => ?_)
        · obtain ⟨n26, ln26, r⟩ := rn_steps 4 (51, [some (.ref 1), some (.int a1), some (.int a2), some (.int a3), some (.int a4), some (.ref W6), none], [.int 1, .int a2, .ref W6, .ref 461], aa_H g) rfl r
          obtain ⟨_, n27, v1, h1, -, ln27, rc, r⟩ := rn_call (m2 := 78) (as := [.ref 461, .ref W6, .int a2, .int 1]) (rest := []) rfl rfl r
          obtain ⟨rfl, rfl⟩ := dn_78 sp_c461 (rn_o1 hw7) rc
          have r : rn_s _ 99 (54, [some (.ref 1), some (.int a1), some (.int a2), some (.int a3), some (.int a4), some (.ref W6), none], [], aa_H (fn_78 g 461 (some W6) a2 1)) v h := r
          exact dn_99_54 (some (.int a1)) (some (.int a2)) (some (.ref W6)) none rn_ji rn_ji rn_jr rn_jn r
        · obtain ⟨n29, ln29, r⟩ := rn_steps 0 (42, [some (.ref 1), some (.int a1), some (.int a2), some (.int a3), some (.int a4), some (.ref W6), none], [.int (-1)], aa_H g) rfl r
          exact rn_ire rfl r
-- 101: UnequalHours until
noncomputable def fn_101_114 (g : aa_G) (b2 : Int32) (b3 : Int32) (b4 : Int32) (b5 : Int32) (B6 : Nat) (b7 : Int32) : (aa_G × Int32) ⊕ (Int32 × aa_G) := .inl (g, b7 + 1)
theorem dn_101_114 {v : Option Value} {h : zz_H} {n : Nat} {g : aa_G} {b2 : Int32} {b3 : Int32} {b4 : Int32} {b5 : Int32} {B6 : Nat} {b7 : Int32} (P : (aa_G × Int32) ⊕ (Int32 × aa_G) → Prop) (hO0 : ∀ n2, n2 < n → ∀ (yg : aa_G) (yb7 : Int32) (yx1 yx8 : Option Value) (_ : rn_jk yx1) (_ : rn_jk yx8), rn_s n2 101 (45, [some (.ref 1), yx1, some (.int b2), some (.int b3), some (.int b4), some (.int b5), some (.ref B6), some (.int yb7), yx8], [], aa_H yg) v h → P (.inl (yg, yb7))) (hR : ∀ E, iw_s v h E → P (.inr E)) (hB6 : ct_tw B6) (x1 x8 : Option Value) (jx1 : rn_jk x1) (jx8 : rn_jk x8) (r : rn_s n 101 (114, [some (.ref 1), x1, some (.int b2), some (.int b3), some (.int b4), some (.int b5), some (.ref B6), some (.int b7), x8], [], aa_H g) v h) : P (fn_101_114 g b2 b3 b4 b5 B6 b7) := by
  unfold fn_101_114
  obtain ⟨n45, ln45, r⟩ := rn_steps 1 (45, [some (.ref 1), x1, some (.int b2), some (.int b3), some (.int b4), some (.int b5), some (.ref B6), some (.int (b7 + 1)), x8], [], aa_H g) rfl r
  exact hO0 _ (by omega) g (b7 + 1) x1 x8 jx1 jx8 r
noncomputable def fn_101_66 (g : aa_G) (b2 : Int32) (b3 : Int32) (b4 : Int32) (b5 : Int32) (B6 : Nat) (b7 : Int32) : (aa_G × Int32) ⊕ (Int32 × aa_G) := if (fn_92 g 461 b5 (g 2 1)) = (-2) then fn_101_114 g b2 b3 b4 b5 B6 b7 else if ((fn_92 g 461 b5 (g 2 1)) + (b7 * 86400)) < b3 then fn_101_114 g b2 b3 b4 b5 B6 b7 else .inr (((fn_92 g 461 b5 (g 2 1)) + (b7 * 86400)) - b3, g)
theorem dn_101_66 {v : Option Value} {h : zz_H} {n : Nat} {g : aa_G} {b2 : Int32} {b3 : Int32} {b4 : Int32} {b5 : Int32} {B6 : Nat} {b7 : Int32} (P : (aa_G × Int32) ⊕ (Int32 × aa_G) → Prop) (hO0 : ∀ n2, n2 < n → ∀ (yg : aa_G) (yb7 : Int32) (yx1 yx8 : Option Value) (_ : rn_jk yx1) (_ : rn_jk yx8), rn_s n2 101 (45, [some (.ref 1), yx1, some (.int b2), some (.int b3), some (.int b4), some (.int b5), some (.ref B6), some (.int yb7), yx8], [], aa_H yg) v h → P (.inl (yg, yb7))) (hR : ∀ E, iw_s v h E → P (.inr E)) (hB6 : ct_tw B6) (x1 x8 : Option Value) (jx1 : rn_jk x1) (jx8 : rn_jk x8) (r : rn_s n 101 (66, [some (.ref 1), x1, some (.int b2), some (.int b3), some (.int b4), some (.int b5), some (.ref B6), some (.int b7), x8], [], aa_H g) v h) : P (fn_101_66 g b2 b3 b4 b5 B6 b7) := by
  unfold fn_101_66
  obtain ⟨n35, ln35, r⟩ := rn_steps 5 (79, [some (.ref 1), x1, some (.int b2), some (.int b3), some (.int b4), some (.int b5), some (.ref B6), some (.int b7), x8], [.int (g 2 1), .int b5, .ref 461], aa_H g) rfl r
  obtain ⟨_, n36, v1, h1, -, ln36, rc, r⟩ := rn_call (m2 := 92) (as := [.ref 461, .int b5, .int (g 2 1)]) (rest := []) rfl rfl r
  obtain ⟨rfl, rfl⟩ := dn_92 sp_c461 rc
  have r : rn_s _ 101 (82, [some (.ref 1), x1, some (.int b2), some (.int b3), some (.int b4), some (.int b5), some (.ref B6), some (.int b7), x8], [.int (fn_92 g 461 b5 (g 2 1))], aa_H g) v h := r
  obtain ⟨n38, ln38, r⟩ := rn_steps 2 (88, [some (.ref 1), x1, some (.int b2), some (.int b3), some (.int b4), some (.int b5), some (.ref B6), some (.int b7), some (.int (fn_92 g 461 b5 (g 2 1)))], [.int (-2), .int (fn_92 g 461 b5 (g 2 1))], aa_H g) rfl r
  refine rn_ic (P) rfl decide_eq_true_iff.symm r (fun c39 l40n l40 r => ?_) (fun c39 l40n l40 r => ?_)
  · exact dn_101_114 (P) (fun n2 l2 => hO0 n2 (by omega)) (fun z hz => hR _ hz) hB6 x1 (some (.int (fn_92 g 461 b5 (g 2 1)))) jx1 rn_ji r
  · obtain ⟨n41, ln41, r⟩ := rn_steps 5 (100, [some (.ref 1), x1, some (.int b2), some (.int b3), some (.int b4), some (.int b5), some (.ref B6), some (.int b7), some (.int (fn_92 g 461 b5 (g 2 1)))], [.int b3, .int ((fn_92 g 461 b5 (g 2 1)) + (b7 * 86400))], aa_H g) rfl r
    refine rn_ic (P) rfl decide_eq_true_iff.symm r (fun c42 l43n l43 r => ?_) (fun c42 l43n l43 r => ?_)
    · exact dn_101_114 (P) (fun n2 l2 => hO0 n2 (by omega)) (fun z hz => hR _ hz) hB6 x1 (some (.int (fn_92 g 461 b5 (g 2 1)))) jx1 rn_ji r
    · obtain ⟨n44, ln44, r⟩ := rn_steps 6 (113, [some (.ref 1), x1, some (.int b2), some (.int b3), some (.int b4), some (.int b5), some (.ref B6), some (.int b7), some (.int (fn_92 g 461 b5 (g 2 1)))], [.int (((fn_92 g 461 b5 (g 2 1)) + (b7 * 86400)) - b3)], aa_H g) rfl r
      exact hR _ (rn_ire rfl r)
noncomputable def fn_101_45b (g : aa_G) (b2 : Int32) (b3 : Int32) (b4 : Int32) (b5 : Int32) (B6 : Nat) (b7 : Int32) : (aa_G × Int32) ⊕ (Int32 × aa_G) := if 2 < b7 then .inr (-2, g) else fn_101_66 (fn_78 g 461 (some B6) (b2 + b7) b4) b2 b3 b4 b5 B6 b7
noncomputable def fn_101_45 (g : aa_G) (b2 : Int32) (b3 : Int32) (b4 : Int32) (b5 : Int32) (B6 : Nat) (b7 : Int32) : Int32 × aa_G := lp_f (0, g) (fun z : (aa_G × Int32) => fn_101_45b z.1 b2 b3 b4 b5 B6 z.2) (g, b7)
theorem dn_101_45l {v : Option Value} {h : zz_H} {N : Nat} {b2 : Int32} {b3 : Int32} {b4 : Int32} {b5 : Int32} {B6 : Nat} (hB6 : ct_tw B6) {d : Int32 × aa_G} : ∀ (n : Nat), n ≤ N → ∀ (g : aa_G) (b7 : Int32) (x1 x8 : Option Value) (jx1 : rn_jk x1) (jx8 : rn_jk x8), rn_s n 101 (45, [some (.ref 1), x1, some (.int b2), some (.int b3), some (.int b4), some (.int b5), some (.ref B6), some (.int b7), x8], [], aa_H g) v h → (iw_s v h) (lp_f d (fun z : (aa_G × Int32) => fn_101_45b z.1 b2 b3 b4 b5 B6 z.2) (g, b7)) := by
  generalize hf : (fun z : (aa_G × Int32) => fn_101_45b z.1 b2 b3 b4 b5 B6 z.2) = f
  intro n
  induction n using Nat.strongRecOn with
  | _ n ih =>
    intro hN g b7 x1 x8 jx1 jx8 r
    refine lp_go ?_
    rw [← congrFun hf (g, b7)]
    show lp_q (iw_s v h) d f (fn_101_45b g b2 b3 b4 b5 B6 b7)
    unfold fn_101_45b
    obtain ⟨n28, ln28, r⟩ := rn_steps 1 (48, [some (.ref 1), x1, some (.int b2), some (.int b3), some (.int b4), some (.int b5), some (.ref B6), some (.int b7), x8], [.int 2, .int b7], aa_H g) rfl r
    refine rn_ic (lp_q (iw_s v h) d f) rfl decide_eq_true_iff.symm r (fun c29 l30n l30 r => ?_) (fun c29 l30n l30 r => ?_)
    · obtain ⟨n31, ln31, r⟩ := rn_steps 0 (122, [some (.ref 1), x1, some (.int b2), some (.int b3), some (.int b4), some (.int b5), some (.ref B6), some (.int b7), x8], [.int (-2)], aa_H g) rfl r
      exact rn_ire rfl r
    · obtain ⟨n32, ln32, r⟩ := rn_steps 6 (63, [some (.ref 1), x1, some (.int b2), some (.int b3), some (.int b4), some (.int b5), some (.ref B6), some (.int b7), x8], [.int b4, .int (b2 + b7), .ref B6, .ref 461], aa_H g) rfl r
      obtain ⟨_, n33, v1, h1, -, ln33, rc, r⟩ := rn_call (m2 := 78) (as := [.ref 461, .ref B6, .int (b2 + b7), .int b4]) (rest := []) rfl rfl r
      obtain ⟨rfl, rfl⟩ := dn_78 sp_c461 (rn_o1 hB6) rc
      have r : rn_s _ 101 (66, [some (.ref 1), x1, some (.int b2), some (.int b3), some (.int b4), some (.int b5), some (.ref B6), some (.int b7), x8], [], aa_H (fn_78 g 461 (some B6) (b2 + b7) b4)) v h := r
      exact dn_101_66 (lp_q (iw_s v h) d f) (fun n2 l2 => ih n2 (by omega) (by omega)) (fun z hz => hz) hB6 x1 x8 jx1 jx8 r
theorem dn_101_45 {v : Option Value} {h : zz_H} {n : Nat} {g : aa_G} {b2 : Int32} {b3 : Int32} {b4 : Int32} {b5 : Int32} {B6 : Nat} {b7 : Int32} (hB6 : ct_tw B6) (x1 x8 : Option Value) (jx1 : rn_jk x1) (jx8 : rn_jk x8) (r : rn_s n 101 (45, [some (.ref 1), x1, some (.int b2), some (.int b3), some (.int b4), some (.int b5), some (.ref B6), some (.int b7), x8], [], aa_H g) v h) : (iw_s v h) (fn_101_45 g b2 b3 b4 b5 B6 b7) := dn_101_45l hB6 n (Nat.le_refl n) g b7 x1 x8 jx1 jx8 r
noncomputable def fn_101 (g : aa_G) (a1 : Int32) (a2 : Int32) (a3 : Int32) (a4 : Int32) (a5 : Int32) : Int32 × aa_G := (match fn_31 g a1 with | none => ((-1, g)) | some W6 => (if (fn_77 a2) = 0 then (-1, g) else if (fn_66 a3) = 0 then (-1, g) else if (fn_91 g a4 a5) ≠ 0 then fn_101_45 g a2 a3 a4 a5 W6 (-1) else (-1, g)))
theorem dn_101 {v : Option Value} {h : zz_H} {n : Nat} {g : aa_G} {a1 : Int32} {a2 : Int32} {a3 : Int32} {a4 : Int32} {a5 : Int32}  (r : rn_s n 101 (0, zz_in [.ref 1, .int a1, .int a2, .int a3, .int a4, .int a5] (zz_nl 101), [], aa_H g) v h) : iw_s v h (fn_101 g a1 a2 a3 a4 a5) := by
  have r : rn_s n 101 (0, [some (.ref 1), some (.int a1), some (.int a2), some (.int a3), some (.int a4), some (.int a5), none, none, none], [], aa_H g) v h := r
  unfold fn_101
  obtain ⟨n1, ln1, r⟩ := rn_steps 2 (5, [some (.ref 1), some (.int a1), some (.int a2), some (.int a3), some (.int a4), some (.int a5), none, none, none], [.int a1, .ref 2], aa_H g) rfl r
  obtain ⟨_, n2, v1, h1, -, ln2, rc, r⟩ := rn_call (m2 := 31) (as := [.ref 2, .int a1]) (rest := []) rfl rfl r
  obtain ⟨rfl, rfl, ho4⟩ := dn_31 rc
  have r : rn_s _ 101 (8, [some (.ref 1), some (.int a1), some (.int a2), some (.int a3), some (.int a4), some (.int a5), none, none, none], [zz_val (fn_31 g a1)], aa_H g) v h := r
  cases e5 : fn_31 g a1 with
  | none =>
    rw [e5] at r
    have r : rn_s _ 101 (8, [some (.ref 1), some (.int a1), some (.int a2), some (.int a3), some (.int a4), some (.int a5), none, none, none], [.null], aa_H g) v h := r
    dsimp only
    obtain ⟨n8, ln8, r⟩ := rn_steps 3 (41, [some (.ref 1), some (.int a1), some (.int a2), some (.int a3), some (.int a4), some (.int a5), some (.null), none, none], [.int (-1)], aa_H g) rfl r
    exact rn_ire rfl r
  | some W6 =>
    rw [e5] at r
    have hw7 : ct_tw W6 := ho4 _ e5
    have r : rn_s _ 101 (8, [some (.ref 1), some (.int a1), some (.int a2), some (.int a3), some (.int a4), some (.int a5), none, none, none], [.ref W6], aa_H g) v h := r
    dsimp only
    obtain ⟨n9, ln9, r⟩ := rn_steps 3 (16, [some (.ref 1), some (.int a1), some (.int a2), some (.int a3), some (.int a4), some (.int a5), some (.ref W6), none, none], [.int a2], aa_H g) rfl r
    obtain ⟨_, n10, v1, h1, -, ln10, rc, r⟩ := rn_call (m2 := 77) (as := [.int a2]) (rest := []) rfl rfl r
    obtain ⟨rfl, rfl⟩ := dn_77 rc
    have r : rn_s _ 101 (19, [some (.ref 1), some (.int a1), some (.int a2), some (.int a3), some (.int a4), some (.int a5), some (.ref W6), none, none], [.int (fn_77 a2)], aa_H g) v h := r
    refine rn_if (iw_s v h) rfl decide_eq_true_iff.symm r (fun c12 l13n l13 r => ?_) (fun c12 l13n l13 r => ?_)
    · obtain ⟨n14, ln14, r⟩ := rn_steps 0 (41, [some (.ref 1), some (.int a1), some (.int a2), some (.int a3), some (.int a4), some (.int a5), some (.ref W6), none, none], [.int (-1)], aa_H g) rfl r
      exact rn_ire rfl r
    · obtain ⟨n15, ln15, r⟩ := rn_steps 0 (23, [some (.ref 1), some (.int a1), some (.int a2), some (.int a3), some (.int a4), some (.int a5), some (.ref W6), none, none], [.int a3], aa_H g) rfl r
      obtain ⟨_, n16, v1, h1, -, ln16, rc, r⟩ := rn_call (m2 := 66) (as := [.int a3]) (rest := []) rfl rfl r
      obtain ⟨rfl, rfl⟩ := dn_66 rc
      have r : rn_s _ 101 (26, [some (.ref 1), some (.int a1), some (.int a2), some (.int a3), some (.int a4), some (.int a5), some (.ref W6), none, none], [.int (fn_66 a3)], aa_H g) v h := r
      refine rn_if (iw_s v h) rfl decide_eq_true_iff.symm r (fun c18 l19n l19 r => ?_) (fun c18 l19n l19 r => ?_)
      · obtain ⟨n20, ln20, r⟩ := rn_steps 0 (41, [some (.ref 1), some (.int a1), some (.int a2), some (.int a3), some (.int a4), some (.int a5), some (.ref W6), none, none], [.int (-1)], aa_H g) rfl r
        exact rn_ire rfl r
      · obtain ⟨n21, ln21, r⟩ := rn_steps 2 (34, [some (.ref 1), some (.int a1), some (.int a2), some (.int a3), some (.int a4), some (.int a5), some (.ref W6), none, none], [.int a5, .int a4, .ref 1], aa_H g) rfl r
        obtain ⟨_, n22, v1, h1, -, ln22, rc, r⟩ := rn_call (m2 := 91) (as := [.ref 1, .int a4, .int a5]) (rest := []) rfl rfl r
        obtain ⟨rfl, rfl⟩ := dn_91 rc
        have r : rn_s _ 101 (37, [some (.ref 1), some (.int a1), some (.int a2), some (.int a3), some (.int a4), some (.int a5), some (.ref W6), none, none], [.int (fn_91 g a4 a5)], aa_H g) v h := r
        refine rn_if (iw_s v h) rfl decide_eq_true_iff.symm r (fun c24 l25n l25 r => ?_) (fun c24 l25n l25 r => ?_)
        · obtain ⟨n26, ln26, r⟩ := rn_steps 1 (45, [some (.ref 1), some (.int a1), some (.int a2), some (.int a3), some (.int a4), some (.int a5), some (.ref W6), some (.int (-1)), none], [], aa_H g) rfl r
          exact dn_101_45 hw7 (some (.int a1)) none rn_ji rn_jn r
        · obtain ⟨n27, ln27, r⟩ := rn_steps 0 (41, [some (.ref 1), some (.int a1), some (.int a2), some (.int a3), some (.int a4), some (.int a5), some (.ref W6), none, none], [.int (-1)], aa_H g) rfl r
          exact rn_ire rfl r
-- 120: UnequalHours jar
noncomputable def fn_120_73 (g : aa_G) (b4 : Int32) (b5 : Int32) : Int32 × aa_G := if (g 461 0) = 0 then (-100, g) else if (g 462 0) = 0 then (-100, g) else if (fn_14 (b4 - (g 462 3)) 0 ((g 462 4) - 1)) ≠ 0 then if b5 ≠ 0 then ((if 12 < (fn_88 g 461 (b4 - (g 462 3)) 1) then 12 else (fn_88 g 461 (b4 - (g 462 3)) 1)) - (fn_88 g 462 (b4 - (g 462 3)) 1), g) else (if 12 < (fn_88 g 461 (b4 - (g 462 3)) 1) then 12 else (fn_88 g 461 (b4 - (g 462 3)) 1), g) else (-100, g)
theorem dn_120_73 {v : Option Value} {h : zz_H} {n : Nat} {g : aa_G} {b4 : Int32} {b5 : Int32}  (x1 x2 x3 x6 x7 x8 : Option Value) (jx1 : rn_jk x1) (jx2 : rn_jk x2) (jx3 : rn_jk x3) (jx6 : rn_jk x6) (jx7 : rn_jk x7) (jx8 : rn_jk x8) (r : rn_s n 120 (73, [some (.ref 1), x1, x2, x3, some (.int b4), some (.int b5), x6, x7, x8], [], aa_H g) v h) : iw_s v h (fn_120_73 g b4 b5) := by
  unfold fn_120_73
  obtain ⟨n39, ln39, r⟩ := rn_steps 4 (83, [some (.ref 1), x1, x2, x3, some (.int b4), some (.int b5), x6, x7, x8], [.int (b4 - (g 462 3))], aa_H g) rfl r
  obtain ⟨n40, ln40, r⟩ := rn_isx (i := 7) rfl rfl jx6 rfl ⟨Nat.le_of_ble_eq_true rfl, Nat.le_of_ble_eq_true rfl⟩ r
  have r : rn_s _ 120 (85, [some (.ref 1), x1, x2, x3, some (.int b4), some (.int b5), x6, some (.int (b4 - (g 462 3))), x8], [], aa_H g) v h := r
  obtain ⟨n41, ln41, r⟩ := rn_steps 2 (92, [some (.ref 1), x1, x2, x3, some (.int b4), some (.int b5), x6, some (.int (b4 - (g 462 3))), x8], [.int (g 461 0)], aa_H g) rfl r
  refine rn_if (iw_s v h) rfl decide_eq_true_iff.symm r (fun c42 l43n l43 r => ?_) (fun c42 l43n l43 r => ?_)
  · obtain ⟨n44, ln44, r⟩ := rn_steps 0 (125, [some (.ref 1), x1, x2, x3, some (.int b4), some (.int b5), x6, some (.int (b4 - (g 462 3))), x8], [.int (-100)], aa_H g) rfl r
    exact rn_ire rfl r
  · obtain ⟨n45, ln45, r⟩ := rn_steps 2 (102, [some (.ref 1), x1, x2, x3, some (.int b4), some (.int b5), x6, some (.int (b4 - (g 462 3))), x8], [.int (g 462 0)], aa_H g) rfl r
    refine rn_if (iw_s v h) rfl decide_eq_true_iff.symm r (fun c46 l47n l47 r => ?_) (fun c46 l47n l47 r => ?_)
    · obtain ⟨n48, ln48, r⟩ := rn_steps 0 (125, [some (.ref 1), x1, x2, x3, some (.int b4), some (.int b5), x6, some (.int (b4 - (g 462 3))), x8], [.int (-100)], aa_H g) rfl r
      exact rn_ire rfl r
    · obtain ⟨n49, ln49, r⟩ := rn_steps 6 (117, [some (.ref 1), x1, x2, x3, some (.int b4), some (.int b5), x6, some (.int (b4 - (g 462 3))), x8], [.int ((g 462 4) - 1), .int 0, .int (b4 - (g 462 3))], aa_H g) rfl r
      obtain ⟨_, n50, v1, h1, -, ln50, rc, r⟩ := rn_call (m2 := 14) (as := [.int (b4 - (g 462 3)), .int 0, .int ((g 462 4) - 1)]) (rest := []) rfl rfl r
      obtain ⟨rfl, rfl⟩ := dn_14 rc
      have r : rn_s _ 120 (120, [some (.ref 1), x1, x2, x3, some (.int b4), some (.int b5), x6, some (.int (b4 - (g 462 3))), x8], [.int (fn_14 (b4 - (g 462 3)) 0 ((g 462 4) - 1))], aa_H g) v h := r
      refine rn_if (iw_s v h) rfl decide_eq_true_iff.symm r (fun c52 l53n l53 r => ?_) (fun c52 l53n l53 r => ?_)
      · obtain ⟨n54, ln54, r⟩ := rn_steps 3 (133, [some (.ref 1), x1, x2, x3, some (.int b4), some (.int b5), x6, some (.int (b4 - (g 462 3))), x8], [.int 1, .int (b4 - (g 462 3)), .ref 461], aa_H g) rfl r
        obtain ⟨_, n55, v1, h1, -, ln55, rc, r⟩ := rn_call (m2 := 88) (as := [.ref 461, .int (b4 - (g 462 3)), .int 1]) (rest := []) rfl rfl r
        obtain ⟨rfl, rfl⟩ := dn_88 sp_c461 rc
        have r : rn_s _ 120 (136, [some (.ref 1), x1, x2, x3, some (.int b4), some (.int b5), x6, some (.int (b4 - (g 462 3))), x8], [.int (fn_88 g 461 (b4 - (g 462 3)) 1)], aa_H g) v h := r
        obtain ⟨n57, ln57, r⟩ := rn_steps 3 (145, [some (.ref 1), x1, x2, x3, some (.int b4), some (.int b5), x6, some (.int (b4 - (g 462 3))), some (.int (if 12 < (fn_88 g 461 (b4 - (g 462 3)) 1) then 12 else (fn_88 g 461 (b4 - (g 462 3)) 1)))], [.int b5], aa_H g) rfl r
        refine rn_if (iw_s v h) rfl decide_eq_true_iff.symm r (fun c58 l59n l59 r => ?_) (fun c58 l59n l59 r => ?_)
        · obtain ⟨n60, ln60, r⟩ := rn_steps 4 (162, [some (.ref 1), x1, x2, x3, some (.int b4), some (.int b5), x6, some (.int (b4 - (g 462 3))), some (.int (if 12 < (fn_88 g 461 (b4 - (g 462 3)) 1) then 12 else (fn_88 g 461 (b4 - (g 462 3)) 1)))], [.int 1, .int (b4 - (g 462 3)), .ref 462, .int (if 12 < (fn_88 g 461 (b4 - (g 462 3)) 1) then 12 else (fn_88 g 461 (b4 - (g 462 3)) 1))], aa_H g) rfl r
          obtain ⟨_, n61, v1, h1, -, ln61, rc, r⟩ := rn_call (m2 := 88) (as := [.ref 462, .int (b4 - (g 462 3)), .int 1]) (rest := [.int (if 12 < (fn_88 g 461 (b4 - (g 462 3)) 1) then 12 else (fn_88 g 461 (b4 - (g 462 3)) 1))]) rfl rfl r
          obtain ⟨rfl, rfl⟩ := dn_88 sp_c462 rc
          have r : rn_s _ 120 (165, [some (.ref 1), x1, x2, x3, some (.int b4), some (.int b5), x6, some (.int (b4 - (g 462 3))), some (.int (if 12 < (fn_88 g 461 (b4 - (g 462 3)) 1) then 12 else (fn_88 g 461 (b4 - (g 462 3)) 1)))], [.int (fn_88 g 462 (b4 - (g 462 3)) 1), .int (if 12 < (fn_88 g 461 (b4 - (g 462 3)) 1) then 12 else (fn_88 g 461 (b4 - (g 462 3)) 1))], aa_H g) v h := r
          obtain ⟨n63, ln63, r⟩ := rn_steps 0 (166, [some (.ref 1), x1, x2, x3, some (.int b4), some (.int b5), x6, some (.int (b4 - (g 462 3))), some (.int (if 12 < (fn_88 g 461 (b4 - (g 462 3)) 1) then 12 else (fn_88 g 461 (b4 - (g 462 3)) 1)))], [.int ((if 12 < (fn_88 g 461 (b4 - (g 462 3)) 1) then 12 else (fn_88 g 461 (b4 - (g 462 3)) 1)) - (fn_88 g 462 (b4 - (g 462 3)) 1))], aa_H g) rfl r
          exact rn_ire rfl r
        · obtain ⟨n64, ln64, r⟩ := rn_steps 1 (166, [some (.ref 1), x1, x2, x3, some (.int b4), some (.int b5), x6, some (.int (b4 - (g 462 3))), some (.int (if 12 < (fn_88 g 461 (b4 - (g 462 3)) 1) then 12 else (fn_88 g 461 (b4 - (g 462 3)) 1)))], [.int (if 12 < (fn_88 g 461 (b4 - (g 462 3)) 1) then 12 else (fn_88 g 461 (b4 - (g 462 3)) 1))], aa_H g) rfl r
          exact rn_ire rfl r
      · obtain ⟨n65, ln65, r⟩ := rn_steps 0 (125, [some (.ref 1), x1, x2, x3, some (.int b4), some (.int b5), x6, some (.int (b4 - (g 462 3))), x8], [.int (-100)], aa_H g) rfl r
        exact rn_ire rfl r
noncomputable def fn_120_62 (g : aa_G) (b3 : Int32) (b4 : Int32) (b5 : Int32) (B6 : Nat) : Int32 × aa_G := fn_120_73 (fn_78 g 462 (some B6) b3 0) b4 b5
theorem dn_120_62 {v : Option Value} {h : zz_H} {n : Nat} {g : aa_G} {b3 : Int32} {b4 : Int32} {b5 : Int32} {B6 : Nat} (hB6 : ct_tw B6) (x1 x2 x7 x8 : Option Value) (jx1 : rn_jk x1) (jx2 : rn_jk x2) (jx7 : rn_jk x7) (jx8 : rn_jk x8) (r : rn_s n 120 (62, [some (.ref 1), x1, x2, some (.int b3), some (.int b4), some (.int b5), some (.ref B6), x7, x8], [], aa_H g) v h) : iw_s v h (fn_120_62 g b3 b4 b5 B6) := by
  unfold fn_120_62
  obtain ⟨n36, ln36, r⟩ := rn_steps 4 (70, [some (.ref 1), x1, x2, some (.int b3), some (.int b4), some (.int b5), some (.ref B6), x7, x8], [.int 0, .int b3, .ref B6, .ref 462], aa_H g) rfl r
  obtain ⟨_, n37, v1, h1, -, ln37, rc, r⟩ := rn_call (m2 := 78) (as := [.ref 462, .ref B6, .int b3, .int 0]) (rest := []) rfl rfl r
  obtain ⟨rfl, rfl⟩ := dn_78 sp_c462 (rn_o1 hB6) rc
  have r : rn_s _ 120 (73, [some (.ref 1), x1, x2, some (.int b3), some (.int b4), some (.int b5), some (.ref B6), x7, x8], [], aa_H (fn_78 g 462 (some B6) b3 0)) v h := r
  exact dn_120_73 x1 x2 (some (.int b3)) (some (.ref B6)) x7 x8 jx1 jx2 rn_ji rn_jr jx7 jx8 r
noncomputable def fn_120 (g : aa_G) (a1 : Int32) (a2 : Int32) (a3 : Int32) (a4 : Int32) (a5 : Int32) : Int32 × aa_G := (match fn_31 g a1 with | none => ((-1000, g)) | some W6 => (if (fn_77 a2) = 0 then (-1000, g) else if (fn_77 a3) = 0 then (-1000, g) else if (fn_66 a4) = 0 then (-1000, g) else if (fn_14 a5 0 1) ≠ 0 then fn_120_62 (fn_78 g 461 (some W6) a2 0) a3 a4 a5 W6 else (-1000, g)))
theorem dn_120 {v : Option Value} {h : zz_H} {n : Nat} {g : aa_G} {a1 : Int32} {a2 : Int32} {a3 : Int32} {a4 : Int32} {a5 : Int32}  (r : rn_s n 120 (0, zz_in [.ref 1, .int a1, .int a2, .int a3, .int a4, .int a5] (zz_nl 120), [], aa_H g) v h) : iw_s v h (fn_120 g a1 a2 a3 a4 a5) := by
  have r : rn_s n 120 (0, [some (.ref 1), some (.int a1), some (.int a2), some (.int a3), some (.int a4), some (.int a5), none, none, none], [], aa_H g) v h := r
  unfold fn_120
  obtain ⟨n1, ln1, r⟩ := rn_steps 2 (5, [some (.ref 1), some (.int a1), some (.int a2), some (.int a3), some (.int a4), some (.int a5), none, none, none], [.int a1, .ref 2], aa_H g) rfl r
  obtain ⟨_, n2, v1, h1, -, ln2, rc, r⟩ := rn_call (m2 := 31) (as := [.ref 2, .int a1]) (rest := []) rfl rfl r
  obtain ⟨rfl, rfl, ho4⟩ := dn_31 rc
  have r : rn_s _ 120 (8, [some (.ref 1), some (.int a1), some (.int a2), some (.int a3), some (.int a4), some (.int a5), none, none, none], [zz_val (fn_31 g a1)], aa_H g) v h := r
  cases e5 : fn_31 g a1 with
  | none =>
    rw [e5] at r
    have r : rn_s _ 120 (8, [some (.ref 1), some (.int a1), some (.int a2), some (.int a3), some (.int a4), some (.int a5), none, none, none], [.null], aa_H g) v h := r
    dsimp only
    obtain ⟨n8, ln8, r⟩ := rn_steps 3 (50, [some (.ref 1), some (.int a1), some (.int a2), some (.int a3), some (.int a4), some (.int a5), some (.null), none, none], [.int (-1000)], aa_H g) rfl r
    exact rn_ire rfl r
  | some W6 =>
    rw [e5] at r
    have hw7 : ct_tw W6 := ho4 _ e5
    have r : rn_s _ 120 (8, [some (.ref 1), some (.int a1), some (.int a2), some (.int a3), some (.int a4), some (.int a5), none, none, none], [.ref W6], aa_H g) v h := r
    dsimp only
    obtain ⟨n9, ln9, r⟩ := rn_steps 3 (16, [some (.ref 1), some (.int a1), some (.int a2), some (.int a3), some (.int a4), some (.int a5), some (.ref W6), none, none], [.int a2], aa_H g) rfl r
    obtain ⟨_, n10, v1, h1, -, ln10, rc, r⟩ := rn_call (m2 := 77) (as := [.int a2]) (rest := []) rfl rfl r
    obtain ⟨rfl, rfl⟩ := dn_77 rc
    have r : rn_s _ 120 (19, [some (.ref 1), some (.int a1), some (.int a2), some (.int a3), some (.int a4), some (.int a5), some (.ref W6), none, none], [.int (fn_77 a2)], aa_H g) v h := r
    refine rn_if (iw_s v h) rfl decide_eq_true_iff.symm r (fun c12 l13n l13 r => ?_) (fun c12 l13n l13 r => ?_)
    · obtain ⟨n14, ln14, r⟩ := rn_steps 0 (50, [some (.ref 1), some (.int a1), some (.int a2), some (.int a3), some (.int a4), some (.int a5), some (.ref W6), none, none], [.int (-1000)], aa_H g) rfl r
      exact rn_ire rfl r
    · obtain ⟨n15, ln15, r⟩ := rn_steps 0 (23, [some (.ref 1), some (.int a1), some (.int a2), some (.int a3), some (.int a4), some (.int a5), some (.ref W6), none, none], [.int a3], aa_H g) rfl r
      obtain ⟨_, n16, v1, h1, -, ln16, rc, r⟩ := rn_call (m2 := 77) (as := [.int a3]) (rest := []) rfl rfl r
      obtain ⟨rfl, rfl⟩ := dn_77 rc
      have r : rn_s _ 120 (26, [some (.ref 1), some (.int a1), some (.int a2), some (.int a3), some (.int a4), some (.int a5), some (.ref W6), none, none], [.int (fn_77 a3)], aa_H g) v h := r
      refine rn_if (iw_s v h) rfl decide_eq_true_iff.symm r (fun c18 l19n l19 r => ?_) (fun c18 l19n l19 r => ?_)
      · obtain ⟨n20, ln20, r⟩ := rn_steps 0 (50, [some (.ref 1), some (.int a1), some (.int a2), some (.int a3), some (.int a4), some (.int a5), some (.ref W6), none, none], [.int (-1000)], aa_H g) rfl r
        exact rn_ire rfl r
      · obtain ⟨n21, ln21, r⟩ := rn_steps 0 (31, [some (.ref 1), some (.int a1), some (.int a2), some (.int a3), some (.int a4), some (.int a5), some (.ref W6), none, none], [.int a4], aa_H g) rfl r
        obtain ⟨_, n22, v1, h1, -, ln22, rc, r⟩ := rn_call (m2 := 66) (as := [.int a4]) (rest := []) rfl rfl r
        obtain ⟨rfl, rfl⟩ := dn_66 rc
        have r : rn_s _ 120 (34, [some (.ref 1), some (.int a1), some (.int a2), some (.int a3), some (.int a4), some (.int a5), some (.ref W6), none, none], [.int (fn_66 a4)], aa_H g) v h := r
        refine rn_if (iw_s v h) rfl decide_eq_true_iff.symm r (fun c24 l25n l25 r => ?_) (fun c24 l25n l25 r => ?_)
        · obtain ⟨n26, ln26, r⟩ := rn_steps 0 (50, [some (.ref 1), some (.int a1), some (.int a2), some (.int a3), some (.int a4), some (.int a5), some (.ref W6), none, none], [.int (-1000)], aa_H g) rfl r
          exact rn_ire rfl r
        · obtain ⟨n27, ln27, r⟩ := rn_steps 2 (41, [some (.ref 1), some (.int a1), some (.int a2), some (.int a3), some (.int a4), some (.int a5), some (.ref W6), none, none], [.int 1, .int 0, .int a5], aa_H g) rfl r
          obtain ⟨_, n28, v1, h1, -, ln28, rc, r⟩ := rn_call (m2 := 14) (as := [.int a5, .int 0, .int 1]) (rest := []) rfl rfl r
          obtain ⟨rfl, rfl⟩ := dn_14 rc
          have r : rn_s _ 120 (44, [some (.ref 1), some (.int a1), some (.int a2), some (.int a3), some (.int a4), some (.int a5), some (.ref W6), none, none], [.int (fn_14 a5 0 1)], aa_H g) v h := r
          refine rn_if (iw_s v h) rfl decide_eq_true_iff.symm r (fun c30 l31n l31 r => ?_) (fun c30 l31n l31 r => ?_)
          · obtain ⟨n32, ln32, r⟩ := rn_steps 4 (59, [some (.ref 1), some (.int a1), some (.int a2), some (.int a3), some (.int a4), some (.int a5), some (.ref W6), none, none], [.int 0, .int a2, .ref W6, .ref 461], aa_H g) rfl r
            obtain ⟨_, n33, v1, h1, -, ln33, rc, r⟩ := rn_call (m2 := 78) (as := [.ref 461, .ref W6, .int a2, .int 0]) (rest := []) rfl rfl r
            obtain ⟨rfl, rfl⟩ := dn_78 sp_c461 (rn_o1 hw7) rc
            have r : rn_s _ 120 (62, [some (.ref 1), some (.int a1), some (.int a2), some (.int a3), some (.int a4), some (.int a5), some (.ref W6), none, none], [], aa_H (fn_78 g 461 (some W6) a2 0)) v h := r
            exact dn_120_62 hw7 (some (.int a1)) (some (.int a2)) none none rn_ji rn_ji rn_jn rn_jn r
          · obtain ⟨n35, ln35, r⟩ := rn_steps 0 (50, [some (.ref 1), some (.int a1), some (.int a2), some (.int a3), some (.int a4), some (.int a5), some (.ref W6), none, none], [.int (-1000)], aa_H g) rfl r
            exact rn_ire rfl r
-- 121: UnequalHours work
noncomputable def fn_121_133 (g : aa_G) (b3 : Int32) (b4 : Int32) (b5 : Int32) (B6 : Nat) (b7 : Int32) (b8 : Int32) : (aa_G × Int32 × Int32) ⊕ (Int32 × aa_G) := .inl (g, b7, b8 + 1)
theorem dn_121_133 {v : Option Value} {h : zz_H} {n : Nat} {g : aa_G} {b3 : Int32} {b4 : Int32} {b5 : Int32} {B6 : Nat} {b7 : Int32} {b8 : Int32} (P : (aa_G × Int32 × Int32) ⊕ (Int32 × aa_G) → Prop) (hO0 : ∀ n2, n2 < n → ∀ (yg : aa_G) (yb7 : Int32) (yb8 : Int32) (yx1 yx2 : Option Value) (_ : rn_jk yx1) (_ : rn_jk yx2), rn_s n2 121 (81, [some (.ref 1), yx1, yx2, some (.int b3), some (.int b4), some (.int b5), some (.ref B6), some (.int yb7), some (.int yb8)], [], aa_H yg) v h → P (.inl (yg, yb7, yb8))) (hR : ∀ E, iw_s v h E → P (.inr E)) (hB6 : ct_tw B6) (x1 x2 : Option Value) (jx1 : rn_jk x1) (jx2 : rn_jk x2) (r : rn_s n 121 (133, [some (.ref 1), x1, x2, some (.int b3), some (.int b4), some (.int b5), some (.ref B6), some (.int b7), some (.int b8)], [], aa_H g) v h) : P (fn_121_133 g b3 b4 b5 B6 b7 b8) := by
  unfold fn_121_133
  obtain ⟨n61, ln61, r⟩ := rn_steps 1 (81, [some (.ref 1), x1, x2, some (.int b3), some (.int b4), some (.int b5), some (.ref B6), some (.int b7), some (.int (b8 + 1))], [], aa_H g) rfl r
  exact hO0 _ (by omega) g b7 (b8 + 1) x1 x2 jx1 jx2 r
noncomputable def fn_121_99 (g : aa_G) (b3 : Int32) (b4 : Int32) (b5 : Int32) (B6 : Nat) (b7 : Int32) (b8 : Int32) : (aa_G × Int32 × Int32) ⊕ (Int32 × aa_G) := if (g 461 0) = 0 then fn_121_133 g b3 b4 b5 B6 b7 b8 else fn_121_133 g b3 b4 b5 B6 (b7 + ((fn_100 g 461 b5) - (fn_100 g 461 b4))) b8
theorem dn_121_99 {v : Option Value} {h : zz_H} {n : Nat} {g : aa_G} {b3 : Int32} {b4 : Int32} {b5 : Int32} {B6 : Nat} {b7 : Int32} {b8 : Int32} (P : (aa_G × Int32 × Int32) ⊕ (Int32 × aa_G) → Prop) (hO0 : ∀ n2, n2 < n → ∀ (yg : aa_G) (yb7 : Int32) (yb8 : Int32) (yx1 yx2 : Option Value) (_ : rn_jk yx1) (_ : rn_jk yx2), rn_s n2 121 (81, [some (.ref 1), yx1, yx2, some (.int b3), some (.int b4), some (.int b5), some (.ref B6), some (.int yb7), some (.int yb8)], [], aa_H yg) v h → P (.inl (yg, yb7, yb8))) (hR : ∀ E, iw_s v h E → P (.inr E)) (hB6 : ct_tw B6) (x1 x2 : Option Value) (jx1 : rn_jk x1) (jx2 : rn_jk x2) (r : rn_s n 121 (99, [some (.ref 1), x1, x2, some (.int b3), some (.int b4), some (.int b5), some (.ref B6), some (.int b7), some (.int b8)], [], aa_H g) v h) : P (fn_121_99 g b3 b4 b5 B6 b7 b8) := by
  unfold fn_121_99
  obtain ⟨n51, ln51, r⟩ := rn_steps 2 (106, [some (.ref 1), x1, x2, some (.int b3), some (.int b4), some (.int b5), some (.ref B6), some (.int b7), some (.int b8)], [.int (g 461 0)], aa_H g) rfl r
  refine rn_if (P) rfl decide_eq_true_iff.symm r (fun c52 l53n l53 r => ?_) (fun c52 l53n l53 r => ?_)
  · exact dn_121_133 (P) (fun n2 l2 => hO0 n2 (by omega)) (fun z hz => hR _ hz) hB6 x1 x2 jx1 jx2 r
  · obtain ⟨n54, ln54, r⟩ := rn_steps 3 (117, [some (.ref 1), x1, x2, some (.int b3), some (.int b4), some (.int b5), some (.ref B6), some (.int b7), some (.int b8)], [.int b5, .ref 461, .int b7], aa_H g) rfl r
    obtain ⟨_, n55, v1, h1, -, ln55, rc, r⟩ := rn_call (m2 := 100) (as := [.ref 461, .int b5]) (rest := [.int b7]) rfl rfl r
    obtain ⟨rfl, rfl⟩ := dn_100 sp_c461 rc
    have r : rn_s _ 121 (120, [some (.ref 1), x1, x2, some (.int b3), some (.int b4), some (.int b5), some (.ref B6), some (.int b7), some (.int b8)], [.int (fn_100 g 461 b5), .int b7], aa_H g) v h := r
    obtain ⟨n57, ln57, r⟩ := rn_steps 2 (126, [some (.ref 1), x1, x2, some (.int b3), some (.int b4), some (.int b5), some (.ref B6), some (.int b7), some (.int b8)], [.int b4, .ref 461, .int (fn_100 g 461 b5), .int b7], aa_H g) rfl r
    obtain ⟨_, n58, v1, h1, -, ln58, rc, r⟩ := rn_call (m2 := 100) (as := [.ref 461, .int b4]) (rest := [.int (fn_100 g 461 b5), .int b7]) rfl rfl r
    obtain ⟨rfl, rfl⟩ := dn_100 sp_c461 rc
    have r : rn_s _ 121 (129, [some (.ref 1), x1, x2, some (.int b3), some (.int b4), some (.int b5), some (.ref B6), some (.int b7), some (.int b8)], [.int (fn_100 g 461 b4), .int (fn_100 g 461 b5), .int b7], aa_H g) v h := r
    obtain ⟨n60, ln60, r⟩ := rn_steps 2 (133, [some (.ref 1), x1, x2, some (.int b3), some (.int b4), some (.int b5), some (.ref B6), some (.int (b7 + ((fn_100 g 461 b5) - (fn_100 g 461 b4)))), some (.int b8)], [], aa_H g) rfl r
    exact dn_121_133 (P) (fun n2 l2 => hO0 n2 (by omega)) (fun z hz => hR _ hz) hB6 x1 x2 jx1 jx2 r
noncomputable def fn_121_81b (g : aa_G) (b3 : Int32) (b4 : Int32) (b5 : Int32) (B6 : Nat) (b7 : Int32) (b8 : Int32) : (aa_G × Int32 × Int32) ⊕ (Int32 × aa_G) := if b3 < b8 then .inr (b7, g) else fn_121_99 (fn_78 g 461 (some B6) b8 0) b3 b4 b5 B6 b7 b8
noncomputable def fn_121_81 (g : aa_G) (b3 : Int32) (b4 : Int32) (b5 : Int32) (B6 : Nat) (b7 : Int32) (b8 : Int32) : Int32 × aa_G := lp_f (0, g) (fun z : (aa_G × Int32 × Int32) => fn_121_81b z.1 b3 b4 b5 B6 z.2.1 z.2.2) (g, b7, b8)
theorem dn_121_81l {v : Option Value} {h : zz_H} {N : Nat} {b3 : Int32} {b4 : Int32} {b5 : Int32} {B6 : Nat} (hB6 : ct_tw B6) {d : Int32 × aa_G} : ∀ (n : Nat), n ≤ N → ∀ (g : aa_G) (b7 : Int32) (b8 : Int32) (x1 x2 : Option Value) (jx1 : rn_jk x1) (jx2 : rn_jk x2), rn_s n 121 (81, [some (.ref 1), x1, x2, some (.int b3), some (.int b4), some (.int b5), some (.ref B6), some (.int b7), some (.int b8)], [], aa_H g) v h → (iw_s v h) (lp_f d (fun z : (aa_G × Int32 × Int32) => fn_121_81b z.1 b3 b4 b5 B6 z.2.1 z.2.2) (g, b7, b8)) := by
  generalize hf : (fun z : (aa_G × Int32 × Int32) => fn_121_81b z.1 b3 b4 b5 B6 z.2.1 z.2.2) = f
  intro n
  induction n using Nat.strongRecOn with
  | _ n ih =>
    intro hN g b7 b8 x1 x2 jx1 jx2 r
    refine lp_go ?_
    rw [← congrFun hf (g, b7, b8)]
    show lp_q (iw_s v h) d f (fn_121_81b g b3 b4 b5 B6 b7 b8)
    unfold fn_121_81b
    obtain ⟨n44, ln44, r⟩ := rn_steps 1 (84, [some (.ref 1), x1, x2, some (.int b3), some (.int b4), some (.int b5), some (.ref B6), some (.int b7), some (.int b8)], [.int b3, .int b8], aa_H g) rfl r
    refine rn_ic (lp_q (iw_s v h) d f) rfl decide_eq_true_iff.symm r (fun c45 l46n l46 r => ?_) (fun c45 l46n l46 r => ?_)
    · obtain ⟨n47, ln47, r⟩ := rn_steps 0 (141, [some (.ref 1), x1, x2, some (.int b3), some (.int b4), some (.int b5), some (.ref B6), some (.int b7), some (.int b8)], [.int b7], aa_H g) rfl r
      exact rn_ire rfl r
    · obtain ⟨n48, ln48, r⟩ := rn_steps 4 (96, [some (.ref 1), x1, x2, some (.int b3), some (.int b4), some (.int b5), some (.ref B6), some (.int b7), some (.int b8)], [.int 0, .int b8, .ref B6, .ref 461], aa_H g) rfl r
      obtain ⟨_, n49, v1, h1, -, ln49, rc, r⟩ := rn_call (m2 := 78) (as := [.ref 461, .ref B6, .int b8, .int 0]) (rest := []) rfl rfl r
      obtain ⟨rfl, rfl⟩ := dn_78 sp_c461 (rn_o1 hB6) rc
      have r : rn_s _ 121 (99, [some (.ref 1), x1, x2, some (.int b3), some (.int b4), some (.int b5), some (.ref B6), some (.int b7), some (.int b8)], [], aa_H (fn_78 g 461 (some B6) b8 0)) v h := r
      exact dn_121_99 (lp_q (iw_s v h) d f) (fun n2 l2 => ih n2 (by omega) (by omega)) (fun z hz => hz) hB6 x1 x2 jx1 jx2 r
theorem dn_121_81 {v : Option Value} {h : zz_H} {n : Nat} {g : aa_G} {b3 : Int32} {b4 : Int32} {b5 : Int32} {B6 : Nat} {b7 : Int32} {b8 : Int32} (hB6 : ct_tw B6) (x1 x2 : Option Value) (jx1 : rn_jk x1) (jx2 : rn_jk x2) (r : rn_s n 121 (81, [some (.ref 1), x1, x2, some (.int b3), some (.int b4), some (.int b5), some (.ref B6), some (.int b7), some (.int b8)], [], aa_H g) v h) : (iw_s v h) (fn_121_81 g b3 b4 b5 B6 b7 b8) := dn_121_81l hB6 n (Nat.le_refl n) g b7 b8 x1 x2 jx1 jx2 r
noncomputable def fn_121 (g : aa_G) (a1 : Int32) (a2 : Int32) (a3 : Int32) (a4 : Int32) (a5 : Int32) : Int32 × aa_G := (match fn_31 g a1 with | none => ((-1, g)) | some W6 => (if (fn_77 a2) = 0 then (-1, g) else if (fn_77 a3) = 0 then (-1, g) else if (fn_14 (a3 - a2) 0 359) ≠ 0 then if (fn_14 a4 0 12) = 0 then (-1, g) else if (fn_14 a5 0 12) = 0 then (-1, g) else if a4 < a5 then fn_121_81 g a3 a4 a5 W6 0 a2 else (-1, g) else (-1, g)))
theorem dn_121 {v : Option Value} {h : zz_H} {n : Nat} {g : aa_G} {a1 : Int32} {a2 : Int32} {a3 : Int32} {a4 : Int32} {a5 : Int32}  (r : rn_s n 121 (0, zz_in [.ref 1, .int a1, .int a2, .int a3, .int a4, .int a5] (zz_nl 121), [], aa_H g) v h) : iw_s v h (fn_121 g a1 a2 a3 a4 a5) := by
  have r : rn_s n 121 (0, [some (.ref 1), some (.int a1), some (.int a2), some (.int a3), some (.int a4), some (.int a5), none, none, none], [], aa_H g) v h := r
  unfold fn_121
  obtain ⟨n1, ln1, r⟩ := rn_steps 2 (5, [some (.ref 1), some (.int a1), some (.int a2), some (.int a3), some (.int a4), some (.int a5), none, none, none], [.int a1, .ref 2], aa_H g) rfl r
  obtain ⟨_, n2, v1, h1, -, ln2, rc, r⟩ := rn_call (m2 := 31) (as := [.ref 2, .int a1]) (rest := []) rfl rfl r
  obtain ⟨rfl, rfl, ho4⟩ := dn_31 rc
  have r : rn_s _ 121 (8, [some (.ref 1), some (.int a1), some (.int a2), some (.int a3), some (.int a4), some (.int a5), none, none, none], [zz_val (fn_31 g a1)], aa_H g) v h := r
  cases e5 : fn_31 g a1 with
  | none =>
    rw [e5] at r
    have r : rn_s _ 121 (8, [some (.ref 1), some (.int a1), some (.int a2), some (.int a3), some (.int a4), some (.int a5), none, none, none], [.null], aa_H g) v h := r
    dsimp only
    obtain ⟨n8, ln8, r⟩ := rn_steps 3 (43, [some (.ref 1), some (.int a1), some (.int a2), some (.int a3), some (.int a4), some (.int a5), some (.null), none, none], [.int (-1)], aa_H g) rfl r
    exact rn_ire rfl r
  | some W6 =>
    rw [e5] at r
    have hw7 : ct_tw W6 := ho4 _ e5
    have r : rn_s _ 121 (8, [some (.ref 1), some (.int a1), some (.int a2), some (.int a3), some (.int a4), some (.int a5), none, none, none], [.ref W6], aa_H g) v h := r
    dsimp only
    obtain ⟨n9, ln9, r⟩ := rn_steps 3 (16, [some (.ref 1), some (.int a1), some (.int a2), some (.int a3), some (.int a4), some (.int a5), some (.ref W6), none, none], [.int a2], aa_H g) rfl r
    obtain ⟨_, n10, v1, h1, -, ln10, rc, r⟩ := rn_call (m2 := 77) (as := [.int a2]) (rest := []) rfl rfl r
    obtain ⟨rfl, rfl⟩ := dn_77 rc
    have r : rn_s _ 121 (19, [some (.ref 1), some (.int a1), some (.int a2), some (.int a3), some (.int a4), some (.int a5), some (.ref W6), none, none], [.int (fn_77 a2)], aa_H g) v h := r
    refine rn_if (iw_s v h) rfl decide_eq_true_iff.symm r (fun c12 l13n l13 r => ?_) (fun c12 l13n l13 r => ?_)
    · obtain ⟨n14, ln14, r⟩ := rn_steps 0 (43, [some (.ref 1), some (.int a1), some (.int a2), some (.int a3), some (.int a4), some (.int a5), some (.ref W6), none, none], [.int (-1)], aa_H g) rfl r
      exact rn_ire rfl r
    · obtain ⟨n15, ln15, r⟩ := rn_steps 0 (23, [some (.ref 1), some (.int a1), some (.int a2), some (.int a3), some (.int a4), some (.int a5), some (.ref W6), none, none], [.int a3], aa_H g) rfl r
      obtain ⟨_, n16, v1, h1, -, ln16, rc, r⟩ := rn_call (m2 := 77) (as := [.int a3]) (rest := []) rfl rfl r
      obtain ⟨rfl, rfl⟩ := dn_77 rc
      have r : rn_s _ 121 (26, [some (.ref 1), some (.int a1), some (.int a2), some (.int a3), some (.int a4), some (.int a5), some (.ref W6), none, none], [.int (fn_77 a3)], aa_H g) v h := r
      refine rn_if (iw_s v h) rfl decide_eq_true_iff.symm r (fun c18 l19n l19 r => ?_) (fun c18 l19n l19 r => ?_)
      · obtain ⟨n20, ln20, r⟩ := rn_steps 0 (43, [some (.ref 1), some (.int a1), some (.int a2), some (.int a3), some (.int a4), some (.int a5), some (.ref W6), none, none], [.int (-1)], aa_H g) rfl r
        exact rn_ire rfl r
      · obtain ⟨n21, ln21, r⟩ := rn_steps 4 (36, [some (.ref 1), some (.int a1), some (.int a2), some (.int a3), some (.int a4), some (.int a5), some (.ref W6), none, none], [.int 359, .int 0, .int (a3 - a2)], aa_H g) rfl r
        obtain ⟨_, n22, v1, h1, -, ln22, rc, r⟩ := rn_call (m2 := 14) (as := [.int (a3 - a2), .int 0, .int 359]) (rest := []) rfl rfl r
        obtain ⟨rfl, rfl⟩ := dn_14 rc
        have r : rn_s _ 121 (39, [some (.ref 1), some (.int a1), some (.int a2), some (.int a3), some (.int a4), some (.int a5), some (.ref W6), none, none], [.int (fn_14 (a3 - a2) 0 359)], aa_H g) v h := r
        refine rn_if (iw_s v h) rfl decide_eq_true_iff.symm r (fun c24 l25n l25 r => ?_) (fun c24 l25n l25 r => ?_)
        · obtain ⟨n26, ln26, r⟩ := rn_steps 2 (49, [some (.ref 1), some (.int a1), some (.int a2), some (.int a3), some (.int a4), some (.int a5), some (.ref W6), none, none], [.int 12, .int 0, .int a4], aa_H g) rfl r
          obtain ⟨_, n27, v1, h1, -, ln27, rc, r⟩ := rn_call (m2 := 14) (as := [.int a4, .int 0, .int 12]) (rest := []) rfl rfl r
          obtain ⟨rfl, rfl⟩ := dn_14 rc
          have r : rn_s _ 121 (52, [some (.ref 1), some (.int a1), some (.int a2), some (.int a3), some (.int a4), some (.int a5), some (.ref W6), none, none], [.int (fn_14 a4 0 12)], aa_H g) v h := r
          refine rn_if (iw_s v h) rfl decide_eq_true_iff.symm r (fun c29 l30n l30 r => ?_) (fun c29 l30n l30 r => ?_)
          · obtain ⟨n31, ln31, r⟩ := rn_steps 0 (74, [some (.ref 1), some (.int a1), some (.int a2), some (.int a3), some (.int a4), some (.int a5), some (.ref W6), none, none], [.int (-1)], aa_H g) rfl r
            exact rn_ire rfl r
          · obtain ⟨n32, ln32, r⟩ := rn_steps 2 (60, [some (.ref 1), some (.int a1), some (.int a2), some (.int a3), some (.int a4), some (.int a5), some (.ref W6), none, none], [.int 12, .int 0, .int a5], aa_H g) rfl r
            obtain ⟨_, n33, v1, h1, -, ln33, rc, r⟩ := rn_call (m2 := 14) (as := [.int a5, .int 0, .int 12]) (rest := []) rfl rfl r
            obtain ⟨rfl, rfl⟩ := dn_14 rc
            have r : rn_s _ 121 (63, [some (.ref 1), some (.int a1), some (.int a2), some (.int a3), some (.int a4), some (.int a5), some (.ref W6), none, none], [.int (fn_14 a5 0 12)], aa_H g) v h := r
            refine rn_if (iw_s v h) rfl decide_eq_true_iff.symm r (fun c35 l36n l36 r => ?_) (fun c35 l36n l36 r => ?_)
            · obtain ⟨n37, ln37, r⟩ := rn_steps 0 (74, [some (.ref 1), some (.int a1), some (.int a2), some (.int a3), some (.int a4), some (.int a5), some (.ref W6), none, none], [.int (-1)], aa_H g) rfl r
              exact rn_ire rfl r
            · obtain ⟨n38, ln38, r⟩ := rn_steps 1 (70, [some (.ref 1), some (.int a1), some (.int a2), some (.int a3), some (.int a4), some (.int a5), some (.ref W6), none, none], [.int a5, .int a4], aa_H g) rfl r
              refine rn_ic (iw_s v h) rfl decide_eq_true_iff.symm r (fun c39 l40n l40 r => ?_) (fun c39 l40n l40 r => ?_)
              · obtain ⟨n41, ln41, r⟩ := rn_steps 3 (81, [some (.ref 1), some (.int a1), some (.int a2), some (.int a3), some (.int a4), some (.int a5), some (.ref W6), some (.int 0), some (.int a2)], [], aa_H g) rfl r
                exact dn_121_81 hw7 (some (.int a1)) (some (.int a2)) rn_ji rn_ji r
              · obtain ⟨n42, ln42, r⟩ := rn_steps 0 (74, [some (.ref 1), some (.int a1), some (.int a2), some (.int a3), some (.int a4), some (.int a5), some (.ref W6), none, none], [.int (-1)], aa_H g) rfl r
                exact rn_ire rfl r
        · obtain ⟨n43, ln43, r⟩ := rn_steps 0 (43, [some (.ref 1), some (.int a1), some (.int a2), some (.int a3), some (.int a4), some (.int a5), some (.ref W6), none, none], [.int (-1)], aa_H g) rfl r
          exact rn_ire rfl r
-- 123: UnequalHours seasonWorth
noncomputable def fn_123 (a0 : Int32) (a1 : Int32) : Int32 := if a1 ≠ 0 then if a1 ≠ 1 then -(if 0 ≤ (a0 - 43200) then (a0 - 43200) else 0 - (a0 - 43200)) else -a0 else a0
theorem dn_123 {v : Option Value} {h : zz_H} {n : Nat} {g : aa_G} {a0 : Int32} {a1 : Int32}  (r : rn_s n 123 (0, zz_in [.int a0, .int a1] (zz_nl 123), [], aa_H g) v h) : ir_s g v h (fn_123 a0 a1) := by
  have r : rn_s n 123 (0, [some (.int a0), some (.int a1)], [], aa_H g) v h := r
  unfold fn_123
  obtain ⟨n1, ln1, r⟩ := rn_steps 0 (1, [some (.int a0), some (.int a1)], [.int a1], aa_H g) rfl r
  refine rn_if (ir_s g v h) rfl decide_eq_true_iff.symm r (fun c2 l3n l3 r => ?_) (fun c2 l3n l3 r => ?_)
  · obtain ⟨n4, ln4, r⟩ := rn_steps 1 (8, [some (.int a0), some (.int a1)], [.int 1, .int a1], aa_H g) rfl r
    refine rn_ic (ir_s g v h) rfl decide_eq_true_iff.symm r (fun c5 l6n l6 r => ?_) (fun c5 l6n l6 r => ?_)
    · obtain ⟨n7, ln7, r⟩ := rn_steps 4 (24, [some (.int a0), some (.int a1)], [.int (-(if 0 ≤ (a0 - 43200) then (a0 - 43200) else 0 - (a0 - 43200)))], aa_H g) rfl r
      exact rn_ire rfl r
    · obtain ⟨n8, ln8, r⟩ := rn_steps 2 (24, [some (.int a0), some (.int a1)], [.int (-a0)], aa_H g) rfl r
      exact rn_ire rfl r
  · obtain ⟨n9, ln9, r⟩ := rn_steps 0 (5, [some (.int a0), some (.int a1)], [.int a0], aa_H g) rfl r
    exact rn_ire rfl r
-- 122: UnequalHours season
noncomputable def fn_122_107 (g : aa_G) (b2 : Int32) (B3 : Nat) (b4 : Int32) (b5 : Int32) (b6 : Int32) (b7 : Int32) : (aa_G × Int32 × Int32 × Int32 × Int32) ⊕ (Int32 × aa_G) := .inl (g, b4, b5, b6, b7 + 1)
theorem dn_122_107 {v : Option Value} {h : zz_H} {n : Nat} {g : aa_G} {b2 : Int32} {B3 : Nat} {b4 : Int32} {b5 : Int32} {b6 : Int32} {b7 : Int32} (P : (aa_G × Int32 × Int32 × Int32 × Int32) ⊕ (Int32 × aa_G) → Prop) (hO0 : ∀ n2, n2 < n → ∀ (yg : aa_G) (yb4 : Int32) (yb5 : Int32) (yb6 : Int32) (yb7 : Int32) (yx1 yx8 : Option Value) (_ : rn_jk yx1) (_ : rn_jk yx8), rn_s n2 122 (37, [some (.ref 1), yx1, some (.int b2), some (.ref B3), some (.int yb4), some (.int yb5), some (.int yb6), some (.int yb7), yx8], [], aa_H yg) v h → P (.inl (yg, yb4, yb5, yb6, yb7))) (hR : ∀ E, iw_s v h E → P (.inr E)) (hB3 : ct_tw B3) (x1 x8 : Option Value) (jx1 : rn_jk x1) (jx8 : rn_jk x8) (r : rn_s n 122 (107, [some (.ref 1), x1, some (.int b2), some (.ref B3), some (.int b4), some (.int b5), some (.int b6), some (.int b7), x8], [], aa_H g) v h) : P (fn_122_107 g b2 B3 b4 b5 b6 b7) := by
  unfold fn_122_107
  obtain ⟨n41, ln41, r⟩ := rn_steps 1 (37, [some (.ref 1), x1, some (.int b2), some (.ref B3), some (.int b4), some (.int b5), some (.int b6), some (.int (b7 + 1)), x8], [], aa_H g) rfl r
  exact hO0 _ (by omega) g b4 b5 b6 (b7 + 1) x1 x8 jx1 jx8 r
noncomputable def fn_122_99 (g : aa_G) (b2 : Int32) (B3 : Nat) (b6 : Int32) (b7 : Int32) (b8 : Int32) : (aa_G × Int32 × Int32 × Int32 × Int32) ⊕ (Int32 × aa_G) := fn_122_107 g b2 B3 b7 b8 b6 b7
theorem dn_122_99 {v : Option Value} {h : zz_H} {n : Nat} {g : aa_G} {b2 : Int32} {B3 : Nat} {b6 : Int32} {b7 : Int32} {b8 : Int32} (P : (aa_G × Int32 × Int32 × Int32 × Int32) ⊕ (Int32 × aa_G) → Prop) (hO0 : ∀ n2, n2 < n → ∀ (yg : aa_G) (yb4 : Int32) (yb5 : Int32) (yb6 : Int32) (yb7 : Int32) (yx1 yx8 : Option Value) (_ : rn_jk yx1) (_ : rn_jk yx8), rn_s n2 122 (37, [some (.ref 1), yx1, some (.int b2), some (.ref B3), some (.int yb4), some (.int yb5), some (.int yb6), some (.int yb7), yx8], [], aa_H yg) v h → P (.inl (yg, yb4, yb5, yb6, yb7))) (hR : ∀ E, iw_s v h E → P (.inr E)) (hB3 : ct_tw B3) (x1 x4 x5 : Option Value) (jx1 : rn_jk x1) (jx4 : rn_jk x4) (jx5 : rn_jk x5) (r : rn_s n 122 (99, [some (.ref 1), x1, some (.int b2), some (.ref B3), x4, x5, some (.int b6), some (.int b7), some (.int b8)], [], aa_H g) v h) : P (fn_122_99 g b2 B3 b6 b7 b8) := by
  unfold fn_122_99
  obtain ⟨n40, ln40, r⟩ := rn_steps 3 (107, [some (.ref 1), x1, some (.int b2), some (.ref B3), some (.int b7), some (.int b8), some (.int b6), some (.int b7), some (.int b8)], [], aa_H g) rfl r
  exact dn_122_107 (P) (fun n2 l2 => hO0 n2 (by omega)) (fun z hz => hR _ hz) hB3 x1 (some (.int b8)) jx1 rn_ji r
noncomputable def fn_122_56 (g : aa_G) (b2 : Int32) (B3 : Nat) (b4 : Int32) (b5 : Int32) (b6 : Int32) (b7 : Int32) : (aa_G × Int32 × Int32 × Int32 × Int32) ⊕ (Int32 × aa_G) := if (g 461 0) ≠ 0 then if b4 = (-2) then fn_122_99 g b2 B3 b6 b7 (fn_123 (g 461 4) b2) else if (fn_123 (g 461 4) b2) ≤ b5 then fn_122_107 g b2 B3 b4 b5 b6 b7 else fn_122_99 g b2 B3 b6 b7 (fn_123 (g 461 4) b2) else fn_122_107 g b2 B3 b4 b5 (b6 + 1) b7
theorem dn_122_56 {v : Option Value} {h : zz_H} {n : Nat} {g : aa_G} {b2 : Int32} {B3 : Nat} {b4 : Int32} {b5 : Int32} {b6 : Int32} {b7 : Int32} (P : (aa_G × Int32 × Int32 × Int32 × Int32) ⊕ (Int32 × aa_G) → Prop) (hO0 : ∀ n2, n2 < n → ∀ (yg : aa_G) (yb4 : Int32) (yb5 : Int32) (yb6 : Int32) (yb7 : Int32) (yx1 yx8 : Option Value) (_ : rn_jk yx1) (_ : rn_jk yx8), rn_s n2 122 (37, [some (.ref 1), yx1, some (.int b2), some (.ref B3), some (.int yb4), some (.int yb5), some (.int yb6), some (.int yb7), yx8], [], aa_H yg) v h → P (.inl (yg, yb4, yb5, yb6, yb7))) (hR : ∀ E, iw_s v h E → P (.inr E)) (hB3 : ct_tw B3) (x1 x8 : Option Value) (jx1 : rn_jk x1) (jx8 : rn_jk x8) (r : rn_s n 122 (56, [some (.ref 1), x1, some (.int b2), some (.ref B3), some (.int b4), some (.int b5), some (.int b6), some (.int b7), x8], [], aa_H g) v h) : P (fn_122_56 g b2 B3 b4 b5 b6 b7) := by
  unfold fn_122_56
  obtain ⟨n27, ln27, r⟩ := rn_steps 3 (64, [some (.ref 1), x1, some (.int b2), some (.ref B3), some (.int b4), some (.int b5), some (.int b6), some (.int b7), x8], [.int b2, .int (g 461 4)], aa_H g) rfl r
  obtain ⟨_, n28, v1, h1, -, ln28, rc, r⟩ := rn_call (m2 := 123) (as := [.int (g 461 4), .int b2]) (rest := []) rfl rfl r
  obtain ⟨rfl, rfl⟩ := dn_123 rc
  have r : rn_s _ 122 (67, [some (.ref 1), x1, some (.int b2), some (.ref B3), some (.int b4), some (.int b5), some (.int b6), some (.int b7), x8], [.int (fn_123 (g 461 4) b2)], aa_H g) v h := r
  obtain ⟨n30, ln30, r⟩ := rn_steps 3 (76, [some (.ref 1), x1, some (.int b2), some (.ref B3), some (.int b4), some (.int b5), some (.int b6), some (.int b7), some (.int (fn_123 (g 461 4) b2))], [.int (g 461 0)], aa_H g) rfl r
  refine rn_if (P) rfl decide_eq_true_iff.symm r (fun c31 l32n l32 r => ?_) (fun c31 l32n l32 r => ?_)
  · obtain ⟨n33, ln33, r⟩ := rn_steps 1 (89, [some (.ref 1), x1, some (.int b2), some (.ref B3), some (.int b4), some (.int b5), some (.int b6), some (.int b7), some (.int (fn_123 (g 461 4) b2))], [.int (-2), .int b4], aa_H g) rfl r
    refine rn_ic (P) rfl decide_eq_true_iff.symm r (fun c34 l35n l35 r => ?_) (fun c34 l35n l35 r => ?_)
    · exact dn_122_99 (P) (fun n2 l2 => hO0 n2 (by omega)) (fun z hz => hR _ hz) hB3 x1 (some (.int b4)) (some (.int b5)) jx1 rn_ji rn_ji r
    · obtain ⟨n36, ln36, r⟩ := rn_steps 1 (96, [some (.ref 1), x1, some (.int b2), some (.ref B3), some (.int b4), some (.int b5), some (.int b6), some (.int b7), some (.int (fn_123 (g 461 4) b2))], [.int b5, .int (fn_123 (g 461 4) b2)], aa_H g) rfl r
      refine rn_ic (P) rfl decide_eq_true_iff.symm r (fun c37 l38n l38 r => ?_) (fun c37 l38n l38 r => ?_)
      · exact dn_122_107 (P) (fun n2 l2 => hO0 n2 (by omega)) (fun z hz => hR _ hz) hB3 x1 (some (.int (fn_123 (g 461 4) b2))) jx1 rn_ji r
      · exact dn_122_99 (P) (fun n2 l2 => hO0 n2 (by omega)) (fun z hz => hR _ hz) hB3 x1 (some (.int b4)) (some (.int b5)) jx1 rn_ji rn_ji r
  · obtain ⟨n39, ln39, r⟩ := rn_steps 1 (107, [some (.ref 1), x1, some (.int b2), some (.ref B3), some (.int b4), some (.int b5), some (.int (b6 + 1)), some (.int b7), some (.int (fn_123 (g 461 4) b2))], [], aa_H g) rfl r
    exact dn_122_107 (P) (fun n2 l2 => hO0 n2 (by omega)) (fun z hz => hR _ hz) hB3 x1 (some (.int (fn_123 (g 461 4) b2))) jx1 rn_ji r
noncomputable def fn_122_37b (g : aa_G) (b2 : Int32) (B3 : Nat) (b4 : Int32) (b5 : Int32) (b6 : Int32) (b7 : Int32) : (aa_G × Int32 × Int32 × Int32 × Int32) ⊕ (Int32 × aa_G) := if 360 ≤ b7 then if b2 ≠ 3 then .inr (b4, g) else .inr (b6, g) else fn_122_56 (fn_78 g 461 (some B3) b7 0) b2 B3 b4 b5 b6 b7
noncomputable def fn_122_37 (g : aa_G) (b2 : Int32) (B3 : Nat) (b4 : Int32) (b5 : Int32) (b6 : Int32) (b7 : Int32) : Int32 × aa_G := lp_f (0, g) (fun z : (aa_G × Int32 × Int32 × Int32 × Int32) => fn_122_37b z.1 b2 B3 z.2.1 z.2.2.1 z.2.2.2.1 z.2.2.2.2) (g, b4, b5, b6, b7)
theorem dn_122_37l {v : Option Value} {h : zz_H} {N : Nat} {b2 : Int32} {B3 : Nat} (hB3 : ct_tw B3) {d : Int32 × aa_G} : ∀ (n : Nat), n ≤ N → ∀ (g : aa_G) (b4 : Int32) (b5 : Int32) (b6 : Int32) (b7 : Int32) (x1 x8 : Option Value) (jx1 : rn_jk x1) (jx8 : rn_jk x8), rn_s n 122 (37, [some (.ref 1), x1, some (.int b2), some (.ref B3), some (.int b4), some (.int b5), some (.int b6), some (.int b7), x8], [], aa_H g) v h → (iw_s v h) (lp_f d (fun z : (aa_G × Int32 × Int32 × Int32 × Int32) => fn_122_37b z.1 b2 B3 z.2.1 z.2.2.1 z.2.2.2.1 z.2.2.2.2) (g, b4, b5, b6, b7)) := by
  generalize hf : (fun z : (aa_G × Int32 × Int32 × Int32 × Int32) => fn_122_37b z.1 b2 B3 z.2.1 z.2.2.1 z.2.2.2.1 z.2.2.2.2) = f
  intro n
  induction n using Nat.strongRecOn with
  | _ n ih =>
    intro hN g b4 b5 b6 b7 x1 x8 jx1 jx8 r
    refine lp_go ?_
    rw [← congrFun hf (g, b4, b5, b6, b7)]
    show lp_q (iw_s v h) d f (fn_122_37b g b2 B3 b4 b5 b6 b7)
    unfold fn_122_37b
    obtain ⟨n16, ln16, r⟩ := rn_steps 1 (42, [some (.ref 1), x1, some (.int b2), some (.ref B3), some (.int b4), some (.int b5), some (.int b6), some (.int b7), x8], [.int 360, .int b7], aa_H g) rfl r
    refine rn_ic (lp_q (iw_s v h) d f) rfl decide_eq_true_iff.symm r (fun c17 l18n l18 r => ?_) (fun c17 l18n l18 r => ?_)
    · obtain ⟨n19, ln19, r⟩ := rn_steps 1 (115, [some (.ref 1), x1, some (.int b2), some (.ref B3), some (.int b4), some (.int b5), some (.int b6), some (.int b7), x8], [.int 3, .int b2], aa_H g) rfl r
      refine rn_ic (lp_q (iw_s v h) d f) rfl decide_eq_true_iff.symm r (fun c20 l21n l21 r => ?_) (fun c20 l21n l21 r => ?_)
      · obtain ⟨n22, ln22, r⟩ := rn_steps 0 (125, [some (.ref 1), x1, some (.int b2), some (.ref B3), some (.int b4), some (.int b5), some (.int b6), some (.int b7), x8], [.int b4], aa_H g) rfl r
        exact rn_ire rfl r
      · obtain ⟨n23, ln23, r⟩ := rn_steps 1 (125, [some (.ref 1), x1, some (.int b2), some (.ref B3), some (.int b4), some (.int b5), some (.int b6), some (.int b7), x8], [.int b6], aa_H g) rfl r
        exact rn_ire rfl r
    · obtain ⟨n24, ln24, r⟩ := rn_steps 4 (53, [some (.ref 1), x1, some (.int b2), some (.ref B3), some (.int b4), some (.int b5), some (.int b6), some (.int b7), x8], [.int 0, .int b7, .ref B3, .ref 461], aa_H g) rfl r
      obtain ⟨_, n25, v1, h1, -, ln25, rc, r⟩ := rn_call (m2 := 78) (as := [.ref 461, .ref B3, .int b7, .int 0]) (rest := []) rfl rfl r
      obtain ⟨rfl, rfl⟩ := dn_78 sp_c461 (rn_o1 hB3) rc
      have r : rn_s _ 122 (56, [some (.ref 1), x1, some (.int b2), some (.ref B3), some (.int b4), some (.int b5), some (.int b6), some (.int b7), x8], [], aa_H (fn_78 g 461 (some B3) b7 0)) v h := r
      exact dn_122_56 (lp_q (iw_s v h) d f) (fun n2 l2 => ih n2 (by omega) (by omega)) (fun z hz => hz) hB3 x1 x8 jx1 jx8 r
theorem dn_122_37 {v : Option Value} {h : zz_H} {n : Nat} {g : aa_G} {b2 : Int32} {B3 : Nat} {b4 : Int32} {b5 : Int32} {b6 : Int32} {b7 : Int32} (hB3 : ct_tw B3) (x1 x8 : Option Value) (jx1 : rn_jk x1) (jx8 : rn_jk x8) (r : rn_s n 122 (37, [some (.ref 1), x1, some (.int b2), some (.ref B3), some (.int b4), some (.int b5), some (.int b6), some (.int b7), x8], [], aa_H g) v h) : (iw_s v h) (fn_122_37 g b2 B3 b4 b5 b6 b7) := dn_122_37l hB3 n (Nat.le_refl n) g b4 b5 b6 b7 x1 x8 jx1 jx8 r
noncomputable def fn_122 (g : aa_G) (a1 : Int32) (a2 : Int32) : Int32 × aa_G := (match fn_31 g a1 with | none => ((-1, g)) | some W6 => (if (fn_14 a2 0 3) ≠ 0 then fn_122_37 g a2 W6 (-2) 0 0 0 else (-1, g)))
theorem dn_122 {v : Option Value} {h : zz_H} {n : Nat} {g : aa_G} {a1 : Int32} {a2 : Int32}  (r : rn_s n 122 (0, zz_in [.ref 1, .int a1, .int a2] (zz_nl 122), [], aa_H g) v h) : iw_s v h (fn_122 g a1 a2) := by
  have r : rn_s n 122 (0, [some (.ref 1), some (.int a1), some (.int a2), none, none, none, none, none, none], [], aa_H g) v h := r
  unfold fn_122
  obtain ⟨n1, ln1, r⟩ := rn_steps 2 (5, [some (.ref 1), some (.int a1), some (.int a2), none, none, none, none, none, none], [.int a1, .ref 2], aa_H g) rfl r
  obtain ⟨_, n2, v1, h1, -, ln2, rc, r⟩ := rn_call (m2 := 31) (as := [.ref 2, .int a1]) (rest := []) rfl rfl r
  obtain ⟨rfl, rfl, ho4⟩ := dn_31 rc
  have r : rn_s _ 122 (8, [some (.ref 1), some (.int a1), some (.int a2), none, none, none, none, none, none], [zz_val (fn_31 g a1)], aa_H g) v h := r
  cases e5 : fn_31 g a1 with
  | none =>
    rw [e5] at r
    have r : rn_s _ 122 (8, [some (.ref 1), some (.int a1), some (.int a2), none, none, none, none, none, none], [.null], aa_H g) v h := r
    dsimp only
    obtain ⟨n8, ln8, r⟩ := rn_steps 3 (23, [some (.ref 1), some (.int a1), some (.int a2), some (.null), none, none, none, none, none], [.int (-1)], aa_H g) rfl r
    exact rn_ire rfl r
  | some W6 =>
    rw [e5] at r
    have hw7 : ct_tw W6 := ho4 _ e5
    have r : rn_s _ 122 (8, [some (.ref 1), some (.int a1), some (.int a2), none, none, none, none, none, none], [.ref W6], aa_H g) v h := r
    dsimp only
    obtain ⟨n9, ln9, r⟩ := rn_steps 5 (16, [some (.ref 1), some (.int a1), some (.int a2), some (.ref W6), none, none, none, none, none], [.int 3, .int 0, .int a2], aa_H g) rfl r
    obtain ⟨_, n10, v1, h1, -, ln10, rc, r⟩ := rn_call (m2 := 14) (as := [.int a2, .int 0, .int 3]) (rest := []) rfl rfl r
    obtain ⟨rfl, rfl⟩ := dn_14 rc
    have r : rn_s _ 122 (19, [some (.ref 1), some (.int a1), some (.int a2), some (.ref W6), none, none, none, none, none], [.int (fn_14 a2 0 3)], aa_H g) v h := r
    refine rn_if (iw_s v h) rfl decide_eq_true_iff.symm r (fun c12 l13n l13 r => ?_) (fun c12 l13n l13 r => ?_)
    · obtain ⟨n14, ln14, r⟩ := rn_steps 7 (37, [some (.ref 1), some (.int a1), some (.int a2), some (.ref W6), some (.int (-2)), some (.int 0), some (.int 0), some (.int 0), none], [], aa_H g) rfl r
      exact dn_122_37 hw7 (some (.int a1)) none rn_ji rn_jn r
    · obtain ⟨n15, ln15, r⟩ := rn_steps 0 (23, [some (.ref 1), some (.int a1), some (.int a2), some (.ref W6), none, none, none, none, none], [.int (-1)], aa_H g) rfl r
      exact rn_ire rfl r
end
section
/-! METHODS READ (printed by wip/dc/dc.py) -/
-- 125: UnequalHours hourWorth
noncomputable def fn_125 (a0 : Int32) (a1 : Int32) (a2 : Int32) : Int32 := if a2 ≠ 0 then if a2 ≠ 1 then a0 else -a0 else a1 - a0
theorem dn_125 {v : Option Value} {h : zz_H} {n : Nat} {g : aa_G} {a0 : Int32} {a1 : Int32} {a2 : Int32}  (r : rn_s n 125 (0, zz_in [.int a0, .int a1, .int a2] (zz_nl 125), [], aa_H g) v h) : ir_s g v h (fn_125 a0 a1 a2) := by
  have r : rn_s n 125 (0, [some (.int a0), some (.int a1), some (.int a2)], [], aa_H g) v h := r
  unfold fn_125
  obtain ⟨n1, ln1, r⟩ := rn_steps 0 (1, [some (.int a0), some (.int a1), some (.int a2)], [.int a2], aa_H g) rfl r
  refine rn_if (ir_s g v h) rfl decide_eq_true_iff.symm r (fun c2 l3n l3 r => ?_) (fun c2 l3n l3 r => ?_)
  · obtain ⟨n4, ln4, r⟩ := rn_steps 1 (10, [some (.int a0), some (.int a1), some (.int a2)], [.int 1, .int a2], aa_H g) rfl r
    refine rn_ic (ir_s g v h) rfl decide_eq_true_iff.symm r (fun c5 l6n l6 r => ?_) (fun c5 l6n l6 r => ?_)
    · obtain ⟨n7, ln7, r⟩ := rn_steps 0 (19, [some (.int a0), some (.int a1), some (.int a2)], [.int a0], aa_H g) rfl r
      exact rn_ire rfl r
    · obtain ⟨n8, ln8, r⟩ := rn_steps 2 (19, [some (.int a0), some (.int a1), some (.int a2)], [.int (-a0)], aa_H g) rfl r
      exact rn_ire rfl r
  · obtain ⟨n9, ln9, r⟩ := rn_steps 2 (7, [some (.int a0), some (.int a1), some (.int a2)], [.int (a1 - a0)], aa_H g) rfl r
    exact rn_ire rfl r
-- 124: UnequalHours best
noncomputable def fn_124_155 (g : aa_G) (b2 : Int32) (b3 : Int32) (b4 : Int32) (b5 : Int32) (B6 : Nat) (b7 : Int32) (b8 : Int32) (b9 : Int32) : (aa_G × Int32 × Int32 × Int32) ⊕ (Int32 × aa_G) := .inl (g, b7, b8, b9 + 1)
theorem dn_124_155 {v : Option Value} {h : zz_H} {n : Nat} {g : aa_G} {b2 : Int32} {b3 : Int32} {b4 : Int32} {b5 : Int32} {B6 : Nat} {b7 : Int32} {b8 : Int32} {b9 : Int32} (P : (aa_G × Int32 × Int32 × Int32) ⊕ (Int32 × aa_G) → Prop) (hO0 : ∀ n2, n2 < n → ∀ (yg : aa_G) (yb7 : Int32) (yb8 : Int32) (yb9 : Int32) (yx1 yx10 : Option Value) (_ : rn_jk yx1) (_ : rn_jk yx10), rn_s n2 124 (68, [some (.ref 1), yx1, some (.int b2), some (.int b3), some (.int b4), some (.int b5), some (.ref B6), some (.int yb7), some (.int yb8), some (.int yb9), yx10], [], aa_H yg) v h → P (.inl (yg, yb7, yb8, yb9))) (hR : ∀ E, iw_s v h E → P (.inr E)) (hB6 : ct_tw B6) (x1 x10 : Option Value) (jx1 : rn_jk x1) (jx10 : rn_jk x10) (r : rn_s n 124 (155, [some (.ref 1), x1, some (.int b2), some (.int b3), some (.int b4), some (.int b5), some (.ref B6), some (.int b7), some (.int b8), some (.int b9), x10], [], aa_H g) v h) : P (fn_124_155 g b2 b3 b4 b5 B6 b7 b8 b9) := by
  unfold fn_124_155
  obtain ⟨n63, ln63, r⟩ := rn_steps 1 (68, [some (.ref 1), x1, some (.int b2), some (.int b3), some (.int b4), some (.int b5), some (.ref B6), some (.int b7), some (.int b8), some (.int (b9 + 1)), x10], [], aa_H g) rfl r
  exact hO0 _ (by omega) g b7 b8 (b9 + 1) x1 x10 jx1 jx10 r
noncomputable def fn_124_147 (g : aa_G) (b2 : Int32) (b3 : Int32) (b4 : Int32) (b5 : Int32) (B6 : Nat) (b9 : Int32) (b10 : Int32) : (aa_G × Int32 × Int32 × Int32) ⊕ (Int32 × aa_G) := fn_124_155 g b2 b3 b4 b5 B6 b9 b10 b9
theorem dn_124_147 {v : Option Value} {h : zz_H} {n : Nat} {g : aa_G} {b2 : Int32} {b3 : Int32} {b4 : Int32} {b5 : Int32} {B6 : Nat} {b9 : Int32} {b10 : Int32} (P : (aa_G × Int32 × Int32 × Int32) ⊕ (Int32 × aa_G) → Prop) (hO0 : ∀ n2, n2 < n → ∀ (yg : aa_G) (yb7 : Int32) (yb8 : Int32) (yb9 : Int32) (yx1 yx10 : Option Value) (_ : rn_jk yx1) (_ : rn_jk yx10), rn_s n2 124 (68, [some (.ref 1), yx1, some (.int b2), some (.int b3), some (.int b4), some (.int b5), some (.ref B6), some (.int yb7), some (.int yb8), some (.int yb9), yx10], [], aa_H yg) v h → P (.inl (yg, yb7, yb8, yb9))) (hR : ∀ E, iw_s v h E → P (.inr E)) (hB6 : ct_tw B6) (x1 x7 x8 : Option Value) (jx1 : rn_jk x1) (jx7 : rn_jk x7) (jx8 : rn_jk x8) (r : rn_s n 124 (147, [some (.ref 1), x1, some (.int b2), some (.int b3), some (.int b4), some (.int b5), some (.ref B6), x7, x8, some (.int b9), some (.int b10)], [], aa_H g) v h) : P (fn_124_147 g b2 b3 b4 b5 B6 b9 b10) := by
  unfold fn_124_147
  obtain ⟨n64, ln64, r⟩ := rn_steps 3 (155, [some (.ref 1), x1, some (.int b2), some (.int b3), some (.int b4), some (.int b5), some (.ref B6), some (.int b9), some (.int b10), some (.int b9), some (.int b10)], [], aa_H g) rfl r
  exact dn_124_155 (P) (fun n2 l2 => hO0 n2 (by omega)) (fun z hz => hR _ hz) hB6 x1 (some (.int b10)) jx1 rn_ji r
noncomputable def fn_124_96 (g : aa_G) (b2 : Int32) (b3 : Int32) (b4 : Int32) (b5 : Int32) (B6 : Nat) (b7 : Int32) (b8 : Int32) (b9 : Int32) : (aa_G × Int32 × Int32 × Int32) ⊕ (Int32 × aa_G) := if (g 461 0) = 0 then fn_124_155 g b2 b3 b4 b5 B6 b7 b8 b9 else if b7 = (-2) then fn_124_147 g b2 b3 b4 b5 B6 b9 (fn_125 (fn_100 g 461 b4) (fn_100 g 461 (b4 + 1)) b5) else if (fn_125 (fn_100 g 461 b4) (fn_100 g 461 (b4 + 1)) b5) ≤ b8 then fn_124_155 g b2 b3 b4 b5 B6 b7 b8 b9 else fn_124_147 g b2 b3 b4 b5 B6 b9 (fn_125 (fn_100 g 461 b4) (fn_100 g 461 (b4 + 1)) b5)
theorem dn_124_96 {v : Option Value} {h : zz_H} {n : Nat} {g : aa_G} {b2 : Int32} {b3 : Int32} {b4 : Int32} {b5 : Int32} {B6 : Nat} {b7 : Int32} {b8 : Int32} {b9 : Int32} (P : (aa_G × Int32 × Int32 × Int32) ⊕ (Int32 × aa_G) → Prop) (hO0 : ∀ n2, n2 < n → ∀ (yg : aa_G) (yb7 : Int32) (yb8 : Int32) (yb9 : Int32) (yx1 yx10 : Option Value) (_ : rn_jk yx1) (_ : rn_jk yx10), rn_s n2 124 (68, [some (.ref 1), yx1, some (.int b2), some (.int b3), some (.int b4), some (.int b5), some (.ref B6), some (.int yb7), some (.int yb8), some (.int yb9), yx10], [], aa_H yg) v h → P (.inl (yg, yb7, yb8, yb9))) (hR : ∀ E, iw_s v h E → P (.inr E)) (hB6 : ct_tw B6) (x1 x10 : Option Value) (jx1 : rn_jk x1) (jx10 : rn_jk x10) (r : rn_s n 124 (96, [some (.ref 1), x1, some (.int b2), some (.int b3), some (.int b4), some (.int b5), some (.ref B6), some (.int b7), some (.int b8), some (.int b9), x10], [], aa_H g) v h) : P (fn_124_96 g b2 b3 b4 b5 B6 b7 b8 b9) := by
  unfold fn_124_96
  obtain ⟨n45, ln45, r⟩ := rn_steps 2 (102, [some (.ref 1), x1, some (.int b2), some (.int b3), some (.int b4), some (.int b5), some (.ref B6), some (.int b7), some (.int b8), some (.int b9), x10], [.int b4, .ref 461], aa_H g) rfl r
  obtain ⟨_, n46, v1, h1, -, ln46, rc, r⟩ := rn_call (m2 := 100) (as := [.ref 461, .int b4]) (rest := []) rfl rfl r
  obtain ⟨rfl, rfl⟩ := dn_100 sp_c461 rc
  have r : rn_s _ 124 (105, [some (.ref 1), x1, some (.int b2), some (.int b3), some (.int b4), some (.int b5), some (.ref B6), some (.int b7), some (.int b8), some (.int b9), x10], [.int (fn_100 g 461 b4)], aa_H g) v h := r
  obtain ⟨n48, ln48, r⟩ := rn_steps 4 (113, [some (.ref 1), x1, some (.int b2), some (.int b3), some (.int b4), some (.int b5), some (.ref B6), some (.int b7), some (.int b8), some (.int b9), x10], [.int (b4 + 1), .ref 461, .int (fn_100 g 461 b4)], aa_H g) rfl r
  obtain ⟨_, n49, v1, h1, -, ln49, rc, r⟩ := rn_call (m2 := 100) (as := [.ref 461, .int (b4 + 1)]) (rest := [.int (fn_100 g 461 b4)]) rfl rfl r
  obtain ⟨rfl, rfl⟩ := dn_100 sp_c461 rc
  have r : rn_s _ 124 (116, [some (.ref 1), x1, some (.int b2), some (.int b3), some (.int b4), some (.int b5), some (.ref B6), some (.int b7), some (.int b8), some (.int b9), x10], [.int (fn_100 g 461 (b4 + 1)), .int (fn_100 g 461 b4)], aa_H g) v h := r
  obtain ⟨n51, ln51, r⟩ := rn_steps 0 (118, [some (.ref 1), x1, some (.int b2), some (.int b3), some (.int b4), some (.int b5), some (.ref B6), some (.int b7), some (.int b8), some (.int b9), x10], [.int b5, .int (fn_100 g 461 (b4 + 1)), .int (fn_100 g 461 b4)], aa_H g) rfl r
  obtain ⟨_, n52, v1, h1, -, ln52, rc, r⟩ := rn_call (m2 := 125) (as := [.int (fn_100 g 461 b4), .int (fn_100 g 461 (b4 + 1)), .int b5]) (rest := []) rfl rfl r
  obtain ⟨rfl, rfl⟩ := dn_125 rc
  have r : rn_s _ 124 (121, [some (.ref 1), x1, some (.int b2), some (.int b3), some (.int b4), some (.int b5), some (.ref B6), some (.int b7), some (.int b8), some (.int b9), x10], [.int (fn_125 (fn_100 g 461 b4) (fn_100 g 461 (b4 + 1)) b5)], aa_H g) v h := r
  obtain ⟨n54, ln54, r⟩ := rn_steps 3 (130, [some (.ref 1), x1, some (.int b2), some (.int b3), some (.int b4), some (.int b5), some (.ref B6), some (.int b7), some (.int b8), some (.int b9), some (.int (fn_125 (fn_100 g 461 b4) (fn_100 g 461 (b4 + 1)) b5))], [.int (g 461 0)], aa_H g) rfl r
  refine rn_if (P) rfl decide_eq_true_iff.symm r (fun c55 l56n l56 r => ?_) (fun c55 l56n l56 r => ?_)
  · exact dn_124_155 (P) (fun n2 l2 => hO0 n2 (by omega)) (fun z hz => hR _ hz) hB6 x1 (some (.int (fn_125 (fn_100 g 461 b4) (fn_100 g 461 (b4 + 1)) b5))) jx1 rn_ji r
  · obtain ⟨n57, ln57, r⟩ := rn_steps 1 (137, [some (.ref 1), x1, some (.int b2), some (.int b3), some (.int b4), some (.int b5), some (.ref B6), some (.int b7), some (.int b8), some (.int b9), some (.int (fn_125 (fn_100 g 461 b4) (fn_100 g 461 (b4 + 1)) b5))], [.int (-2), .int b7], aa_H g) rfl r
    refine rn_ic (P) rfl decide_eq_true_iff.symm r (fun c58 l59n l59 r => ?_) (fun c58 l59n l59 r => ?_)
    · exact dn_124_147 (P) (fun n2 l2 => hO0 n2 (by omega)) (fun z hz => hR _ hz) hB6 x1 (some (.int b7)) (some (.int b8)) jx1 rn_ji rn_ji r
    · obtain ⟨n60, ln60, r⟩ := rn_steps 1 (144, [some (.ref 1), x1, some (.int b2), some (.int b3), some (.int b4), some (.int b5), some (.ref B6), some (.int b7), some (.int b8), some (.int b9), some (.int (fn_125 (fn_100 g 461 b4) (fn_100 g 461 (b4 + 1)) b5))], [.int b8, .int (fn_125 (fn_100 g 461 b4) (fn_100 g 461 (b4 + 1)) b5)], aa_H g) rfl r
      refine rn_ic (P) rfl decide_eq_true_iff.symm r (fun c61 l62n l62 r => ?_) (fun c61 l62n l62 r => ?_)
      · exact dn_124_155 (P) (fun n2 l2 => hO0 n2 (by omega)) (fun z hz => hR _ hz) hB6 x1 (some (.int (fn_125 (fn_100 g 461 b4) (fn_100 g 461 (b4 + 1)) b5))) jx1 rn_ji r
      · exact dn_124_147 (P) (fun n2 l2 => hO0 n2 (by omega)) (fun z hz => hR _ hz) hB6 x1 (some (.int b7)) (some (.int b8)) jx1 rn_ji rn_ji r
noncomputable def fn_124_68b (g : aa_G) (b2 : Int32) (b3 : Int32) (b4 : Int32) (b5 : Int32) (B6 : Nat) (b7 : Int32) (b8 : Int32) (b9 : Int32) : (aa_G × Int32 × Int32 × Int32) ⊕ (Int32 × aa_G) := if (b2 + b3) ≤ b9 then .inr (b7, g) else if 36000 ≤ b9 then .inr (b7, g) else fn_124_96 (fn_78 g 461 (some B6) b9 0) b2 b3 b4 b5 B6 b7 b8 b9
noncomputable def fn_124_68 (g : aa_G) (b2 : Int32) (b3 : Int32) (b4 : Int32) (b5 : Int32) (B6 : Nat) (b7 : Int32) (b8 : Int32) (b9 : Int32) : Int32 × aa_G := lp_f (0, g) (fun z : (aa_G × Int32 × Int32 × Int32) => fn_124_68b z.1 b2 b3 b4 b5 B6 z.2.1 z.2.2.1 z.2.2.2) (g, b7, b8, b9)
theorem dn_124_68l {v : Option Value} {h : zz_H} {N : Nat} {b2 : Int32} {b3 : Int32} {b4 : Int32} {b5 : Int32} {B6 : Nat} (hB6 : ct_tw B6) {d : Int32 × aa_G} : ∀ (n : Nat), n ≤ N → ∀ (g : aa_G) (b7 : Int32) (b8 : Int32) (b9 : Int32) (x1 x10 : Option Value) (jx1 : rn_jk x1) (jx10 : rn_jk x10), rn_s n 124 (68, [some (.ref 1), x1, some (.int b2), some (.int b3), some (.int b4), some (.int b5), some (.ref B6), some (.int b7), some (.int b8), some (.int b9), x10], [], aa_H g) v h → (iw_s v h) (lp_f d (fun z : (aa_G × Int32 × Int32 × Int32) => fn_124_68b z.1 b2 b3 b4 b5 B6 z.2.1 z.2.2.1 z.2.2.2) (g, b7, b8, b9)) := by
  generalize hf : (fun z : (aa_G × Int32 × Int32 × Int32) => fn_124_68b z.1 b2 b3 b4 b5 B6 z.2.1 z.2.2.1 z.2.2.2) = f
  intro n
  induction n using Nat.strongRecOn with
  | _ n ih =>
    intro hN g b7 b8 b9 x1 x10 jx1 jx10 r
    refine lp_go ?_
    rw [← congrFun hf (g, b7, b8, b9)]
    show lp_q (iw_s v h) d f (fn_124_68b g b2 b3 b4 b5 B6 b7 b8 b9)
    unfold fn_124_68b
    obtain ⟨n34, ln34, r⟩ := rn_steps 3 (73, [some (.ref 1), x1, some (.int b2), some (.int b3), some (.int b4), some (.int b5), some (.ref B6), some (.int b7), some (.int b8), some (.int b9), x10], [.int (b2 + b3), .int b9], aa_H g) rfl r
    refine rn_ic (lp_q (iw_s v h) d f) rfl decide_eq_true_iff.symm r (fun c35 l36n l36 r => ?_) (fun c35 l36n l36 r => ?_)
    · obtain ⟨n37, ln37, r⟩ := rn_steps 0 (163, [some (.ref 1), x1, some (.int b2), some (.int b3), some (.int b4), some (.int b5), some (.ref B6), some (.int b7), some (.int b8), some (.int b9), x10], [.int b7], aa_H g) rfl r
      exact rn_ire rfl r
    · obtain ⟨n38, ln38, r⟩ := rn_steps 1 (81, [some (.ref 1), x1, some (.int b2), some (.int b3), some (.int b4), some (.int b5), some (.ref B6), some (.int b7), some (.int b8), some (.int b9), x10], [.int 36000, .int b9], aa_H g) rfl r
      refine rn_ic (lp_q (iw_s v h) d f) rfl decide_eq_true_iff.symm r (fun c39 l40n l40 r => ?_) (fun c39 l40n l40 r => ?_)
      · obtain ⟨n41, ln41, r⟩ := rn_steps 0 (163, [some (.ref 1), x1, some (.int b2), some (.int b3), some (.int b4), some (.int b5), some (.ref B6), some (.int b7), some (.int b8), some (.int b9), x10], [.int b7], aa_H g) rfl r
        exact rn_ire rfl r
      · obtain ⟨n42, ln42, r⟩ := rn_steps 4 (93, [some (.ref 1), x1, some (.int b2), some (.int b3), some (.int b4), some (.int b5), some (.ref B6), some (.int b7), some (.int b8), some (.int b9), x10], [.int 0, .int b9, .ref B6, .ref 461], aa_H g) rfl r
        obtain ⟨_, n43, v1, h1, -, ln43, rc, r⟩ := rn_call (m2 := 78) (as := [.ref 461, .ref B6, .int b9, .int 0]) (rest := []) rfl rfl r
        obtain ⟨rfl, rfl⟩ := dn_78 sp_c461 (rn_o1 hB6) rc
        have r : rn_s _ 124 (96, [some (.ref 1), x1, some (.int b2), some (.int b3), some (.int b4), some (.int b5), some (.ref B6), some (.int b7), some (.int b8), some (.int b9), x10], [], aa_H (fn_78 g 461 (some B6) b9 0)) v h := r
        exact dn_124_96 (lp_q (iw_s v h) d f) (fun n2 l2 => ih n2 (by omega) (by omega)) (fun z hz => hz) hB6 x1 x10 jx1 jx10 r
theorem dn_124_68 {v : Option Value} {h : zz_H} {n : Nat} {g : aa_G} {b2 : Int32} {b3 : Int32} {b4 : Int32} {b5 : Int32} {B6 : Nat} {b7 : Int32} {b8 : Int32} {b9 : Int32} (hB6 : ct_tw B6) (x1 x10 : Option Value) (jx1 : rn_jk x1) (jx10 : rn_jk x10) (r : rn_s n 124 (68, [some (.ref 1), x1, some (.int b2), some (.int b3), some (.int b4), some (.int b5), some (.ref B6), some (.int b7), some (.int b8), some (.int b9), x10], [], aa_H g) v h) : (iw_s v h) (fn_124_68 g b2 b3 b4 b5 B6 b7 b8 b9) := dn_124_68l hB6 n (Nat.le_refl n) g b7 b8 b9 x1 x10 jx1 jx10 r
noncomputable def fn_124 (g : aa_G) (a1 : Int32) (a2 : Int32) (a3 : Int32) (a4 : Int32) (a5 : Int32) : Int32 × aa_G := (match fn_31 g a1 with | none => ((-1, g)) | some W6 => (if (fn_77 a2) = 0 then (-1, g) else if (fn_14 a3 1 360) ≠ 0 then if (fn_14 a4 0 11) = 0 then (-1, g) else if (fn_14 a5 0 2) ≠ 0 then fn_124_68 g a2 a3 a4 a5 W6 (-2) 0 a2 else (-1, g) else (-1, g)))
theorem dn_124 {v : Option Value} {h : zz_H} {n : Nat} {g : aa_G} {a1 : Int32} {a2 : Int32} {a3 : Int32} {a4 : Int32} {a5 : Int32}  (r : rn_s n 124 (0, zz_in [.ref 1, .int a1, .int a2, .int a3, .int a4, .int a5] (zz_nl 124), [], aa_H g) v h) : iw_s v h (fn_124 g a1 a2 a3 a4 a5) := by
  have r : rn_s n 124 (0, [some (.ref 1), some (.int a1), some (.int a2), some (.int a3), some (.int a4), some (.int a5), none, none, none, none, none], [], aa_H g) v h := r
  unfold fn_124
  obtain ⟨n1, ln1, r⟩ := rn_steps 2 (5, [some (.ref 1), some (.int a1), some (.int a2), some (.int a3), some (.int a4), some (.int a5), none, none, none, none, none], [.int a1, .ref 2], aa_H g) rfl r
  obtain ⟨_, n2, v1, h1, -, ln2, rc, r⟩ := rn_call (m2 := 31) (as := [.ref 2, .int a1]) (rest := []) rfl rfl r
  obtain ⟨rfl, rfl, ho4⟩ := dn_31 rc
  have r : rn_s _ 124 (8, [some (.ref 1), some (.int a1), some (.int a2), some (.int a3), some (.int a4), some (.int a5), none, none, none, none, none], [zz_val (fn_31 g a1)], aa_H g) v h := r
  cases e5 : fn_31 g a1 with
  | none =>
    rw [e5] at r
    have r : rn_s _ 124 (8, [some (.ref 1), some (.int a1), some (.int a2), some (.int a3), some (.int a4), some (.int a5), none, none, none, none, none], [.null], aa_H g) v h := r
    dsimp only
    obtain ⟨n8, ln8, r⟩ := rn_steps 3 (34, [some (.ref 1), some (.int a1), some (.int a2), some (.int a3), some (.int a4), some (.int a5), some (.null), none, none, none, none], [.int (-1)], aa_H g) rfl r
    exact rn_ire rfl r
  | some W6 =>
    rw [e5] at r
    have hw7 : ct_tw W6 := ho4 _ e5
    have r : rn_s _ 124 (8, [some (.ref 1), some (.int a1), some (.int a2), some (.int a3), some (.int a4), some (.int a5), none, none, none, none, none], [.ref W6], aa_H g) v h := r
    dsimp only
    obtain ⟨n9, ln9, r⟩ := rn_steps 3 (16, [some (.ref 1), some (.int a1), some (.int a2), some (.int a3), some (.int a4), some (.int a5), some (.ref W6), none, none, none, none], [.int a2], aa_H g) rfl r
    obtain ⟨_, n10, v1, h1, -, ln10, rc, r⟩ := rn_call (m2 := 77) (as := [.int a2]) (rest := []) rfl rfl r
    obtain ⟨rfl, rfl⟩ := dn_77 rc
    have r : rn_s _ 124 (19, [some (.ref 1), some (.int a1), some (.int a2), some (.int a3), some (.int a4), some (.int a5), some (.ref W6), none, none, none, none], [.int (fn_77 a2)], aa_H g) v h := r
    refine rn_if (iw_s v h) rfl decide_eq_true_iff.symm r (fun c12 l13n l13 r => ?_) (fun c12 l13n l13 r => ?_)
    · obtain ⟨n14, ln14, r⟩ := rn_steps 0 (34, [some (.ref 1), some (.int a1), some (.int a2), some (.int a3), some (.int a4), some (.int a5), some (.ref W6), none, none, none, none], [.int (-1)], aa_H g) rfl r
      exact rn_ire rfl r
    · obtain ⟨n15, ln15, r⟩ := rn_steps 2 (27, [some (.ref 1), some (.int a1), some (.int a2), some (.int a3), some (.int a4), some (.int a5), some (.ref W6), none, none, none, none], [.int 360, .int 1, .int a3], aa_H g) rfl r
      obtain ⟨_, n16, v1, h1, -, ln16, rc, r⟩ := rn_call (m2 := 14) (as := [.int a3, .int 1, .int 360]) (rest := []) rfl rfl r
      obtain ⟨rfl, rfl⟩ := dn_14 rc
      have r : rn_s _ 124 (30, [some (.ref 1), some (.int a1), some (.int a2), some (.int a3), some (.int a4), some (.int a5), some (.ref W6), none, none, none, none], [.int (fn_14 a3 1 360)], aa_H g) v h := r
      refine rn_if (iw_s v h) rfl decide_eq_true_iff.symm r (fun c18 l19n l19 r => ?_) (fun c18 l19n l19 r => ?_)
      · obtain ⟨n20, ln20, r⟩ := rn_steps 2 (40, [some (.ref 1), some (.int a1), some (.int a2), some (.int a3), some (.int a4), some (.int a5), some (.ref W6), none, none, none, none], [.int 11, .int 0, .int a4], aa_H g) rfl r
        obtain ⟨_, n21, v1, h1, -, ln21, rc, r⟩ := rn_call (m2 := 14) (as := [.int a4, .int 0, .int 11]) (rest := []) rfl rfl r
        obtain ⟨rfl, rfl⟩ := dn_14 rc
        have r : rn_s _ 124 (43, [some (.ref 1), some (.int a1), some (.int a2), some (.int a3), some (.int a4), some (.int a5), some (.ref W6), none, none, none, none], [.int (fn_14 a4 0 11)], aa_H g) v h := r
        refine rn_if (iw_s v h) rfl decide_eq_true_iff.symm r (fun c23 l24n l24 r => ?_) (fun c23 l24n l24 r => ?_)
        · obtain ⟨n25, ln25, r⟩ := rn_steps 0 (57, [some (.ref 1), some (.int a1), some (.int a2), some (.int a3), some (.int a4), some (.int a5), some (.ref W6), none, none, none, none], [.int (-1)], aa_H g) rfl r
          exact rn_ire rfl r
        · obtain ⟨n26, ln26, r⟩ := rn_steps 2 (50, [some (.ref 1), some (.int a1), some (.int a2), some (.int a3), some (.int a4), some (.int a5), some (.ref W6), none, none, none, none], [.int 2, .int 0, .int a5], aa_H g) rfl r
          obtain ⟨_, n27, v1, h1, -, ln27, rc, r⟩ := rn_call (m2 := 14) (as := [.int a5, .int 0, .int 2]) (rest := []) rfl rfl r
          obtain ⟨rfl, rfl⟩ := dn_14 rc
          have r : rn_s _ 124 (53, [some (.ref 1), some (.int a1), some (.int a2), some (.int a3), some (.int a4), some (.int a5), some (.ref W6), none, none, none, none], [.int (fn_14 a5 0 2)], aa_H g) v h := r
          refine rn_if (iw_s v h) rfl decide_eq_true_iff.symm r (fun c29 l30n l30 r => ?_) (fun c29 l30n l30 r => ?_)
          · obtain ⟨n31, ln31, r⟩ := rn_steps 5 (68, [some (.ref 1), some (.int a1), some (.int a2), some (.int a3), some (.int a4), some (.int a5), some (.ref W6), some (.int (-2)), some (.int 0), some (.int a2), none], [], aa_H g) rfl r
            exact dn_124_68 hw7 (some (.int a1)) none rn_ji rn_jn r
          · obtain ⟨n32, ln32, r⟩ := rn_steps 0 (57, [some (.ref 1), some (.int a1), some (.int a2), some (.int a3), some (.int a4), some (.int a5), some (.ref W6), none, none, none, none], [.int (-1)], aa_H g) rfl r
            exact rn_ire rfl r
      · obtain ⟨n33, ln33, r⟩ := rn_steps 0 (34, [some (.ref 1), some (.int a1), some (.int a2), some (.int a3), some (.int a4), some (.int a5), some (.ref W6), none, none, none, none], [.int (-1)], aa_H g) rfl r
        exact rn_ire rfl r
-- 126: UnequalHours candle
noncomputable def fn_126_125 (g : aa_G) (b3 : Int32) (B4 : Nat) (b5 : Int32) (b6 : Int32) : (aa_G × Int32 × Int32) ⊕ (Int32 × aa_G) := .inl (g, b5 - ((g 461 4) / 12), b6 + 1)
theorem dn_126_125 {v : Option Value} {h : zz_H} {n : Nat} {g : aa_G} {b3 : Int32} {B4 : Nat} {b5 : Int32} {b6 : Int32} (P : (aa_G × Int32 × Int32) ⊕ (Int32 × aa_G) → Prop) (hO0 : ∀ n2, n2 < n → ∀ (yg : aa_G) (yb5 : Int32) (yb6 : Int32) (yx1 yx2 : Option Value) (_ : rn_jk yx1) (_ : rn_jk yx2), rn_s n2 126 (67, [some (.ref 1), yx1, yx2, some (.int b3), some (.ref B4), some (.int yb5), some (.int yb6)], [], aa_H yg) v h → P (.inl (yg, yb5, yb6))) (hR : ∀ E, iw_s v h E → P (.inr E)) (hB4 : ct_tw B4) (x1 x2 : Option Value) (jx1 : rn_jk x1) (jx2 : rn_jk x2) (r : rn_s n 126 (125, [some (.ref 1), x1, x2, some (.int b3), some (.ref B4), some (.int b5), some (.int b6)], [], aa_H g) v h) : P (fn_126_125 g b3 B4 b5 b6) := by
  unfold fn_126_125
  obtain ⟨n47, ln47, r⟩ := rn_steps 9 (67, [some (.ref 1), x1, x2, some (.int b3), some (.ref B4), some (.int (b5 - ((g 461 4) / 12))), some (.int (b6 + 1))], [], aa_H g) rfl r
  exact hO0 _ (by omega) g (b5 - ((g 461 4) / 12)) (b6 + 1) x1 x2 jx1 jx2 r
noncomputable def fn_126_97 (g : aa_G) (b3 : Int32) (B4 : Nat) (b5 : Int32) (b6 : Int32) : (aa_G × Int32 × Int32) ⊕ (Int32 × aa_G) := if (g 461 0) = 0 then fn_126_125 g b3 B4 b5 b6 else if ((g 461 4) / 12) < b5 then fn_126_125 g b3 B4 b5 b6 else .inr (b6, g)
theorem dn_126_97 {v : Option Value} {h : zz_H} {n : Nat} {g : aa_G} {b3 : Int32} {B4 : Nat} {b5 : Int32} {b6 : Int32} (P : (aa_G × Int32 × Int32) ⊕ (Int32 × aa_G) → Prop) (hO0 : ∀ n2, n2 < n → ∀ (yg : aa_G) (yb5 : Int32) (yb6 : Int32) (yx1 yx2 : Option Value) (_ : rn_jk yx1) (_ : rn_jk yx2), rn_s n2 126 (67, [some (.ref 1), yx1, yx2, some (.int b3), some (.ref B4), some (.int yb5), some (.int yb6)], [], aa_H yg) v h → P (.inl (yg, yb5, yb6))) (hR : ∀ E, iw_s v h E → P (.inr E)) (hB4 : ct_tw B4) (x1 x2 : Option Value) (jx1 : rn_jk x1) (jx2 : rn_jk x2) (r : rn_s n 126 (97, [some (.ref 1), x1, x2, some (.int b3), some (.ref B4), some (.int b5), some (.int b6)], [], aa_H g) v h) : P (fn_126_97 g b3 B4 b5 b6) := by
  unfold fn_126_97
  obtain ⟨n40, ln40, r⟩ := rn_steps 2 (104, [some (.ref 1), x1, x2, some (.int b3), some (.ref B4), some (.int b5), some (.int b6)], [.int (g 461 0)], aa_H g) rfl r
  refine rn_if (P) rfl decide_eq_true_iff.symm r (fun c41 l42n l42 r => ?_) (fun c41 l42n l42 r => ?_)
  · exact dn_126_125 (P) (fun n2 l2 => hO0 n2 (by omega)) (fun z hz => hR _ hz) hB4 x1 x2 jx1 jx2 r
  · obtain ⟨n43, ln43, r⟩ := rn_steps 5 (119, [some (.ref 1), x1, x2, some (.int b3), some (.ref B4), some (.int b5), some (.int b6)], [.int ((g 461 4) / 12), .int b5], aa_H g) rfl r
    refine rn_ic (P) rfl decide_eq_true_iff.symm r (fun c44 l45n l45 r => ?_) (fun c44 l45n l45 r => ?_)
    · exact dn_126_125 (P) (fun n2 l2 => hO0 n2 (by omega)) (fun z hz => hR _ hz) hB4 x1 x2 jx1 jx2 r
    · obtain ⟨n46, ln46, r⟩ := rn_steps 0 (124, [some (.ref 1), x1, x2, some (.int b3), some (.ref B4), some (.int b5), some (.int b6)], [.int b6], aa_H g) rfl r
      exact hR _ (rn_ire rfl r)
noncomputable def fn_126_67b (g : aa_G) (b3 : Int32) (B4 : Nat) (b5 : Int32) (b6 : Int32) : (aa_G × Int32 × Int32) ⊕ (Int32 × aa_G) := if (b3 + 360) ≤ b6 then .inr (-2, g) else if 36000 ≤ b6 then .inr (-2, g) else fn_126_97 (fn_78 g 461 (some B4) b6 0) b3 B4 b5 b6
noncomputable def fn_126_67 (g : aa_G) (b3 : Int32) (B4 : Nat) (b5 : Int32) (b6 : Int32) : Int32 × aa_G := lp_f (0, g) (fun z : (aa_G × Int32 × Int32) => fn_126_67b z.1 b3 B4 z.2.1 z.2.2) (g, b5, b6)
theorem dn_126_67l {v : Option Value} {h : zz_H} {N : Nat} {b3 : Int32} {B4 : Nat} (hB4 : ct_tw B4) {d : Int32 × aa_G} : ∀ (n : Nat), n ≤ N → ∀ (g : aa_G) (b5 : Int32) (b6 : Int32) (x1 x2 : Option Value) (jx1 : rn_jk x1) (jx2 : rn_jk x2), rn_s n 126 (67, [some (.ref 1), x1, x2, some (.int b3), some (.ref B4), some (.int b5), some (.int b6)], [], aa_H g) v h → (iw_s v h) (lp_f d (fun z : (aa_G × Int32 × Int32) => fn_126_67b z.1 b3 B4 z.2.1 z.2.2) (g, b5, b6)) := by
  generalize hf : (fun z : (aa_G × Int32 × Int32) => fn_126_67b z.1 b3 B4 z.2.1 z.2.2) = f
  intro n
  induction n using Nat.strongRecOn with
  | _ n ih =>
    intro hN g b5 b6 x1 x2 jx1 jx2 r
    refine lp_go ?_
    rw [← congrFun hf (g, b5, b6)]
    show lp_q (iw_s v h) d f (fn_126_67b g b3 B4 b5 b6)
    unfold fn_126_67b
    obtain ⟨n29, ln29, r⟩ := rn_steps 3 (74, [some (.ref 1), x1, x2, some (.int b3), some (.ref B4), some (.int b5), some (.int b6)], [.int (b3 + 360), .int b6], aa_H g) rfl r
    refine rn_ic (lp_q (iw_s v h) d f) rfl decide_eq_true_iff.symm r (fun c30 l31n l31 r => ?_) (fun c30 l31n l31 r => ?_)
    · obtain ⟨n32, ln32, r⟩ := rn_steps 0 (148, [some (.ref 1), x1, x2, some (.int b3), some (.ref B4), some (.int b5), some (.int b6)], [.int (-2)], aa_H g) rfl r
      exact rn_ire rfl r
    · obtain ⟨n33, ln33, r⟩ := rn_steps 1 (82, [some (.ref 1), x1, x2, some (.int b3), some (.ref B4), some (.int b5), some (.int b6)], [.int 36000, .int b6], aa_H g) rfl r
      refine rn_ic (lp_q (iw_s v h) d f) rfl decide_eq_true_iff.symm r (fun c34 l35n l35 r => ?_) (fun c34 l35n l35 r => ?_)
      · obtain ⟨n36, ln36, r⟩ := rn_steps 0 (148, [some (.ref 1), x1, x2, some (.int b3), some (.ref B4), some (.int b5), some (.int b6)], [.int (-2)], aa_H g) rfl r
        exact rn_ire rfl r
      · obtain ⟨n37, ln37, r⟩ := rn_steps 4 (94, [some (.ref 1), x1, x2, some (.int b3), some (.ref B4), some (.int b5), some (.int b6)], [.int 0, .int b6, .ref B4, .ref 461], aa_H g) rfl r
        obtain ⟨_, n38, v1, h1, -, ln38, rc, r⟩ := rn_call (m2 := 78) (as := [.ref 461, .ref B4, .int b6, .int 0]) (rest := []) rfl rfl r
        obtain ⟨rfl, rfl⟩ := dn_78 sp_c461 (rn_o1 hB4) rc
        have r : rn_s _ 126 (97, [some (.ref 1), x1, x2, some (.int b3), some (.ref B4), some (.int b5), some (.int b6)], [], aa_H (fn_78 g 461 (some B4) b6 0)) v h := r
        exact dn_126_97 (lp_q (iw_s v h) d f) (fun n2 l2 => ih n2 (by omega) (by omega)) (fun z hz => hz) hB4 x1 x2 jx1 jx2 r
theorem dn_126_67 {v : Option Value} {h : zz_H} {n : Nat} {g : aa_G} {b3 : Int32} {B4 : Nat} {b5 : Int32} {b6 : Int32} (hB4 : ct_tw B4) (x1 x2 : Option Value) (jx1 : rn_jk x1) (jx2 : rn_jk x2) (r : rn_s n 126 (67, [some (.ref 1), x1, x2, some (.int b3), some (.ref B4), some (.int b5), some (.int b6)], [], aa_H g) v h) : (iw_s v h) (fn_126_67 g b3 B4 b5 b6) := dn_126_67l hB4 n (Nat.le_refl n) g b5 b6 x1 x2 jx1 jx2 r
noncomputable def fn_126_42 (g : aa_G) (b3 : Int32) (B4 : Nat) : Int32 × aa_G := if (g 461 0) ≠ 0 then fn_126_67 g b3 B4 (g 461 4) b3 else (-2, g)
theorem dn_126_42 {v : Option Value} {h : zz_H} {n : Nat} {g : aa_G} {b3 : Int32} {B4 : Nat} (hB4 : ct_tw B4) (x1 x2 x5 x6 : Option Value) (jx1 : rn_jk x1) (jx2 : rn_jk x2) (jx5 : rn_jk x5) (jx6 : rn_jk x6) (r : rn_s n 126 (42, [some (.ref 1), x1, x2, some (.int b3), some (.ref B4), x5, x6], [], aa_H g) v h) : iw_s v h (fn_126_42 g b3 B4) := by
  unfold fn_126_42
  obtain ⟨n24, ln24, r⟩ := rn_steps 2 (49, [some (.ref 1), x1, x2, some (.int b3), some (.ref B4), x5, x6], [.int (g 461 0)], aa_H g) rfl r
  refine rn_if (iw_s v h) rfl decide_eq_true_iff.symm r (fun c25 l26n l26 r => ?_) (fun c25 l26n l26 r => ?_)
  · obtain ⟨n27, ln27, r⟩ := rn_steps 5 (67, [some (.ref 1), x1, x2, some (.int b3), some (.ref B4), some (.int (g 461 4)), some (.int b3)], [], aa_H g) rfl r
    exact dn_126_67 hB4 x1 x2 jx1 jx2 r
  · obtain ⟨n28, ln28, r⟩ := rn_steps 0 (54, [some (.ref 1), x1, x2, some (.int b3), some (.ref B4), x5, x6], [.int (-2)], aa_H g) rfl r
    exact rn_ire rfl r
noncomputable def fn_126 (g : aa_G) (a1 : Int32) (a2 : Int32) (a3 : Int32) : Int32 × aa_G := (match fn_31 g a1 with | none => ((-1, g)) | some W6 => (if (fn_77 a2) = 0 then (-1, g) else if (fn_77 a3) ≠ 0 then fn_126_42 (fn_78 g 461 (some W6) a2 0) a3 W6 else (-1, g)))
theorem dn_126 {v : Option Value} {h : zz_H} {n : Nat} {g : aa_G} {a1 : Int32} {a2 : Int32} {a3 : Int32}  (r : rn_s n 126 (0, zz_in [.ref 1, .int a1, .int a2, .int a3] (zz_nl 126), [], aa_H g) v h) : iw_s v h (fn_126 g a1 a2 a3) := by
  have r : rn_s n 126 (0, [some (.ref 1), some (.int a1), some (.int a2), some (.int a3), none, none, none], [], aa_H g) v h := r
  unfold fn_126
  obtain ⟨n1, ln1, r⟩ := rn_steps 2 (5, [some (.ref 1), some (.int a1), some (.int a2), some (.int a3), none, none, none], [.int a1, .ref 2], aa_H g) rfl r
  obtain ⟨_, n2, v1, h1, -, ln2, rc, r⟩ := rn_call (m2 := 31) (as := [.ref 2, .int a1]) (rest := []) rfl rfl r
  obtain ⟨rfl, rfl, ho4⟩ := dn_31 rc
  have r : rn_s _ 126 (8, [some (.ref 1), some (.int a1), some (.int a2), some (.int a3), none, none, none], [zz_val (fn_31 g a1)], aa_H g) v h := r
  cases e5 : fn_31 g a1 with
  | none =>
    rw [e5] at r
    have r : rn_s _ 126 (8, [some (.ref 1), some (.int a1), some (.int a2), some (.int a3), none, none, none], [.null], aa_H g) v h := r
    dsimp only
    obtain ⟨n8, ln8, r⟩ := rn_steps 3 (30, [some (.ref 1), some (.int a1), some (.int a2), some (.int a3), some (.null), none, none], [.int (-1)], aa_H g) rfl r
    exact rn_ire rfl r
  | some W6 =>
    rw [e5] at r
    have hw7 : ct_tw W6 := ho4 _ e5
    have r : rn_s _ 126 (8, [some (.ref 1), some (.int a1), some (.int a2), some (.int a3), none, none, none], [.ref W6], aa_H g) v h := r
    dsimp only
    obtain ⟨n9, ln9, r⟩ := rn_steps 3 (16, [some (.ref 1), some (.int a1), some (.int a2), some (.int a3), some (.ref W6), none, none], [.int a2], aa_H g) rfl r
    obtain ⟨_, n10, v1, h1, -, ln10, rc, r⟩ := rn_call (m2 := 77) (as := [.int a2]) (rest := []) rfl rfl r
    obtain ⟨rfl, rfl⟩ := dn_77 rc
    have r : rn_s _ 126 (19, [some (.ref 1), some (.int a1), some (.int a2), some (.int a3), some (.ref W6), none, none], [.int (fn_77 a2)], aa_H g) v h := r
    refine rn_if (iw_s v h) rfl decide_eq_true_iff.symm r (fun c12 l13n l13 r => ?_) (fun c12 l13n l13 r => ?_)
    · obtain ⟨n14, ln14, r⟩ := rn_steps 0 (30, [some (.ref 1), some (.int a1), some (.int a2), some (.int a3), some (.ref W6), none, none], [.int (-1)], aa_H g) rfl r
      exact rn_ire rfl r
    · obtain ⟨n15, ln15, r⟩ := rn_steps 0 (23, [some (.ref 1), some (.int a1), some (.int a2), some (.int a3), some (.ref W6), none, none], [.int a3], aa_H g) rfl r
      obtain ⟨_, n16, v1, h1, -, ln16, rc, r⟩ := rn_call (m2 := 77) (as := [.int a3]) (rest := []) rfl rfl r
      obtain ⟨rfl, rfl⟩ := dn_77 rc
      have r : rn_s _ 126 (26, [some (.ref 1), some (.int a1), some (.int a2), some (.int a3), some (.ref W6), none, none], [.int (fn_77 a3)], aa_H g) v h := r
      refine rn_if (iw_s v h) rfl decide_eq_true_iff.symm r (fun c18 l19n l19 r => ?_) (fun c18 l19n l19 r => ?_)
      · obtain ⟨n20, ln20, r⟩ := rn_steps 4 (39, [some (.ref 1), some (.int a1), some (.int a2), some (.int a3), some (.ref W6), none, none], [.int 0, .int a2, .ref W6, .ref 461], aa_H g) rfl r
        obtain ⟨_, n21, v1, h1, -, ln21, rc, r⟩ := rn_call (m2 := 78) (as := [.ref 461, .ref W6, .int a2, .int 0]) (rest := []) rfl rfl r
        obtain ⟨rfl, rfl⟩ := dn_78 sp_c461 (rn_o1 hw7) rc
        have r : rn_s _ 126 (42, [some (.ref 1), some (.int a1), some (.int a2), some (.int a3), some (.ref W6), none, none], [], aa_H (fn_78 g 461 (some W6) a2 0)) v h := r
        exact dn_126_42 hw7 (some (.int a1)) (some (.int a2)) none none rn_ji rn_ji rn_jn rn_jn r
      · obtain ⟨n23, ln23, r⟩ := rn_steps 0 (30, [some (.ref 1), some (.int a1), some (.int a2), some (.int a3), some (.ref W6), none, none], [.int (-1)], aa_H g) rfl r
        exact rn_ire rfl r
-- 127: UnequalHours alike
noncomputable def fn_127_118 (g : aa_G) (b3 : Int32) (B4 : Nat) (b5 : Int32) : (aa_G × Int32) ⊕ (Int32 × aa_G) := .inl (g, b5 + 1)
theorem dn_127_118 {v : Option Value} {h : zz_H} {n : Nat} {g : aa_G} {b3 : Int32} {B4 : Nat} {b5 : Int32} (P : (aa_G × Int32) ⊕ (Int32 × aa_G) → Prop) (hO0 : ∀ n2, n2 < n → ∀ (yg : aa_G) (yb5 : Int32) (yx1 yx2 : Option Value) (_ : rn_jk yx1) (_ : rn_jk yx2), rn_s n2 127 (58, [some (.ref 1), yx1, yx2, some (.int b3), some (.ref B4), some (.int yb5)], [], aa_H yg) v h → P (.inl (yg, yb5))) (hR : ∀ E, iw_s v h E → P (.inr E)) (hB4 : ct_tw B4) (x1 x2 : Option Value) (jx1 : rn_jk x1) (jx2 : rn_jk x2) (r : rn_s n 127 (118, [some (.ref 1), x1, x2, some (.int b3), some (.ref B4), some (.int b5)], [], aa_H g) v h) : P (fn_127_118 g b3 B4 b5) := by
  unfold fn_127_118
  obtain ⟨n47, ln47, r⟩ := rn_steps 1 (58, [some (.ref 1), x1, x2, some (.int b3), some (.ref B4), some (.int (b5 + 1))], [], aa_H g) rfl r
  exact hO0 _ (by omega) g (b5 + 1) x1 x2 jx1 jx2 r
noncomputable def fn_127_88 (g : aa_G) (b3 : Int32) (B4 : Nat) (b5 : Int32) : (aa_G × Int32) ⊕ (Int32 × aa_G) := if (g 461 0) = 0 then fn_127_118 g b3 B4 b5 else if (g 461 4) ≠ (g 462 4) then fn_127_118 g b3 B4 b5 else .inr (b5, g)
theorem dn_127_88 {v : Option Value} {h : zz_H} {n : Nat} {g : aa_G} {b3 : Int32} {B4 : Nat} {b5 : Int32} (P : (aa_G × Int32) ⊕ (Int32 × aa_G) → Prop) (hO0 : ∀ n2, n2 < n → ∀ (yg : aa_G) (yb5 : Int32) (yx1 yx2 : Option Value) (_ : rn_jk yx1) (_ : rn_jk yx2), rn_s n2 127 (58, [some (.ref 1), yx1, yx2, some (.int b3), some (.ref B4), some (.int yb5)], [], aa_H yg) v h → P (.inl (yg, yb5))) (hR : ∀ E, iw_s v h E → P (.inr E)) (hB4 : ct_tw B4) (x1 x2 : Option Value) (jx1 : rn_jk x1) (jx2 : rn_jk x2) (r : rn_s n 127 (88, [some (.ref 1), x1, x2, some (.int b3), some (.ref B4), some (.int b5)], [], aa_H g) v h) : P (fn_127_88 g b3 B4 b5) := by
  unfold fn_127_88
  obtain ⟨n40, ln40, r⟩ := rn_steps 2 (95, [some (.ref 1), x1, x2, some (.int b3), some (.ref B4), some (.int b5)], [.int (g 461 0)], aa_H g) rfl r
  refine rn_if (P) rfl decide_eq_true_iff.symm r (fun c41 l42n l42 r => ?_) (fun c41 l42n l42 r => ?_)
  · exact dn_127_118 (P) (fun n2 l2 => hO0 n2 (by omega)) (fun z hz => hR _ hz) hB4 x1 x2 jx1 jx2 r
  · obtain ⟨n43, ln43, r⟩ := rn_steps 5 (112, [some (.ref 1), x1, x2, some (.int b3), some (.ref B4), some (.int b5)], [.int (g 462 4), .int (g 461 4)], aa_H g) rfl r
    refine rn_ic (P) rfl decide_eq_true_iff.symm r (fun c44 l45n l45 r => ?_) (fun c44 l45n l45 r => ?_)
    · exact dn_127_118 (P) (fun n2 l2 => hO0 n2 (by omega)) (fun z hz => hR _ hz) hB4 x1 x2 jx1 jx2 r
    · obtain ⟨n46, ln46, r⟩ := rn_steps 0 (117, [some (.ref 1), x1, x2, some (.int b3), some (.ref B4), some (.int b5)], [.int b5], aa_H g) rfl r
      exact hR _ (rn_ire rfl r)
noncomputable def fn_127_58b (g : aa_G) (b3 : Int32) (B4 : Nat) (b5 : Int32) : (aa_G × Int32) ⊕ (Int32 × aa_G) := if (b3 + 360) ≤ b5 then .inr (-2, g) else if 36000 ≤ b5 then .inr (-2, g) else fn_127_88 (fn_78 g 461 (some B4) b5 0) b3 B4 b5
noncomputable def fn_127_58 (g : aa_G) (b3 : Int32) (B4 : Nat) (b5 : Int32) : Int32 × aa_G := lp_f (0, g) (fun z : (aa_G × Int32) => fn_127_58b z.1 b3 B4 z.2) (g, b5)
theorem dn_127_58l {v : Option Value} {h : zz_H} {N : Nat} {b3 : Int32} {B4 : Nat} (hB4 : ct_tw B4) {d : Int32 × aa_G} : ∀ (n : Nat), n ≤ N → ∀ (g : aa_G) (b5 : Int32) (x1 x2 : Option Value) (jx1 : rn_jk x1) (jx2 : rn_jk x2), rn_s n 127 (58, [some (.ref 1), x1, x2, some (.int b3), some (.ref B4), some (.int b5)], [], aa_H g) v h → (iw_s v h) (lp_f d (fun z : (aa_G × Int32) => fn_127_58b z.1 b3 B4 z.2) (g, b5)) := by
  generalize hf : (fun z : (aa_G × Int32) => fn_127_58b z.1 b3 B4 z.2) = f
  intro n
  induction n using Nat.strongRecOn with
  | _ n ih =>
    intro hN g b5 x1 x2 jx1 jx2 r
    refine lp_go ?_
    rw [← congrFun hf (g, b5)]
    show lp_q (iw_s v h) d f (fn_127_58b g b3 B4 b5)
    unfold fn_127_58b
    obtain ⟨n29, ln29, r⟩ := rn_steps 3 (65, [some (.ref 1), x1, x2, some (.int b3), some (.ref B4), some (.int b5)], [.int (b3 + 360), .int b5], aa_H g) rfl r
    refine rn_ic (lp_q (iw_s v h) d f) rfl decide_eq_true_iff.symm r (fun c30 l31n l31 r => ?_) (fun c30 l31n l31 r => ?_)
    · obtain ⟨n32, ln32, r⟩ := rn_steps 0 (126, [some (.ref 1), x1, x2, some (.int b3), some (.ref B4), some (.int b5)], [.int (-2)], aa_H g) rfl r
      exact rn_ire rfl r
    · obtain ⟨n33, ln33, r⟩ := rn_steps 1 (73, [some (.ref 1), x1, x2, some (.int b3), some (.ref B4), some (.int b5)], [.int 36000, .int b5], aa_H g) rfl r
      refine rn_ic (lp_q (iw_s v h) d f) rfl decide_eq_true_iff.symm r (fun c34 l35n l35 r => ?_) (fun c34 l35n l35 r => ?_)
      · obtain ⟨n36, ln36, r⟩ := rn_steps 0 (126, [some (.ref 1), x1, x2, some (.int b3), some (.ref B4), some (.int b5)], [.int (-2)], aa_H g) rfl r
        exact rn_ire rfl r
      · obtain ⟨n37, ln37, r⟩ := rn_steps 4 (85, [some (.ref 1), x1, x2, some (.int b3), some (.ref B4), some (.int b5)], [.int 0, .int b5, .ref B4, .ref 461], aa_H g) rfl r
        obtain ⟨_, n38, v1, h1, -, ln38, rc, r⟩ := rn_call (m2 := 78) (as := [.ref 461, .ref B4, .int b5, .int 0]) (rest := []) rfl rfl r
        obtain ⟨rfl, rfl⟩ := dn_78 sp_c461 (rn_o1 hB4) rc
        have r : rn_s _ 127 (88, [some (.ref 1), x1, x2, some (.int b3), some (.ref B4), some (.int b5)], [], aa_H (fn_78 g 461 (some B4) b5 0)) v h := r
        exact dn_127_88 (lp_q (iw_s v h) d f) (fun n2 l2 => ih n2 (by omega) (by omega)) (fun z hz => hz) hB4 x1 x2 jx1 jx2 r
theorem dn_127_58 {v : Option Value} {h : zz_H} {n : Nat} {g : aa_G} {b3 : Int32} {B4 : Nat} {b5 : Int32} (hB4 : ct_tw B4) (x1 x2 : Option Value) (jx1 : rn_jk x1) (jx2 : rn_jk x2) (r : rn_s n 127 (58, [some (.ref 1), x1, x2, some (.int b3), some (.ref B4), some (.int b5)], [], aa_H g) v h) : (iw_s v h) (fn_127_58 g b3 B4 b5) := dn_127_58l hB4 n (Nat.le_refl n) g b5 x1 x2 jx1 jx2 r
noncomputable def fn_127_42 (g : aa_G) (b3 : Int32) (B4 : Nat) : Int32 × aa_G := if (g 462 0) ≠ 0 then fn_127_58 g b3 B4 b3 else (-2, g)
theorem dn_127_42 {v : Option Value} {h : zz_H} {n : Nat} {g : aa_G} {b3 : Int32} {B4 : Nat} (hB4 : ct_tw B4) (x1 x2 x5 : Option Value) (jx1 : rn_jk x1) (jx2 : rn_jk x2) (jx5 : rn_jk x5) (r : rn_s n 127 (42, [some (.ref 1), x1, x2, some (.int b3), some (.ref B4), x5], [], aa_H g) v h) : iw_s v h (fn_127_42 g b3 B4) := by
  unfold fn_127_42
  obtain ⟨n24, ln24, r⟩ := rn_steps 2 (49, [some (.ref 1), x1, x2, some (.int b3), some (.ref B4), x5], [.int (g 462 0)], aa_H g) rfl r
  refine rn_if (iw_s v h) rfl decide_eq_true_iff.symm r (fun c25 l26n l26 r => ?_) (fun c25 l26n l26 r => ?_)
  · obtain ⟨n27, ln27, r⟩ := rn_steps 1 (58, [some (.ref 1), x1, x2, some (.int b3), some (.ref B4), some (.int b3)], [], aa_H g) rfl r
    exact dn_127_58 hB4 x1 x2 jx1 jx2 r
  · obtain ⟨n28, ln28, r⟩ := rn_steps 0 (54, [some (.ref 1), x1, x2, some (.int b3), some (.ref B4), x5], [.int (-2)], aa_H g) rfl r
    exact rn_ire rfl r
noncomputable def fn_127 (g : aa_G) (a1 : Int32) (a2 : Int32) (a3 : Int32) : Int32 × aa_G := (match fn_31 g a1 with | none => ((-1, g)) | some W6 => (if (fn_77 a2) = 0 then (-1, g) else if (fn_77 a3) ≠ 0 then fn_127_42 (fn_78 g 462 (some W6) a2 0) a3 W6 else (-1, g)))
theorem dn_127 {v : Option Value} {h : zz_H} {n : Nat} {g : aa_G} {a1 : Int32} {a2 : Int32} {a3 : Int32}  (r : rn_s n 127 (0, zz_in [.ref 1, .int a1, .int a2, .int a3] (zz_nl 127), [], aa_H g) v h) : iw_s v h (fn_127 g a1 a2 a3) := by
  have r : rn_s n 127 (0, [some (.ref 1), some (.int a1), some (.int a2), some (.int a3), none, none], [], aa_H g) v h := r
  unfold fn_127
  obtain ⟨n1, ln1, r⟩ := rn_steps 2 (5, [some (.ref 1), some (.int a1), some (.int a2), some (.int a3), none, none], [.int a1, .ref 2], aa_H g) rfl r
  obtain ⟨_, n2, v1, h1, -, ln2, rc, r⟩ := rn_call (m2 := 31) (as := [.ref 2, .int a1]) (rest := []) rfl rfl r
  obtain ⟨rfl, rfl, ho4⟩ := dn_31 rc
  have r : rn_s _ 127 (8, [some (.ref 1), some (.int a1), some (.int a2), some (.int a3), none, none], [zz_val (fn_31 g a1)], aa_H g) v h := r
  cases e5 : fn_31 g a1 with
  | none =>
    rw [e5] at r
    have r : rn_s _ 127 (8, [some (.ref 1), some (.int a1), some (.int a2), some (.int a3), none, none], [.null], aa_H g) v h := r
    dsimp only
    obtain ⟨n8, ln8, r⟩ := rn_steps 3 (30, [some (.ref 1), some (.int a1), some (.int a2), some (.int a3), some (.null), none], [.int (-1)], aa_H g) rfl r
    exact rn_ire rfl r
  | some W6 =>
    rw [e5] at r
    have hw7 : ct_tw W6 := ho4 _ e5
    have r : rn_s _ 127 (8, [some (.ref 1), some (.int a1), some (.int a2), some (.int a3), none, none], [.ref W6], aa_H g) v h := r
    dsimp only
    obtain ⟨n9, ln9, r⟩ := rn_steps 3 (16, [some (.ref 1), some (.int a1), some (.int a2), some (.int a3), some (.ref W6), none], [.int a2], aa_H g) rfl r
    obtain ⟨_, n10, v1, h1, -, ln10, rc, r⟩ := rn_call (m2 := 77) (as := [.int a2]) (rest := []) rfl rfl r
    obtain ⟨rfl, rfl⟩ := dn_77 rc
    have r : rn_s _ 127 (19, [some (.ref 1), some (.int a1), some (.int a2), some (.int a3), some (.ref W6), none], [.int (fn_77 a2)], aa_H g) v h := r
    refine rn_if (iw_s v h) rfl decide_eq_true_iff.symm r (fun c12 l13n l13 r => ?_) (fun c12 l13n l13 r => ?_)
    · obtain ⟨n14, ln14, r⟩ := rn_steps 0 (30, [some (.ref 1), some (.int a1), some (.int a2), some (.int a3), some (.ref W6), none], [.int (-1)], aa_H g) rfl r
      exact rn_ire rfl r
    · obtain ⟨n15, ln15, r⟩ := rn_steps 0 (23, [some (.ref 1), some (.int a1), some (.int a2), some (.int a3), some (.ref W6), none], [.int a3], aa_H g) rfl r
      obtain ⟨_, n16, v1, h1, -, ln16, rc, r⟩ := rn_call (m2 := 77) (as := [.int a3]) (rest := []) rfl rfl r
      obtain ⟨rfl, rfl⟩ := dn_77 rc
      have r : rn_s _ 127 (26, [some (.ref 1), some (.int a1), some (.int a2), some (.int a3), some (.ref W6), none], [.int (fn_77 a3)], aa_H g) v h := r
      refine rn_if (iw_s v h) rfl decide_eq_true_iff.symm r (fun c18 l19n l19 r => ?_) (fun c18 l19n l19 r => ?_)
      · obtain ⟨n20, ln20, r⟩ := rn_steps 4 (39, [some (.ref 1), some (.int a1), some (.int a2), some (.int a3), some (.ref W6), none], [.int 0, .int a2, .ref W6, .ref 462], aa_H g) rfl r
        obtain ⟨_, n21, v1, h1, -, ln21, rc, r⟩ := rn_call (m2 := 78) (as := [.ref 462, .ref W6, .int a2, .int 0]) (rest := []) rfl rfl r
        obtain ⟨rfl, rfl⟩ := dn_78 sp_c462 (rn_o1 hw7) rc
        have r : rn_s _ 127 (42, [some (.ref 1), some (.int a1), some (.int a2), some (.int a3), some (.ref W6), none], [], aa_H (fn_78 g 462 (some W6) a2 0)) v h := r
        exact dn_127_42 hw7 (some (.int a1)) (some (.int a2)) none rn_ji rn_ji rn_jn r
      · obtain ⟨n23, ln23, r⟩ := rn_steps 0 (30, [some (.ref 1), some (.int a1), some (.int a2), some (.int a3), some (.ref W6), none], [.int (-1)], aa_H g) rfl r
        exact rn_ire rfl r
-- 128: UnequalHours growth
noncomputable def fn_128_164 (g : aa_G) (b2 : Int32) (b3 : Int32) (b4 : Int32) (B5 : Nat) (b6 : Int32) (b7 : Int32) (b8 : Int32) (b9 : Int32) : (aa_G × Int32 × Int32 × Int32 × Int32) ⊕ (Int32 × aa_G) := .inl (g, b6, b7, b8, b9 + 1)
theorem dn_128_164 {v : Option Value} {h : zz_H} {n : Nat} {g : aa_G} {b2 : Int32} {b3 : Int32} {b4 : Int32} {B5 : Nat} {b6 : Int32} {b7 : Int32} {b8 : Int32} {b9 : Int32} (P : (aa_G × Int32 × Int32 × Int32 × Int32) ⊕ (Int32 × aa_G) → Prop) (hO0 : ∀ n2, n2 < n → ∀ (yg : aa_G) (yb6 : Int32) (yb7 : Int32) (yb8 : Int32) (yb9 : Int32) (yx1 yx10 : Option Value) (_ : rn_jk yx1) (_ : rn_jk yx10), rn_s n2 128 (60, [some (.ref 1), yx1, some (.int b2), some (.int b3), some (.int b4), some (.ref B5), some (.int yb6), some (.int yb7), some (.int yb8), some (.int yb9), yx10], [], aa_H yg) v h → P (.inl (yg, yb6, yb7, yb8, yb9))) (hR : ∀ E, iw_s v h E → P (.inr E)) (hB5 : ct_tw B5) (x1 x10 : Option Value) (jx1 : rn_jk x1) (jx10 : rn_jk x10) (r : rn_s n 128 (164, [some (.ref 1), x1, some (.int b2), some (.int b3), some (.int b4), some (.ref B5), some (.int b6), some (.int b7), some (.int b8), some (.int b9), x10], [], aa_H g) v h) : P (fn_128_164 g b2 b3 b4 B5 b6 b7 b8 b9) := by
  unfold fn_128_164
  obtain ⟨n60, ln60, r⟩ := rn_steps 1 (60, [some (.ref 1), x1, some (.int b2), some (.int b3), some (.int b4), some (.ref B5), some (.int b6), some (.int b7), some (.int b8), some (.int (b9 + 1)), x10], [], aa_H g) rfl r
  exact hO0 _ (by omega) g b6 b7 b8 (b9 + 1) x1 x10 jx1 jx10 r
noncomputable def fn_128_102 (g : aa_G) (b2 : Int32) (b3 : Int32) (b4 : Int32) (B5 : Nat) (b6 : Int32) (b7 : Int32) (b8 : Int32) (b9 : Int32) : (aa_G × Int32 × Int32 × Int32 × Int32) ⊕ (Int32 × aa_G) := if (g 462 0) = 0 then fn_128_164 g b2 b3 b4 B5 b6 b7 b8 b9 else if (g 461 0) ≠ 0 then if ((g 461 4) - (g 462 4)) ≤ b7 then fn_128_164 g b2 b3 b4 B5 (b6 + ((g 461 4) - (g 462 4))) b7 b8 b9 else fn_128_164 g b2 b3 b4 B5 (b6 + ((g 461 4) - (g 462 4))) ((g 461 4) - (g 462 4)) b9 b9 else fn_128_164 g b2 b3 b4 B5 b6 b7 b8 b9
theorem dn_128_102 {v : Option Value} {h : zz_H} {n : Nat} {g : aa_G} {b2 : Int32} {b3 : Int32} {b4 : Int32} {B5 : Nat} {b6 : Int32} {b7 : Int32} {b8 : Int32} {b9 : Int32} (P : (aa_G × Int32 × Int32 × Int32 × Int32) ⊕ (Int32 × aa_G) → Prop) (hO0 : ∀ n2, n2 < n → ∀ (yg : aa_G) (yb6 : Int32) (yb7 : Int32) (yb8 : Int32) (yb9 : Int32) (yx1 yx10 : Option Value) (_ : rn_jk yx1) (_ : rn_jk yx10), rn_s n2 128 (60, [some (.ref 1), yx1, some (.int b2), some (.int b3), some (.int b4), some (.ref B5), some (.int yb6), some (.int yb7), some (.int yb8), some (.int yb9), yx10], [], aa_H yg) v h → P (.inl (yg, yb6, yb7, yb8, yb9))) (hR : ∀ E, iw_s v h E → P (.inr E)) (hB5 : ct_tw B5) (x1 x10 : Option Value) (jx1 : rn_jk x1) (jx10 : rn_jk x10) (r : rn_s n 128 (102, [some (.ref 1), x1, some (.int b2), some (.int b3), some (.int b4), some (.ref B5), some (.int b6), some (.int b7), some (.int b8), some (.int b9), x10], [], aa_H g) v h) : P (fn_128_102 g b2 b3 b4 B5 b6 b7 b8 b9) := by
  unfold fn_128_102
  obtain ⟨n49, ln49, r⟩ := rn_steps 2 (109, [some (.ref 1), x1, some (.int b2), some (.int b3), some (.int b4), some (.ref B5), some (.int b6), some (.int b7), some (.int b8), some (.int b9), x10], [.int (g 462 0)], aa_H g) rfl r
  refine rn_if (P) rfl decide_eq_true_iff.symm r (fun c50 l51n l51 r => ?_) (fun c50 l51n l51 r => ?_)
  · exact dn_128_164 (P) (fun n2 l2 => hO0 n2 (by omega)) (fun z hz => hR _ hz) hB5 x1 x10 jx1 jx10 r
  · obtain ⟨n52, ln52, r⟩ := rn_steps 2 (119, [some (.ref 1), x1, some (.int b2), some (.int b3), some (.int b4), some (.ref B5), some (.int b6), some (.int b7), some (.int b8), some (.int b9), x10], [.int (g 461 0)], aa_H g) rfl r
    refine rn_if (P) rfl decide_eq_true_iff.symm r (fun c53 l54n l54 r => ?_) (fun c53 l54n l54 r => ?_)
    · obtain ⟨n55, ln55, r⟩ := rn_steps 13 (153, [some (.ref 1), x1, some (.int b2), some (.int b3), some (.int b4), some (.ref B5), some (.int (b6 + ((g 461 4) - (g 462 4)))), some (.int b7), some (.int b8), some (.int b9), some (.int ((g 461 4) - (g 462 4)))], [.int b7, .int ((g 461 4) - (g 462 4))], aa_H g) rfl r
      refine rn_ic (P) rfl decide_eq_true_iff.symm r (fun c56 l57n l57 r => ?_) (fun c56 l57n l57 r => ?_)
      · exact dn_128_164 (P) (fun n2 l2 => hO0 n2 (by omega)) (fun z hz => hR _ hz) hB5 x1 (some (.int ((g 461 4) - (g 462 4)))) jx1 rn_ji r
      · obtain ⟨n58, ln58, r⟩ := rn_steps 3 (164, [some (.ref 1), x1, some (.int b2), some (.int b3), some (.int b4), some (.ref B5), some (.int (b6 + ((g 461 4) - (g 462 4)))), some (.int ((g 461 4) - (g 462 4))), some (.int b9), some (.int b9), some (.int ((g 461 4) - (g 462 4)))], [], aa_H g) rfl r
        exact dn_128_164 (P) (fun n2 l2 => hO0 n2 (by omega)) (fun z hz => hR _ hz) hB5 x1 (some (.int ((g 461 4) - (g 462 4)))) jx1 rn_ji r
    · obtain ⟨n59, ln59, r⟩ := rn_steps 0 (164, [some (.ref 1), x1, some (.int b2), some (.int b3), some (.int b4), some (.ref B5), some (.int b6), some (.int b7), some (.int b8), some (.int b9), x10], [], aa_H g) rfl r
      exact dn_128_164 (P) (fun n2 l2 => hO0 n2 (by omega)) (fun z hz => hR _ hz) hB5 x1 x10 jx1 jx10 r
noncomputable def fn_128_90 (g : aa_G) (b2 : Int32) (b3 : Int32) (b4 : Int32) (B5 : Nat) (b6 : Int32) (b7 : Int32) (b8 : Int32) (b9 : Int32) : (aa_G × Int32 × Int32 × Int32 × Int32) ⊕ (Int32 × aa_G) := fn_128_102 (fn_78 g 461 (some B5) b9 0) b2 b3 b4 B5 b6 b7 b8 b9
theorem dn_128_90 {v : Option Value} {h : zz_H} {n : Nat} {g : aa_G} {b2 : Int32} {b3 : Int32} {b4 : Int32} {B5 : Nat} {b6 : Int32} {b7 : Int32} {b8 : Int32} {b9 : Int32} (P : (aa_G × Int32 × Int32 × Int32 × Int32) ⊕ (Int32 × aa_G) → Prop) (hO0 : ∀ n2, n2 < n → ∀ (yg : aa_G) (yb6 : Int32) (yb7 : Int32) (yb8 : Int32) (yb9 : Int32) (yx1 yx10 : Option Value) (_ : rn_jk yx1) (_ : rn_jk yx10), rn_s n2 128 (60, [some (.ref 1), yx1, some (.int b2), some (.int b3), some (.int b4), some (.ref B5), some (.int yb6), some (.int yb7), some (.int yb8), some (.int yb9), yx10], [], aa_H yg) v h → P (.inl (yg, yb6, yb7, yb8, yb9))) (hR : ∀ E, iw_s v h E → P (.inr E)) (hB5 : ct_tw B5) (x1 x10 : Option Value) (jx1 : rn_jk x1) (jx10 : rn_jk x10) (r : rn_s n 128 (90, [some (.ref 1), x1, some (.int b2), some (.int b3), some (.int b4), some (.ref B5), some (.int b6), some (.int b7), some (.int b8), some (.int b9), x10], [], aa_H g) v h) : P (fn_128_90 g b2 b3 b4 B5 b6 b7 b8 b9) := by
  unfold fn_128_90
  obtain ⟨n46, ln46, r⟩ := rn_steps 4 (99, [some (.ref 1), x1, some (.int b2), some (.int b3), some (.int b4), some (.ref B5), some (.int b6), some (.int b7), some (.int b8), some (.int b9), x10], [.int 0, .int b9, .ref B5, .ref 461], aa_H g) rfl r
  obtain ⟨_, n47, v1, h1, -, ln47, rc, r⟩ := rn_call (m2 := 78) (as := [.ref 461, .ref B5, .int b9, .int 0]) (rest := []) rfl rfl r
  obtain ⟨rfl, rfl⟩ := dn_78 sp_c461 (rn_o1 hB5) rc
  have r : rn_s _ 128 (102, [some (.ref 1), x1, some (.int b2), some (.int b3), some (.int b4), some (.ref B5), some (.int b6), some (.int b7), some (.int b8), some (.int b9), x10], [], aa_H (fn_78 g 461 (some B5) b9 0)) v h := r
  exact dn_128_102 (P) (fun n2 l2 => hO0 n2 (by omega)) (fun z hz => hR _ hz) hB5 x1 x10 jx1 jx10 r
noncomputable def fn_128_170 (g : aa_G) (b4 : Int32) (b6 : Int32) (b7 : Int32) (b8 : Int32) : Int32 × aa_G := if b4 ≠ 0 then if b4 ≠ 1 then (b8, g) else (b7, g) else (b6, g)
theorem dn_128_170 {v : Option Value} {h : zz_H} {n : Nat} {g : aa_G} {b4 : Int32} {b6 : Int32} {b7 : Int32} {b8 : Int32}  (x0 x1 x2 x3 x5 x9 x10 : Option Value) (jx0 : rn_jk x0) (jx1 : rn_jk x1) (jx2 : rn_jk x2) (jx3 : rn_jk x3) (jx5 : rn_jk x5) (jx9 : rn_jk x9) (jx10 : rn_jk x10) (r : rn_s n 128 (170, [x0, x1, x2, x3, some (.int b4), x5, some (.int b6), some (.int b7), some (.int b8), x9, x10], [], aa_H g) v h) : iw_s v h (fn_128_170 g b4 b6 b7 b8) := by
  unfold fn_128_170
  obtain ⟨n37, ln37, r⟩ := rn_steps 0 (172, [x0, x1, x2, x3, some (.int b4), x5, some (.int b6), some (.int b7), some (.int b8), x9, x10], [.int b4], aa_H g) rfl r
  refine rn_if (iw_s v h) rfl decide_eq_true_iff.symm r (fun c38 l39n l39 r => ?_) (fun c38 l39n l39 r => ?_)
  · obtain ⟨n40, ln40, r⟩ := rn_steps 1 (181, [x0, x1, x2, x3, some (.int b4), x5, some (.int b6), some (.int b7), some (.int b8), x9, x10], [.int 1, .int b4], aa_H g) rfl r
    refine rn_ic (iw_s v h) rfl decide_eq_true_iff.symm r (fun c41 l42n l42 r => ?_) (fun c41 l42n l42 r => ?_)
    · obtain ⟨n43, ln43, r⟩ := rn_steps 0 (191, [x0, x1, x2, x3, some (.int b4), x5, some (.int b6), some (.int b7), some (.int b8), x9, x10], [.int b8], aa_H g) rfl r
      exact rn_ire rfl r
    · obtain ⟨n44, ln44, r⟩ := rn_steps 1 (191, [x0, x1, x2, x3, some (.int b4), x5, some (.int b6), some (.int b7), some (.int b8), x9, x10], [.int b7], aa_H g) rfl r
      exact rn_ire rfl r
  · obtain ⟨n45, ln45, r⟩ := rn_steps 0 (177, [x0, x1, x2, x3, some (.int b4), x5, some (.int b6), some (.int b7), some (.int b8), x9, x10], [.int b6], aa_H g) rfl r
    exact rn_ire rfl r
noncomputable def fn_128_60b (g : aa_G) (b2 : Int32) (b3 : Int32) (b4 : Int32) (B5 : Nat) (b6 : Int32) (b7 : Int32) (b8 : Int32) (b9 : Int32) : (aa_G × Int32 × Int32 × Int32 × Int32) ⊕ (Int32 × aa_G) := if (b2 + b3) ≤ b9 then .inr (fn_128_170 g b4 b6 b7 b8) else if 36000 ≤ b9 then .inr (fn_128_170 g b4 b6 b7 b8) else fn_128_90 (fn_78 g 462 (some B5) (b9 - 1) 0) b2 b3 b4 B5 b6 b7 b8 b9
noncomputable def fn_128_60 (g : aa_G) (b2 : Int32) (b3 : Int32) (b4 : Int32) (B5 : Nat) (b6 : Int32) (b7 : Int32) (b8 : Int32) (b9 : Int32) : Int32 × aa_G := lp_f (0, g) (fun z : (aa_G × Int32 × Int32 × Int32 × Int32) => fn_128_60b z.1 b2 b3 b4 B5 z.2.1 z.2.2.1 z.2.2.2.1 z.2.2.2.2) (g, b6, b7, b8, b9)
theorem dn_128_60l {v : Option Value} {h : zz_H} {N : Nat} {b2 : Int32} {b3 : Int32} {b4 : Int32} {B5 : Nat} (hB5 : ct_tw B5) {d : Int32 × aa_G} : ∀ (n : Nat), n ≤ N → ∀ (g : aa_G) (b6 : Int32) (b7 : Int32) (b8 : Int32) (b9 : Int32) (x1 x10 : Option Value) (jx1 : rn_jk x1) (jx10 : rn_jk x10), rn_s n 128 (60, [some (.ref 1), x1, some (.int b2), some (.int b3), some (.int b4), some (.ref B5), some (.int b6), some (.int b7), some (.int b8), some (.int b9), x10], [], aa_H g) v h → (iw_s v h) (lp_f d (fun z : (aa_G × Int32 × Int32 × Int32 × Int32) => fn_128_60b z.1 b2 b3 b4 B5 z.2.1 z.2.2.1 z.2.2.2.1 z.2.2.2.2) (g, b6, b7, b8, b9)) := by
  generalize hf : (fun z : (aa_G × Int32 × Int32 × Int32 × Int32) => fn_128_60b z.1 b2 b3 b4 B5 z.2.1 z.2.2.1 z.2.2.2.1 z.2.2.2.2) = f
  intro n
  induction n using Nat.strongRecOn with
  | _ n ih =>
    intro hN g b6 b7 b8 b9 x1 x10 jx1 jx10 r
    refine lp_go ?_
    rw [← congrFun hf (g, b6, b7, b8, b9)]
    show lp_q (iw_s v h) d f (fn_128_60b g b2 b3 b4 B5 b6 b7 b8 b9)
    unfold fn_128_60b
    obtain ⟨n28, ln28, r⟩ := rn_steps 3 (65, [some (.ref 1), x1, some (.int b2), some (.int b3), some (.int b4), some (.ref B5), some (.int b6), some (.int b7), some (.int b8), some (.int b9), x10], [.int (b2 + b3), .int b9], aa_H g) rfl r
    refine rn_ic (lp_q (iw_s v h) d f) rfl decide_eq_true_iff.symm r (fun c29 l30n l30 r => ?_) (fun c29 l30n l30 r => ?_)
    · exact dn_128_170 (some (.ref 1)) x1 (some (.int b2)) (some (.int b3)) (some (.ref B5)) (some (.int b9)) x10 rn_jr jx1 rn_ji rn_ji rn_jr rn_ji jx10 r
    · obtain ⟨n31, ln31, r⟩ := rn_steps 1 (73, [some (.ref 1), x1, some (.int b2), some (.int b3), some (.int b4), some (.ref B5), some (.int b6), some (.int b7), some (.int b8), some (.int b9), x10], [.int 36000, .int b9], aa_H g) rfl r
      refine rn_ic (lp_q (iw_s v h) d f) rfl decide_eq_true_iff.symm r (fun c32 l33n l33 r => ?_) (fun c32 l33n l33 r => ?_)
      · exact dn_128_170 (some (.ref 1)) x1 (some (.int b2)) (some (.int b3)) (some (.ref B5)) (some (.int b9)) x10 rn_jr jx1 rn_ji rn_ji rn_jr rn_ji jx10 r
      · obtain ⟨n34, ln34, r⟩ := rn_steps 6 (87, [some (.ref 1), x1, some (.int b2), some (.int b3), some (.int b4), some (.ref B5), some (.int b6), some (.int b7), some (.int b8), some (.int b9), x10], [.int 0, .int (b9 - 1), .ref B5, .ref 462], aa_H g) rfl r
        obtain ⟨_, n35, v1, h1, -, ln35, rc, r⟩ := rn_call (m2 := 78) (as := [.ref 462, .ref B5, .int (b9 - 1), .int 0]) (rest := []) rfl rfl r
        obtain ⟨rfl, rfl⟩ := dn_78 sp_c462 (rn_o1 hB5) rc
        have r : rn_s _ 128 (90, [some (.ref 1), x1, some (.int b2), some (.int b3), some (.int b4), some (.ref B5), some (.int b6), some (.int b7), some (.int b8), some (.int b9), x10], [], aa_H (fn_78 g 462 (some B5) (b9 - 1) 0)) v h := r
        exact dn_128_90 (lp_q (iw_s v h) d f) (fun n2 l2 => ih n2 (by omega) (by omega)) (fun z hz => hz) hB5 x1 x10 jx1 jx10 r
theorem dn_128_60 {v : Option Value} {h : zz_H} {n : Nat} {g : aa_G} {b2 : Int32} {b3 : Int32} {b4 : Int32} {B5 : Nat} {b6 : Int32} {b7 : Int32} {b8 : Int32} {b9 : Int32} (hB5 : ct_tw B5) (x1 x10 : Option Value) (jx1 : rn_jk x1) (jx10 : rn_jk x10) (r : rn_s n 128 (60, [some (.ref 1), x1, some (.int b2), some (.int b3), some (.int b4), some (.ref B5), some (.int b6), some (.int b7), some (.int b8), some (.int b9), x10], [], aa_H g) v h) : (iw_s v h) (fn_128_60 g b2 b3 b4 B5 b6 b7 b8 b9) := dn_128_60l hB5 n (Nat.le_refl n) g b6 b7 b8 b9 x1 x10 jx1 jx10 r
noncomputable def fn_128 (g : aa_G) (a1 : Int32) (a2 : Int32) (a3 : Int32) (a4 : Int32) : Int32 × aa_G := (match fn_31 g a1 with | none => ((-1000000, g)) | some W6 => (if (fn_77 a2) = 0 then (-1000000, g) else if (fn_14 a3 1 360) = 0 then (-1000000, g) else if (fn_14 a4 0 2) ≠ 0 then fn_128_60 g a2 a3 a4 W6 0 (-1000000) (-2) a2 else (-1000000, g)))
theorem dn_128 {v : Option Value} {h : zz_H} {n : Nat} {g : aa_G} {a1 : Int32} {a2 : Int32} {a3 : Int32} {a4 : Int32}  (r : rn_s n 128 (0, zz_in [.ref 1, .int a1, .int a2, .int a3, .int a4] (zz_nl 128), [], aa_H g) v h) : iw_s v h (fn_128 g a1 a2 a3 a4) := by
  have r : rn_s n 128 (0, [some (.ref 1), some (.int a1), some (.int a2), some (.int a3), some (.int a4), none, none, none, none, none, none], [], aa_H g) v h := r
  unfold fn_128
  obtain ⟨n1, ln1, r⟩ := rn_steps 2 (5, [some (.ref 1), some (.int a1), some (.int a2), some (.int a3), some (.int a4), none, none, none, none, none, none], [.int a1, .ref 2], aa_H g) rfl r
  obtain ⟨_, n2, v1, h1, -, ln2, rc, r⟩ := rn_call (m2 := 31) (as := [.ref 2, .int a1]) (rest := []) rfl rfl r
  obtain ⟨rfl, rfl, ho4⟩ := dn_31 rc
  have r : rn_s _ 128 (8, [some (.ref 1), some (.int a1), some (.int a2), some (.int a3), some (.int a4), none, none, none, none, none, none], [zz_val (fn_31 g a1)], aa_H g) v h := r
  cases e5 : fn_31 g a1 with
  | none =>
    rw [e5] at r
    have r : rn_s _ 128 (8, [some (.ref 1), some (.int a1), some (.int a2), some (.int a3), some (.int a4), none, none, none, none, none, none], [.null], aa_H g) v h := r
    dsimp only
    obtain ⟨n8, ln8, r⟩ := rn_steps 3 (45, [some (.ref 1), some (.int a1), some (.int a2), some (.int a3), some (.int a4), some (.null), none, none, none, none, none], [.int (-1000000)], aa_H g) rfl r
    exact rn_ire rfl r
  | some W6 =>
    rw [e5] at r
    have hw7 : ct_tw W6 := ho4 _ e5
    have r : rn_s _ 128 (8, [some (.ref 1), some (.int a1), some (.int a2), some (.int a3), some (.int a4), none, none, none, none, none, none], [.ref W6], aa_H g) v h := r
    dsimp only
    obtain ⟨n9, ln9, r⟩ := rn_steps 3 (16, [some (.ref 1), some (.int a1), some (.int a2), some (.int a3), some (.int a4), some (.ref W6), none, none, none, none, none], [.int a2], aa_H g) rfl r
    obtain ⟨_, n10, v1, h1, -, ln10, rc, r⟩ := rn_call (m2 := 77) (as := [.int a2]) (rest := []) rfl rfl r
    obtain ⟨rfl, rfl⟩ := dn_77 rc
    have r : rn_s _ 128 (19, [some (.ref 1), some (.int a1), some (.int a2), some (.int a3), some (.int a4), some (.ref W6), none, none, none, none, none], [.int (fn_77 a2)], aa_H g) v h := r
    refine rn_if (iw_s v h) rfl decide_eq_true_iff.symm r (fun c12 l13n l13 r => ?_) (fun c12 l13n l13 r => ?_)
    · obtain ⟨n14, ln14, r⟩ := rn_steps 0 (45, [some (.ref 1), some (.int a1), some (.int a2), some (.int a3), some (.int a4), some (.ref W6), none, none, none, none, none], [.int (-1000000)], aa_H g) rfl r
      exact rn_ire rfl r
    · obtain ⟨n15, ln15, r⟩ := rn_steps 2 (27, [some (.ref 1), some (.int a1), some (.int a2), some (.int a3), some (.int a4), some (.ref W6), none, none, none, none, none], [.int 360, .int 1, .int a3], aa_H g) rfl r
      obtain ⟨_, n16, v1, h1, -, ln16, rc, r⟩ := rn_call (m2 := 14) (as := [.int a3, .int 1, .int 360]) (rest := []) rfl rfl r
      obtain ⟨rfl, rfl⟩ := dn_14 rc
      have r : rn_s _ 128 (30, [some (.ref 1), some (.int a1), some (.int a2), some (.int a3), some (.int a4), some (.ref W6), none, none, none, none, none], [.int (fn_14 a3 1 360)], aa_H g) v h := r
      refine rn_if (iw_s v h) rfl decide_eq_true_iff.symm r (fun c18 l19n l19 r => ?_) (fun c18 l19n l19 r => ?_)
      · obtain ⟨n20, ln20, r⟩ := rn_steps 0 (45, [some (.ref 1), some (.int a1), some (.int a2), some (.int a3), some (.int a4), some (.ref W6), none, none, none, none, none], [.int (-1000000)], aa_H g) rfl r
        exact rn_ire rfl r
      · obtain ⟨n21, ln21, r⟩ := rn_steps 2 (37, [some (.ref 1), some (.int a1), some (.int a2), some (.int a3), some (.int a4), some (.ref W6), none, none, none, none, none], [.int 2, .int 0, .int a4], aa_H g) rfl r
        obtain ⟨_, n22, v1, h1, -, ln22, rc, r⟩ := rn_call (m2 := 14) (as := [.int a4, .int 0, .int 2]) (rest := []) rfl rfl r
        obtain ⟨rfl, rfl⟩ := dn_14 rc
        have r : rn_s _ 128 (40, [some (.ref 1), some (.int a1), some (.int a2), some (.int a3), some (.int a4), some (.ref W6), none, none, none, none, none], [.int (fn_14 a4 0 2)], aa_H g) v h := r
        refine rn_if (iw_s v h) rfl decide_eq_true_iff.symm r (fun c24 l25n l25 r => ?_) (fun c24 l25n l25 r => ?_)
        · obtain ⟨n26, ln26, r⟩ := rn_steps 7 (60, [some (.ref 1), some (.int a1), some (.int a2), some (.int a3), some (.int a4), some (.ref W6), some (.int 0), some (.int (-1000000)), some (.int (-2)), some (.int a2), none], [], aa_H g) rfl r
          exact dn_128_60 hw7 (some (.int a1)) none rn_ji rn_jn r
        · obtain ⟨n27, ln27, r⟩ := rn_steps 0 (45, [some (.ref 1), some (.int a1), some (.int a2), some (.int a3), some (.int a4), some (.ref W6), none, none, none, none, none], [.int (-1000000)], aa_H g) rfl r
          exact rn_ire rfl r
-- 130: UnequalHours Span standsWithout
noncomputable def fn_130_84 (g : aa_G) (B0 : Nat) (B1 : Nat) (b2 : Int32) : Int32 × aa_G := if (g B0 5) ≠ (g (B1 + 4) b2.toNatClampNeg) then (0, g) else (1, g)
theorem dn_130_84 {v : Option Value} {h : zz_H} {n : Nat} {g : aa_G} {B0 : Nat} {B1 : Nat} {b2 : Int32} (hB0 : sp_ok B0) (hB1 : ct_tw B1) (x3 x4 : Option Value) (jx3 : rn_jk x3) (jx4 : rn_jk x4) (r : rn_s n 130 (84, [some (.ref B0), some (.ref B1), some (.int b2), x3, x4], [], aa_H g) v h) : iw_s v h (fn_130_84 g B0 B1 b2) := by
  unfold fn_130_84
  obtain ⟨n64, ln64, r⟩ := rn_steps 0 (85, [some (.ref B0), some (.ref B1), some (.int b2), x3, x4], [.ref B0], aa_H g) rfl r
  obtain ⟨n65, ln65, r⟩ := rn_gf rfl (sp_hk hB0) (sp_hl hB0) rfl r
  have r : rn_s _ 130 (88, [some (.ref B0), some (.ref B1), some (.int b2), x3, x4], [.int (g B0 5)], aa_H g) v h := r
  obtain ⟨n66, ln66, r⟩ := rn_steps 0 (89, [some (.ref B0), some (.ref B1), some (.int b2), x3, x4], [.ref B1, .int (g B0 5)], aa_H g) rfl r
  obtain ⟨n67, ln67, r⟩ := rn_gr rfl (tw_hk hB1) (tw_hl hB1) rfl r
  have r : rn_s _ 130 (92, [some (.ref B0), some (.ref B1), some (.int b2), x3, x4], [.ref (B1 + 4), .int (g B0 5)], aa_H g) v h := r
  obtain ⟨n68, ln68, r⟩ := rn_steps 0 (93, [some (.ref B0), some (.ref B1), some (.int b2), x3, x4], [.int b2, .ref (B1 + 4), .int (g B0 5)], aa_H g) rfl r
  obtain ⟨hb70, n69, ln69, r⟩ := rn_ial rfl (tw_a4 hB1).1 (tw_a4 hB1).2 r
  have r : rn_s _ 130 (94, [some (.ref B0), some (.ref B1), some (.int b2), x3, x4], [.int (g (B1 + 4) b2.toNatClampNeg), .int (g B0 5)], aa_H g) v h := r
  refine rn_ic (iw_s v h) rfl decide_eq_true_iff.symm r (fun c71 l72n l72 r => ?_) (fun c71 l72n l72 r => ?_)
  · obtain ⟨n73, ln73, r⟩ := rn_steps 0 (102, [some (.ref B0), some (.ref B1), some (.int b2), x3, x4], [.int 0], aa_H g) rfl r
    exact rn_ire rfl r
  · obtain ⟨n74, ln74, r⟩ := rn_steps 1 (102, [some (.ref B0), some (.ref B1), some (.int b2), x3, x4], [.int 1], aa_H g) rfl r
    exact rn_ire rfl r
noncomputable def fn_130_66 (g : aa_G) (B0 : Nat) (B1 : Nat) (b2 : Int32) : Int32 × aa_G := if (g B0 5) ≠ (-1) then fn_130_84 g B0 B1 b2 else if (g (B1 + 4) b2.toNatClampNeg) = (-1) then if (g B0 6) ≠ (g (B1 + 2) b2.toNatClampNeg) then (0, g) else if (g B0 7) ≠ (g (B1 + 3) b2.toNatClampNeg) then (0, g) else (1, g) else fn_130_84 g B0 B1 b2
theorem dn_130_66 {v : Option Value} {h : zz_H} {n : Nat} {g : aa_G} {B0 : Nat} {B1 : Nat} {b2 : Int32} (hB0 : sp_ok B0) (hB1 : ct_tw B1) (x3 x4 : Option Value) (jx3 : rn_jk x3) (jx4 : rn_jk x4) (r : rn_s n 130 (66, [some (.ref B0), some (.ref B1), some (.int b2), x3, x4], [], aa_H g) v h) : iw_s v h (fn_130_66 g B0 B1 b2) := by
  unfold fn_130_66
  obtain ⟨n30, ln30, r⟩ := rn_steps 0 (67, [some (.ref B0), some (.ref B1), some (.int b2), x3, x4], [.ref B0], aa_H g) rfl r
  obtain ⟨n31, ln31, r⟩ := rn_gf rfl (sp_hk hB0) (sp_hl hB0) rfl r
  have r : rn_s _ 130 (70, [some (.ref B0), some (.ref B1), some (.int b2), x3, x4], [.int (g B0 5)], aa_H g) v h := r
  obtain ⟨n32, ln32, r⟩ := rn_steps 0 (71, [some (.ref B0), some (.ref B1), some (.int b2), x3, x4], [.int (-1), .int (g B0 5)], aa_H g) rfl r
  refine rn_ic (iw_s v h) rfl decide_eq_true_iff.symm r (fun c33 l34n l34 r => ?_) (fun c33 l34n l34 r => ?_)
  · exact dn_130_84 hB0 hB1 x3 x4 jx3 jx4 r
  · obtain ⟨n35, ln35, r⟩ := rn_steps 0 (75, [some (.ref B0), some (.ref B1), some (.int b2), x3, x4], [.ref B1], aa_H g) rfl r
    obtain ⟨n36, ln36, r⟩ := rn_gr rfl (tw_hk hB1) (tw_hl hB1) rfl r
    have r : rn_s _ 130 (78, [some (.ref B0), some (.ref B1), some (.int b2), x3, x4], [.ref (B1 + 4)], aa_H g) v h := r
    obtain ⟨n37, ln37, r⟩ := rn_steps 0 (79, [some (.ref B0), some (.ref B1), some (.int b2), x3, x4], [.int b2, .ref (B1 + 4)], aa_H g) rfl r
    obtain ⟨hb39, n38, ln38, r⟩ := rn_ial rfl (tw_a4 hB1).1 (tw_a4 hB1).2 r
    have r : rn_s _ 130 (80, [some (.ref B0), some (.ref B1), some (.int b2), x3, x4], [.int (g (B1 + 4) b2.toNatClampNeg)], aa_H g) v h := r
    obtain ⟨n40, ln40, r⟩ := rn_steps 0 (81, [some (.ref B0), some (.ref B1), some (.int b2), x3, x4], [.int (-1), .int (g (B1 + 4) b2.toNatClampNeg)], aa_H g) rfl r
    refine rn_ic (iw_s v h) rfl decide_eq_true_iff.symm r (fun c41 l42n l42 r => ?_) (fun c41 l42n l42 r => ?_)
    · obtain ⟨n43, ln43, r⟩ := rn_steps 0 (104, [some (.ref B0), some (.ref B1), some (.int b2), x3, x4], [.ref B0], aa_H g) rfl r
      obtain ⟨n44, ln44, r⟩ := rn_gf rfl (sp_hk hB0) (sp_hl hB0) rfl r
      have r : rn_s _ 130 (107, [some (.ref B0), some (.ref B1), some (.int b2), x3, x4], [.int (g B0 6)], aa_H g) v h := r
      obtain ⟨n45, ln45, r⟩ := rn_steps 0 (108, [some (.ref B0), some (.ref B1), some (.int b2), x3, x4], [.ref B1, .int (g B0 6)], aa_H g) rfl r
      obtain ⟨n46, ln46, r⟩ := rn_gr rfl (tw_hk hB1) (tw_hl hB1) rfl r
      have r : rn_s _ 130 (111, [some (.ref B0), some (.ref B1), some (.int b2), x3, x4], [.ref (B1 + 2), .int (g B0 6)], aa_H g) v h := r
      obtain ⟨n47, ln47, r⟩ := rn_steps 0 (112, [some (.ref B0), some (.ref B1), some (.int b2), x3, x4], [.int b2, .ref (B1 + 2), .int (g B0 6)], aa_H g) rfl r
      obtain ⟨hb49, n48, ln48, r⟩ := rn_ial rfl (tw_a2 hB1).1 (tw_a2 hB1).2 r
      have r : rn_s _ 130 (113, [some (.ref B0), some (.ref B1), some (.int b2), x3, x4], [.int (g (B1 + 2) b2.toNatClampNeg), .int (g B0 6)], aa_H g) v h := r
      refine rn_ic (iw_s v h) rfl decide_eq_true_iff.symm r (fun c50 l51n l51 r => ?_) (fun c50 l51n l51 r => ?_)
      · obtain ⟨n52, ln52, r⟩ := rn_steps 0 (134, [some (.ref B0), some (.ref B1), some (.int b2), x3, x4], [.int 0], aa_H g) rfl r
        exact rn_ire rfl r
      · obtain ⟨n53, ln53, r⟩ := rn_steps 0 (117, [some (.ref B0), some (.ref B1), some (.int b2), x3, x4], [.ref B0], aa_H g) rfl r
        obtain ⟨n54, ln54, r⟩ := rn_gf rfl (sp_hk hB0) (sp_hl hB0) rfl r
        have r : rn_s _ 130 (120, [some (.ref B0), some (.ref B1), some (.int b2), x3, x4], [.int (g B0 7)], aa_H g) v h := r
        obtain ⟨n55, ln55, r⟩ := rn_steps 0 (121, [some (.ref B0), some (.ref B1), some (.int b2), x3, x4], [.ref B1, .int (g B0 7)], aa_H g) rfl r
        obtain ⟨n56, ln56, r⟩ := rn_gr rfl (tw_hk hB1) (tw_hl hB1) rfl r
        have r : rn_s _ 130 (124, [some (.ref B0), some (.ref B1), some (.int b2), x3, x4], [.ref (B1 + 3), .int (g B0 7)], aa_H g) v h := r
        obtain ⟨n57, ln57, r⟩ := rn_steps 0 (125, [some (.ref B0), some (.ref B1), some (.int b2), x3, x4], [.int b2, .ref (B1 + 3), .int (g B0 7)], aa_H g) rfl r
        obtain ⟨hb59, n58, ln58, r⟩ := rn_ial rfl (tw_a3 hB1).1 (tw_a3 hB1).2 r
        have r : rn_s _ 130 (126, [some (.ref B0), some (.ref B1), some (.int b2), x3, x4], [.int (g (B1 + 3) b2.toNatClampNeg), .int (g B0 7)], aa_H g) v h := r
        refine rn_ic (iw_s v h) rfl decide_eq_true_iff.symm r (fun c60 l61n l61 r => ?_) (fun c60 l61n l61 r => ?_)
        · obtain ⟨n62, ln62, r⟩ := rn_steps 0 (134, [some (.ref B0), some (.ref B1), some (.int b2), x3, x4], [.int 0], aa_H g) rfl r
          exact rn_ire rfl r
        · obtain ⟨n63, ln63, r⟩ := rn_steps 1 (134, [some (.ref B0), some (.ref B1), some (.int b2), x3, x4], [.int 1], aa_H g) rfl r
          exact rn_ire rfl r
    · exact dn_130_84 hB0 hB1 x3 x4 jx3 jx4 r
noncomputable def fn_130_50 (g : aa_G) (B0 : Nat) (B1 : Nat) (b2 : Int32) (b3 : Int32) (s0 : Int32) : Int32 × aa_G := fn_130_66 (fn_80 g B0 B1 b3 s0 (g (B1 + 1) b2.toNatClampNeg)) B0 B1 b2
theorem dn_130_50 {v : Option Value} {h : zz_H} {n : Nat} {g : aa_G} {B0 : Nat} {B1 : Nat} {b2 : Int32} {b3 : Int32} {s0 : Int32} (hB0 : sp_ok B0) (hB1 : ct_tw B1) (x4 : Option Value) (jx4 : rn_jk x4) (r : rn_s n 130 (50, [some (.ref B0), some (.ref B1), some (.int b2), some (.int b3), x4], [.int s0], aa_H g) v h) : iw_s v h (fn_130_50 g B0 B1 b2 b3 s0) := by
  unfold fn_130_50
  obtain ⟨n23, ln23, r⟩ := rn_steps 5 (58, [some (.ref B0), some (.ref B1), some (.int b2), some (.int b3), some (.int s0)], [.ref B1, .int s0, .int b3, .ref B1, .ref B0], aa_H g) rfl r
  obtain ⟨n24, ln24, r⟩ := rn_gr rfl (tw_hk hB1) (tw_hl hB1) rfl r
  have r : rn_s _ 130 (61, [some (.ref B0), some (.ref B1), some (.int b2), some (.int b3), some (.int s0)], [.ref (B1 + 1), .int s0, .int b3, .ref B1, .ref B0], aa_H g) v h := r
  obtain ⟨n25, ln25, r⟩ := rn_steps 0 (62, [some (.ref B0), some (.ref B1), some (.int b2), some (.int b3), some (.int s0)], [.int b2, .ref (B1 + 1), .int s0, .int b3, .ref B1, .ref B0], aa_H g) rfl r
  obtain ⟨hb27, n26, ln26, r⟩ := rn_ial rfl (tw_a1 hB1).1 (tw_a1 hB1).2 r
  have r : rn_s _ 130 (63, [some (.ref B0), some (.ref B1), some (.int b2), some (.int b3), some (.int s0)], [.int (g (B1 + 1) b2.toNatClampNeg), .int s0, .int b3, .ref B1, .ref B0], aa_H g) v h := r
  obtain ⟨_, n28, v1, h1, -, ln28, rc, r⟩ := rn_cv (k := B0) (as := [.ref B1, .int b3, .int s0, .int (g (B1 + 1) b2.toNatClampNeg)]) (rest := []) rfl (sp_hk hB0) (sp_hl hB0) rfl rfl r
  obtain ⟨rfl, rfl⟩ := dn_80 hB0 hB1 rc
  have r : rn_s _ 130 (66, [some (.ref B0), some (.ref B1), some (.int b2), some (.int b3), some (.int s0)], [], aa_H (fn_80 g B0 B1 b3 s0 (g (B1 + 1) b2.toNatClampNeg))) v h := r
  exact dn_130_66 hB0 hB1 (some (.int b3)) (some (.int s0)) rn_ji rn_ji r
noncomputable def fn_130_32 (g : aa_G) (B0 : Nat) (B1 : Nat) (b2 : Int32) (s0 : Int32) : Int32 × aa_G := if ((g B1 1) - 1) ≤ b2 then fn_130_50 g B0 B1 b2 s0 0 else fn_130_50 g B0 B1 b2 s0 (b2 + 1)
theorem dn_130_32 {v : Option Value} {h : zz_H} {n : Nat} {g : aa_G} {B0 : Nat} {B1 : Nat} {b2 : Int32} {s0 : Int32} (hB0 : sp_ok B0) (hB1 : ct_tw B1) (x3 x4 : Option Value) (jx3 : rn_jk x3) (jx4 : rn_jk x4) (r : rn_s n 130 (32, [some (.ref B0), some (.ref B1), some (.int b2), x3, x4], [.int s0], aa_H g) v h) : iw_s v h (fn_130_32 g B0 B1 b2 s0) := by
  unfold fn_130_32
  obtain ⟨n16, ln16, r⟩ := rn_steps 2 (35, [some (.ref B0), some (.ref B1), some (.int b2), some (.int s0), x4], [.ref B1, .int b2], aa_H g) rfl r
  obtain ⟨n17, ln17, r⟩ := rn_gf rfl (tw_hk hB1) (tw_hl hB1) rfl r
  have r : rn_s _ 130 (38, [some (.ref B0), some (.ref B1), some (.int b2), some (.int s0), x4], [.int (g B1 1), .int b2], aa_H g) v h := r
  obtain ⟨n18, ln18, r⟩ := rn_steps 1 (40, [some (.ref B0), some (.ref B1), some (.int b2), some (.int s0), x4], [.int ((g B1 1) - 1), .int b2], aa_H g) rfl r
  refine rn_ic (iw_s v h) rfl decide_eq_true_iff.symm r (fun c19 l20n l20 r => ?_) (fun c19 l20n l20 r => ?_)
  · obtain ⟨n21, ln21, r⟩ := rn_steps 0 (50, [some (.ref B0), some (.ref B1), some (.int b2), some (.int s0), x4], [.int 0], aa_H g) rfl r
    exact dn_130_50 hB0 hB1 x4 jx4 r
  · obtain ⟨n22, ln22, r⟩ := rn_steps 3 (50, [some (.ref B0), some (.ref B1), some (.int b2), some (.int s0), x4], [.int (b2 + 1)], aa_H g) rfl r
    exact dn_130_50 hB0 hB1 x4 jx4 r
noncomputable def fn_130 (g : aa_G) (P : Nat) (T : Nat) (a2 : Int32) : Int32 × aa_G := if (fn_14 a2 0 ((g T 1) - 1)) ≠ 0 then if a2 ≤ 0 then fn_130_32 g P T a2 ((g T 1) - 1) else fn_130_32 g P T a2 (a2 - 1) else (0, g)
theorem dn_130 {v : Option Value} {h : zz_H} {n : Nat} {g : aa_G} {P : Nat} {T : Nat} {a2 : Int32} (hP : sp_ok P) (hT : ct_tw T) (r : rn_s n 130 (0, zz_in [.ref P, .ref T, .int a2] (zz_nl 130), [], aa_H g) v h) : iw_s v h (fn_130 g P T a2) := by
  have r : rn_s n 130 (0, [some (.ref P), some (.ref T), some (.int a2), none, none], [], aa_H g) v h := r
  unfold fn_130
  obtain ⟨n1, ln1, r⟩ := rn_steps 2 (3, [some (.ref P), some (.ref T), some (.int a2), none, none], [.ref T, .int 0, .int a2], aa_H g) rfl r
  obtain ⟨n2, ln2, r⟩ := rn_gf rfl (tw_hk hT) (tw_hl hT) rfl r
  have r : rn_s _ 130 (6, [some (.ref P), some (.ref T), some (.int a2), none, none], [.int (g T 1), .int 0, .int a2], aa_H g) v h := r
  obtain ⟨n3, ln3, r⟩ := rn_steps 1 (8, [some (.ref P), some (.ref T), some (.int a2), none, none], [.int ((g T 1) - 1), .int 0, .int a2], aa_H g) rfl r
  obtain ⟨_, n4, v1, h1, -, ln4, rc, r⟩ := rn_call (m2 := 14) (as := [.int a2, .int 0, .int ((g T 1) - 1)]) (rest := []) rfl rfl r
  obtain ⟨rfl, rfl⟩ := dn_14 rc
  have r : rn_s _ 130 (11, [some (.ref P), some (.ref T), some (.int a2), none, none], [.int (fn_14 a2 0 ((g T 1) - 1))], aa_H g) v h := r
  refine rn_if (iw_s v h) rfl decide_eq_true_iff.symm r (fun c6 l7n l7 r => ?_) (fun c6 l7n l7 r => ?_)
  · obtain ⟨n8, ln8, r⟩ := rn_steps 0 (17, [some (.ref P), some (.ref T), some (.int a2), none, none], [.int a2], aa_H g) rfl r
    refine rn_if (iw_s v h) rfl decide_eq_true_iff.symm r (fun c9 l10n l10 r => ?_) (fun c9 l10n l10 r => ?_)
    · obtain ⟨n11, ln11, r⟩ := rn_steps 0 (27, [some (.ref P), some (.ref T), some (.int a2), none, none], [.ref T], aa_H g) rfl r
      obtain ⟨n12, ln12, r⟩ := rn_gf rfl (tw_hk hT) (tw_hl hT) rfl r
      have r : rn_s _ 130 (30, [some (.ref P), some (.ref T), some (.int a2), none, none], [.int (g T 1)], aa_H g) v h := r
      obtain ⟨n13, ln13, r⟩ := rn_steps 1 (32, [some (.ref P), some (.ref T), some (.int a2), none, none], [.int ((g T 1) - 1)], aa_H g) rfl r
      exact dn_130_32 hP hT none none rn_jn rn_jn r
    · obtain ⟨n14, ln14, r⟩ := rn_steps 3 (32, [some (.ref P), some (.ref T), some (.int a2), none, none], [.int (a2 - 1)], aa_H g) rfl r
      exact dn_130_32 hP hT none none rn_jn rn_jn r
  · obtain ⟨n15, ln15, r⟩ := rn_steps 0 (15, [some (.ref P), some (.ref T), some (.int a2), none, none], [.int 0], aa_H g) rfl r
    exact rn_ire rfl r
-- 129: UnequalHours spare
noncomputable def fn_129_53 (g : aa_G) (B2 : Nat) (b3 : Int32) (b4 : Int32) : (aa_G × Int32 × Int32) ⊕ (Int32 × aa_G) := .inl (g, b3, b4 + 1)
theorem dn_129_53 {v : Option Value} {h : zz_H} {n : Nat} {g : aa_G} {B2 : Nat} {b3 : Int32} {b4 : Int32} (P : (aa_G × Int32 × Int32) ⊕ (Int32 × aa_G) → Prop) (hO0 : ∀ n2, n2 < n → ∀ (yg : aa_G) (yb3 : Int32) (yb4 : Int32) (yx1 : Option Value) (_ : rn_jk yx1), rn_s n2 129 (20, [some (.ref 1), yx1, some (.ref B2), some (.int yb3), some (.int yb4)], [], aa_H yg) v h → P (.inl (yg, yb3, yb4))) (hR : ∀ E, iw_s v h E → P (.inr E)) (hB2 : ct_tw B2) (x1 : Option Value) (jx1 : rn_jk x1) (r : rn_s n 129 (53, [some (.ref 1), x1, some (.ref B2), some (.int b3), some (.int b4)], [], aa_H g) v h) : P (fn_129_53 g B2 b3 b4) := by
  unfold fn_129_53
  obtain ⟨n27, ln27, r⟩ := rn_steps 1 (20, [some (.ref 1), x1, some (.ref B2), some (.int b3), some (.int (b4 + 1))], [], aa_H g) rfl r
  exact hO0 _ (by omega) g b3 (b4 + 1) x1 jx1 r
noncomputable def fn_129_47 (g : aa_G) (B2 : Nat) (b3 : Int32) (b4 : Int32) (s0 : Int32) : (aa_G × Int32 × Int32) ⊕ (Int32 × aa_G) := if s0 = 0 then fn_129_53 g B2 b3 b4 else fn_129_53 g B2 (b3 + 1) b4
theorem dn_129_47 {v : Option Value} {h : zz_H} {n : Nat} {g : aa_G} {B2 : Nat} {b3 : Int32} {b4 : Int32} {s0 : Int32} (P : (aa_G × Int32 × Int32) ⊕ (Int32 × aa_G) → Prop) (hO0 : ∀ n2, n2 < n → ∀ (yg : aa_G) (yb3 : Int32) (yb4 : Int32) (yx1 : Option Value) (_ : rn_jk yx1), rn_s n2 129 (20, [some (.ref 1), yx1, some (.ref B2), some (.int yb3), some (.int yb4)], [], aa_H yg) v h → P (.inl (yg, yb3, yb4))) (hR : ∀ E, iw_s v h E → P (.inr E)) (hB2 : ct_tw B2) (x1 : Option Value) (jx1 : rn_jk x1) (r : rn_s n 129 (47, [some (.ref 1), x1, some (.ref B2), some (.int b3), some (.int b4)], [.int s0], aa_H g) v h) : P (fn_129_47 g B2 b3 b4 s0) := by
  unfold fn_129_47
  refine rn_if (P) rfl decide_eq_true_iff.symm r (fun c24 l25n l25 r => ?_) (fun c24 l25n l25 r => ?_)
  · exact dn_129_53 (P) (fun n2 l2 => hO0 n2 (by omega)) (fun z hz => hR _ hz) hB2 x1 jx1 r
  · obtain ⟨n26, ln26, r⟩ := rn_steps 0 (53, [some (.ref 1), x1, some (.ref B2), some (.int (b3 + 1)), some (.int b4)], [], aa_H g) rfl r
    exact dn_129_53 (P) (fun n2 l2 => hO0 n2 (by omega)) (fun z hz => hR _ hz) hB2 x1 jx1 r
noncomputable def fn_129_20b (g : aa_G) (B2 : Nat) (b3 : Int32) (b4 : Int32) : (aa_G × Int32 × Int32) ⊕ (Int32 × aa_G) := if (g B2 1) ≤ b4 then .inr (b3, g) else if (g B2 1) ≤ 1 then .inr (b3, g) else fn_129_47 ((fn_130 g 461 B2 b4).2) B2 b3 b4 ((fn_130 g 461 B2 b4).1)
noncomputable def fn_129_20 (g : aa_G) (B2 : Nat) (b3 : Int32) (b4 : Int32) : Int32 × aa_G := lp_f (0, g) (fun z : (aa_G × Int32 × Int32) => fn_129_20b z.1 B2 z.2.1 z.2.2) (g, b3, b4)
theorem dn_129_20l {v : Option Value} {h : zz_H} {N : Nat} {B2 : Nat} (hB2 : ct_tw B2) {d : Int32 × aa_G} : ∀ (n : Nat), n ≤ N → ∀ (g : aa_G) (b3 : Int32) (b4 : Int32) (x1 : Option Value) (jx1 : rn_jk x1), rn_s n 129 (20, [some (.ref 1), x1, some (.ref B2), some (.int b3), some (.int b4)], [], aa_H g) v h → (iw_s v h) (lp_f d (fun z : (aa_G × Int32 × Int32) => fn_129_20b z.1 B2 z.2.1 z.2.2) (g, b3, b4)) := by
  generalize hf : (fun z : (aa_G × Int32 × Int32) => fn_129_20b z.1 B2 z.2.1 z.2.2) = f
  intro n
  induction n using Nat.strongRecOn with
  | _ n ih =>
    intro hN g b3 b4 x1 jx1 r
    refine lp_go ?_
    rw [← congrFun hf (g, b3, b4)]
    show lp_q (iw_s v h) d f (fn_129_20b g B2 b3 b4)
    unfold fn_129_20b
    obtain ⟨n10, ln10, r⟩ := rn_steps 1 (23, [some (.ref 1), x1, some (.ref B2), some (.int b3), some (.int b4)], [.ref B2, .int b4], aa_H g) rfl r
    obtain ⟨n11, ln11, r⟩ := rn_gf rfl (tw_hk hB2) (tw_hl hB2) rfl r
    have r : rn_s _ 129 (26, [some (.ref 1), x1, some (.ref B2), some (.int b3), some (.int b4)], [.int (g B2 1), .int b4], aa_H g) v h := r
    refine rn_ic (lp_q (iw_s v h) d f) rfl decide_eq_true_iff.symm r (fun c12 l13n l13 r => ?_) (fun c12 l13n l13 r => ?_)
    · obtain ⟨n14, ln14, r⟩ := rn_steps 0 (60, [some (.ref 1), x1, some (.ref B2), some (.int b3), some (.int b4)], [.int b3], aa_H g) rfl r
      exact rn_ire rfl r
    · obtain ⟨n15, ln15, r⟩ := rn_steps 0 (30, [some (.ref 1), x1, some (.ref B2), some (.int b3), some (.int b4)], [.ref B2], aa_H g) rfl r
      obtain ⟨n16, ln16, r⟩ := rn_gf rfl (tw_hk hB2) (tw_hl hB2) rfl r
      have r : rn_s _ 129 (33, [some (.ref 1), x1, some (.ref B2), some (.int b3), some (.int b4)], [.int (g B2 1)], aa_H g) v h := r
      obtain ⟨n17, ln17, r⟩ := rn_steps 0 (34, [some (.ref 1), x1, some (.ref B2), some (.int b3), some (.int b4)], [.int 1, .int (g B2 1)], aa_H g) rfl r
      refine rn_ic (lp_q (iw_s v h) d f) rfl decide_eq_true_iff.symm r (fun c18 l19n l19 r => ?_) (fun c18 l19n l19 r => ?_)
      · obtain ⟨n20, ln20, r⟩ := rn_steps 0 (60, [some (.ref 1), x1, some (.ref B2), some (.int b3), some (.int b4)], [.int b3], aa_H g) rfl r
        exact rn_ire rfl r
      · obtain ⟨n21, ln21, r⟩ := rn_steps 3 (44, [some (.ref 1), x1, some (.ref B2), some (.int b3), some (.int b4)], [.int b4, .ref B2, .ref 461], aa_H g) rfl r
        obtain ⟨_, n22, v1, h1, -, ln22, rc, r⟩ := rn_call (m2 := 130) (as := [.ref 461, .ref B2, .int b4]) (rest := []) rfl rfl r
        obtain ⟨rfl, rfl⟩ := dn_130 sp_c461 hB2 rc
        have r : rn_s _ 129 (47, [some (.ref 1), x1, some (.ref B2), some (.int b3), some (.int b4)], [.int ((fn_130 g 461 B2 b4).1)], aa_H ((fn_130 g 461 B2 b4).2)) v h := r
        exact dn_129_47 (lp_q (iw_s v h) d f) (fun n2 l2 => ih n2 (by omega) (by omega)) (fun z hz => hz) hB2 x1 jx1 r
theorem dn_129_20 {v : Option Value} {h : zz_H} {n : Nat} {g : aa_G} {B2 : Nat} {b3 : Int32} {b4 : Int32} (hB2 : ct_tw B2) (x1 : Option Value) (jx1 : rn_jk x1) (r : rn_s n 129 (20, [some (.ref 1), x1, some (.ref B2), some (.int b3), some (.int b4)], [], aa_H g) v h) : (iw_s v h) (fn_129_20 g B2 b3 b4) := dn_129_20l hB2 n (Nat.le_refl n) g b3 b4 x1 jx1 r
noncomputable def fn_129 (g : aa_G) (a1 : Int32) : Int32 × aa_G := (match fn_31 g a1 with | none => ((-1, g)) | some W6 => (fn_129_20 g W6 0 0))
theorem dn_129 {v : Option Value} {h : zz_H} {n : Nat} {g : aa_G} {a1 : Int32}  (r : rn_s n 129 (0, zz_in [.ref 1, .int a1] (zz_nl 129), [], aa_H g) v h) : iw_s v h (fn_129 g a1) := by
  have r : rn_s n 129 (0, [some (.ref 1), some (.int a1), none, none, none], [], aa_H g) v h := r
  unfold fn_129
  obtain ⟨n1, ln1, r⟩ := rn_steps 2 (5, [some (.ref 1), some (.int a1), none, none, none], [.int a1, .ref 2], aa_H g) rfl r
  obtain ⟨_, n2, v1, h1, -, ln2, rc, r⟩ := rn_call (m2 := 31) (as := [.ref 2, .int a1]) (rest := []) rfl rfl r
  obtain ⟨rfl, rfl, ho4⟩ := dn_31 rc
  have r : rn_s _ 129 (8, [some (.ref 1), some (.int a1), none, none, none], [zz_val (fn_31 g a1)], aa_H g) v h := r
  cases e5 : fn_31 g a1 with
  | none =>
    rw [e5] at r
    have r : rn_s _ 129 (8, [some (.ref 1), some (.int a1), none, none, none], [.null], aa_H g) v h := r
    dsimp only
    obtain ⟨n8, ln8, r⟩ := rn_steps 3 (14, [some (.ref 1), some (.int a1), some (.null), none, none], [.int (-1)], aa_H g) rfl r
    exact rn_ire rfl r
  | some W6 =>
    rw [e5] at r
    have hw7 : ct_tw W6 := ho4 _ e5
    have r : rn_s _ 129 (8, [some (.ref 1), some (.int a1), none, none, none], [.ref W6], aa_H g) v h := r
    dsimp only
    obtain ⟨n9, ln9, r⟩ := rn_steps 6 (20, [some (.ref 1), some (.int a1), some (.ref W6), some (.int 0), some (.int 0)], [], aa_H g) rfl r
    exact dn_129_20 hw7 (some (.int a1)) rn_ji r
-- 131: UnequalHours spread
noncomputable def fn_131_146 (g : aa_G) (b1 : Int32) (b2 : Int32) (b3 : Int32) (b4 : Int32) (b5 : Int32) (b6 : Int32) (b7 : Int32) : (aa_G × Int32 × Int32 × Int32 × Int32 × Int32) ⊕ (Int32 × aa_G) := .inl (g, b3, b4, b5, b6, b7 + 1)
theorem dn_131_146 {v : Option Value} {h : zz_H} {n : Nat} {g : aa_G} {b1 : Int32} {b2 : Int32} {b3 : Int32} {b4 : Int32} {b5 : Int32} {b6 : Int32} {b7 : Int32} (P : (aa_G × Int32 × Int32 × Int32 × Int32 × Int32) ⊕ (Int32 × aa_G) → Prop) (hO0 : ∀ n2, n2 < n → ∀ (yg : aa_G) (yb3 : Int32) (yb4 : Int32) (yb5 : Int32) (yb6 : Int32) (yb7 : Int32), rn_s n2 131 (34, [some (.ref 1), some (.int b1), some (.int b2), some (.int yb3), some (.int yb4), some (.int yb5), some (.int yb6), some (.int yb7)], [], aa_H yg) v h → P (.inl (yg, yb3, yb4, yb5, yb6, yb7))) (hR : ∀ E, iw_s v h E → P (.inr E))  (r : rn_s n 131 (146, [some (.ref 1), some (.int b1), some (.int b2), some (.int b3), some (.int b4), some (.int b5), some (.int b6), some (.int b7)], [], aa_H g) v h) : P (fn_131_146 g b1 b2 b3 b4 b5 b6 b7) := by
  unfold fn_131_146
  obtain ⟨n56, ln56, r⟩ := rn_steps 1 (34, [some (.ref 1), some (.int b1), some (.int b2), some (.int b3), some (.int b4), some (.int b5), some (.int b6), some (.int (b7 + 1))], [], aa_H g) rfl r
  exact hO0 _ (by omega) g b3 b4 b5 b6 (b7 + 1) r
noncomputable def fn_131_133 (g : aa_G) (b1 : Int32) (b2 : Int32) (b3 : Int32) (b5 : Int32) (b7 : Int32) : (aa_G × Int32 × Int32 × Int32 × Int32 × Int32) ⊕ (Int32 × aa_G) := fn_131_146 g b1 b2 b3 b7 b5 (g 461 4) b7
theorem dn_131_133 {v : Option Value} {h : zz_H} {n : Nat} {g : aa_G} {b1 : Int32} {b2 : Int32} {b3 : Int32} {b5 : Int32} {b7 : Int32} (P : (aa_G × Int32 × Int32 × Int32 × Int32 × Int32) ⊕ (Int32 × aa_G) → Prop) (hO0 : ∀ n2, n2 < n → ∀ (yg : aa_G) (yb3 : Int32) (yb4 : Int32) (yb5 : Int32) (yb6 : Int32) (yb7 : Int32), rn_s n2 131 (34, [some (.ref 1), some (.int b1), some (.int b2), some (.int yb3), some (.int yb4), some (.int yb5), some (.int yb6), some (.int yb7)], [], aa_H yg) v h → P (.inl (yg, yb3, yb4, yb5, yb6, yb7))) (hR : ∀ E, iw_s v h E → P (.inr E))  (x4 x6 : Option Value) (jx4 : rn_jk x4) (jx6 : rn_jk x6) (r : rn_s n 131 (133, [some (.ref 1), some (.int b1), some (.int b2), some (.int b3), x4, some (.int b5), x6, some (.int b7)], [], aa_H g) v h) : P (fn_131_133 g b1 b2 b3 b5 b7) := by
  unfold fn_131_133
  obtain ⟨n57, ln57, r⟩ := rn_steps 5 (146, [some (.ref 1), some (.int b1), some (.int b2), some (.int b3), some (.int b7), some (.int b5), some (.int (g 461 4)), some (.int b7)], [], aa_H g) rfl r
  exact dn_131_146 (P) (fun n2 l2 => hO0 n2 (by omega)) (fun z hz => hR _ hz) r
noncomputable def fn_131_104 (g : aa_G) (b1 : Int32) (b2 : Int32) (b3 : Int32) (b4 : Int32) (b5 : Int32) (b6 : Int32) (b7 : Int32) : (aa_G × Int32 × Int32 × Int32 × Int32 × Int32) ⊕ (Int32 × aa_G) := if (g 461 0) = 0 then fn_131_146 g b1 b2 b3 b4 b5 b6 b7 else if b4 = (-2) then fn_131_133 g b1 b2 b3 b5 b7 else if b6 ≤ (g 461 4) then fn_131_146 g b1 b2 b3 b4 b5 b6 b7 else fn_131_133 g b1 b2 b3 b5 b7
theorem dn_131_104 {v : Option Value} {h : zz_H} {n : Nat} {g : aa_G} {b1 : Int32} {b2 : Int32} {b3 : Int32} {b4 : Int32} {b5 : Int32} {b6 : Int32} {b7 : Int32} (P : (aa_G × Int32 × Int32 × Int32 × Int32 × Int32) ⊕ (Int32 × aa_G) → Prop) (hO0 : ∀ n2, n2 < n → ∀ (yg : aa_G) (yb3 : Int32) (yb4 : Int32) (yb5 : Int32) (yb6 : Int32) (yb7 : Int32), rn_s n2 131 (34, [some (.ref 1), some (.int b1), some (.int b2), some (.int yb3), some (.int yb4), some (.int yb5), some (.int yb6), some (.int yb7)], [], aa_H yg) v h → P (.inl (yg, yb3, yb4, yb5, yb6, yb7))) (hR : ∀ E, iw_s v h E → P (.inr E))  (r : rn_s n 131 (104, [some (.ref 1), some (.int b1), some (.int b2), some (.int b3), some (.int b4), some (.int b5), some (.int b6), some (.int b7)], [], aa_H g) v h) : P (fn_131_104 g b1 b2 b3 b4 b5 b6 b7) := by
  unfold fn_131_104
  obtain ⟨n46, ln46, r⟩ := rn_steps 2 (111, [some (.ref 1), some (.int b1), some (.int b2), some (.int b3), some (.int b4), some (.int b5), some (.int b6), some (.int b7)], [.int (g 461 0)], aa_H g) rfl r
  refine rn_if (P) rfl decide_eq_true_iff.symm r (fun c47 l48n l48 r => ?_) (fun c47 l48n l48 r => ?_)
  · exact dn_131_146 (P) (fun n2 l2 => hO0 n2 (by omega)) (fun z hz => hR _ hz) r
  · obtain ⟨n49, ln49, r⟩ := rn_steps 1 (118, [some (.ref 1), some (.int b1), some (.int b2), some (.int b3), some (.int b4), some (.int b5), some (.int b6), some (.int b7)], [.int (-2), .int b4], aa_H g) rfl r
    refine rn_ic (P) rfl decide_eq_true_iff.symm r (fun c50 l51n l51 r => ?_) (fun c50 l51n l51 r => ?_)
    · exact dn_131_133 (P) (fun n2 l2 => hO0 n2 (by omega)) (fun z hz => hR _ hz) (some (.int b4)) (some (.int b6)) rn_ji rn_ji r
    · obtain ⟨n52, ln52, r⟩ := rn_steps 3 (130, [some (.ref 1), some (.int b1), some (.int b2), some (.int b3), some (.int b4), some (.int b5), some (.int b6), some (.int b7)], [.int b6, .int (g 461 4)], aa_H g) rfl r
      refine rn_ic (P) rfl decide_eq_true_iff.symm r (fun c53 l54n l54 r => ?_) (fun c53 l54n l54 r => ?_)
      · exact dn_131_146 (P) (fun n2 l2 => hO0 n2 (by omega)) (fun z hz => hR _ hz) r
      · exact dn_131_133 (P) (fun n2 l2 => hO0 n2 (by omega)) (fun z hz => hR _ hz) (some (.int b4)) (some (.int b6)) rn_ji rn_ji r
noncomputable def fn_131_92 (g : aa_G) (b1 : Int32) (b2 : Int32) (b4 : Int32) (b6 : Int32) (b7 : Int32) : (aa_G × Int32 × Int32 × Int32 × Int32 × Int32) ⊕ (Int32 × aa_G) := fn_131_104 g b1 b2 b7 b4 (g 461 4) b6 b7
theorem dn_131_92 {v : Option Value} {h : zz_H} {n : Nat} {g : aa_G} {b1 : Int32} {b2 : Int32} {b4 : Int32} {b6 : Int32} {b7 : Int32} (P : (aa_G × Int32 × Int32 × Int32 × Int32 × Int32) ⊕ (Int32 × aa_G) → Prop) (hO0 : ∀ n2, n2 < n → ∀ (yg : aa_G) (yb3 : Int32) (yb4 : Int32) (yb5 : Int32) (yb6 : Int32) (yb7 : Int32), rn_s n2 131 (34, [some (.ref 1), some (.int b1), some (.int b2), some (.int yb3), some (.int yb4), some (.int yb5), some (.int yb6), some (.int yb7)], [], aa_H yg) v h → P (.inl (yg, yb3, yb4, yb5, yb6, yb7))) (hR : ∀ E, iw_s v h E → P (.inr E))  (x3 x5 : Option Value) (jx3 : rn_jk x3) (jx5 : rn_jk x5) (r : rn_s n 131 (92, [some (.ref 1), some (.int b1), some (.int b2), x3, some (.int b4), x5, some (.int b6), some (.int b7)], [], aa_H g) v h) : P (fn_131_92 g b1 b2 b4 b6 b7) := by
  unfold fn_131_92
  obtain ⟨n55, ln55, r⟩ := rn_steps 5 (104, [some (.ref 1), some (.int b1), some (.int b2), some (.int b7), some (.int b4), some (.int (g 461 4)), some (.int b6), some (.int b7)], [], aa_H g) rfl r
  exact dn_131_104 (P) (fun n2 l2 => hO0 n2 (by omega)) (fun z hz => hR _ hz) r
noncomputable def fn_131_64 (g : aa_G) (b1 : Int32) (b2 : Int32) (b3 : Int32) (b4 : Int32) (b5 : Int32) (b6 : Int32) (b7 : Int32) : (aa_G × Int32 × Int32 × Int32 × Int32 × Int32) ⊕ (Int32 × aa_G) := if (g 461 0) = 0 then fn_131_104 g b1 b2 b3 b4 b5 b6 b7 else if b3 = (-2) then fn_131_92 g b1 b2 b4 b6 b7 else if (g 461 4) ≤ b5 then fn_131_104 g b1 b2 b3 b4 b5 b6 b7 else fn_131_92 g b1 b2 b4 b6 b7
theorem dn_131_64 {v : Option Value} {h : zz_H} {n : Nat} {g : aa_G} {b1 : Int32} {b2 : Int32} {b3 : Int32} {b4 : Int32} {b5 : Int32} {b6 : Int32} {b7 : Int32} (P : (aa_G × Int32 × Int32 × Int32 × Int32 × Int32) ⊕ (Int32 × aa_G) → Prop) (hO0 : ∀ n2, n2 < n → ∀ (yg : aa_G) (yb3 : Int32) (yb4 : Int32) (yb5 : Int32) (yb6 : Int32) (yb7 : Int32), rn_s n2 131 (34, [some (.ref 1), some (.int b1), some (.int b2), some (.int yb3), some (.int yb4), some (.int yb5), some (.int yb6), some (.int yb7)], [], aa_H yg) v h → P (.inl (yg, yb3, yb4, yb5, yb6, yb7))) (hR : ∀ E, iw_s v h E → P (.inr E))  (r : rn_s n 131 (64, [some (.ref 1), some (.int b1), some (.int b2), some (.int b3), some (.int b4), some (.int b5), some (.int b6), some (.int b7)], [], aa_H g) v h) : P (fn_131_64 g b1 b2 b3 b4 b5 b6 b7) := by
  unfold fn_131_64
  obtain ⟨n37, ln37, r⟩ := rn_steps 2 (71, [some (.ref 1), some (.int b1), some (.int b2), some (.int b3), some (.int b4), some (.int b5), some (.int b6), some (.int b7)], [.int (g 461 0)], aa_H g) rfl r
  refine rn_if (P) rfl decide_eq_true_iff.symm r (fun c38 l39n l39 r => ?_) (fun c38 l39n l39 r => ?_)
  · exact dn_131_104 (P) (fun n2 l2 => hO0 n2 (by omega)) (fun z hz => hR _ hz) r
  · obtain ⟨n40, ln40, r⟩ := rn_steps 1 (77, [some (.ref 1), some (.int b1), some (.int b2), some (.int b3), some (.int b4), some (.int b5), some (.int b6), some (.int b7)], [.int (-2), .int b3], aa_H g) rfl r
    refine rn_ic (P) rfl decide_eq_true_iff.symm r (fun c41 l42n l42 r => ?_) (fun c41 l42n l42 r => ?_)
    · exact dn_131_92 (P) (fun n2 l2 => hO0 n2 (by omega)) (fun z hz => hR _ hz) (some (.int b3)) (some (.int b5)) rn_ji rn_ji r
    · obtain ⟨n43, ln43, r⟩ := rn_steps 3 (89, [some (.ref 1), some (.int b1), some (.int b2), some (.int b3), some (.int b4), some (.int b5), some (.int b6), some (.int b7)], [.int b5, .int (g 461 4)], aa_H g) rfl r
      refine rn_ic (P) rfl decide_eq_true_iff.symm r (fun c44 l45n l45 r => ?_) (fun c44 l45n l45 r => ?_)
      · exact dn_131_104 (P) (fun n2 l2 => hO0 n2 (by omega)) (fun z hz => hR _ hz) r
      · exact dn_131_92 (P) (fun n2 l2 => hO0 n2 (by omega)) (fun z hz => hR _ hz) (some (.int b3)) (some (.int b5)) rn_ji rn_ji r
noncomputable def fn_131_34b (g : aa_G) (b1 : Int32) (b2 : Int32) (b3 : Int32) (b4 : Int32) (b5 : Int32) (b6 : Int32) (b7 : Int32) : (aa_G × Int32 × Int32 × Int32 × Int32 × Int32) ⊕ (Int32 × aa_G) := if (g 2 0) ≤ b7 then if b2 ≠ 0 then if b2 ≠ 1 then if b3 ≠ (-2) then .inr (b5 - b6, g) else .inr (-2, g) else .inr (b4, g) else .inr (b3, g) else fn_131_64 (fn_78 g 461 (fn_31 g b7) b1 0) b1 b2 b3 b4 b5 b6 b7
noncomputable def fn_131_34 (g : aa_G) (b1 : Int32) (b2 : Int32) (b3 : Int32) (b4 : Int32) (b5 : Int32) (b6 : Int32) (b7 : Int32) : Int32 × aa_G := lp_f (0, g) (fun z : (aa_G × Int32 × Int32 × Int32 × Int32 × Int32) => fn_131_34b z.1 b1 b2 z.2.1 z.2.2.1 z.2.2.2.1 z.2.2.2.2.1 z.2.2.2.2.2) (g, b3, b4, b5, b6, b7)
theorem dn_131_34l {v : Option Value} {h : zz_H} {N : Nat} {b1 : Int32} {b2 : Int32} {d : Int32 × aa_G} : ∀ (n : Nat), n ≤ N → ∀ (g : aa_G) (b3 : Int32) (b4 : Int32) (b5 : Int32) (b6 : Int32) (b7 : Int32), rn_s n 131 (34, [some (.ref 1), some (.int b1), some (.int b2), some (.int b3), some (.int b4), some (.int b5), some (.int b6), some (.int b7)], [], aa_H g) v h → (iw_s v h) (lp_f d (fun z : (aa_G × Int32 × Int32 × Int32 × Int32 × Int32) => fn_131_34b z.1 b1 b2 z.2.1 z.2.2.1 z.2.2.2.1 z.2.2.2.2.1 z.2.2.2.2.2) (g, b3, b4, b5, b6, b7)) := by
  generalize hf : (fun z : (aa_G × Int32 × Int32 × Int32 × Int32 × Int32) => fn_131_34b z.1 b1 b2 z.2.1 z.2.2.1 z.2.2.2.1 z.2.2.2.2.1 z.2.2.2.2.2) = f
  intro n
  induction n using Nat.strongRecOn with
  | _ n ih =>
    intro hN g b3 b4 b5 b6 b7  r
    refine lp_go ?_
    rw [← congrFun hf (g, b3, b4, b5, b6, b7)]
    show lp_q (iw_s v h) d f (fn_131_34b g b1 b2 b3 b4 b5 b6 b7)
    unfold fn_131_34b
    obtain ⟨n14, ln14, r⟩ := rn_steps 3 (43, [some (.ref 1), some (.int b1), some (.int b2), some (.int b3), some (.int b4), some (.int b5), some (.int b6), some (.int b7)], [.int (g 2 0), .int b7], aa_H g) rfl r
    refine rn_ic (lp_q (iw_s v h) d f) rfl decide_eq_true_iff.symm r (fun c15 l16n l16 r => ?_) (fun c15 l16n l16 r => ?_)
    · obtain ⟨n17, ln17, r⟩ := rn_steps 0 (153, [some (.ref 1), some (.int b1), some (.int b2), some (.int b3), some (.int b4), some (.int b5), some (.int b6), some (.int b7)], [.int b2], aa_H g) rfl r
      refine rn_if (lp_q (iw_s v h) d f) rfl decide_eq_true_iff.symm r (fun c18 l19n l19 r => ?_) (fun c18 l19n l19 r => ?_)
      · obtain ⟨n20, ln20, r⟩ := rn_steps 1 (160, [some (.ref 1), some (.int b1), some (.int b2), some (.int b3), some (.int b4), some (.int b5), some (.int b6), some (.int b7)], [.int 1, .int b2], aa_H g) rfl r
        refine rn_ic (lp_q (iw_s v h) d f) rfl decide_eq_true_iff.symm r (fun c21 l22n l22 r => ?_) (fun c21 l22n l22 r => ?_)
        · obtain ⟨n23, ln23, r⟩ := rn_steps 1 (169, [some (.ref 1), some (.int b1), some (.int b2), some (.int b3), some (.int b4), some (.int b5), some (.int b6), some (.int b7)], [.int (-2), .int b3], aa_H g) rfl r
          refine rn_ic (lp_q (iw_s v h) d f) rfl decide_eq_true_iff.symm r (fun c24 l25n l25 r => ?_) (fun c24 l25n l25 r => ?_)
          · obtain ⟨n26, ln26, r⟩ := rn_steps 2 (182, [some (.ref 1), some (.int b1), some (.int b2), some (.int b3), some (.int b4), some (.int b5), some (.int b6), some (.int b7)], [.int (b5 - b6)], aa_H g) rfl r
            exact rn_ire rfl r
          · obtain ⟨n27, ln27, r⟩ := rn_steps 1 (182, [some (.ref 1), some (.int b1), some (.int b2), some (.int b3), some (.int b4), some (.int b5), some (.int b6), some (.int b7)], [.int (-2)], aa_H g) rfl r
            exact rn_ire rfl r
        · obtain ⟨n28, ln28, r⟩ := rn_steps 0 (165, [some (.ref 1), some (.int b1), some (.int b2), some (.int b3), some (.int b4), some (.int b5), some (.int b6), some (.int b7)], [.int b4], aa_H g) rfl r
          exact rn_ire rfl r
      · obtain ⟨n29, ln29, r⟩ := rn_steps 0 (157, [some (.ref 1), some (.int b1), some (.int b2), some (.int b3), some (.int b4), some (.int b5), some (.int b6), some (.int b7)], [.int b3], aa_H g) rfl r
        exact rn_ire rfl r
    · obtain ⟨n30, ln30, r⟩ := rn_steps 4 (56, [some (.ref 1), some (.int b1), some (.int b2), some (.int b3), some (.int b4), some (.int b5), some (.int b6), some (.int b7)], [.int b7, .ref 2, .ref 461], aa_H g) rfl r
      obtain ⟨_, n31, v1, h1, -, ln31, rc, r⟩ := rn_call (m2 := 31) (as := [.ref 2, .int b7]) (rest := [.ref 461]) rfl rfl r
      obtain ⟨rfl, rfl, ho33⟩ := dn_31 rc
      have r : rn_s _ 131 (59, [some (.ref 1), some (.int b1), some (.int b2), some (.int b3), some (.int b4), some (.int b5), some (.int b6), some (.int b7)], [zz_val (fn_31 g b7), .ref 461], aa_H g) v h := r
      obtain ⟨n34, ln34, r⟩ := rn_steps 1 (61, [some (.ref 1), some (.int b1), some (.int b2), some (.int b3), some (.int b4), some (.int b5), some (.int b6), some (.int b7)], [.int 0, .int b1, zz_val (fn_31 g b7), .ref 461], aa_H g) rfl r
      obtain ⟨_, n35, v1, h1, -, ln35, rc, r⟩ := rn_call (m2 := 78) (as := [.ref 461, zz_val (fn_31 g b7), .int b1, .int 0]) (rest := []) rfl rfl r
      obtain ⟨rfl, rfl⟩ := dn_78 sp_c461 (fun W e => ho33 _ e) rc
      have r : rn_s _ 131 (64, [some (.ref 1), some (.int b1), some (.int b2), some (.int b3), some (.int b4), some (.int b5), some (.int b6), some (.int b7)], [], aa_H (fn_78 g 461 (fn_31 g b7) b1 0)) v h := r
      exact dn_131_64 (lp_q (iw_s v h) d f) (fun n2 l2 => ih n2 (by omega) (by omega)) (fun z hz => hz) r
theorem dn_131_34 {v : Option Value} {h : zz_H} {n : Nat} {g : aa_G} {b1 : Int32} {b2 : Int32} {b3 : Int32} {b4 : Int32} {b5 : Int32} {b6 : Int32} {b7 : Int32}  (r : rn_s n 131 (34, [some (.ref 1), some (.int b1), some (.int b2), some (.int b3), some (.int b4), some (.int b5), some (.int b6), some (.int b7)], [], aa_H g) v h) : (iw_s v h) (fn_131_34 g b1 b2 b3 b4 b5 b6 b7) := dn_131_34l  n (Nat.le_refl n) g b3 b4 b5 b6 b7 r
noncomputable def fn_131 (g : aa_G) (a1 : Int32) (a2 : Int32) : Int32 × aa_G := if (fn_77 a1) = 0 then (-1, g) else if (fn_14 a2 0 2) ≠ 0 then fn_131_34 g a1 a2 (-2) (-2) 0 0 0 else (-1, g)
theorem dn_131 {v : Option Value} {h : zz_H} {n : Nat} {g : aa_G} {a1 : Int32} {a2 : Int32}  (r : rn_s n 131 (0, zz_in [.ref 1, .int a1, .int a2] (zz_nl 131), [], aa_H g) v h) : iw_s v h (fn_131 g a1 a2) := by
  have r : rn_s n 131 (0, [some (.ref 1), some (.int a1), some (.int a2), none, none, none, none, none], [], aa_H g) v h := r
  unfold fn_131
  obtain ⟨n1, ln1, r⟩ := rn_steps 0 (1, [some (.ref 1), some (.int a1), some (.int a2), none, none, none, none, none], [.int a1], aa_H g) rfl r
  obtain ⟨_, n2, v1, h1, -, ln2, rc, r⟩ := rn_call (m2 := 77) (as := [.int a1]) (rest := []) rfl rfl r
  obtain ⟨rfl, rfl⟩ := dn_77 rc
  have r : rn_s _ 131 (4, [some (.ref 1), some (.int a1), some (.int a2), none, none, none, none, none], [.int (fn_77 a1)], aa_H g) v h := r
  refine rn_if (iw_s v h) rfl decide_eq_true_iff.symm r (fun c4 l5n l5 r => ?_) (fun c4 l5n l5 r => ?_)
  · obtain ⟨n6, ln6, r⟩ := rn_steps 0 (17, [some (.ref 1), some (.int a1), some (.int a2), none, none, none, none, none], [.int (-1)], aa_H g) rfl r
    exact rn_ire rfl r
  · obtain ⟨n7, ln7, r⟩ := rn_steps 2 (10, [some (.ref 1), some (.int a1), some (.int a2), none, none, none, none, none], [.int 2, .int 0, .int a2], aa_H g) rfl r
    obtain ⟨_, n8, v1, h1, -, ln8, rc, r⟩ := rn_call (m2 := 14) (as := [.int a2, .int 0, .int 2]) (rest := []) rfl rfl r
    obtain ⟨rfl, rfl⟩ := dn_14 rc
    have r : rn_s _ 131 (13, [some (.ref 1), some (.int a1), some (.int a2), none, none, none, none, none], [.int (fn_14 a2 0 2)], aa_H g) v h := r
    refine rn_if (iw_s v h) rfl decide_eq_true_iff.symm r (fun c10 l11n l11 r => ?_) (fun c10 l11n l11 r => ?_)
    · obtain ⟨n12, ln12, r⟩ := rn_steps 9 (34, [some (.ref 1), some (.int a1), some (.int a2), some (.int (-2)), some (.int (-2)), some (.int 0), some (.int 0), some (.int 0)], [], aa_H g) rfl r
      exact dn_131_34 r
    · obtain ⟨n13, ln13, r⟩ := rn_steps 0 (17, [some (.ref 1), some (.int a1), some (.int a2), none, none, none, none, none], [.int (-1)], aa_H g) rfl r
      exact rn_ire rfl r
end
