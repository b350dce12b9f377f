/-! METHODS READ (printed by wip/dc/dc.py) -/
-- 98: UnequalHours exact
noncomputable def fn_98_105 (g : aa_G) (b4 : Int32) (b6 : Int32) (b7 : Int32) : (Int32 × Int32) ⊕ (Int32 × aa_G) := .inl (b6, b7 + 1)
theorem dn_98_105 {v : Option Value} {h : zz_H} {n : Nat} {g : aa_G} {b4 : Int32} {b6 : Int32} {b7 : Int32} (P : (Int32 × Int32) ⊕ (Int32 × aa_G) → Prop) (hO0 : ∀ n2, n2 < n → ∀ (yb6 : Int32) (yb7 : Int32) (yx1 yx2 yx3 yx5 : Option Value) (_ : rn_jk yx1) (_ : rn_jk yx2) (_ : rn_jk yx3) (_ : rn_jk yx5), rn_s n2 98 (73, [some (.ref 1), yx1, yx2, yx3, some (.int b4), yx5, some (.int yb6), some (.int yb7)], [], aa_H g) v h → P (.inl (yb6, yb7))) (hR : ∀ E, iw_s v h E → P (.inr E))  (x1 x2 x3 x5 : Option Value) (jx1 : rn_jk x1) (jx2 : rn_jk x2) (jx3 : rn_jk x3) (jx5 : rn_jk x5) (r : rn_s n 98 (105, [some (.ref 1), x1, x2, x3, some (.int b4), x5, some (.int b6), some (.int b7)], [], aa_H g) v h) : P (fn_98_105 g b4 b6 b7) := by
  unfold fn_98_105
  obtain ⟨n62, ln62, r⟩ := rn_steps 1 (73, [some (.ref 1), x1, x2, x3, some (.int b4), x5, some (.int b6), some (.int (b7 + 1))], [], aa_H g) rfl r
  exact hO0 _ (by omega) b6 (b7 + 1) x1 x2 x3 x5 jx1 jx2 jx3 jx5 r
noncomputable def fn_98_73b (g : aa_G) (b4 : Int32) (b6 : Int32) (b7 : Int32) : (Int32 × Int32) ⊕ (Int32 × aa_G) := if 12 < b7 then if b4 ≠ 0 then .inr (12 / b6, g) else .inr ((g 461 4) / b6, g) else if (12 - 12 / b7 * b7) ≠ 0 then fn_98_105 g b4 b6 b7 else if ((g 461 4) - (g 461 4) / b7 * b7) ≠ 0 then fn_98_105 g b4 b6 b7 else fn_98_105 g b4 b7 b7
noncomputable def fn_98_73 (g : aa_G) (b4 : Int32) (b6 : Int32) (b7 : Int32) : Int32 × aa_G := lp_f (0, g) (fun z : (Int32 × Int32) => fn_98_73b g b4 z.1 z.2) (b6, b7)
theorem dn_98_73l {v : Option Value} {h : zz_H} {N : Nat} {g : aa_G} {b4 : Int32} {d : Int32 × aa_G} : ∀ (n : Nat), n ≤ N → ∀ (b6 : Int32) (b7 : Int32) (x1 x2 x3 x5 : Option Value) (jx1 : rn_jk x1) (jx2 : rn_jk x2) (jx3 : rn_jk x3) (jx5 : rn_jk x5), rn_s n 98 (73, [some (.ref 1), x1, x2, x3, some (.int b4), x5, some (.int b6), some (.int b7)], [], aa_H g) v h → (iw_s v h) (lp_f d (fun z : (Int32 × Int32) => fn_98_73b g b4 z.1 z.2) (b6, b7)) := by
  generalize hf : (fun z : (Int32 × Int32) => fn_98_73b g b4 z.1 z.2) = f
  intro n
  induction n using Nat.strongRecOn with
  | _ n ih =>
    intro hN b6 b7 x1 x2 x3 x5 jx1 jx2 jx3 jx5 r
    refine lp_go ?_
    rw [← congrFun hf (b6, b7)]
    show lp_q (iw_s v h) d f (fn_98_73b g b4 b6 b7)
    unfold fn_98_73b
    obtain ⟨n37, ln37, r⟩ := rn_steps 1 (77, [some (.ref 1), x1, x2, x3, some (.int b4), x5, some (.int b6), some (.int b7)], [.int 12, .int b7], aa_H g) rfl r
    refine rn_ic (lp_q (iw_s v h) d f) rfl decide_eq_true_iff.symm r (fun c38 l39n l39 r => ?_) (fun c38 l39n l39 r => ?_)
    · obtain ⟨n40, ln40, r⟩ := rn_steps 0 (113, [some (.ref 1), x1, x2, x3, some (.int b4), x5, some (.int b6), some (.int b7)], [.int b4], aa_H g) rfl r
      refine rn_if (lp_q (iw_s v h) d f) rfl decide_eq_true_iff.symm r (fun c41 l42n l42 r => ?_) (fun c41 l42n l42 r => ?_)
      · obtain ⟨n43, ln43, r⟩ := rn_steps 1 (133, [some (.ref 1), x1, x2, x3, some (.int b4), x5, some (.int b6), some (.int b7)], [.int b6, .int 12], aa_H g) rfl r
        obtain ⟨hd45, n44, ln44, r⟩ := rn_div rfl r
        have r : rn_s _ 98 (134, [some (.ref 1), x1, x2, x3, some (.int b4), x5, some (.int b6), some (.int b7)], [.int (12 / b6)], aa_H g) v h := r
        exact rn_ire rfl r
      · obtain ⟨n46, ln46, r⟩ := rn_steps 3 (125, [some (.ref 1), x1, x2, x3, some (.int b4), x5, some (.int b6), some (.int b7)], [.int b6, .int (g 461 4)], aa_H g) rfl r
        obtain ⟨hd48, n47, ln47, r⟩ := rn_div rfl r
        have r : rn_s _ 98 (126, [some (.ref 1), x1, x2, x3, some (.int b4), x5, some (.int b6), some (.int b7)], [.int ((g 461 4) / b6)], aa_H g) v h := r
        obtain ⟨n49, ln49, r⟩ := rn_steps 0 (134, [some (.ref 1), x1, x2, x3, some (.int b4), x5, some (.int b6), some (.int b7)], [.int ((g 461 4) / b6)], aa_H g) rfl r
        exact rn_ire rfl r
    · obtain ⟨n50, ln50, r⟩ := rn_steps 1 (84, [some (.ref 1), x1, x2, x3, some (.int b4), x5, some (.int b6), some (.int b7)], [.int b7, .int 12], aa_H g) rfl r
      obtain ⟨hd52, n51, ln51, r⟩ := rn_rem rfl r
      have r : rn_s _ 98 (85, [some (.ref 1), x1, x2, x3, some (.int b4), x5, some (.int b6), some (.int b7)], [.int (12 - 12 / b7 * b7)], aa_H g) v h := r
      refine rn_if (lp_q (iw_s v h) d f) rfl decide_eq_true_iff.symm r (fun c53 l54n l54 r => ?_) (fun c53 l54n l54 r => ?_)
      · exact dn_98_105 (lp_q (iw_s v h) d f) (fun n2 l2 => ih n2 (by omega) (by omega)) (fun z hz => hz) x1 x2 x3 x5 jx1 jx2 jx3 jx5 r
      · obtain ⟨n55, ln55, r⟩ := rn_steps 3 (97, [some (.ref 1), x1, x2, x3, some (.int b4), x5, some (.int b6), some (.int b7)], [.int b7, .int (g 461 4)], aa_H g) rfl r
        obtain ⟨hd57, n56, ln56, r⟩ := rn_rem rfl r
        have r : rn_s _ 98 (98, [some (.ref 1), x1, x2, x3, some (.int b4), x5, some (.int b6), some (.int b7)], [.int ((g 461 4) - (g 461 4) / b7 * b7)], aa_H g) v h := r
        refine rn_if (lp_q (iw_s v h) d f) rfl decide_eq_true_iff.symm r (fun c58 l59n l59 r => ?_) (fun c58 l59n l59 r => ?_)
        · exact dn_98_105 (lp_q (iw_s v h) d f) (fun n2 l2 => ih n2 (by omega) (by omega)) (fun z hz => hz) x1 x2 x3 x5 jx1 jx2 jx3 jx5 r
        · obtain ⟨n60, ln60, r⟩ := rn_steps 0 (103, [some (.ref 1), x1, x2, x3, some (.int b4), x5, some (.int b6), some (.int b7)], [.int b7], aa_H g) rfl r
          obtain ⟨n61, ln61, r⟩ := rn_isx (i := 6) rfl rfl jx5 rfl ⟨Nat.le_of_ble_eq_true rfl, Nat.le_of_ble_eq_true rfl⟩ r
          have r : rn_s _ 98 (105, [some (.ref 1), x1, x2, x3, some (.int b4), x5, some (.int b7), some (.int b7)], [], aa_H g) v h := r
          exact dn_98_105 (lp_q (iw_s v h) d f) (fun n2 l2 => ih n2 (by omega) (by omega)) (fun z hz => hz) x1 x2 x3 x5 jx1 jx2 jx3 jx5 r
theorem dn_98_73 {v : Option Value} {h : zz_H} {n : Nat} {g : aa_G} {b4 : Int32} {b6 : Int32} {b7 : Int32}  (x1 x2 x3 x5 : Option Value) (jx1 : rn_jk x1) (jx2 : rn_jk x2) (jx3 : rn_jk x3) (jx5 : rn_jk x5) (r : rn_s n 98 (73, [some (.ref 1), x1, x2, x3, some (.int b4), x5, some (.int b6), some (.int b7)], [], aa_H g) v h) : (iw_s v h) (fn_98_73 g b4 b6 b7) := dn_98_73l  n (Nat.le_refl n) b6 b7 x1 x2 x3 x5 jx1 jx2 jx3 jx5 r
noncomputable def fn_98_54 (g : aa_G) (b4 : Int32) : Int32 × aa_G := if (g 461 0) ≠ 0 then fn_98_73 g b4 1 2 else (-2, g)
theorem dn_98_54 {v : Option Value} {h : zz_H} {n : Nat} {g : aa_G} {b4 : Int32}  (x1 x2 x3 x5 x6 x7 : Option Value) (jx1 : rn_jk x1) (jx2 : rn_jk x2) (jx3 : rn_jk x3) (jx5 : rn_jk x5) (jx6 : rn_jk x6) (jx7 : rn_jk x7) (r : rn_s n 98 (54, [some (.ref 1), x1, x2, x3, some (.int b4), x5, x6, x7], [], aa_H g) v h) : iw_s v h (fn_98_54 g b4) := by
  unfold fn_98_54
  obtain ⟨n30, ln30, r⟩ := rn_steps 2 (61, [some (.ref 1), x1, x2, x3, some (.int b4), x5, x6, x7], [.int (g 461 0)], aa_H g) rfl r
  refine rn_if (iw_s v h) rfl decide_eq_true_iff.symm r (fun c31 l32n l32 r => ?_) (fun c31 l32n l32 r => ?_)
  · obtain ⟨n33, ln33, r⟩ := rn_steps 0 (68, [some (.ref 1), x1, x2, x3, some (.int b4), x5, x6, x7], [.int 1], aa_H g) rfl r
    obtain ⟨n34, ln34, r⟩ := rn_isx (i := 6) rfl rfl jx5 rfl ⟨Nat.le_of_ble_eq_true rfl, Nat.le_of_ble_eq_true rfl⟩ r
    have r : rn_s _ 98 (70, [some (.ref 1), x1, x2, x3, some (.int b4), x5, some (.int 1), x7], [], aa_H g) v h := r
    obtain ⟨n35, ln35, r⟩ := rn_steps 1 (73, [some (.ref 1), x1, x2, x3, some (.int b4), x5, some (.int 1), some (.int 2)], [], aa_H g) rfl r
    exact dn_98_73 x1 x2 x3 x5 jx1 jx2 jx3 jx5 r
  · obtain ⟨n36, ln36, r⟩ := rn_steps 0 (66, [some (.ref 1), x1, x2, x3, some (.int b4), x5, x6, x7], [.int (-2)], aa_H g) rfl r
    exact rn_ire rfl r
noncomputable def fn_98 (g : aa_G) (a1 : Int32) (a2 : Int32) (a3 : Int32) (a4 : Int32) : Int32 × aa_G := (match fn_31 g a1 with | none => ((-1, g)) | some W6 => (if (fn_77 a2) = 0 then (-1, g) else if (fn_14 a3 0 1) = 0 then (-1, g) else if (fn_14 a4 0 1) ≠ 0 then fn_98_54 (fn_78 g 461 (some W6) a2 a3) a4 else (-1, g)))
theorem dn_98 {v : Option Value} {h : zz_H} {n : Nat} {g : aa_G} {a1 : Int32} {a2 : Int32} {a3 : Int32} {a4 : Int32}  (r : rn_s n 98 (0, zz_in [.ref 1, .int a1, .int a2, .int a3, .int a4] (zz_nl 98), [], aa_H g) v h) : iw_s v h (fn_98 g a1 a2 a3 a4) := by
  have r : rn_s n 98 (0, [some (.ref 1), some (.int a1), some (.int a2), some (.int a3), some (.int a4), none, none, none], [], aa_H g) v h := r
  unfold fn_98
  obtain ⟨n1, ln1, r⟩ := rn_steps 2 (5, [some (.ref 1), some (.int a1), some (.int a2), some (.int a3), some (.int a4), none, none, none], [.int a1, .ref 2], aa_H g) rfl r
  obtain ⟨_, n2, v1, h1, -, ln2, rc, r⟩ := rn_call (m2 := 31) (as := [.ref 2, .int a1]) (rest := []) rfl rfl r
  obtain ⟨rfl, rfl, ho4⟩ := dn_31 rc
  have r : rn_s _ 98 (8, [some (.ref 1), some (.int a1), some (.int a2), some (.int a3), some (.int a4), none, none, none], [zz_val (fn_31 g a1)], aa_H g) v h := r
  cases e5 : fn_31 g a1 with
  | none =>
    rw [e5] at r
    have r : rn_s _ 98 (8, [some (.ref 1), some (.int a1), some (.int a2), some (.int a3), some (.int a4), none, none, none], [.null], aa_H g) v h := r
    dsimp only
    obtain ⟨n8, ln8, r⟩ := rn_steps 3 (42, [some (.ref 1), some (.int a1), some (.int a2), some (.int a3), some (.int a4), some (.null), none, none], [.int (-1)], aa_H g) rfl r
    exact rn_ire rfl r
  | some W6 =>
    rw [e5] at r
    have hw7 : ct_tw W6 := ho4 _ e5
    have r : rn_s _ 98 (8, [some (.ref 1), some (.int a1), some (.int a2), some (.int a3), some (.int a4), none, none, none], [.ref W6], aa_H g) v h := r
    dsimp only
    obtain ⟨n9, ln9, r⟩ := rn_steps 3 (16, [some (.ref 1), some (.int a1), some (.int a2), some (.int a3), some (.int a4), some (.ref W6), none, none], [.int a2], aa_H g) rfl r
    obtain ⟨_, n10, v1, h1, -, ln10, rc, r⟩ := rn_call (m2 := 77) (as := [.int a2]) (rest := []) rfl rfl r
    obtain ⟨rfl, rfl⟩ := dn_77 rc
    have r : rn_s _ 98 (19, [some (.ref 1), some (.int a1), some (.int a2), some (.int a3), some (.int a4), some (.ref W6), none, none], [.int (fn_77 a2)], aa_H g) v h := r
    refine rn_if (iw_s v h) rfl decide_eq_true_iff.symm r (fun c12 l13n l13 r => ?_) (fun c12 l13n l13 r => ?_)
    · obtain ⟨n14, ln14, r⟩ := rn_steps 0 (42, [some (.ref 1), some (.int a1), some (.int a2), some (.int a3), some (.int a4), some (.ref W6), none, none], [.int (-1)], aa_H g) rfl r
      exact rn_ire rfl r
    · obtain ⟨n15, ln15, r⟩ := rn_steps 2 (25, [some (.ref 1), some (.int a1), some (.int a2), some (.int a3), some (.int a4), some (.ref W6), none, none], [.int 1, .int 0, .int a3], aa_H g) rfl r
      obtain ⟨_, n16, v1, h1, -, ln16, rc, r⟩ := rn_call (m2 := 14) (as := [.int a3, .int 0, .int 1]) (rest := []) rfl rfl r
      obtain ⟨rfl, rfl⟩ := dn_14 rc
      have r : rn_s _ 98 (28, [some (.ref 1), some (.int a1), some (.int a2), some (.int a3), some (.int a4), some (.ref W6), none, none], [.int (fn_14 a3 0 1)], aa_H g) v h := r
      refine rn_if (iw_s v h) rfl decide_eq_true_iff.symm r (fun c18 l19n l19 r => ?_) (fun c18 l19n l19 r => ?_)
      · obtain ⟨n20, ln20, r⟩ := rn_steps 0 (42, [some (.ref 1), some (.int a1), some (.int a2), some (.int a3), some (.int a4), some (.ref W6), none, none], [.int (-1)], aa_H g) rfl r
        exact rn_ire rfl r
      · obtain ⟨n21, ln21, r⟩ := rn_steps 2 (35, [some (.ref 1), some (.int a1), some (.int a2), some (.int a3), some (.int a4), some (.ref W6), none, none], [.int 1, .int 0, .int a4], aa_H g) rfl r
        obtain ⟨_, n22, v1, h1, -, ln22, rc, r⟩ := rn_call (m2 := 14) (as := [.int a4, .int 0, .int 1]) (rest := []) rfl rfl r
        obtain ⟨rfl, rfl⟩ := dn_14 rc
        have r : rn_s _ 98 (38, [some (.ref 1), some (.int a1), some (.int a2), some (.int a3), some (.int a4), some (.ref W6), none, none], [.int (fn_14 a4 0 1)], aa_H g) v h := r
        refine rn_if (iw_s v h) rfl decide_eq_true_iff.symm r (fun c24 l25n l25 r => ?_) (fun c24 l25n l25 r => ?_)
        · obtain ⟨n26, ln26, r⟩ := rn_steps 4 (51, [some (.ref 1), some (.int a1), some (.int a2), some (.int a3), some (.int a4), some (.ref W6), none, none], [.int a3, .int a2, .ref W6, .ref 461], aa_H g) rfl r
          obtain ⟨_, n27, v1, h1, -, ln27, rc, r⟩ := rn_call (m2 := 78) (as := [.ref 461, .ref W6, .int a2, .int a3]) (rest := []) rfl rfl r
          obtain ⟨rfl, rfl⟩ := dn_78 sp_c461 (rn_o1 hw7) rc
          have r : rn_s _ 98 (54, [some (.ref 1), some (.int a1), some (.int a2), some (.int a3), some (.int a4), some (.ref W6), none, none], [], aa_H (fn_78 g 461 (some W6) a2 a3)) v h := r
          exact dn_98_54 (some (.int a1)) (some (.int a2)) (some (.int a3)) (some (.ref W6)) none none rn_ji rn_ji rn_ji rn_jr rn_jn rn_jn r
        · obtain ⟨n29, ln29, r⟩ := rn_steps 0 (42, [some (.ref 1), some (.int a1), some (.int a2), some (.int a3), some (.int a4), some (.ref W6), none, none], [.int (-1)], aa_H g) rfl r
          exact rn_ire rfl r
-- 100: UnequalHours Span hourBegins
noncomputable def fn_100 (g : aa_G) (P : Nat) (a1 : Int32) : Int32 := (g P 3) + ((((a1 * (g P 4)) + 12) - 1) / 12)
theorem dn_100 {v : Option Value} {h : zz_H} {n : Nat} {g : aa_G} {P : Nat} {a1 : Int32} (hP : sp_ok P) (r : rn_s n 100 (0, zz_in [.ref P, .int a1] (zz_nl 100), [], aa_H g) v h) : ir_s g v h (fn_100 g P a1) := by
  have r : rn_s n 100 (0, [some (.ref P), some (.int a1)], [], aa_H g) v h := r
  unfold fn_100
  obtain ⟨n1, ln1, r⟩ := rn_steps 0 (1, [some (.ref P), some (.int a1)], [.ref P], aa_H g) rfl r
  obtain ⟨n2, ln2, r⟩ := rn_gf rfl (sp_hk hP) (sp_hl hP) rfl r
  have r : rn_s _ 100 (4, [some (.ref P), some (.int a1)], [.int (g P 3)], aa_H g) v h := r
  obtain ⟨n3, ln3, r⟩ := rn_steps 1 (6, [some (.ref P), some (.int a1)], [.ref P, .int a1, .int (g P 3)], aa_H g) rfl r
  obtain ⟨n4, ln4, r⟩ := rn_gf rfl (sp_hk hP) (sp_hl hP) rfl r
  have r : rn_s _ 100 (9, [some (.ref P), some (.int a1)], [.int (g P 4), .int a1, .int (g P 3)], aa_H g) v h := r
  obtain ⟨n5, ln5, r⟩ := rn_steps 7 (19, [some (.ref P), some (.int a1)], [.int ((g P 3) + ((((a1 * (g P 4)) + 12) - 1) / 12))], aa_H g) rfl r
  exact rn_ire rfl r
-- 99: UnequalHours watch
noncomputable def fn_99_54 (g : aa_G) (b3 : Int32) (b4 : Int32) : Int32 × aa_G := if (g 461 0) ≠ 0 then if b4 ≠ 0 then ((fn_100 g 461 ((3 * b3) + 3)) - (fn_100 g 461 (3 * b3)), g) else (fn_100 g 461 (3 * b3), g) else (-2, g)
theorem dn_99_54 {v : Option Value} {h : zz_H} {n : Nat} {g : aa_G} {b3 : Int32} {b4 : Int32}  (x1 x2 x5 x6 : Option Value) (jx1 : rn_jk x1) (jx2 : rn_jk x2) (jx5 : rn_jk x5) (jx6 : rn_jk x6) (r : rn_s n 99 (54, [some (.ref 1), x1, x2, some (.int b3), some (.int b4), x5, x6], [], aa_H g) v h) : iw_s v h (fn_99_54 g b3 b4) := by
  unfold fn_99_54
  obtain ⟨n30, ln30, r⟩ := rn_steps 2 (61, [some (.ref 1), x1, x2, some (.int b3), some (.int b4), x5, x6], [.int (g 461 0)], aa_H g) rfl r
  refine rn_if (iw_s v h) rfl decide_eq_true_iff.symm r (fun c31 l32n l32 r => ?_) (fun c31 l32n l32 r => ?_)
  · obtain ⟨n33, ln33, r⟩ := rn_steps 4 (74, [some (.ref 1), x1, x2, some (.int b3), some (.int b4), x5, x6], [.int (3 * b3), .ref 461], aa_H g) rfl r
    obtain ⟨_, n34, v1, h1, -, ln34, rc, r⟩ := rn_call (m2 := 100) (as := [.ref 461, .int (3 * b3)]) (rest := []) rfl rfl r
    obtain ⟨rfl, rfl⟩ := dn_100 sp_c461 rc
    have r : rn_s _ 99 (77, [some (.ref 1), x1, x2, some (.int b3), some (.int b4), x5, x6], [.int (fn_100 g 461 (3 * b3))], aa_H g) v h := r
    obtain ⟨n36, ln36, r⟩ := rn_isx (i := 6) rfl rfl jx5 rfl ⟨Nat.le_of_ble_eq_true rfl, Nat.le_of_ble_eq_true rfl⟩ r
    have r : rn_s _ 99 (79, [some (.ref 1), x1, x2, some (.int b3), some (.int b4), x5, some (.int (fn_100 g 461 (3 * b3)))], [], aa_H g) v h := r
    obtain ⟨n37, ln37, r⟩ := rn_steps 0 (81, [some (.ref 1), x1, x2, some (.int b3), some (.int b4), x5, some (.int (fn_100 g 461 (3 * b3)))], [.int b4], aa_H g) rfl r
    refine rn_if (iw_s v h) rfl decide_eq_true_iff.symm r (fun c38 l39n l39 r => ?_) (fun c38 l39n l39 r => ?_)
    · obtain ⟨n40, ln40, r⟩ := rn_steps 6 (98, [some (.ref 1), x1, x2, some (.int b3), some (.int b4), x5, some (.int (fn_100 g 461 (3 * b3)))], [.int ((3 * b3) + 3), .ref 461], aa_H g) rfl r
      obtain ⟨_, n41, v1, h1, -, ln41, rc, r⟩ := rn_call (m2 := 100) (as := [.ref 461, .int ((3 * b3) + 3)]) (rest := []) rfl rfl r
      obtain ⟨rfl, rfl⟩ := dn_100 sp_c461 rc
      have r : rn_s _ 99 (101, [some (.ref 1), x1, x2, some (.int b3), some (.int b4), x5, some (.int (fn_100 g 461 (3 * b3)))], [.int (fn_100 g 461 ((3 * b3) + 3))], aa_H g) v h := r
      obtain ⟨n43, ln43, r⟩ := rn_steps 1 (104, [some (.ref 1), x1, x2, some (.int b3), some (.int b4), x5, some (.int (fn_100 g 461 (3 * b3)))], [.int ((fn_100 g 461 ((3 * b3) + 3)) - (fn_100 g 461 (3 * b3)))], aa_H g) rfl r
      exact rn_ire rfl r
    · obtain ⟨n44, ln44, r⟩ := rn_steps 1 (104, [some (.ref 1), x1, x2, some (.int b3), some (.int b4), x5, some (.int (fn_100 g 461 (3 * b3)))], [.int (fn_100 g 461 (3 * b3))], aa_H g) rfl r
      exact rn_ire rfl r
  · obtain ⟨n45, ln45, r⟩ := rn_steps 0 (66, [some (.ref 1), x1, x2, some (.int b3), some (.int b4), x5, x6], [.int (-2)], aa_H g) rfl r
    exact rn_ire rfl r
noncomputable def fn_99 (g : aa_G) (a1 : Int32) (a2 : Int32) (a3 : Int32) (a4 : Int32) : Int32 × aa_G := (match fn_31 g a1 with | none => ((-1, g)) | some W6 => (if (fn_77 a2) = 0 then (-1, g) else if (fn_14 a3 0 3) = 0 then (-1, g) else if (fn_14 a4 0 1) ≠ 0 then fn_99_54 (fn_78 g 461 (some W6) a2 1) a3 a4 else (-1, g)))
theorem dn_99 {v : Option Value} {h : zz_H} {n : Nat} {g : aa_G} {a1 : Int32} {a2 : Int32} {a3 : Int32} {a4 : Int32}  (r : rn_s n 99 (0, zz_in [.ref 1, .int a1, .int a2, .int a3, .int a4] (zz_nl 99), [], aa_H g) v h) : iw_s v h (fn_99 g a1 a2 a3 a4) := by
  have r : rn_s n 99 (0, [some (.ref 1), some (.int a1), some (.int a2), some (.int a3), some (.int a4), none, none], [], aa_H g) v h := r
  unfold fn_99
  obtain ⟨n1, ln1, r⟩ := rn_steps 2 (5, [some (.ref 1), some (.int a1), some (.int a2), some (.int a3), some (.int a4), none, none], [.int a1, .ref 2], aa_H g) rfl r
  obtain ⟨_, n2, v1, h1, -, ln2, rc, r⟩ := rn_call (m2 := 31) (as := [.ref 2, .int a1]) (rest := []) rfl rfl r
  obtain ⟨rfl, rfl, ho4⟩ := dn_31 rc
  have r : rn_s _ 99 (8, [some (.ref 1), some (.int a1), some (.int a2), some (.int a3), some (.int a4), none, none], [zz_val (fn_31 g a1)], aa_H g) v h := r
  cases e5 : fn_31 g a1 with
  | none =>
    rw [e5] at r
    have r : rn_s _ 99 (8, [some (.ref 1), some (.int a1), some (.int a2), some (.int a3), some (.int a4), none, none], [.null], aa_H g) v h := r
    dsimp only
    obtain ⟨n8, ln8, r⟩ := rn_steps 3 (42, [some (.ref 1), some (.int a1), some (.int a2), some (.int a3), some (.int a4), some (.null), none], [.int (-1)], aa_H g) rfl r
    exact rn_ire rfl r
  | some W6 =>
    rw [e5] at r
    have hw7 : ct_tw W6 := ho4 _ e5
    have r : rn_s _ 99 (8, [some (.ref 1), some (.int a1), some (.int a2), some (.int a3), some (.int a4), none, none], [.ref W6], aa_H g) v h := r
    dsimp only
    obtain ⟨n9, ln9, r⟩ := rn_steps 3 (16, [some (.ref 1), some (.int a1), some (.int a2), some (.int a3), some (.int a4), some (.ref W6), none], [.int a2], aa_H g) rfl r
    obtain ⟨_, n10, v1, h1, -, ln10, rc, r⟩ := rn_call (m2 := 77) (as := [.int a2]) (rest := []) rfl rfl r
    obtain ⟨rfl, rfl⟩ := dn_77 rc
    have r : rn_s _ 99 (19, [some (.ref 1), some (.int a1), some (.int a2), some (.int a3), some (.int a4), some (.ref W6), none], [.int (fn_77 a2)], aa_H g) v h := r
    refine rn_if (iw_s v h) rfl decide_eq_true_iff.symm r (fun c12 l13n l13 r => ?_) (fun c12 l13n l13 r => ?_)
    · obtain ⟨n14, ln14, r⟩ := rn_steps 0 (42, [some (.ref 1), some (.int a1), some (.int a2), some (.int a3), some (.int a4), some (.ref W6), none], [.int (-1)], aa_H g) rfl r
      exact rn_ire rfl r
    · obtain ⟨n15, ln15, r⟩ := rn_steps 2 (25, [some (.ref 1), some (.int a1), some (.int a2), some (.int a3), some (.int a4), some (.ref W6), none], [.int 3, .int 0, .int a3], aa_H g) rfl r
      obtain ⟨_, n16, v1, h1, -, ln16, rc, r⟩ := rn_call (m2 := 14) (as := [.int a3, .int 0, .int 3]) (rest := []) rfl rfl r
      obtain ⟨rfl, rfl⟩ := dn_14 rc
      have r : rn_s _ 99 (28, [some (.ref 1), some (.int a1), some (.int a2), some (.int a3), some (.int a4), some (.ref W6), none], [.int (fn_14 a3 0 3)], aa_H g) v h := r
      refine rn_if (iw_s v h) rfl decide_eq_true_iff.symm r (fun c18 l19n l19 r => ?_) (fun c18 l19n l19 r => ?_)
      · obtain ⟨n20, ln20, r⟩ := rn_steps 0 (42, [some (.ref 1), some (.int a1), some (.int a2), some (.int a3), some (.int a4), some (.ref W6), none], [.int (-1)], aa_H g) rfl r
        exact rn_ire rfl r
      · obtain ⟨n21, ln21, r⟩ := rn_steps 2 (35, [some (.ref 1), some (.int a1), some (.int a2), some (.int a3), some (.int a4), some (.ref W6), none], [.int 1, .int 0, .int a4], aa_H g) rfl r
        obtain ⟨_, n22, v1, h1, -, ln22, rc, r⟩ := rn_call (m2 := 14) (as := [.int a4, .int 0, .int 1]) (rest := []) rfl rfl r
        obtain ⟨rfl, rfl⟩ := dn_14 rc
        have r : rn_s _ 99 (38, [some (.ref 1), some (.int a1), some (.int a2), some (.int a3), some (.int a4), some (.ref W6), none], [.int (fn_14 a4 0 1)], aa_H g) v h := r
        refine rn_if (iw_s v h) rfl decide_eq_true_iff.symm r (fun c24 l25n l25 r => ?_) (fun c24 l25n l25 r => ?_)
        · obtain ⟨n26, ln26, r⟩ := rn_steps 4 (51, [some (.ref 1), some (.int a1), some (.int a2), some (.int a3), some (.int a4), some (.ref W6), none], [.int 1, .int a2, .ref W6, .ref 461], aa_H g) rfl r
          obtain ⟨_, n27, v1, h1, -, ln27, rc, r⟩ := rn_call (m2 := 78) (as := [.ref 461, .ref W6, .int a2, .int 1]) (rest := []) rfl rfl r
          obtain ⟨rfl, rfl⟩ := dn_78 sp_c461 (rn_o1 hw7) rc
          have r : rn_s _ 99 (54, [some (.ref 1), some (.int a1), some (.int a2), some (.int a3), some (.int a4), some (.ref W6), none], [], aa_H (fn_78 g 461 (some W6) a2 1)) v h := r
          exact dn_99_54 (some (.int a1)) (some (.int a2)) (some (.ref W6)) none rn_ji rn_ji rn_jr rn_jn r
        · obtain ⟨n29, ln29, r⟩ := rn_steps 0 (42, [some (.ref 1), some (.int a1), some (.int a2), some (.int a3), some (.int a4), some (.ref W6), none], [.int (-1)], aa_H g) rfl r
          exact rn_ire rfl r
-- 101: UnequalHours until
noncomputable def fn_101_114 (g : aa_G) (b2 : Int32) (b3 : Int32) (b4 : Int32) (b5 : Int32) (B6 : Nat) (b7 : Int32) : (aa_G × Int32) ⊕ (Int32 × aa_G) := .inl (g, b7 + 1)
theorem dn_101_114 {v : Option Value} {h : zz_H} {n : Nat} {g : aa_G} {b2 : Int32} {b3 : Int32} {b4 : Int32} {b5 : Int32} {B6 : Nat} {b7 : Int32} (P : (aa_G × Int32) ⊕ (Int32 × aa_G) → Prop) (hO0 : ∀ n2, n2 < n → ∀ (yg : aa_G) (yb7 : Int32) (yx1 yx8 : Option Value) (_ : rn_jk yx1) (_ : rn_jk yx8), rn_s n2 101 (45, [some (.ref 1), yx1, some (.int b2), some (.int b3), some (.int b4), some (.int b5), some (.ref B6), some (.int yb7), yx8], [], aa_H yg) v h → P (.inl (yg, yb7))) (hR : ∀ E, iw_s v h E → P (.inr E)) (hB6 : ct_tw B6) (x1 x8 : Option Value) (jx1 : rn_jk x1) (jx8 : rn_jk x8) (r : rn_s n 101 (114, [some (.ref 1), x1, some (.int b2), some (.int b3), some (.int b4), some (.int b5), some (.ref B6), some (.int b7), x8], [], aa_H g) v h) : P (fn_101_114 g b2 b3 b4 b5 B6 b7) := by
  unfold fn_101_114
  obtain ⟨n45, ln45, r⟩ := rn_steps 1 (45, [some (.ref 1), x1, some (.int b2), some (.int b3), some (.int b4), some (.int b5), some (.ref B6), some (.int (b7 + 1)), x8], [], aa_H g) rfl r
  exact hO0 _ (by omega) g (b7 + 1) x1 x8 jx1 jx8 r
noncomputable def fn_101_66 (g : aa_G) (b2 : Int32) (b3 : Int32) (b4 : Int32) (b5 : Int32) (B6 : Nat) (b7 : Int32) : (aa_G × Int32) ⊕ (Int32 × aa_G) := if (fn_92 g 461 b5 (g 2 1)) = (-2) then fn_101_114 g b2 b3 b4 b5 B6 b7 else if ((fn_92 g 461 b5 (g 2 1)) + (b7 * 86400)) < b3 then fn_101_114 g b2 b3 b4 b5 B6 b7 else .inr (((fn_92 g 461 b5 (g 2 1)) + (b7 * 86400)) - b3, g)
theorem dn_101_66 {v : Option Value} {h : zz_H} {n : Nat} {g : aa_G} {b2 : Int32} {b3 : Int32} {b4 : Int32} {b5 : Int32} {B6 : Nat} {b7 : Int32} (P : (aa_G × Int32) ⊕ (Int32 × aa_G) → Prop) (hO0 : ∀ n2, n2 < n → ∀ (yg : aa_G) (yb7 : Int32) (yx1 yx8 : Option Value) (_ : rn_jk yx1) (_ : rn_jk yx8), rn_s n2 101 (45, [some (.ref 1), yx1, some (.int b2), some (.int b3), some (.int b4), some (.int b5), some (.ref B6), some (.int yb7), yx8], [], aa_H yg) v h → P (.inl (yg, yb7))) (hR : ∀ E, iw_s v h E → P (.inr E)) (hB6 : ct_tw B6) (x1 x8 : Option Value) (jx1 : rn_jk x1) (jx8 : rn_jk x8) (r : rn_s n 101 (66, [some (.ref 1), x1, some (.int b2), some (.int b3), some (.int b4), some (.int b5), some (.ref B6), some (.int b7), x8], [], aa_H g) v h) : P (fn_101_66 g b2 b3 b4 b5 B6 b7) := by
  unfold fn_101_66
  obtain ⟨n35, ln35, r⟩ := rn_steps 5 (79, [some (.ref 1), x1, some (.int b2), some (.int b3), some (.int b4), some (.int b5), some (.ref B6), some (.int b7), x8], [.int (g 2 1), .int b5, .ref 461], aa_H g) rfl r
  obtain ⟨_, n36, v1, h1, -, ln36, rc, r⟩ := rn_call (m2 := 92) (as := [.ref 461, .int b5, .int (g 2 1)]) (rest := []) rfl rfl r
  obtain ⟨rfl, rfl⟩ := dn_92 sp_c461 rc
  have r : rn_s _ 101 (82, [some (.ref 1), x1, some (.int b2), some (.int b3), some (.int b4), some (.int b5), some (.ref B6), some (.int b7), x8], [.int (fn_92 g 461 b5 (g 2 1))], aa_H g) v h := r
  obtain ⟨n38, ln38, r⟩ := rn_steps 2 (88, [some (.ref 1), x1, some (.int b2), some (.int b3), some (.int b4), some (.int b5), some (.ref B6), some (.int b7), some (.int (fn_92 g 461 b5 (g 2 1)))], [.int (-2), .int (fn_92 g 461 b5 (g 2 1))], aa_H g) rfl r
  refine rn_ic (P) rfl decide_eq_true_iff.symm r (fun c39 l40n l40 r => ?_) (fun c39 l40n l40 r => ?_)
  · exact dn_101_114 (P) (fun n2 l2 => hO0 n2 (by omega)) (fun z hz => hR _ hz) hB6 x1 (some (.int (fn_92 g 461 b5 (g 2 1)))) jx1 rn_ji r
  · obtain ⟨n41, ln41, r⟩ := rn_steps 5 (100, [some (.ref 1), x1, some (.int b2), some (.int b3), some (.int b4), some (.int b5), some (.ref B6), some (.int b7), some (.int (fn_92 g 461 b5 (g 2 1)))], [.int b3, .int ((fn_92 g 461 b5 (g 2 1)) + (b7 * 86400))], aa_H g) rfl r
    refine rn_ic (P) rfl decide_eq_true_iff.symm r (fun c42 l43n l43 r => ?_) (fun c42 l43n l43 r => ?_)
    · exact dn_101_114 (P) (fun n2 l2 => hO0 n2 (by omega)) (fun z hz => hR _ hz) hB6 x1 (some (.int (fn_92 g 461 b5 (g 2 1)))) jx1 rn_ji r
    · obtain ⟨n44, ln44, r⟩ := rn_steps 6 (113, [some (.ref 1), x1, some (.int b2), some (.int b3), some (.int b4), some (.int b5), some (.ref B6), some (.int b7), some (.int (fn_92 g 461 b5 (g 2 1)))], [.int (((fn_92 g 461 b5 (g 2 1)) + (b7 * 86400)) - b3)], aa_H g) rfl r
      exact hR _ (rn_ire rfl r)
noncomputable def fn_101_45b (g : aa_G) (b2 : Int32) (b3 : Int32) (b4 : Int32) (b5 : Int32) (B6 : Nat) (b7 : Int32) : (aa_G × Int32) ⊕ (Int32 × aa_G) := if 2 < b7 then .inr (-2, g) else fn_101_66 (fn_78 g 461 (some B6) (b2 + b7) b4) b2 b3 b4 b5 B6 b7
noncomputable def fn_101_45 (g : aa_G) (b2 : Int32) (b3 : Int32) (b4 : Int32) (b5 : Int32) (B6 : Nat) (b7 : Int32) : Int32 × aa_G := lp_f (0, g) (fun z : (aa_G × Int32) => fn_101_45b z.1 b2 b3 b4 b5 B6 z.2) (g, b7)
theorem dn_101_45l {v : Option Value} {h : zz_H} {N : Nat} {b2 : Int32} {b3 : Int32} {b4 : Int32} {b5 : Int32} {B6 : Nat} (hB6 : ct_tw B6) {d : Int32 × aa_G} : ∀ (n : Nat), n ≤ N → ∀ (g : aa_G) (b7 : Int32) (x1 x8 : Option Value) (jx1 : rn_jk x1) (jx8 : rn_jk x8), rn_s n 101 (45, [some (.ref 1), x1, some (.int b2), some (.int b3), some (.int b4), some (.int b5), some (.ref B6), some (.int b7), x8], [], aa_H g) v h → (iw_s v h) (lp_f d (fun z : (aa_G × Int32) => fn_101_45b z.1 b2 b3 b4 b5 B6 z.2) (g, b7)) := by
  generalize hf : (fun z : (aa_G × Int32) => fn_101_45b z.1 b2 b3 b4 b5 B6 z.2) = f
  intro n
  induction n using Nat.strongRecOn with
  | _ n ih =>
    intro hN g b7 x1 x8 jx1 jx8 r
    refine lp_go ?_
    rw [← congrFun hf (g, b7)]
    show lp_q (iw_s v h) d f (fn_101_45b g b2 b3 b4 b5 B6 b7)
    unfold fn_101_45b
    obtain ⟨n28, ln28, r⟩ := rn_steps 1 (48, [some (.ref 1), x1, some (.int b2), some (.int b3), some (.int b4), some (.int b5), some (.ref B6), some (.int b7), x8], [.int 2, .int b7], aa_H g) rfl r
    refine rn_ic (lp_q (iw_s v h) d f) rfl decide_eq_true_iff.symm r (fun c29 l30n l30 r => ?_) (fun c29 l30n l30 r => ?_)
    · obtain ⟨n31, ln31, r⟩ := rn_steps 0 (122, [some (.ref 1), x1, some (.int b2), some (.int b3), some (.int b4), some (.int b5), some (.ref B6), some (.int b7), x8], [.int (-2)], aa_H g) rfl r
      exact rn_ire rfl r
    · obtain ⟨n32, ln32, r⟩ := rn_steps 6 (63, [some (.ref 1), x1, some (.int b2), some (.int b3), some (.int b4), some (.int b5), some (.ref B6), some (.int b7), x8], [.int b4, .int (b2 + b7), .ref B6, .ref 461], aa_H g) rfl r
      obtain ⟨_, n33, v1, h1, -, ln33, rc, r⟩ := rn_call (m2 := 78) (as := [.ref 461, .ref B6, .int (b2 + b7), .int b4]) (rest := []) rfl rfl r
      obtain ⟨rfl, rfl⟩ := dn_78 sp_c461 (rn_o1 hB6) rc
      have r : rn_s _ 101 (66, [some (.ref 1), x1, some (.int b2), some (.int b3), some (.int b4), some (.int b5), some (.ref B6), some (.int b7), x8], [], aa_H (fn_78 g 461 (some B6) (b2 + b7) b4)) v h := r
      exact dn_101_66 (lp_q (iw_s v h) d f) (fun n2 l2 => ih n2 (by omega) (by omega)) (fun z hz => hz) hB6 x1 x8 jx1 jx8 r
theorem dn_101_45 {v : Option Value} {h : zz_H} {n : Nat} {g : aa_G} {b2 : Int32} {b3 : Int32} {b4 : Int32} {b5 : Int32} {B6 : Nat} {b7 : Int32} (hB6 : ct_tw B6) (x1 x8 : Option Value) (jx1 : rn_jk x1) (jx8 : rn_jk x8) (r : rn_s n 101 (45, [some (.ref 1), x1, some (.int b2), some (.int b3), some (.int b4), some (.int b5), some (.ref B6), some (.int b7), x8], [], aa_H g) v h) : (iw_s v h) (fn_101_45 g b2 b3 b4 b5 B6 b7) := dn_101_45l hB6 n (Nat.le_refl n) g b7 x1 x8 jx1 jx8 r
noncomputable def fn_101 (g : aa_G) (a1 : Int32) (a2 : Int32) (a3 : Int32) (a4 : Int32) (a5 : Int32) : Int32 × aa_G := (match fn_31 g a1 with | none => ((-1, g)) | some W6 => (if (fn_77 a2) = 0 then (-1, g) else if (fn_66 a3) = 0 then (-1, g) else if (fn_91 g a4 a5) ≠ 0 then fn_101_45 g a2 a3 a4 a5 W6 (-1) else (-1, g)))
theorem dn_101 {v : Option Value} {h : zz_H} {n : Nat} {g : aa_G} {a1 : Int32} {a2 : Int32} {a3 : Int32} {a4 : Int32} {a5 : Int32}  (r : rn_s n 101 (0, zz_in [.ref 1, .int a1, .int a2, .int a3, .int a4, .int a5] (zz_nl 101), [], aa_H g) v h) : iw_s v h (fn_101 g a1 a2 a3 a4 a5) := by
  have r : rn_s n 101 (0, [some (.ref 1), some (.int a1), some (.int a2), some (.int a3), some (.int a4), some (.int a5), none, none, none], [], aa_H g) v h := r
  unfold fn_101
  obtain ⟨n1, ln1, r⟩ := rn_steps 2 (5, [some (.ref 1), some (.int a1), some (.int a2), some (.int a3), some (.int a4), some (.int a5), none, none, none], [.int a1, .ref 2], aa_H g) rfl r
  obtain ⟨_, n2, v1, h1, -, ln2, rc, r⟩ := rn_call (m2 := 31) (as := [.ref 2, .int a1]) (rest := []) rfl rfl r
  obtain ⟨rfl, rfl, ho4⟩ := dn_31 rc
  have r : rn_s _ 101 (8, [some (.ref 1), some (.int a1), some (.int a2), some (.int a3), some (.int a4), some (.int a5), none, none, none], [zz_val (fn_31 g a1)], aa_H g) v h := r
  cases e5 : fn_31 g a1 with
  | none =>
    rw [e5] at r
    have r : rn_s _ 101 (8, [some (.ref 1), some (.int a1), some (.int a2), some (.int a3), some (.int a4), some (.int a5), none, none, none], [.null], aa_H g) v h := r
    dsimp only
    obtain ⟨n8, ln8, r⟩ := rn_steps 3 (41, [some (.ref 1), some (.int a1), some (.int a2), some (.int a3), some (.int a4), some (.int a5), some (.null), none, none], [.int (-1)], aa_H g) rfl r
    exact rn_ire rfl r
  | some W6 =>
    rw [e5] at r
    have hw7 : ct_tw W6 := ho4 _ e5
    have r : rn_s _ 101 (8, [some (.ref 1), some (.int a1), some (.int a2), some (.int a3), some (.int a4), some (.int a5), none, none, none], [.ref W6], aa_H g) v h := r
    dsimp only
    obtain ⟨n9, ln9, r⟩ := rn_steps 3 (16, [some (.ref 1), some (.int a1), some (.int a2), some (.int a3), some (.int a4), some (.int a5), some (.ref W6), none, none], [.int a2], aa_H g) rfl r
    obtain ⟨_, n10, v1, h1, -, ln10, rc, r⟩ := rn_call (m2 := 77) (as := [.int a2]) (rest := []) rfl rfl r
    obtain ⟨rfl, rfl⟩ := dn_77 rc
    have r : rn_s _ 101 (19, [some (.ref 1), some (.int a1), some (.int a2), some (.int a3), some (.int a4), some (.int a5), some (.ref W6), none, none], [.int (fn_77 a2)], aa_H g) v h := r
    refine rn_if (iw_s v h) rfl decide_eq_true_iff.symm r (fun c12 l13n l13 r => ?_) (fun c12 l13n l13 r => ?_)
    · obtain ⟨n14, ln14, r⟩ := rn_steps 0 (41, [some (.ref 1), some (.int a1), some (.int a2), some (.int a3), some (.int a4), some (.int a5), some (.ref W6), none, none], [.int (-1)], aa_H g) rfl r
      exact rn_ire rfl r
    · obtain ⟨n15, ln15, r⟩ := rn_steps 0 (23, [some (.ref 1), some (.int a1), some (.int a2), some (.int a3), some (.int a4), some (.int a5), some (.ref W6), none, none], [.int a3], aa_H g) rfl r
      obtain ⟨_, n16, v1, h1, -, ln16, rc, r⟩ := rn_call (m2 := 66) (as := [.int a3]) (rest := []) rfl rfl r
      obtain ⟨rfl, rfl⟩ := dn_66 rc
      have r : rn_s _ 101 (26, [some (.ref 1), some (.int a1), some (.int a2), some (.int a3), some (.int a4), some (.int a5), some (.ref W6), none, none], [.int (fn_66 a3)], aa_H g) v h := r
      refine rn_if (iw_s v h) rfl decide_eq_true_iff.symm r (fun c18 l19n l19 r => ?_) (fun c18 l19n l19 r => ?_)
      · obtain ⟨n20, ln20, r⟩ := rn_steps 0 (41, [some (.ref 1), some (.int a1), some (.int a2), some (.int a3), some (.int a4), some (.int a5), some (.ref W6), none, none], [.int (-1)], aa_H g) rfl r
        exact rn_ire rfl r
      · obtain ⟨n21, ln21, r⟩ := rn_steps 2 (34, [some (.ref 1), some (.int a1), some (.int a2), some (.int a3), some (.int a4), some (.int a5), some (.ref W6), none, none], [.int a5, .int a4, .ref 1], aa_H g) rfl r
        obtain ⟨_, n22, v1, h1, -, ln22, rc, r⟩ := rn_call (m2 := 91) (as := [.ref 1, .int a4, .int a5]) (rest := []) rfl rfl r
        obtain ⟨rfl, rfl⟩ := dn_91 rc
        have r : rn_s _ 101 (37, [some (.ref 1), some (.int a1), some (.int a2), some (.int a3), some (.int a4), some (.int a5), some (.ref W6), none, none], [.int (fn_91 g a4 a5)], aa_H g) v h := r
        refine rn_if (iw_s v h) rfl decide_eq_true_iff.symm r (fun c24 l25n l25 r => ?_) (fun c24 l25n l25 r => ?_)
        · obtain ⟨n26, ln26, r⟩ := rn_steps 1 (45, [some (.ref 1), some (.int a1), some (.int a2), some (.int a3), some (.int a4), some (.int a5), some (.ref W6), some (.int (-1)), none], [], aa_H g) rfl r
          exact dn_101_45 hw7 (some (.int a1)) none rn_ji rn_jn r
        · obtain ⟨n27, ln27, r⟩ := rn_steps 0 (41, [some (.ref 1), some (.int a1), some (.int a2), some (.int a3), some (.int a4), some (.int a5), some (.ref W6), none, none], [.int (-1)], aa_H g) rfl r
          exact rn_ire rfl r
-- 120: UnequalHours jar
noncomputable def fn_120_73 (g : aa_G) (b4 : Int32) (b5 : Int32) : Int32 × aa_G := if (g 461 0) = 0 then (-100, g) else if (g 462 0) = 0 then (-100, g) else if (fn_14 (b4 - (g 462 3)) 0 ((g 462 4) - 1)) ≠ 0 then if b5 ≠ 0 then ((if 12 < (fn_88 g 461 (b4 - (g 462 3)) 1) then 12 else (fn_88 g 461 (b4 - (g 462 3)) 1)) - (fn_88 g 462 (b4 - (g 462 3)) 1), g) else (if 12 < (fn_88 g 461 (b4 - (g 462 3)) 1) then 12 else (fn_88 g 461 (b4 - (g 462 3)) 1), g) else (-100, g)
theorem dn_120_73 {v : Option Value} {h : zz_H} {n : Nat} {g : aa_G} {b4 : Int32} {b5 : Int32}  (x1 x2 x3 x6 x7 x8 : Option Value) (jx1 : rn_jk x1) (jx2 : rn_jk x2) (jx3 : rn_jk x3) (jx6 : rn_jk x6) (jx7 : rn_jk x7) (jx8 : rn_jk x8) (r : rn_s n 120 (73, [some (.ref 1), x1, x2, x3, some (.int b4), some (.int b5), x6, x7, x8], [], aa_H g) v h) : iw_s v h (fn_120_73 g b4 b5) := by
  unfold fn_120_73
  obtain ⟨n39, ln39, r⟩ := rn_steps 4 (83, [some (.ref 1), x1, x2, x3, some (.int b4), some (.int b5), x6, x7, x8], [.int (b4 - (g 462 3))], aa_H g) rfl r
  obtain ⟨n40, ln40, r⟩ := rn_isx (i := 7) rfl rfl jx6 rfl ⟨Nat.le_of_ble_eq_true rfl, Nat.le_of_ble_eq_true rfl⟩ r
  have r : rn_s _ 120 (85, [some (.ref 1), x1, x2, x3, some (.int b4), some (.int b5), x6, some (.int (b4 - (g 462 3))), x8], [], aa_H g) v h := r
  obtain ⟨n41, ln41, r⟩ := rn_steps 2 (92, [some (.ref 1), x1, x2, x3, some (.int b4), some (.int b5), x6, some (.int (b4 - (g 462 3))), x8], [.int (g 461 0)], aa_H g) rfl r
  refine rn_if (iw_s v h) rfl decide_eq_true_iff.symm r (fun c42 l43n l43 r => ?_) (fun c42 l43n l43 r => ?_)
  · obtain ⟨n44, ln44, r⟩ := rn_steps 0 (125, [some (.ref 1), x1, x2, x3, some (.int b4), some (.int b5), x6, some (.int (b4 - (g 462 3))), x8], [.int (-100)], aa_H g) rfl r
    exact rn_ire rfl r
  · obtain ⟨n45, ln45, r⟩ := rn_steps 2 (102, [some (.ref 1), x1, x2, x3, some (.int b4), some (.int b5), x6, some (.int (b4 - (g 462 3))), x8], [.int (g 462 0)], aa_H g) rfl r
    refine rn_if (iw_s v h) rfl decide_eq_true_iff.symm r (fun c46 l47n l47 r => ?_) (fun c46 l47n l47 r => ?_)
    · obtain ⟨n48, ln48, r⟩ := rn_steps 0 (125, [some (.ref 1), x1, x2, x3, some (.int b4), some (.int b5), x6, some (.int (b4 - (g 462 3))), x8], [.int (-100)], aa_H g) rfl r
      exact rn_ire rfl r
    · obtain ⟨n49, ln49, r⟩ := rn_steps 6 (117, [some (.ref 1), x1, x2, x3, some (.int b4), some (.int b5), x6, some (.int (b4 - (g 462 3))), x8], [.int ((g 462 4) - 1), .int 0, .int (b4 - (g 462 3))], aa_H g) rfl r
      obtain ⟨_, n50, v1, h1, -, ln50, rc, r⟩ := rn_call (m2 := 14) (as := [.int (b4 - (g 462 3)), .int 0, .int ((g 462 4) - 1)]) (rest := []) rfl rfl r
      obtain ⟨rfl, rfl⟩ := dn_14 rc
      have r : rn_s _ 120 (120, [some (.ref 1), x1, x2, x3, some (.int b4), some (.int b5), x6, some (.int (b4 - (g 462 3))), x8], [.int (fn_14 (b4 - (g 462 3)) 0 ((g 462 4) - 1))], aa_H g) v h := r
      refine rn_if (iw_s v h) rfl decide_eq_true_iff.symm r (fun c52 l53n l53 r => ?_) (fun c52 l53n l53 r => ?_)
      · obtain ⟨n54, ln54, r⟩ := rn_steps 3 (133, [some (.ref 1), x1, x2, x3, some (.int b4), some (.int b5), x6, some (.int (b4 - (g 462 3))), x8], [.int 1, .int (b4 - (g 462 3)), .ref 461], aa_H g) rfl r
        obtain ⟨_, n55, v1, h1, -, ln55, rc, r⟩ := rn_call (m2 := 88) (as := [.ref 461, .int (b4 - (g 462 3)), .int 1]) (rest := []) rfl rfl r
        obtain ⟨rfl, rfl⟩ := dn_88 sp_c461 rc
        have r : rn_s _ 120 (136, [some (.ref 1), x1, x2, x3, some (.int b4), some (.int b5), x6, some (.int (b4 - (g 462 3))), x8], [.int (fn_88 g 461 (b4 - (g 462 3)) 1)], aa_H g) v h := r
        obtain ⟨n57, ln57, r⟩ := rn_steps 3 (145, [some (.ref 1), x1, x2, x3, some (.int b4), some (.int b5), x6, some (.int (b4 - (g 462 3))), some (.int (if 12 < (fn_88 g 461 (b4 - (g 462 3)) 1) then 12 else (fn_88 g 461 (b4 - (g 462 3)) 1)))], [.int b5], aa_H g) rfl r
        refine rn_if (iw_s v h) rfl decide_eq_true_iff.symm r (fun c58 l59n l59 r => ?_) (fun c58 l59n l59 r => ?_)
        · obtain ⟨n60, ln60, r⟩ := rn_steps 4 (162, [some (.ref 1), x1, x2, x3, some (.int b4), some (.int b5), x6, some (.int (b4 - (g 462 3))), some (.int (if 12 < (fn_88 g 461 (b4 - (g 462 3)) 1) then 12 else (fn_88 g 461 (b4 - (g 462 3)) 1)))], [.int 1, .int (b4 - (g 462 3)), .ref 462, .int (if 12 < (fn_88 g 461 (b4 - (g 462 3)) 1) then 12 else (fn_88 g 461 (b4 - (g 462 3)) 1))], aa_H g) rfl r
          obtain ⟨_, n61, v1, h1, -, ln61, rc, r⟩ := rn_call (m2 := 88) (as := [.ref 462, .int (b4 - (g 462 3)), .int 1]) (rest := [.int (if 12 < (fn_88 g 461 (b4 - (g 462 3)) 1) then 12 else (fn_88 g 461 (b4 - (g 462 3)) 1))]) rfl rfl r
          obtain ⟨rfl, rfl⟩ := dn_88 sp_c462 rc
          have r : rn_s _ 120 (165, [some (.ref 1), x1, x2, x3, some (.int b4), some (.int b5), x6, some (.int (b4 - (g 462 3))), some (.int (if 12 < (fn_88 g 461 (b4 - (g 462 3)) 1) then 12 else (fn_88 g 461 (b4 - (g 462 3)) 1)))], [.int (fn_88 g 462 (b4 - (g 462 3)) 1), .int (if 12 < (fn_88 g 461 (b4 - (g 462 3)) 1) then 12 else (fn_88 g 461 (b4 - (g 462 3)) 1))], aa_H g) v h := r
          obtain ⟨n63, ln63, r⟩ := rn_steps 0 (166, [some (.ref 1), x1, x2, x3, some (.int b4), some (.int b5), x6, some (.int (b4 - (g 462 3))), some (.int (if 12 < (fn_88 g 461 (b4 - (g 462 3)) 1) then 12 else (fn_88 g 461 (b4 - (g 462 3)) 1)))], [.int ((if 12 < (fn_88 g 461 (b4 - (g 462 3)) 1) then 12 else (fn_88 g 461 (b4 - (g 462 3)) 1)) - (fn_88 g 462 (b4 - (g 462 3)) 1))], aa_H g) rfl r
          exact rn_ire rfl r
        · obtain ⟨n64, ln64, r⟩ := rn_steps 1 (166, [some (.ref 1), x1, x2, x3, some (.int b4), some (.int b5), x6, some (.int (b4 - (g 462 3))), some (.int (if 12 < (fn_88 g 461 (b4 - (g 462 3)) 1) then 12 else (fn_88 g 461 (b4 - (g 462 3)) 1)))], [.int (if 12 < (fn_88 g 461 (b4 - (g 462 3)) 1) then 12 else (fn_88 g 461 (b4 - (g 462 3)) 1))], aa_H g) rfl r
          exact rn_ire rfl r
      · obtain ⟨n65, ln65, r⟩ := rn_steps 0 (125, [some (.ref 1), x1, x2, x3, some (.int b4), some (.int b5), x6, some (.int (b4 - (g 462 3))), x8], [.int (-100)], aa_H g) rfl r
        exact rn_ire rfl r
noncomputable def fn_120_62 (g : aa_G) (b3 : Int32) (b4 : Int32) (b5 : Int32) (B6 : Nat) : Int32 × aa_G := fn_120_73 (fn_78 g 462 (some B6) b3 0) b4 b5
theorem dn_120_62 {v : Option Value} {h : zz_H} {n : Nat} {g : aa_G} {b3 : Int32} {b4 : Int32} {b5 : Int32} {B6 : Nat} (hB6 : ct_tw B6) (x1 x2 x7 x8 : Option Value) (jx1 : rn_jk x1) (jx2 : rn_jk x2) (jx7 : rn_jk x7) (jx8 : rn_jk x8) (r : rn_s n 120 (62, [some (.ref 1), x1, x2, some (.int b3), some (.int b4), some (.int b5), some (.ref B6), x7, x8], [], aa_H g) v h) : iw_s v h (fn_120_62 g b3 b4 b5 B6) := by
  unfold fn_120_62
  obtain ⟨n36, ln36, r⟩ := rn_steps 4 (70, [some (.ref 1), x1, x2, some (.int b3), some (.int b4), some (.int b5), some (.ref B6), x7, x8], [.int 0, .int b3, .ref B6, .ref 462], aa_H g) rfl r
  obtain ⟨_, n37, v1, h1, -, ln37, rc, r⟩ := rn_call (m2 := 78) (as := [.ref 462, .ref B6, .int b3, .int 0]) (rest := []) rfl rfl r
  obtain ⟨rfl, rfl⟩ := dn_78 sp_c462 (rn_o1 hB6) rc
  have r : rn_s _ 120 (73, [some (.ref 1), x1, x2, some (.int b3), some (.int b4), some (.int b5), some (.ref B6), x7, x8], [], aa_H (fn_78 g 462 (some B6) b3 0)) v h := r
  exact dn_120_73 x1 x2 (some (.int b3)) (some (.ref B6)) x7 x8 jx1 jx2 rn_ji rn_jr jx7 jx8 r
noncomputable def fn_120 (g : aa_G) (a1 : Int32) (a2 : Int32) (a3 : Int32) (a4 : Int32) (a5 : Int32) : Int32 × aa_G := (match fn_31 g a1 with | none => ((-1000, g)) | some W6 => (if (fn_77 a2) = 0 then (-1000, g) else if (fn_77 a3) = 0 then (-1000, g) else if (fn_66 a4) = 0 then (-1000, g) else if (fn_14 a5 0 1) ≠ 0 then fn_120_62 (fn_78 g 461 (some W6) a2 0) a3 a4 a5 W6 else (-1000, g)))
theorem dn_120 {v : Option Value} {h : zz_H} {n : Nat} {g : aa_G} {a1 : Int32} {a2 : Int32} {a3 : Int32} {a4 : Int32} {a5 : Int32}  (r : rn_s n 120 (0, zz_in [.ref 1, .int a1, .int a2, .int a3, .int a4, .int a5] (zz_nl 120), [], aa_H g) v h) : iw_s v h (fn_120 g a1 a2 a3 a4 a5) := by
  have r : rn_s n 120 (0, [some (.ref 1), some (.int a1), some (.int a2), some (.int a3), some (.int a4), some (.int a5), none, none, none], [], aa_H g) v h := r
  unfold fn_120
  obtain ⟨n1, ln1, r⟩ := rn_steps 2 (5, [some (.ref 1), some (.int a1), some (.int a2), some (.int a3), some (.int a4), some (.int a5), none, none, none], [.int a1, .ref 2], aa_H g) rfl r
  obtain ⟨_, n2, v1, h1, -, ln2, rc, r⟩ := rn_call (m2 := 31) (as := [.ref 2, .int a1]) (rest := []) rfl rfl r
  obtain ⟨rfl, rfl, ho4⟩ := dn_31 rc
  have r : rn_s _ 120 (8, [some (.ref 1), some (.int a1), some (.int a2), some (.int a3), some (.int a4), some (.int a5), none, none, none], [zz_val (fn_31 g a1)], aa_H g) v h := r
  cases e5 : fn_31 g a1 with
  | none =>
    rw [e5] at r
    have r : rn_s _ 120 (8, [some (.ref 1), some (.int a1), some (.int a2), some (.int a3), some (.int a4), some (.int a5), none, none, none], [.null], aa_H g) v h := r
    dsimp only
    obtain ⟨n8, ln8, r⟩ := rn_steps 3 (50, [some (.ref 1), some (.int a1), some (.int a2), some (.int a3), some (.int a4), some (.int a5), some (.null), none, none], [.int (-1000)], aa_H g) rfl r
    exact rn_ire rfl r
  | some W6 =>
    rw [e5] at r
    have hw7 : ct_tw W6 := ho4 _ e5
    have r : rn_s _ 120 (8, [some (.ref 1), some (.int a1), some (.int a2), some (.int a3), some (.int a4), some (.int a5), none, none, none], [.ref W6], aa_H g) v h := r
    dsimp only
    obtain ⟨n9, ln9, r⟩ := rn_steps 3 (16, [some (.ref 1), some (.int a1), some (.int a2), some (.int a3), some (.int a4), some (.int a5), some (.ref W6), none, none], [.int a2], aa_H g) rfl r
    obtain ⟨_, n10, v1, h1, -, ln10, rc, r⟩ := rn_call (m2 := 77) (as := [.int a2]) (rest := []) rfl rfl r
    obtain ⟨rfl, rfl⟩ := dn_77 rc
    have r : rn_s _ 120 (19, [some (.ref 1), some (.int a1), some (.int a2), some (.int a3), some (.int a4), some (.int a5), some (.ref W6), none, none], [.int (fn_77 a2)], aa_H g) v h := r
    refine rn_if (iw_s v h) rfl decide_eq_true_iff.symm r (fun c12 l13n l13 r => ?_) (fun c12 l13n l13 r => ?_)
    · obtain ⟨n14, ln14, r⟩ := rn_steps 0 (50, [some (.ref 1), some (.int a1), some (.int a2), some (.int a3), some (.int a4), some (.int a5), some (.ref W6), none, none], [.int (-1000)], aa_H g) rfl r
      exact rn_ire rfl r
    · obtain ⟨n15, ln15, r⟩ := rn_steps 0 (23, [some (.ref 1), some (.int a1), some (.int a2), some (.int a3), some (.int a4), some (.int a5), some (.ref W6), none, none], [.int a3], aa_H g) rfl r
      obtain ⟨_, n16, v1, h1, -, ln16, rc, r⟩ := rn_call (m2 := 77) (as := [.int a3]) (rest := []) rfl rfl r
      obtain ⟨rfl, rfl⟩ := dn_77 rc
      have r : rn_s _ 120 (26, [some (.ref 1), some (.int a1), some (.int a2), some (.int a3), some (.int a4), some (.int a5), some (.ref W6), none, none], [.int (fn_77 a3)], aa_H g) v h := r
      refine rn_if (iw_s v h) rfl decide_eq_true_iff.symm r (fun c18 l19n l19 r => ?_) (fun c18 l19n l19 r => ?_)
      · obtain ⟨n20, ln20, r⟩ := rn_steps 0 (50, [some (.ref 1), some (.int a1), some (.int a2), some (.int a3), some (.int a4), some (.int a5), some (.ref W6), none, none], [.int (-1000)], aa_H g) rfl r
        exact rn_ire rfl r
      · obtain ⟨n21, ln21, r⟩ := rn_steps 0 (31, [some (.ref 1), some (.int a1), some (.int a2), some (.int a3), some (.int a4), some (.int a5), some (.ref W6), none, none], [.int a4], aa_H g) rfl r
        obtain ⟨_, n22, v1, h1, -, ln22, rc, r⟩ := rn_call (m2 := 66) (as := [.int a4]) (rest := []) rfl rfl r
        obtain ⟨rfl, rfl⟩ := dn_66 rc
        have r : rn_s _ 120 (34, [some (.ref 1), some (.int a1), some (.int a2), some (.int a3), some (.int a4), some (.int a5), some (.ref W6), none, none], [.int (fn_66 a4)], aa_H g) v h := r
        refine rn_if (iw_s v h) rfl decide_eq_true_iff.symm r (fun c24 l25n l25 r => ?_) (fun c24 l25n l25 r => ?_)
        · obtain ⟨n26, ln26, r⟩ := rn_steps 0 (50, [some (.ref 1), some (.int a1), some (.int a2), some (.int a3), some (.int a4), some (.int a5), some (.ref W6), none, none], [.int (-1000)], aa_H g) rfl r
          exact rn_ire rfl r
        · obtain ⟨n27, ln27, r⟩ := rn_steps 2 (41, [some (.ref 1), some (.int a1), some (.int a2), some (.int a3), some (.int a4), some (.int a5), some (.ref W6), none, none], [.int 1, .int 0, .int a5], aa_H g) rfl r
          obtain ⟨_, n28, v1, h1, -, ln28, rc, r⟩ := rn_call (m2 := 14) (as := [.int a5, .int 0, .int 1]) (rest := []) rfl rfl r
          obtain ⟨rfl, rfl⟩ := dn_14 rc
          have r : rn_s _ 120 (44, [some (.ref 1), some (.int a1), some (.int a2), some (.int a3), some (.int a4), some (.int a5), some (.ref W6), none, none], [.int (fn_14 a5 0 1)], aa_H g) v h := r
          refine rn_if (iw_s v h) rfl decide_eq_true_iff.symm r (fun c30 l31n l31 r => ?_) (fun c30 l31n l31 r => ?_)
          · obtain ⟨n32, ln32, r⟩ := rn_steps 4 (59, [some (.ref 1), some (.int a1), some (.int a2), some (.int a3), some (.int a4), some (.int a5), some (.ref W6), none, none], [.int 0, .int a2, .ref W6, .ref 461], aa_H g) rfl r
            obtain ⟨_, n33, v1, h1, -, ln33, rc, r⟩ := rn_call (m2 := 78) (as := [.ref 461, .ref W6, .int a2, .int 0]) (rest := []) rfl rfl r
            obtain ⟨rfl, rfl⟩ := dn_78 sp_c461 (rn_o1 hw7) rc
            have r : rn_s _ 120 (62, [some (.ref 1), some (.int a1), some (.int a2), some (.int a3), some (.int a4), some (.int a5), some (.ref W6), none, none], [], aa_H (fn_78 g 461 (some W6) a2 0)) v h := r
            exact dn_120_62 hw7 (some (.int a1)) (some (.int a2)) none none rn_ji rn_ji rn_jn rn_jn r
          · obtain ⟨n35, ln35, r⟩ := rn_steps 0 (50, [some (.ref 1), some (.int a1), some (.int a2), some (.int a3), some (.int a4), some (.int a5), some (.ref W6), none, none], [.int (-1000)], aa_H g) rfl r
            exact rn_ire rfl r
-- 121: UnequalHours work
noncomputable def fn_121_133 (g : aa_G) (b3 : Int32) (b4 : Int32) (b5 : Int32) (B6 : Nat) (b7 : Int32) (b8 : Int32) : (aa_G × Int32 × Int32) ⊕ (Int32 × aa_G) := .inl (g, b7, b8 + 1)
theorem dn_121_133 {v : Option Value} {h : zz_H} {n : Nat} {g : aa_G} {b3 : Int32} {b4 : Int32} {b5 : Int32} {B6 : Nat} {b7 : Int32} {b8 : Int32} (P : (aa_G × Int32 × Int32) ⊕ (Int32 × aa_G) → Prop) (hO0 : ∀ n2, n2 < n → ∀ (yg : aa_G) (yb7 : Int32) (yb8 : Int32) (yx1 yx2 : Option Value) (_ : rn_jk yx1) (_ : rn_jk yx2), rn_s n2 121 (81, [some (.ref 1), yx1, yx2, some (.int b3), some (.int b4), some (.int b5), some (.ref B6), some (.int yb7), some (.int yb8)], [], aa_H yg) v h → P (.inl (yg, yb7, yb8))) (hR : ∀ E, iw_s v h E → P (.inr E)) (hB6 : ct_tw B6) (x1 x2 : Option Value) (jx1 : rn_jk x1) (jx2 : rn_jk x2) (r : rn_s n 121 (133, [some (.ref 1), x1, x2, some (.int b3), some (.int b4), some (.int b5), some (.ref B6), some (.int b7), some (.int b8)], [], aa_H g) v h) : P (fn_121_133 g b3 b4 b5 B6 b7 b8) := by
  unfold fn_121_133
  obtain ⟨n61, ln61, r⟩ := rn_steps 1 (81, [some (.ref 1), x1, x2, some (.int b3), some (.int b4), some (.int b5), some (.ref B6), some (.int b7), some (.int (b8 + 1))], [], aa_H g) rfl r
  exact hO0 _ (by omega) g b7 (b8 + 1) x1 x2 jx1 jx2 r
noncomputable def fn_121_99 (g : aa_G) (b3 : Int32) (b4 : Int32) (b5 : Int32) (B6 : Nat) (b7 : Int32) (b8 : Int32) : (aa_G × Int32 × Int32) ⊕ (Int32 × aa_G) := if (g 461 0) = 0 then fn_121_133 g b3 b4 b5 B6 b7 b8 else fn_121_133 g b3 b4 b5 B6 (b7 + ((fn_100 g 461 b5) - (fn_100 g 461 b4))) b8
theorem dn_121_99 {v : Option Value} {h : zz_H} {n : Nat} {g : aa_G} {b3 : Int32} {b4 : Int32} {b5 : Int32} {B6 : Nat} {b7 : Int32} {b8 : Int32} (P : (aa_G × Int32 × Int32) ⊕ (Int32 × aa_G) → Prop) (hO0 : ∀ n2, n2 < n → ∀ (yg : aa_G) (yb7 : Int32) (yb8 : Int32) (yx1 yx2 : Option Value) (_ : rn_jk yx1) (_ : rn_jk yx2), rn_s n2 121 (81, [some (.ref 1), yx1, yx2, some (.int b3), some (.int b4), some (.int b5), some (.ref B6), some (.int yb7), some (.int yb8)], [], aa_H yg) v h → P (.inl (yg, yb7, yb8))) (hR : ∀ E, iw_s v h E → P (.inr E)) (hB6 : ct_tw B6) (x1 x2 : Option Value) (jx1 : rn_jk x1) (jx2 : rn_jk x2) (r : rn_s n 121 (99, [some (.ref 1), x1, x2, some (.int b3), some (.int b4), some (.int b5), some (.ref B6), some (.int b7), some (.int b8)], [], aa_H g) v h) : P (fn_121_99 g b3 b4 b5 B6 b7 b8) := by
  unfold fn_121_99
  obtain ⟨n51, ln51, r⟩ := rn_steps 2 (106, [some (.ref 1), x1, x2, some (.int b3), some (.int b4), some (.int b5), some (.ref B6), some (.int b7), some (.int b8)], [.int (g 461 0)], aa_H g) rfl r
  refine rn_if (P) rfl decide_eq_true_iff.symm r (fun c52 l53n l53 r => ?_) (fun c52 l53n l53 r => ?_)
  · exact dn_121_133 (P) (fun n2 l2 => hO0 n2 (by omega)) (fun z hz => hR _ hz) hB6 x1 x2 jx1 jx2 r
  · obtain ⟨n54, ln54, r⟩ := rn_steps 3 (117, [some (.ref 1), x1, x2, some (.int b3), some (.int b4), some (.int b5), some (.ref B6), some (.int b7), some (.int b8)], [.int b5, .ref 461, .int b7], aa_H g) rfl r
    obtain ⟨_, n55, v1, h1, -, ln55, rc, r⟩ := rn_call (m2 := 100) (as := [.ref 461, .int b5]) (rest := [.int b7]) rfl rfl r
    obtain ⟨rfl, rfl⟩ := dn_100 sp_c461 rc
    have r : rn_s _ 121 (120, [some (.ref 1), x1, x2, some (.int b3), some (.int b4), some (.int b5), some (.ref B6), some (.int b7), some (.int b8)], [.int (fn_100 g 461 b5), .int b7], aa_H g) v h := r
    obtain ⟨n57, ln57, r⟩ := rn_steps 2 (126, [some (.ref 1), x1, x2, some (.int b3), some (.int b4), some (.int b5), some (.ref B6), some (.int b7), some (.int b8)], [.int b4, .ref 461, .int (fn_100 g 461 b5), .int b7], aa_H g) rfl r
    obtain ⟨_, n58, v1, h1, -, ln58, rc, r⟩ := rn_call (m2 := 100) (as := [.ref 461, .int b4]) (rest := [.int (fn_100 g 461 b5), .int b7]) rfl rfl r
    obtain ⟨rfl, rfl⟩ := dn_100 sp_c461 rc
    have r : rn_s _ 121 (129, [some (.ref 1), x1, x2, some (.int b3), some (.int b4), some (.int b5), some (.ref B6), some (.int b7), some (.int b8)], [.int (fn_100 g 461 b4), .int (fn_100 g 461 b5), .int b7], aa_H g) v h := r
    obtain ⟨n60, ln60, r⟩ := rn_steps 2 (133, [some (.ref 1), x1, x2, some (.int b3), some (.int b4), some (.int b5), some (.ref B6), some (.int (b7 + ((fn_100 g 461 b5) - (fn_100 g 461 b4)))), some (.int b8)], [], aa_H g) rfl r
    exact dn_121_133 (P) (fun n2 l2 => hO0 n2 (by omega)) (fun z hz => hR _ hz) hB6 x1 x2 jx1 jx2 r
noncomputable def fn_121_81b (g : aa_G) (b3 : Int32) (b4 : Int32) (b5 : Int32) (B6 : Nat) (b7 : Int32) (b8 : Int32) : (aa_G × Int32 × Int32) ⊕ (Int32 × aa_G) := if b3 < b8 then .inr (b7, g) else fn_121_99 (fn_78 g 461 (some B6) b8 0) b3 b4 b5 B6 b7 b8
noncomputable def fn_121_81 (g : aa_G) (b3 : Int32) (b4 : Int32) (b5 : Int32) (B6 : Nat) (b7 : Int32) (b8 : Int32) : Int32 × aa_G := lp_f (0, g) (fun z : (aa_G × Int32 × Int32) => fn_121_81b z.1 b3 b4 b5 B6 z.2.1 z.2.2) (g, b7, b8)
theorem dn_121_81l {v : Option Value} {h : zz_H} {N : Nat} {b3 : Int32} {b4 : Int32} {b5 : Int32} {B6 : Nat} (hB6 : ct_tw B6) {d : Int32 × aa_G} : ∀ (n : Nat), n ≤ N → ∀ (g : aa_G) (b7 : Int32) (b8 : Int32) (x1 x2 : Option Value) (jx1 : rn_jk x1) (jx2 : rn_jk x2), rn_s n 121 (81, [some (.ref 1), x1, x2, some (.int b3), some (.int b4), some (.int b5), some (.ref B6), some (.int b7), some (.int b8)], [], aa_H g) v h → (iw_s v h) (lp_f d (fun z : (aa_G × Int32 × Int32) => fn_121_81b z.1 b3 b4 b5 B6 z.2.1 z.2.2) (g, b7, b8)) := by
  generalize hf : (fun z : (aa_G × Int32 × Int32) => fn_121_81b z.1 b3 b4 b5 B6 z.2.1 z.2.2) = f
  intro n
  induction n using Nat.strongRecOn with
  | _ n ih =>
    intro hN g b7 b8 x1 x2 jx1 jx2 r
    refine lp_go ?_
    rw [← congrFun hf (g, b7, b8)]
    show lp_q (iw_s v h) d f (fn_121_81b g b3 b4 b5 B6 b7 b8)
    unfold fn_121_81b
    obtain ⟨n44, ln44, r⟩ := rn_steps 1 (84, [some (.ref 1), x1, x2, some (.int b3), some (.int b4), some (.int b5), some (.ref B6), some (.int b7), some (.int b8)], [.int b3, .int b8], aa_H g) rfl r
    refine rn_ic (lp_q (iw_s v h) d f) rfl decide_eq_true_iff.symm r (fun c45 l46n l46 r => ?_) (fun c45 l46n l46 r => ?_)
    · obtain ⟨n47, ln47, r⟩ := rn_steps 0 (141, [some (.ref 1), x1, x2, some (.int b3), some (.int b4), some (.int b5), some (.ref B6), some (.int b7), some (.int b8)], [.int b7], aa_H g) rfl r
      exact rn_ire rfl r
    · obtain ⟨n48, ln48, r⟩ := rn_steps 4 (96, [some (.ref 1), x1, x2, some (.int b3), some (.int b4), some (.int b5), some (.ref B6), some (.int b7), some (.int b8)], [.int 0, .int b8, .ref B6, .ref 461], aa_H g) rfl r
      obtain ⟨_, n49, v1, h1, -, ln49, rc, r⟩ := rn_call (m2 := 78) (as := [.ref 461, .ref B6, .int b8, .int 0]) (rest := []) rfl rfl r
      obtain ⟨rfl, rfl⟩ := dn_78 sp_c461 (rn_o1 hB6) rc
      have r : rn_s _ 121 (99, [some (.ref 1), x1, x2, some (.int b3), some (.int b4), some (.int b5), some (.ref B6), some (.int b7), some (.int b8)], [], aa_H (fn_78 g 461 (some B6) b8 0)) v h := r
      exact dn_121_99 (lp_q (iw_s v h) d f) (fun n2 l2 => ih n2 (by omega) (by omega)) (fun z hz => hz) hB6 x1 x2 jx1 jx2 r
theorem dn_121_81 {v : Option Value} {h : zz_H} {n : Nat} {g : aa_G} {b3 : Int32} {b4 : Int32} {b5 : Int32} {B6 : Nat} {b7 : Int32} {b8 : Int32} (hB6 : ct_tw B6) (x1 x2 : Option Value) (jx1 : rn_jk x1) (jx2 : rn_jk x2) (r : rn_s n 121 (81, [some (.ref 1), x1, x2, some (.int b3), some (.int b4), some (.int b5), some (.ref B6), some (.int b7), some (.int b8)], [], aa_H g) v h) : (iw_s v h) (fn_121_81 g b3 b4 b5 B6 b7 b8) := dn_121_81l hB6 n (Nat.le_refl n) g b7 b8 x1 x2 jx1 jx2 r
noncomputable def fn_121 (g : aa_G) (a1 : Int32) (a2 : Int32) (a3 : Int32) (a4 : Int32) (a5 : Int32) : Int32 × aa_G := (match fn_31 g a1 with | none => ((-1, g)) | some W6 => (if (fn_77 a2) = 0 then (-1, g) else if (fn_77 a3) = 0 then (-1, g) else if (fn_14 (a3 - a2) 0 359) ≠ 0 then if (fn_14 a4 0 12) = 0 then (-1, g) else if (fn_14 a5 0 12) = 0 then (-1, g) else if a4 < a5 then fn_121_81 g a3 a4 a5 W6 0 a2 else (-1, g) else (-1, g)))
theorem dn_121 {v : Option Value} {h : zz_H} {n : Nat} {g : aa_G} {a1 : Int32} {a2 : Int32} {a3 : Int32} {a4 : Int32} {a5 : Int32}  (r : rn_s n 121 (0, zz_in [.ref 1, .int a1, .int a2, .int a3, .int a4, .int a5] (zz_nl 121), [], aa_H g) v h) : iw_s v h (fn_121 g a1 a2 a3 a4 a5) := by
  have r : rn_s n 121 (0, [some (.ref 1), some (.int a1), some (.int a2), some (.int a3), some (.int a4), some (.int a5), none, none, none], [], aa_H g) v h := r
  unfold fn_121
  obtain ⟨n1, ln1, r⟩ := rn_steps 2 (5, [some (.ref 1), some (.int a1), some (.int a2), some (.int a3), some (.int a4), some (.int a5), none, none, none], [.int a1, .ref 2], aa_H g) rfl r
  obtain ⟨_, n2, v1, h1, -, ln2, rc, r⟩ := rn_call (m2 := 31) (as := [.ref 2, .int a1]) (rest := []) rfl rfl r
  obtain ⟨rfl, rfl, ho4⟩ := dn_31 rc
  have r : rn_s _ 121 (8, [some (.ref 1), some (.int a1), some (.int a2), some (.int a3), some (.int a4), some (.int a5), none, none, none], [zz_val (fn_31 g a1)], aa_H g) v h := r
  cases e5 : fn_31 g a1 with
  | none =>
    rw [e5] at r
    have r : rn_s _ 121 (8, [some (.ref 1), some (.int a1), some (.int a2), some (.int a3), some (.int a4), some (.int a5), none, none, none], [.null], aa_H g) v h := r
    dsimp only
    obtain ⟨n8, ln8, r⟩ := rn_steps 3 (43, [some (.ref 1), some (.int a1), some (.int a2), some (.int a3), some (.int a4), some (.int a5), some (.null), none, none], [.int (-1)], aa_H g) rfl r
    exact rn_ire rfl r
  | some W6 =>
    rw [e5] at r
    have hw7 : ct_tw W6 := ho4 _ e5
    have r : rn_s _ 121 (8, [some (.ref 1), some (.int a1), some (.int a2), some (.int a3), some (.int a4), some (.int a5), none, none, none], [.ref W6], aa_H g) v h := r
    dsimp only
    obtain ⟨n9, ln9, r⟩ := rn_steps 3 (16, [some (.ref 1), some (.int a1), some (.int a2), some (.int a3), some (.int a4), some (.int a5), some (.ref W6), none, none], [.int a2], aa_H g) rfl r
    obtain ⟨_, n10, v1, h1, -, ln10, rc, r⟩ := rn_call (m2 := 77) (as := [.int a2]) (rest := []) rfl rfl r
    obtain ⟨rfl, rfl⟩ := dn_77 rc
    have r : rn_s _ 121 (19, [some (.ref 1), some (.int a1), some (.int a2), some (.int a3), some (.int a4), some (.int a5), some (.ref W6), none, none], [.int (fn_77 a2)], aa_H g) v h := r
    refine rn_if (iw_s v h) rfl decide_eq_true_iff.symm r (fun c12 l13n l13 r => ?_) (fun c12 l13n l13 r => ?_)
    · obtain ⟨n14, ln14, r⟩ := rn_steps 0 (43, [some (.ref 1), some (.int a1), some (.int a2), some (.int a3), some (.int a4), some (.int a5), some (.ref W6), none, none], [.int (-1)], aa_H g) rfl r
      exact rn_ire rfl r
    · obtain ⟨n15, ln15, r⟩ := rn_steps 0 (23, [some (.ref 1), some (.int a1), some (.int a2), some (.int a3), some (.int a4), some (.int a5), some (.ref W6), none, none], [.int a3], aa_H g) rfl r
      obtain ⟨_, n16, v1, h1, -, ln16, rc, r⟩ := rn_call (m2 := 77) (as := [.int a3]) (rest := []) rfl rfl r
      obtain ⟨rfl, rfl⟩ := dn_77 rc
      have r : rn_s _ 121 (26, [some (.ref 1), some (.int a1), some (.int a2), some (.int a3), some (.int a4), some (.int a5), some (.ref W6), none, none], [.int (fn_77 a3)], aa_H g) v h := r
      refine rn_if (iw_s v h) rfl decide_eq_true_iff.symm r (fun c18 l19n l19 r => ?_) (fun c18 l19n l19 r => ?_)
      · obtain ⟨n20, ln20, r⟩ := rn_steps 0 (43, [some (.ref 1), some (.int a1), some (.int a2), some (.int a3), some (.int a4), some (.int a5), some (.ref W6), none, none], [.int (-1)], aa_H g) rfl r
        exact rn_ire rfl r
      · obtain ⟨n21, ln21, r⟩ := rn_steps 4 (36, [some (.ref 1), some (.int a1), some (.int a2), some (.int a3), some (.int a4), some (.int a5), some (.ref W6), none, none], [.int 359, .int 0, .int (a3 - a2)], aa_H g) rfl r
        obtain ⟨_, n22, v1, h1, -, ln22, rc, r⟩ := rn_call (m2 := 14) (as := [.int (a3 - a2), .int 0, .int 359]) (rest := []) rfl rfl r
        obtain ⟨rfl, rfl⟩ := dn_14 rc
        have r : rn_s _ 121 (39, [some (.ref 1), some (.int a1), some (.int a2), some (.int a3), some (.int a4), some (.int a5), some (.ref W6), none, none], [.int (fn_14 (a3 - a2) 0 359)], aa_H g) v h := r
        refine rn_if (iw_s v h) rfl decide_eq_true_iff.symm r (fun c24 l25n l25 r => ?_) (fun c24 l25n l25 r => ?_)
        · obtain ⟨n26, ln26, r⟩ := rn_steps 2 (49, [some (.ref 1), some (.int a1), some (.int a2), some (.int a3), some (.int a4), some (.int a5), some (.ref W6), none, none], [.int 12, .int 0, .int a4], aa_H g) rfl r
          obtain ⟨_, n27, v1, h1, -, ln27, rc, r⟩ := rn_call (m2 := 14) (as := [.int a4, .int 0, .int 12]) (rest := []) rfl rfl r
          obtain ⟨rfl, rfl⟩ := dn_14 rc
          have r : rn_s _ 121 (52, [some (.ref 1), some (.int a1), some (.int a2), some (.int a3), some (.int a4), some (.int a5), some (.ref W6), none, none], [.int (fn_14 a4 0 12)], aa_H g) v h := r
          refine rn_if (iw_s v h) rfl decide_eq_true_iff.symm r (fun c29 l30n l30 r => ?_) (fun c29 l30n l30 r => ?_)
          · obtain ⟨n31, ln31, r⟩ := rn_steps 0 (74, [some (.ref 1), some (.int a1), some (.int a2), some (.int a3), some (.int a4), some (.int a5), some (.ref W6), none, none], [.int (-1)], aa_H g) rfl r
            exact rn_ire rfl r
          · obtain ⟨n32, ln32, r⟩ := rn_steps 2 (60, [some (.ref 1), some (.int a1), some (.int a2), some (.int a3), some (.int a4), some (.int a5), some (.ref W6), none, none], [.int 12, .int 0, .int a5], aa_H g) rfl r
            obtain ⟨_, n33, v1, h1, -, ln33, rc, r⟩ := rn_call (m2 := 14) (as := [.int a5, .int 0, .int 12]) (rest := []) rfl rfl r
            obtain ⟨rfl, rfl⟩ := dn_14 rc
            have r : rn_s _ 121 (63, [some (.ref 1), some (.int a1), some (.int a2), some (.int a3), some (.int a4), some (.int a5), some (.ref W6), none, none], [.int (fn_14 a5 0 12)], aa_H g) v h := r
            refine rn_if (iw_s v h) rfl decide_eq_true_iff.symm r (fun c35 l36n l36 r => ?_) (fun c35 l36n l36 r => ?_)
            · obtain ⟨n37, ln37, r⟩ := rn_steps 0 (74, [some (.ref 1), some (.int a1), some (.int a2), some (.int a3), some (.int a4), some (.int a5), some (.ref W6), none, none], [.int (-1)], aa_H g) rfl r
              exact rn_ire rfl r
            · obtain ⟨n38, ln38, r⟩ := rn_steps 1 (70, [some (.ref 1), some (.int a1), some (.int a2), some (.int a3), some (.int a4), some (.int a5), some (.ref W6), none, none], [.int a5, .int a4], aa_H g) rfl r
              refine rn_ic (iw_s v h) rfl decide_eq_true_iff.symm r (fun c39 l40n l40 r => ?_) (fun c39 l40n l40 r => ?_)
              · obtain ⟨n41, ln41, r⟩ := rn_steps 3 (81, [some (.ref 1), some (.int a1), some (.int a2), some (.int a3), some (.int a4), some (.int a5), some (.ref W6), some (.int 0), some (.int a2)], [], aa_H g) rfl r
                exact dn_121_81 hw7 (some (.int a1)) (some (.int a2)) rn_ji rn_ji r
              · obtain ⟨n42, ln42, r⟩ := rn_steps 0 (74, [some (.ref 1), some (.int a1), some (.int a2), some (.int a3), some (.int a4), some (.int a5), some (.ref W6), none, none], [.int (-1)], aa_H g) rfl r
                exact rn_ire rfl r
        · obtain ⟨n43, ln43, r⟩ := rn_steps 0 (43, [some (.ref 1), some (.int a1), some (.int a2), some (.int a3), some (.int a4), some (.int a5), some (.ref W6), none, none], [.int (-1)], aa_H g) rfl r
          exact rn_ire rfl r
-- 123: UnequalHours seasonWorth
noncomputable def fn_123 (a0 : Int32) (a1 : Int32) : Int32 := if a1 ≠ 0 then if a1 ≠ 1 then -(if 0 ≤ (a0 - 43200) then (a0 - 43200) else 0 - (a0 - 43200)) else -a0 else a0
theorem dn_123 {v : Option Value} {h : zz_H} {n : Nat} {g : aa_G} {a0 : Int32} {a1 : Int32}  (r : rn_s n 123 (0, zz_in [.int a0, .int a1] (zz_nl 123), [], aa_H g) v h) : ir_s g v h (fn_123 a0 a1) := by
  have r : rn_s n 123 (0, [some (.int a0), some (.int a1)], [], aa_H g) v h := r
  unfold fn_123
  obtain ⟨n1, ln1, r⟩ := rn_steps 0 (1, [some (.int a0), some (.int a1)], [.int a1], aa_H g) rfl r
  refine rn_if (ir_s g v h) rfl decide_eq_true_iff.symm r (fun c2 l3n l3 r => ?_) (fun c2 l3n l3 r => ?_)
  · obtain ⟨n4, ln4, r⟩ := rn_steps 1 (8, [some (.int a0), some (.int a1)], [.int 1, .int a1], aa_H g) rfl r
    refine rn_ic (ir_s g v h) rfl decide_eq_true_iff.symm r (fun c5 l6n l6 r => ?_) (fun c5 l6n l6 r => ?_)
    · obtain ⟨n7, ln7, r⟩ := rn_steps 4 (24, [some (.int a0), some (.int a1)], [.int (-(if 0 ≤ (a0 - 43200) then (a0 - 43200) else 0 - (a0 - 43200)))], aa_H g) rfl r
      exact rn_ire rfl r
    · obtain ⟨n8, ln8, r⟩ := rn_steps 2 (24, [some (.int a0), some (.int a1)], [.int (-a0)], aa_H g) rfl r
      exact rn_ire rfl r
  · obtain ⟨n9, ln9, r⟩ := rn_steps 0 (5, [some (.int a0), some (.int a1)], [.int a0], aa_H g) rfl r
    exact rn_ire rfl r
-- 122: UnequalHours season
noncomputable def fn_122_107 (g : aa_G) (b2 : Int32) (B3 : Nat) (b4 : Int32) (b5 : Int32) (b6 : Int32) (b7 : Int32) : (aa_G × Int32 × Int32 × Int32 × Int32) ⊕ (Int32 × aa_G) := .inl (g, b4, b5, b6, b7 + 1)
theorem dn_122_107 {v : Option Value} {h : zz_H} {n : Nat} {g : aa_G} {b2 : Int32} {B3 : Nat} {b4 : Int32} {b5 : Int32} {b6 : Int32} {b7 : Int32} (P : (aa_G × Int32 × Int32 × Int32 × Int32) ⊕ (Int32 × aa_G) → Prop) (hO0 : ∀ n2, n2 < n → ∀ (yg : aa_G) (yb4 : Int32) (yb5 : Int32) (yb6 : Int32) (yb7 : Int32) (yx1 yx8 : Option Value) (_ : rn_jk yx1) (_ : rn_jk yx8), rn_s n2 122 (37, [some (.ref 1), yx1, some (.int b2), some (.ref B3), some (.int yb4), some (.int yb5), some (.int yb6), some (.int yb7), yx8], [], aa_H yg) v h → P (.inl (yg, yb4, yb5, yb6, yb7))) (hR : ∀ E, iw_s v h E → P (.inr E)) (hB3 : ct_tw B3) (x1 x8 : Option Value) (jx1 : rn_jk x1) (jx8 : rn_jk x8) (r : rn_s n 122 (107, [some (.ref 1), x1, some (.int b2), some (.ref B3), some (.int b4), some (.int b5), some (.int b6), some (.int b7), x8], [], aa_H g) v h) : P (fn_122_107 g b2 B3 b4 b5 b6 b7) := by
  unfold fn_122_107
  obtain ⟨n41, ln41, r⟩ := rn_steps 1 (37, [some (.ref 1), x1, some (.int b2), some (.ref B3), some (.int b4), some (.int b5), some (.int b6), some (.int (b7 + 1)), x8], [], aa_H g) rfl r
  exact hO0 _ (by omega) g b4 b5 b6 (b7 + 1) x1 x8 jx1 jx8 r
noncomputable def fn_122_99 (g : aa_G) (b2 : Int32) (B3 : Nat) (b6 : Int32) (b7 : Int32) (b8 : Int32) : (aa_G × Int32 × Int32 × Int32 × Int32) ⊕ (Int32 × aa_G) := fn_122_107 g b2 B3 b7 b8 b6 b7
theorem dn_122_99 {v : Option Value} {h : zz_H} {n : Nat} {g : aa_G} {b2 : Int32} {B3 : Nat} {b6 : Int32} {b7 : Int32} {b8 : Int32} (P : (aa_G × Int32 × Int32 × Int32 × Int32) ⊕ (Int32 × aa_G) → Prop) (hO0 : ∀ n2, n2 < n → ∀ (yg : aa_G) (yb4 : Int32) (yb5 : Int32) (yb6 : Int32) (yb7 : Int32) (yx1 yx8 : Option Value) (_ : rn_jk yx1) (_ : rn_jk yx8), rn_s n2 122 (37, [some (.ref 1), yx1, some (.int b2), some (.ref B3), some (.int yb4), some (.int yb5), some (.int yb6), some (.int yb7), yx8], [], aa_H yg) v h → P (.inl (yg, yb4, yb5, yb6, yb7))) (hR : ∀ E, iw_s v h E → P (.inr E)) (hB3 : ct_tw B3) (x1 x4 x5 : Option Value) (jx1 : rn_jk x1) (jx4 : rn_jk x4) (jx5 : rn_jk x5) (r : rn_s n 122 (99, [some (.ref 1), x1, some (.int b2), some (.ref B3), x4, x5, some (.int b6), some (.int b7), some (.int b8)], [], aa_H g) v h) : P (fn_122_99 g b2 B3 b6 b7 b8) := by
  unfold fn_122_99
  obtain ⟨n40, ln40, r⟩ := rn_steps 3 (107, [some (.ref 1), x1, some (.int b2), some (.ref B3), some (.int b7), some (.int b8), some (.int b6), some (.int b7), some (.int b8)], [], aa_H g) rfl r
  exact dn_122_107 (P) (fun n2 l2 => hO0 n2 (by omega)) (fun z hz => hR _ hz) hB3 x1 (some (.int b8)) jx1 rn_ji r
noncomputable def fn_122_56 (g : aa_G) (b2 : Int32) (B3 : Nat) (b4 : Int32) (b5 : Int32) (b6 : Int32) (b7 : Int32) : (aa_G × Int32 × Int32 × Int32 × Int32) ⊕ (Int32 × aa_G) := if (g 461 0) ≠ 0 then if b4 = (-2) then fn_122_99 g b2 B3 b6 b7 (fn_123 (g 461 4) b2) else if (fn_123 (g 461 4) b2) ≤ b5 then fn_122_107 g b2 B3 b4 b5 b6 b7 else fn_122_99 g b2 B3 b6 b7 (fn_123 (g 461 4) b2) else fn_122_107 g b2 B3 b4 b5 (b6 + 1) b7
theorem dn_122_56 {v : Option Value} {h : zz_H} {n : Nat} {g : aa_G} {b2 : Int32} {B3 : Nat} {b4 : Int32} {b5 : Int32} {b6 : Int32} {b7 : Int32} (P : (aa_G × Int32 × Int32 × Int32 × Int32) ⊕ (Int32 × aa_G) → Prop) (hO0 : ∀ n2, n2 < n → ∀ (yg : aa_G) (yb4 : Int32) (yb5 : Int32) (yb6 : Int32) (yb7 : Int32) (yx1 yx8 : Option Value) (_ : rn_jk yx1) (_ : rn_jk yx8), rn_s n2 122 (37, [some (.ref 1), yx1, some (.int b2), some (.ref B3), some (.int yb4), some (.int yb5), some (.int yb6), some (.int yb7), yx8], [], aa_H yg) v h → P (.inl (yg, yb4, yb5, yb6, yb7))) (hR : ∀ E, iw_s v h E → P (.inr E)) (hB3 : ct_tw B3) (x1 x8 : Option Value) (jx1 : rn_jk x1) (jx8 : rn_jk x8) (r : rn_s n 122 (56, [some (.ref 1), x1, some (.int b2), some (.ref B3), some (.int b4), some (.int b5), some (.int b6), some (.int b7), x8], [], aa_H g) v h) : P (fn_122_56 g b2 B3 b4 b5 b6 b7) := by
  unfold fn_122_56
  obtain ⟨n27, ln27, r⟩ := rn_steps 3 (64, [some (.ref 1), x1, some (.int b2), some (.ref B3), some (.int b4), some (.int b5), some (.int b6), some (.int b7), x8], [.int b2, .int (g 461 4)], aa_H g) rfl r
  obtain ⟨_, n28, v1, h1, -, ln28, rc, r⟩ := rn_call (m2 := 123) (as := [.int (g 461 4), .int b2]) (rest := []) rfl rfl r
  obtain ⟨rfl, rfl⟩ := dn_123 rc
  have r : rn_s _ 122 (67, [some (.ref 1), x1, some (.int b2), some (.ref B3), some (.int b4), some (.int b5), some (.int b6), some (.int b7), x8], [.int (fn_123 (g 461 4) b2)], aa_H g) v h := r
  obtain ⟨n30, ln30, r⟩ := rn_steps 3 (76, [some (.ref 1), x1, some (.int b2), some (.ref B3), some (.int b4), some (.int b5), some (.int b6), some (.int b7), some (.int (fn_123 (g 461 4) b2))], [.int (g 461 0)], aa_H g) rfl r
  refine rn_if (P) rfl decide_eq_true_iff.symm r (fun c31 l32n l32 r => ?_) (fun c31 l32n l32 r => ?_)
  · obtain ⟨n33, ln33, r⟩ := rn_steps 1 (89, [some (.ref 1), x1, some (.int b2), some (.ref B3), some (.int b4), some (.int b5), some (.int b6), some (.int b7), some (.int (fn_123 (g 461 4) b2))], [.int (-2), .int b4], aa_H g) rfl r
    refine rn_ic (P) rfl decide_eq_true_iff.symm r (fun c34 l35n l35 r => ?_) (fun c34 l35n l35 r => ?_)
    · exact dn_122_99 (P) (fun n2 l2 => hO0 n2 (by omega)) (fun z hz => hR _ hz) hB3 x1 (some (.int b4)) (some (.int b5)) jx1 rn_ji rn_ji r
    · obtain ⟨n36, ln36, r⟩ := rn_steps 1 (96, [some (.ref 1), x1, some (.int b2), some (.ref B3), some (.int b4), some (.int b5), some (.int b6), some (.int b7), some (.int (fn_123 (g 461 4) b2))], [.int b5, .int (fn_123 (g 461 4) b2)], aa_H g) rfl r
      refine rn_ic (P) rfl decide_eq_true_iff.symm r (fun c37 l38n l38 r => ?_) (fun c37 l38n l38 r => ?_)
      · exact dn_122_107 (P) (fun n2 l2 => hO0 n2 (by omega)) (fun z hz => hR _ hz) hB3 x1 (some (.int (fn_123 (g 461 4) b2))) jx1 rn_ji r
      · exact dn_122_99 (P) (fun n2 l2 => hO0 n2 (by omega)) (fun z hz => hR _ hz) hB3 x1 (some (.int b4)) (some (.int b5)) jx1 rn_ji rn_ji r
  · obtain ⟨n39, ln39, r⟩ := rn_steps 1 (107, [some (.ref 1), x1, some (.int b2), some (.ref B3), some (.int b4), some (.int b5), some (.int (b6 + 1)), some (.int b7), some (.int (fn_123 (g 461 4) b2))], [], aa_H g) rfl r
    exact dn_122_107 (P) (fun n2 l2 => hO0 n2 (by omega)) (fun z hz => hR _ hz) hB3 x1 (some (.int (fn_123 (g 461 4) b2))) jx1 rn_ji r
noncomputable def fn_122_37b (g : aa_G) (b2 : Int32) (B3 : Nat) (b4 : Int32) (b5 : Int32) (b6 : Int32) (b7 : Int32) : (aa_G × Int32 × Int32 × Int32 × Int32) ⊕ (Int32 × aa_G) := if 360 ≤ b7 then if b2 ≠ 3 then .inr (b4, g) else .inr (b6, g) else fn_122_56 (fn_78 g 461 (some B3) b7 0) b2 B3 b4 b5 b6 b7
noncomputable def fn_122_37 (g : aa_G) (b2 : Int32) (B3 : Nat) (b4 : Int32) (b5 : Int32) (b6 : Int32) (b7 : Int32) : Int32 × aa_G := lp_f (0, g) (fun z : (aa_G × Int32 × Int32 × Int32 × Int32) => fn_122_37b z.1 b2 B3 z.2.1 z.2.2.1 z.2.2.2.1 z.2.2.2.2) (g, b4, b5, b6, b7)
theorem dn_122_37l {v : Option Value} {h : zz_H} {N : Nat} {b2 : Int32} {B3 : Nat} (hB3 : ct_tw B3) {d : Int32 × aa_G} : ∀ (n : Nat), n ≤ N → ∀ (g : aa_G) (b4 : Int32) (b5 : Int32) (b6 : Int32) (b7 : Int32) (x1 x8 : Option Value) (jx1 : rn_jk x1) (jx8 : rn_jk x8), rn_s n 122 (37, [some (.ref 1), x1, some (.int b2), some (.ref B3), some (.int b4), some (.int b5), some (.int b6), some (.int b7), x8], [], aa_H g) v h → (iw_s v h) (lp_f d (fun z : (aa_G × Int32 × Int32 × Int32 × Int32) => fn_122_37b z.1 b2 B3 z.2.1 z.2.2.1 z.2.2.2.1 z.2.2.2.2) (g, b4, b5, b6, b7)) := by
  generalize hf : (fun z : (aa_G × Int32 × Int32 × Int32 × Int32) => fn_122_37b z.1 b2 B3 z.2.1 z.2.2.1 z.2.2.2.1 z.2.2.2.2) = f
  intro n
  induction n using Nat.strongRecOn with
  | _ n ih =>
    intro hN g b4 b5 b6 b7 x1 x8 jx1 jx8 r
    refine lp_go ?_
    rw [← congrFun hf (g, b4, b5, b6, b7)]
    show lp_q (iw_s v h) d f (fn_122_37b g b2 B3 b4 b5 b6 b7)
    unfold fn_122_37b
    obtain ⟨n16, ln16, r⟩ := rn_steps 1 (42, [some (.ref 1), x1, some (.int b2), some (.ref B3), some (.int b4), some (.int b5), some (.int b6), some (.int b7), x8], [.int 360, .int b7], aa_H g) rfl r
    refine rn_ic (lp_q (iw_s v h) d f) rfl decide_eq_true_iff.symm r (fun c17 l18n l18 r => ?_) (fun c17 l18n l18 r => ?_)
    · obtain ⟨n19, ln19, r⟩ := rn_steps 1 (115, [some (.ref 1), x1, some (.int b2), some (.ref B3), some (.int b4), some (.int b5), some (.int b6), some (.int b7), x8], [.int 3, .int b2], aa_H g) rfl r
      refine rn_ic (lp_q (iw_s v h) d f) rfl decide_eq_true_iff.symm r (fun c20 l21n l21 r => ?_) (fun c20 l21n l21 r => ?_)
      · obtain ⟨n22, ln22, r⟩ := rn_steps 0 (125, [some (.ref 1), x1, some (.int b2), some (.ref B3), some (.int b4), some (.int b5), some (.int b6), some (.int b7), x8], [.int b4], aa_H g) rfl r
        exact rn_ire rfl r
      · obtain ⟨n23, ln23, r⟩ := rn_steps 1 (125, [some (.ref 1), x1, some (.int b2), some (.ref B3), some (.int b4), some (.int b5), some (.int b6), some (.int b7), x8], [.int b6], aa_H g) rfl r
        exact rn_ire rfl r
    · obtain ⟨n24, ln24, r⟩ := rn_steps 4 (53, [some (.ref 1), x1, some (.int b2), some (.ref B3), some (.int b4), some (.int b5), some (.int b6), some (.int b7), x8], [.int 0, .int b7, .ref B3, .ref 461], aa_H g) rfl r
      obtain ⟨_, n25, v1, h1, -, ln25, rc, r⟩ := rn_call (m2 := 78) (as := [.ref 461, .ref B3, .int b7, .int 0]) (rest := []) rfl rfl r
      obtain ⟨rfl, rfl⟩ := dn_78 sp_c461 (rn_o1 hB3) rc
      have r : rn_s _ 122 (56, [some (.ref 1), x1, some (.int b2), some (.ref B3), some (.int b4), some (.int b5), some (.int b6), some (.int b7), x8], [], aa_H (fn_78 g 461 (some B3) b7 0)) v h := r
      exact dn_122_56 (lp_q (iw_s v h) d f) (fun n2 l2 => ih n2 (by omega) (by omega)) (fun z hz => hz) hB3 x1 x8 jx1 jx8 r
theorem dn_122_37 {v : Option Value} {h : zz_H} {n : Nat} {g : aa_G} {b2 : Int32} {B3 : Nat} {b4 : Int32} {b5 : Int32} {b6 : Int32} {b7 : Int32} (hB3 : ct_tw B3) (x1 x8 : Option Value) (jx1 : rn_jk x1) (jx8 : rn_jk x8) (r : rn_s n 122 (37, [some (.ref 1), x1, some (.int b2), some (.ref B3), some (.int b4), some (.int b5), some (.int b6), some (.int b7), x8], [], aa_H g) v h) : (iw_s v h) (fn_122_37 g b2 B3 b4 b5 b6 b7) := dn_122_37l hB3 n (Nat.le_refl n) g b4 b5 b6 b7 x1 x8 jx1 jx8 r
noncomputable def fn_122 (g : aa_G) (a1 : Int32) (a2 : Int32) : Int32 × aa_G := (match fn_31 g a1 with | none => ((-1, g)) | some W6 => (if (fn_14 a2 0 3) ≠ 0 then fn_122_37 g a2 W6 (-2) 0 0 0 else (-1, g)))
theorem dn_122 {v : Option Value} {h : zz_H} {n : Nat} {g : aa_G} {a1 : Int32} {a2 : Int32}  (r : rn_s n 122 (0, zz_in [.ref 1, .int a1, .int a2] (zz_nl 122), [], aa_H g) v h) : iw_s v h (fn_122 g a1 a2) := by
  have r : rn_s n 122 (0, [some (.ref 1), some (.int a1), some (.int a2), none, none, none, none, none, none], [], aa_H g) v h := r
  unfold fn_122
  obtain ⟨n1, ln1, r⟩ := rn_steps 2 (5, [some (.ref 1), some (.int a1), some (.int a2), none, none, none, none, none, none], [.int a1, .ref 2], aa_H g) rfl r
  obtain ⟨_, n2, v1, h1, -, ln2, rc, r⟩ := rn_call (m2 := 31) (as := [.ref 2, .int a1]) (rest := []) rfl rfl r
  obtain ⟨rfl, rfl, ho4⟩ := dn_31 rc
  have r : rn_s _ 122 (8, [some (.ref 1), some (.int a1), some (.int a2), none, none, none, none, none, none], [zz_val (fn_31 g a1)], aa_H g) v h := r
  cases e5 : fn_31 g a1 with
  | none =>
    rw [e5] at r
    have r : rn_s _ 122 (8, [some (.ref 1), some (.int a1), some (.int a2), none, none, none, none, none, none], [.null], aa_H g) v h := r
    dsimp only
    obtain ⟨n8, ln8, r⟩ := rn_steps 3 (23, [some (.ref 1), some (.int a1), some (.int a2), some (.null), none, none, none, none, none], [.int (-1)], aa_H g) rfl r
    exact rn_ire rfl r
  | some W6 =>
    rw [e5] at r
    have hw7 : ct_tw W6 := ho4 _ e5
    have r : rn_s _ 122 (8, [some (.ref 1), some (.int a1), some (.int a2), none, none, none, none, none, none], [.ref W6], aa_H g) v h := r
    dsimp only
    obtain ⟨n9, ln9, r⟩ := rn_steps 5 (16, [some (.ref 1), some (.int a1), some (.int a2), some (.ref W6), none, none, none, none, none], [.int 3, .int 0, .int a2], aa_H g) rfl r
    obtain ⟨_, n10, v1, h1, -, ln10, rc, r⟩ := rn_call (m2 := 14) (as := [.int a2, .int 0, .int 3]) (rest := []) rfl rfl r
    obtain ⟨rfl, rfl⟩ := dn_14 rc
    have r : rn_s _ 122 (19, [some (.ref 1), some (.int a1), some (.int a2), some (.ref W6), none, none, none, none, none], [.int (fn_14 a2 0 3)], aa_H g) v h := r
    refine rn_if (iw_s v h) rfl decide_eq_true_iff.symm r (fun c12 l13n l13 r => ?_) (fun c12 l13n l13 r => ?_)
    · obtain ⟨n14, ln14, r⟩ := rn_steps 7 (37, [some (.ref 1), some (.int a1), some (.int a2), some (.ref W6), some (.int (-2)), some (.int 0), some (.int 0), some (.int 0), none], [], aa_H g) rfl r
      exact dn_122_37 hw7 (some (.int a1)) none rn_ji rn_jn r
    · obtain ⟨n15, ln15, r⟩ := rn_steps 0 (23, [some (.ref 1), some (.int a1), some (.int a2), some (.ref W6), none, none, none, none, none], [.int (-1)], aa_H g) rfl r
      exact rn_ire rfl r
