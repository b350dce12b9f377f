/-! METHODS READ (printed by wip/dc/dc.py) -/
-- 227: UnequalHoursModel size
noncomputable def fn_227 (a0 : Int32) : Int32 := if 0 ≤ a0 then a0 else -a0
theorem dn_227 {v : Option Value} {h : zz_H} {n : Nat} {g : aa_G} {a0 : Int32}  (r : rn_s n 227 (0, zz_in [.int a0] (zz_nl 227), [], aa_H g) v h) : ir_s g v h (fn_227 a0) := by
  have r : rn_s n 227 (0, [some (.int a0)], [], aa_H g) v h := r
  unfold fn_227
  obtain ⟨n1, ln1, r⟩ := rn_steps 0 (1, [some (.int a0)], [.int a0], aa_H g) rfl r
  refine rn_if (ir_s g v h) rfl decide_eq_true_iff.symm r (fun c2 l3n l3 r => ?_) (fun c2 l3n l3 r => ?_)
  · obtain ⟨n4, ln4, r⟩ := rn_steps 0 (10, [some (.int a0)], [.int a0], aa_H g) rfl r
    exact rn_ire rfl r
  · obtain ⟨n5, ln5, r⟩ := rn_steps 2 (10, [some (.int a0)], [.int (-a0)], aa_H g) rfl r
    exact rn_ire rfl r
-- 226: UnequalHoursModel season
noncomputable def fn_226_124 (g : aa_G) (b1 : Int32) (b2 : Int32) (b3 : Int32) (b4 : Int32) (b5 : Int32) (b6 : Int32) : (aa_G × Int32 × Int32 × Int32 × Int32) ⊕ (Int32 × aa_G) := .inl (g, b3, b4, b5, b6 + 1)
theorem dn_226_124 {v : Option Value} {h : zz_H} {n : Nat} {g : aa_G} {b1 : Int32} {b2 : Int32} {b3 : Int32} {b4 : Int32} {b5 : Int32} {b6 : Int32} (P : (aa_G × Int32 × Int32 × Int32 × Int32) ⊕ (Int32 × aa_G) → Prop) (hO0 : ∀ n2, n2 < n → ∀ (yg : aa_G) (yb3 : Int32) (yb4 : Int32) (yb5 : Int32) (yb6 : Int32) (yx7 yx8 : Option Value) (_ : rn_jk yx7) (_ : rn_jk yx8), rn_s n2 226 (31, [some (.ref 540), some (.int b1), some (.int b2), some (.int yb3), some (.int yb4), some (.int yb5), some (.int yb6), yx7, yx8], [], aa_H yg) v h → P (.inl (yg, yb3, yb4, yb5, yb6))) (hR : ∀ E, iw_s v h E → P (.inr E))  (x7 x8 : Option Value) (jx7 : rn_jk x7) (jx8 : rn_jk x8) (r : rn_s n 226 (124, [some (.ref 540), some (.int b1), some (.int b2), some (.int b3), some (.int b4), some (.int b5), some (.int b6), x7, x8], [], aa_H g) v h) : P (fn_226_124 g b1 b2 b3 b4 b5 b6) := by
  unfold fn_226_124
  obtain ⟨n52, ln52, r⟩ := rn_steps 1 (31, [some (.ref 540), some (.int b1), some (.int b2), some (.int b3), some (.int b4), some (.int b5), some (.int (b6 + 1)), x7, x8], [], aa_H g) rfl r
  exact hO0 _ (by omega) g b3 b4 b5 (b6 + 1) x7 x8 jx7 jx8 r
noncomputable def fn_226_117 (g : aa_G) (b1 : Int32) (b2 : Int32) (b5 : Int32) (b6 : Int32) (b8 : Int32) : (aa_G × Int32 × Int32 × Int32 × Int32) ⊕ (Int32 × aa_G) := fn_226_124 g b1 b2 b6 b8 b5 b6
theorem dn_226_117 {v : Option Value} {h : zz_H} {n : Nat} {g : aa_G} {b1 : Int32} {b2 : Int32} {b5 : Int32} {b6 : Int32} {b8 : Int32} (P : (aa_G × Int32 × Int32 × Int32 × Int32) ⊕ (Int32 × aa_G) → Prop) (hO0 : ∀ n2, n2 < n → ∀ (yg : aa_G) (yb3 : Int32) (yb4 : Int32) (yb5 : Int32) (yb6 : Int32) (yx7 yx8 : Option Value) (_ : rn_jk yx7) (_ : rn_jk yx8), rn_s n2 226 (31, [some (.ref 540), some (.int b1), some (.int b2), some (.int yb3), some (.int yb4), some (.int yb5), some (.int yb6), yx7, yx8], [], aa_H yg) v h → P (.inl (yg, yb3, yb4, yb5, yb6))) (hR : ∀ E, iw_s v h E → P (.inr E))  (x3 x4 x7 : Option Value) (jx3 : rn_jk x3) (jx4 : rn_jk x4) (jx7 : rn_jk x7) (r : rn_s n 226 (117, [some (.ref 540), some (.int b1), some (.int b2), x3, x4, some (.int b5), some (.int b6), x7, some (.int b8)], [], aa_H g) v h) : P (fn_226_117 g b1 b2 b5 b6 b8) := by
  unfold fn_226_117
  obtain ⟨n53, ln53, r⟩ := rn_steps 3 (124, [some (.ref 540), some (.int b1), some (.int b2), some (.int b6), some (.int b8), some (.int b5), some (.int b6), x7, some (.int b8)], [], aa_H g) rfl r
  exact dn_226_124 (P) (fun n2 l2 => hO0 n2 (by omega)) (fun z hz => hR _ hz) x7 (some (.int b8)) jx7 rn_ji r
noncomputable def fn_226_93 (g : aa_G) (b1 : Int32) (b2 : Int32) (b3 : Int32) (b4 : Int32) (b5 : Int32) (b6 : Int32) (b7 : Int32) (s0 : Int32) : (aa_G × Int32 × Int32 × Int32 × Int32) ⊕ (Int32 × aa_G) := if b7 = (-1) then fn_226_124 g b1 b2 b3 b4 b5 b6 else if b3 = (-2) then fn_226_117 g b1 b2 b5 b6 s0 else if b4 < s0 then fn_226_117 g b1 b2 b5 b6 s0 else fn_226_124 g b1 b2 b3 b4 b5 b6
theorem dn_226_93 {v : Option Value} {h : zz_H} {n : Nat} {g : aa_G} {b1 : Int32} {b2 : Int32} {b3 : Int32} {b4 : Int32} {b5 : Int32} {b6 : Int32} {b7 : Int32} {s0 : Int32} (P : (aa_G × Int32 × Int32 × Int32 × Int32) ⊕ (Int32 × aa_G) → Prop) (hO0 : ∀ n2, n2 < n → ∀ (yg : aa_G) (yb3 : Int32) (yb4 : Int32) (yb5 : Int32) (yb6 : Int32) (yx7 yx8 : Option Value) (_ : rn_jk yx7) (_ : rn_jk yx8), rn_s n2 226 (31, [some (.ref 540), some (.int b1), some (.int b2), some (.int yb3), some (.int yb4), some (.int yb5), some (.int yb6), yx7, yx8], [], aa_H yg) v h → P (.inl (yg, yb3, yb4, yb5, yb6))) (hR : ∀ E, iw_s v h E → P (.inr E))  (x8 : Option Value) (jx8 : rn_jk x8) (r : rn_s n 226 (93, [some (.ref 540), some (.int b1), some (.int b2), some (.int b3), some (.int b4), some (.int b5), some (.int b6), some (.int b7), x8], [.int s0], aa_H g) v h) : P (fn_226_93 g b1 b2 b3 b4 b5 b6 b7 s0) := by
  unfold fn_226_93
  obtain ⟨n42, ln42, r⟩ := rn_steps 2 (98, [some (.ref 540), some (.int b1), some (.int b2), some (.int b3), some (.int b4), some (.int b5), some (.int b6), some (.int b7), some (.int s0)], [.int (-1), .int b7], aa_H g) rfl r
  refine rn_ic (P) rfl decide_eq_true_iff.symm r (fun c43 l44n l44 r => ?_) (fun c43 l44n l44 r => ?_)
  · exact dn_226_124 (P) (fun n2 l2 => hO0 n2 (by omega)) (fun z hz => hR _ hz) (some (.int b7)) (some (.int s0)) rn_ji rn_ji r
  · obtain ⟨n45, ln45, r⟩ := rn_steps 1 (104, [some (.ref 540), some (.int b1), some (.int b2), some (.int b3), some (.int b4), some (.int b5), some (.int b6), some (.int b7), some (.int s0)], [.int (-2), .int b3], aa_H g) rfl r
    refine rn_ic (P) rfl decide_eq_true_iff.symm r (fun c46 l47n l47 r => ?_) (fun c46 l47n l47 r => ?_)
    · exact dn_226_117 (P) (fun n2 l2 => hO0 n2 (by omega)) (fun z hz => hR _ hz) (some (.int b3)) (some (.int b4)) (some (.int b7)) rn_ji rn_ji rn_ji r
    · obtain ⟨n48, ln48, r⟩ := rn_steps 1 (111, [some (.ref 540), some (.int b1), some (.int b2), some (.int b3), some (.int b4), some (.int b5), some (.int b6), some (.int b7), some (.int s0)], [.int b4, .int s0], aa_H g) rfl r
      refine rn_ic (P) rfl decide_eq_true_iff.symm r (fun c49 l50n l50 r => ?_) (fun c49 l50n l50 r => ?_)
      · exact dn_226_117 (P) (fun n2 l2 => hO0 n2 (by omega)) (fun z hz => hR _ hz) (some (.int b3)) (some (.int b4)) (some (.int b7)) rn_ji rn_ji rn_ji r
      · obtain ⟨n51, ln51, r⟩ := rn_steps 0 (124, [some (.ref 540), some (.int b1), some (.int b2), some (.int b3), some (.int b4), some (.int b5), some (.int b6), some (.int b7), some (.int s0)], [], aa_H g) rfl r
        exact dn_226_124 (P) (fun n2 l2 => hO0 n2 (by omega)) (fun z hz => hR _ hz) (some (.int b7)) (some (.int s0)) rn_ji rn_ji r
noncomputable def fn_226_61 (g : aa_G) (b1 : Int32) (b2 : Int32) (b3 : Int32) (b4 : Int32) (b6 : Int32) (b7 : Int32) (s0 : Int32) (s1 : Int32) : (aa_G × Int32 × Int32 × Int32 × Int32) ⊕ (Int32 × aa_G) := if b2 ≠ 0 then if b2 ≠ 1 then fn_226_93 g b1 b2 b3 b4 (s1 + s0) b6 b7 (-(fn_227 (b7 - 43200))) else fn_226_93 g b1 b2 b3 b4 (s1 + s0) b6 b7 (-b7) else fn_226_93 g b1 b2 b3 b4 (s1 + s0) b6 b7 b7
theorem dn_226_61 {v : Option Value} {h : zz_H} {n : Nat} {g : aa_G} {b1 : Int32} {b2 : Int32} {b3 : Int32} {b4 : Int32} {b6 : Int32} {b7 : Int32} {s0 : Int32} {s1 : Int32} (P : (aa_G × Int32 × Int32 × Int32 × Int32) ⊕ (Int32 × aa_G) → Prop) (hO0 : ∀ n2, n2 < n → ∀ (yg : aa_G) (yb3 : Int32) (yb4 : Int32) (yb5 : Int32) (yb6 : Int32) (yx7 yx8 : Option Value) (_ : rn_jk yx7) (_ : rn_jk yx8), rn_s n2 226 (31, [some (.ref 540), some (.int b1), some (.int b2), some (.int yb3), some (.int yb4), some (.int yb5), some (.int yb6), yx7, yx8], [], aa_H yg) v h → P (.inl (yg, yb3, yb4, yb5, yb6))) (hR : ∀ E, iw_s v h E → P (.inr E))  (x5 x8 : Option Value) (jx5 : rn_jk x5) (jx8 : rn_jk x8) (r : rn_s n 226 (61, [some (.ref 540), some (.int b1), some (.int b2), some (.int b3), some (.int b4), x5, some (.int b6), some (.int b7), x8], [.int s0, .int s1], aa_H g) v h) : P (fn_226_61 g b1 b2 b3 b4 b6 b7 s0 s1) := by
  unfold fn_226_61
  obtain ⟨n30, ln30, r⟩ := rn_steps 2 (65, [some (.ref 540), some (.int b1), some (.int b2), some (.int b3), some (.int b4), some (.int (s1 + s0)), some (.int b6), some (.int b7), x8], [.int b2], aa_H g) rfl r
  refine rn_if (P) rfl decide_eq_true_iff.symm r (fun c31 l32n l32 r => ?_) (fun c31 l32n l32 r => ?_)
  · obtain ⟨n33, ln33, r⟩ := rn_steps 1 (75, [some (.ref 540), some (.int b1), some (.int b2), some (.int b3), some (.int b4), some (.int (s1 + s0)), some (.int b6), some (.int b7), x8], [.int 1, .int b2], aa_H g) rfl r
    refine rn_ic (P) rfl decide_eq_true_iff.symm r (fun c34 l35n l35 r => ?_) (fun c34 l35n l35 r => ?_)
    · obtain ⟨n36, ln36, r⟩ := rn_steps 2 (89, [some (.ref 540), some (.int b1), some (.int b2), some (.int b3), some (.int b4), some (.int (s1 + s0)), some (.int b6), some (.int b7), x8], [.int (b7 - 43200)], aa_H g) rfl r
      obtain ⟨_, n37, v1, h1, -, ln37, rc, r⟩ := rn_call (m2 := 227) (as := [.int (b7 - 43200)]) (rest := []) rfl rfl r
      obtain ⟨rfl, rfl⟩ := dn_227 rc
      have r : rn_s _ 226 (92, [some (.ref 540), some (.int b1), some (.int b2), some (.int b3), some (.int b4), some (.int (s1 + s0)), some (.int b6), some (.int b7), x8], [.int (fn_227 (b7 - 43200))], aa_H g) v h := r
      obtain ⟨n39, ln39, r⟩ := rn_steps 0 (93, [some (.ref 540), some (.int b1), some (.int b2), some (.int b3), some (.int b4), some (.int (s1 + s0)), some (.int b6), some (.int b7), x8], [.int (-(fn_227 (b7 - 43200)))], aa_H g) rfl r
      exact dn_226_93 (P) (fun n2 l2 => hO0 n2 (by omega)) (fun z hz => hR _ hz) x8 jx8 r
    · obtain ⟨n40, ln40, r⟩ := rn_steps 2 (93, [some (.ref 540), some (.int b1), some (.int b2), some (.int b3), some (.int b4), some (.int (s1 + s0)), some (.int b6), some (.int b7), x8], [.int (-b7)], aa_H g) rfl r
      exact dn_226_93 (P) (fun n2 l2 => hO0 n2 (by omega)) (fun z hz => hR _ hz) x8 jx8 r
  · obtain ⟨n41, ln41, r⟩ := rn_steps 1 (93, [some (.ref 540), some (.int b1), some (.int b2), some (.int b3), some (.int b4), some (.int (s1 + s0)), some (.int b6), some (.int b7), x8], [.int b7], aa_H g) rfl r
    exact dn_226_93 (P) (fun n2 l2 => hO0 n2 (by omega)) (fun z hz => hR _ hz) x8 jx8 r
noncomputable def fn_226_46 (g : aa_G) (b1 : Int32) (b2 : Int32) (b3 : Int32) (b4 : Int32) (b5 : Int32) (b6 : Int32) (s0 : Int32) : (aa_G × Int32 × Int32 × Int32 × Int32) ⊕ (Int32 × aa_G) := if s0 ≠ (-1) then fn_226_61 g b1 b2 b3 b4 b6 s0 0 b5 else fn_226_61 g b1 b2 b3 b4 b6 s0 1 b5
theorem dn_226_46 {v : Option Value} {h : zz_H} {n : Nat} {g : aa_G} {b1 : Int32} {b2 : Int32} {b3 : Int32} {b4 : Int32} {b5 : Int32} {b6 : Int32} {s0 : Int32} (P : (aa_G × Int32 × Int32 × Int32 × Int32) ⊕ (Int32 × aa_G) → Prop) (hO0 : ∀ n2, n2 < n → ∀ (yg : aa_G) (yb3 : Int32) (yb4 : Int32) (yb5 : Int32) (yb6 : Int32) (yx7 yx8 : Option Value) (_ : rn_jk yx7) (_ : rn_jk yx8), rn_s n2 226 (31, [some (.ref 540), some (.int b1), some (.int b2), some (.int yb3), some (.int yb4), some (.int yb5), some (.int yb6), yx7, yx8], [], aa_H yg) v h → P (.inl (yg, yb3, yb4, yb5, yb6))) (hR : ∀ E, iw_s v h E → P (.inr E))  (x7 x8 : Option Value) (jx7 : rn_jk x7) (jx8 : rn_jk x8) (r : rn_s n 226 (46, [some (.ref 540), some (.int b1), some (.int b2), some (.int b3), some (.int b4), some (.int b5), some (.int b6), x7, x8], [.int s0], aa_H g) v h) : P (fn_226_46 g b1 b2 b3 b4 b5 b6 s0) := by
  unfold fn_226_46
  obtain ⟨n25, ln25, r⟩ := rn_steps 3 (53, [some (.ref 540), some (.int b1), some (.int b2), some (.int b3), some (.int b4), some (.int b5), some (.int b6), some (.int s0), x8], [.int (-1), .int s0, .int b5], aa_H g) rfl r
  refine rn_ic (P) rfl decide_eq_true_iff.symm r (fun c26 l27n l27 r => ?_) (fun c26 l27n l27 r => ?_)
  · obtain ⟨n28, ln28, r⟩ := rn_steps 0 (61, [some (.ref 540), some (.int b1), some (.int b2), some (.int b3), some (.int b4), some (.int b5), some (.int b6), some (.int s0), x8], [.int 0, .int b5], aa_H g) rfl r
    exact dn_226_61 (P) (fun n2 l2 => hO0 n2 (by omega)) (fun z hz => hR _ hz) (some (.int b5)) x8 rn_ji jx8 r
  · obtain ⟨n29, ln29, r⟩ := rn_steps 1 (61, [some (.ref 540), some (.int b1), some (.int b2), some (.int b3), some (.int b4), some (.int b5), some (.int b6), some (.int s0), x8], [.int 1, .int b5], aa_H g) rfl r
    exact dn_226_61 (P) (fun n2 l2 => hO0 n2 (by omega)) (fun z hz => hR _ hz) (some (.int b5)) x8 rn_ji jx8 r
noncomputable def fn_226_31b (g : aa_G) (b1 : Int32) (b2 : Int32) (b3 : Int32) (b4 : Int32) (b5 : Int32) (b6 : Int32) : (aa_G × Int32 × Int32 × Int32 × Int32) ⊕ (Int32 × aa_G) := if 360 ≤ b6 then if b2 ≠ 3 then .inr (b3, g) else .inr (b5, g) else fn_226_46 ((fn_222 g b1 b6).2) b1 b2 b3 b4 b5 b6 ((fn_222 g b1 b6).1)
noncomputable def fn_226_31 (g : aa_G) (b1 : Int32) (b2 : Int32) (b3 : Int32) (b4 : Int32) (b5 : Int32) (b6 : Int32) : Int32 × aa_G := lp_f (0, g) (fun z : (aa_G × Int32 × Int32 × Int32 × Int32) => fn_226_31b z.1 b1 b2 z.2.1 z.2.2.1 z.2.2.2.1 z.2.2.2.2) (g, b3, b4, b5, b6)
theorem dn_226_31l {v : Option Value} {h : zz_H} {N : Nat} {b1 : Int32} {b2 : Int32} {d : Int32 × aa_G} : ∀ (n : Nat), n ≤ N → ∀ (g : aa_G) (b3 : Int32) (b4 : Int32) (b5 : Int32) (b6 : Int32) (x7 x8 : Option Value) (jx7 : rn_jk x7) (jx8 : rn_jk x8), rn_s n 226 (31, [some (.ref 540), some (.int b1), some (.int b2), some (.int b3), some (.int b4), some (.int b5), some (.int b6), x7, x8], [], aa_H g) v h → (iw_s v h) (lp_f d (fun z : (aa_G × Int32 × Int32 × Int32 × Int32) => fn_226_31b z.1 b1 b2 z.2.1 z.2.2.1 z.2.2.2.1 z.2.2.2.2) (g, b3, b4, b5, b6)) := by
  generalize hf : (fun z : (aa_G × Int32 × Int32 × Int32 × Int32) => fn_226_31b z.1 b1 b2 z.2.1 z.2.2.1 z.2.2.2.1 z.2.2.2.2) = f
  intro n
  induction n using Nat.strongRecOn with
  | _ n ih =>
    intro hN g b3 b4 b5 b6 x7 x8 jx7 jx8 r
    refine lp_go ?_
    rw [← congrFun hf (g, b3, b4, b5, b6)]
    show lp_q (iw_s v h) d f (fn_226_31b g b1 b2 b3 b4 b5 b6)
    unfold fn_226_31b
    obtain ⟨n14, ln14, r⟩ := rn_steps 1 (36, [some (.ref 540), some (.int b1), some (.int b2), some (.int b3), some (.int b4), some (.int b5), some (.int b6), x7, x8], [.int 360, .int b6], aa_H g) rfl r
    refine rn_ic (lp_q (iw_s v h) d f) rfl decide_eq_true_iff.symm r (fun c15 l16n l16 r => ?_) (fun c15 l16n l16 r => ?_)
    · obtain ⟨n17, ln17, r⟩ := rn_steps 1 (132, [some (.ref 540), some (.int b1), some (.int b2), some (.int b3), some (.int b4), some (.int b5), some (.int b6), x7, x8], [.int 3, .int b2], aa_H g) rfl r
      refine rn_ic (lp_q (iw_s v h) d f) rfl decide_eq_true_iff.symm r (fun c18 l19n l19 r => ?_) (fun c18 l19n l19 r => ?_)
      · obtain ⟨n20, ln20, r⟩ := rn_steps 0 (141, [some (.ref 540), some (.int b1), some (.int b2), some (.int b3), some (.int b4), some (.int b5), some (.int b6), x7, x8], [.int b3], aa_H g) rfl r
        exact rn_ire rfl r
      · obtain ⟨n21, ln21, r⟩ := rn_steps 1 (141, [some (.ref 540), some (.int b1), some (.int b2), some (.int b3), some (.int b4), some (.int b5), some (.int b6), x7, x8], [.int b5], aa_H g) rfl r
        exact rn_ire rfl r
    · obtain ⟨n22, ln22, r⟩ := rn_steps 2 (43, [some (.ref 540), some (.int b1), some (.int b2), some (.int b3), some (.int b4), some (.int b5), some (.int b6), x7, x8], [.int b6, .int b1, .ref 540], aa_H g) rfl r
      obtain ⟨_, n23, v1, h1, -, ln23, rc, r⟩ := rn_call (m2 := 222) (as := [.ref 540, .int b1, .int b6]) (rest := []) rfl rfl r
      obtain ⟨rfl, rfl⟩ := dn_222 rc
      have r : rn_s _ 226 (46, [some (.ref 540), some (.int b1), some (.int b2), some (.int b3), some (.int b4), some (.int b5), some (.int b6), x7, x8], [.int ((fn_222 g b1 b6).1)], aa_H ((fn_222 g b1 b6).2)) v h := r
      exact dn_226_46 (lp_q (iw_s v h) d f) (fun n2 l2 => ih n2 (by omega) (by omega)) (fun z hz => hz) x7 x8 jx7 jx8 r
theorem dn_226_31 {v : Option Value} {h : zz_H} {n : Nat} {g : aa_G} {b1 : Int32} {b2 : Int32} {b3 : Int32} {b4 : Int32} {b5 : Int32} {b6 : Int32}  (x7 x8 : Option Value) (jx7 : rn_jk x7) (jx8 : rn_jk x8) (r : rn_s n 226 (31, [some (.ref 540), some (.int b1), some (.int b2), some (.int b3), some (.int b4), some (.int b5), some (.int b6), x7, x8], [], aa_H g) v h) : (iw_s v h) (fn_226_31 g b1 b2 b3 b4 b5 b6) := dn_226_31l  n (Nat.le_refl n) g b3 b4 b5 b6 x7 x8 jx7 jx8 r
noncomputable def fn_226 (g : aa_G) (a1 : Int32) (a2 : Int32) : Int32 × aa_G := if (fn_192 g a1) = 0 then (-1, g) else if (fn_154 a2 0 3) ≠ 0 then fn_226_31 g a1 a2 (-2) 0 0 0 else (-1, g)
theorem dn_226 {v : Option Value} {h : zz_H} {n : Nat} {g : aa_G} {a1 : Int32} {a2 : Int32}  (r : rn_s n 226 (0, zz_in [.ref 540, .int a1, .int a2] (zz_nl 226), [], aa_H g) v h) : iw_s v h (fn_226 g a1 a2) := by
  have r : rn_s n 226 (0, [some (.ref 540), some (.int a1), some (.int a2), none, none, none, none, none, none], [], aa_H g) v h := r
  unfold fn_226
  obtain ⟨n1, ln1, r⟩ := rn_steps 1 (2, [some (.ref 540), some (.int a1), some (.int a2), none, none, none, none, none, none], [.int a1, .ref 540], aa_H g) rfl r
  obtain ⟨_, n2, v1, h1, -, ln2, rc, r⟩ := rn_call (m2 := 192) (as := [.ref 540, .int a1]) (rest := []) rfl rfl r
  obtain ⟨rfl, rfl⟩ := dn_192 rc
  have r : rn_s _ 226 (5, [some (.ref 540), some (.int a1), some (.int a2), none, none, none, none, none, none], [.int (fn_192 g a1)], aa_H g) v h := r
  refine rn_if (iw_s v h) rfl decide_eq_true_iff.symm r (fun c4 l5n l5 r => ?_) (fun c4 l5n l5 r => ?_)
  · obtain ⟨n6, ln6, r⟩ := rn_steps 0 (18, [some (.ref 540), some (.int a1), some (.int a2), none, none, none, none, none, none], [.int (-1)], aa_H g) rfl r
    exact rn_ire rfl r
  · obtain ⟨n7, ln7, r⟩ := rn_steps 2 (11, [some (.ref 540), some (.int a1), some (.int a2), none, none, none, none, none, none], [.int 3, .int 0, .int a2], aa_H g) rfl r
    obtain ⟨_, n8, v1, h1, -, ln8, rc, r⟩ := rn_call (m2 := 154) (as := [.int a2, .int 0, .int 3]) (rest := []) rfl rfl r
    obtain ⟨rfl, rfl⟩ := dn_154 rc
    have r : rn_s _ 226 (14, [some (.ref 540), some (.int a1), some (.int a2), none, none, none, none, none, none], [.int (fn_154 a2 0 3)], aa_H g) v h := r
    refine rn_if (iw_s v h) rfl decide_eq_true_iff.symm r (fun c10 l11n l11 r => ?_) (fun c10 l11n l11 r => ?_)
    · obtain ⟨n12, ln12, r⟩ := rn_steps 7 (31, [some (.ref 540), some (.int a1), some (.int a2), some (.int (-2)), some (.int 0), some (.int 0), some (.int 0), none, none], [], aa_H g) rfl r
      exact dn_226_31 none none rn_jn rn_jn r
    · obtain ⟨n13, ln13, r⟩ := rn_steps 0 (18, [some (.ref 540), some (.int a1), some (.int a2), none, none, none, none, none, none], [.int (-1)], aa_H g) rfl r
      exact rn_ire rfl r
-- 228: UnequalHoursModel meet
noncomputable def fn_228_254 (g : aa_G) (b1 : Int32) (b3 : Int32) (b4 : Int32) (b5 : Int32) (b6 : Int32) (b7 : Int32) (b8 : Int32) (b9 : Int32) (b10 : Int32) : (aa_G × Int32 × Int32 × Int32) ⊕ (Int32 × aa_G) := .inl (g, b8, b9, b10 + 1)
theorem dn_228_254 {v : Option Value} {h : zz_H} {n : Nat} {g : aa_G} {b1 : Int32} {b3 : Int32} {b4 : Int32} {b5 : Int32} {b6 : Int32} {b7 : Int32} {b8 : Int32} {b9 : Int32} {b10 : Int32} (P : (aa_G × Int32 × Int32 × Int32) ⊕ (Int32 × aa_G) → Prop) (hO0 : ∀ n2, n2 < n → ∀ (yg : aa_G) (yb8 : Int32) (yb9 : Int32) (yb10 : Int32) (yx2 yx11 yx12 yx13 : Option Value) (_ : rn_jk yx2) (_ : rn_jk yx11) (_ : rn_jk yx12) (_ : rn_jk yx13), rn_s n2 228 (115, [some (.ref 540), some (.int b1), yx2, some (.int b3), some (.int b4), some (.int b5), some (.int b6), some (.int b7), some (.int yb8), some (.int yb9), some (.int yb10), yx11, yx12, yx13], [], aa_H yg) v h → P (.inl (yg, yb8, yb9, yb10))) (hR : ∀ E, iw_s v h E → P (.inr E))  (x2 x11 x12 x13 : Option Value) (jx2 : rn_jk x2) (jx11 : rn_jk x11) (jx12 : rn_jk x12) (jx13 : rn_jk x13) (r : rn_s n 228 (254, [some (.ref 540), some (.int b1), x2, some (.int b3), some (.int b4), some (.int b5), some (.int b6), some (.int b7), some (.int b8), some (.int b9), some (.int b10), x11, x12, x13], [], aa_H g) v h) : P (fn_228_254 g b1 b3 b4 b5 b6 b7 b8 b9 b10) := by
  unfold fn_228_254
  obtain ⟨n84, ln84, r⟩ := rn_steps 1 (115, [some (.ref 540), some (.int b1), x2, some (.int b3), some (.int b4), some (.int b5), some (.int b6), some (.int b7), some (.int b8), some (.int b9), some (.int (b10 + 1)), x11, x12, x13], [], aa_H g) rfl r
  exact hO0 _ (by omega) g b8 b9 (b10 + 1) x2 x11 x12 x13 jx2 jx11 jx12 jx13 r
noncomputable def fn_228_243 (g : aa_G) (b1 : Int32) (b3 : Int32) (b4 : Int32) (b5 : Int32) (b6 : Int32) (b7 : Int32) (b10 : Int32) (b12 : Int32) (b13 : Int32) : (aa_G × Int32 × Int32 × Int32) ⊕ (Int32 × aa_G) := fn_228_254 g b1 b3 b4 b5 b6 b7 b12 (b13 - b12) b10
theorem dn_228_243 {v : Option Value} {h : zz_H} {n : Nat} {g : aa_G} {b1 : Int32} {b3 : Int32} {b4 : Int32} {b5 : Int32} {b6 : Int32} {b7 : Int32} {b10 : Int32} {b12 : Int32} {b13 : Int32} (P : (aa_G × Int32 × Int32 × Int32) ⊕ (Int32 × aa_G) → Prop) (hO0 : ∀ n2, n2 < n → ∀ (yg : aa_G) (yb8 : Int32) (yb9 : Int32) (yb10 : Int32) (yx2 yx11 yx12 yx13 : Option Value) (_ : rn_jk yx2) (_ : rn_jk yx11) (_ : rn_jk yx12) (_ : rn_jk yx13), rn_s n2 228 (115, [some (.ref 540), some (.int b1), yx2, some (.int b3), some (.int b4), some (.int b5), some (.int b6), some (.int b7), some (.int yb8), some (.int yb9), some (.int yb10), yx11, yx12, yx13], [], aa_H yg) v h → P (.inl (yg, yb8, yb9, yb10))) (hR : ∀ E, iw_s v h E → P (.inr E))  (x2 x8 x9 x11 : Option Value) (jx2 : rn_jk x2) (jx8 : rn_jk x8) (jx9 : rn_jk x9) (jx11 : rn_jk x11) (r : rn_s n 228 (243, [some (.ref 540), some (.int b1), x2, some (.int b3), some (.int b4), some (.int b5), some (.int b6), some (.int b7), x8, x9, some (.int b10), x11, some (.int b12), some (.int b13)], [], aa_H g) v h) : P (fn_228_243 g b1 b3 b4 b5 b6 b7 b10 b12 b13) := by
  unfold fn_228_243
  obtain ⟨n95, ln95, r⟩ := rn_steps 5 (254, [some (.ref 540), some (.int b1), x2, some (.int b3), some (.int b4), some (.int b5), some (.int b6), some (.int b7), some (.int b12), some (.int (b13 - b12)), some (.int b10), x11, some (.int b12), some (.int b13)], [], aa_H g) rfl r
  exact dn_228_254 (P) (fun n2 l2 => hO0 n2 (by omega)) (fun z hz => hR _ hz) x2 x11 (some (.int b12)) (some (.int b13)) jx2 jx11 rn_ji rn_ji r
noncomputable def fn_228_216 (g : aa_G) (b1 : Int32) (b3 : Int32) (b4 : Int32) (b5 : Int32) (b6 : Int32) (b7 : Int32) (b8 : Int32) (b9 : Int32) (b10 : Int32) (b12 : Int32) (s0 : Int32) : (aa_G × Int32 × Int32 × Int32) ⊕ (Int32 × aa_G) := if s0 ≤ b12 then fn_228_254 g b1 b3 b4 b5 b6 b7 b8 b9 b10 else if b8 = (-1000000) then fn_228_243 g b1 b3 b4 b5 b6 b7 b10 b12 s0 else if b12 < b8 then fn_228_243 g b1 b3 b4 b5 b6 b7 b10 b12 s0 else fn_228_254 g b1 b3 b4 b5 b6 b7 b8 b9 b10
theorem dn_228_216 {v : Option Value} {h : zz_H} {n : Nat} {g : aa_G} {b1 : Int32} {b3 : Int32} {b4 : Int32} {b5 : Int32} {b6 : Int32} {b7 : Int32} {b8 : Int32} {b9 : Int32} {b10 : Int32} {b12 : Int32} {s0 : Int32} (P : (aa_G × Int32 × Int32 × Int32) ⊕ (Int32 × aa_G) → Prop) (hO0 : ∀ n2, n2 < n → ∀ (yg : aa_G) (yb8 : Int32) (yb9 : Int32) (yb10 : Int32) (yx2 yx11 yx12 yx13 : Option Value) (_ : rn_jk yx2) (_ : rn_jk yx11) (_ : rn_jk yx12) (_ : rn_jk yx13), rn_s n2 228 (115, [some (.ref 540), some (.int b1), yx2, some (.int b3), some (.int b4), some (.int b5), some (.int b6), some (.int b7), some (.int yb8), some (.int yb9), some (.int yb10), yx11, yx12, yx13], [], aa_H yg) v h → P (.inl (yg, yb8, yb9, yb10))) (hR : ∀ E, iw_s v h E → P (.inr E))  (x2 x11 x13 : Option Value) (jx2 : rn_jk x2) (jx11 : rn_jk x11) (jx13 : rn_jk x13) (r : rn_s n 228 (216, [some (.ref 540), some (.int b1), x2, some (.int b3), some (.int b4), some (.int b5), some (.int b6), some (.int b7), some (.int b8), some (.int b9), some (.int b10), x11, some (.int b12), x13], [.int s0], aa_H g) v h) : P (fn_228_216 g b1 b3 b4 b5 b6 b7 b8 b9 b10 b12 s0) := by
  unfold fn_228_216
  obtain ⟨n85, ln85, r⟩ := rn_steps 2 (222, [some (.ref 540), some (.int b1), x2, some (.int b3), some (.int b4), some (.int b5), some (.int b6), some (.int b7), some (.int b8), some (.int b9), some (.int b10), x11, some (.int b12), some (.int s0)], [.int s0, .int b12], aa_H g) rfl r
  refine rn_ic (P) rfl decide_eq_true_iff.symm r (fun c86 l87n l87 r => ?_) (fun c86 l87n l87 r => ?_)
  · exact dn_228_254 (P) (fun n2 l2 => hO0 n2 (by omega)) (fun z hz => hR _ hz) x2 x11 (some (.int b12)) (some (.int s0)) jx2 jx11 rn_ji rn_ji r
  · obtain ⟨n88, ln88, r⟩ := rn_steps 1 (230, [some (.ref 540), some (.int b1), x2, some (.int b3), some (.int b4), some (.int b5), some (.int b6), some (.int b7), some (.int b8), some (.int b9), some (.int b10), x11, some (.int b12), some (.int s0)], [.int (-1000000), .int b8], aa_H g) rfl r
    refine rn_ic (P) rfl decide_eq_true_iff.symm r (fun c89 l90n l90 r => ?_) (fun c89 l90n l90 r => ?_)
    · exact dn_228_243 (P) (fun n2 l2 => hO0 n2 (by omega)) (fun z hz => hR _ hz) x2 (some (.int b8)) (some (.int b9)) x11 jx2 rn_ji rn_ji jx11 r
    · obtain ⟨n91, ln91, r⟩ := rn_steps 1 (237, [some (.ref 540), some (.int b1), x2, some (.int b3), some (.int b4), some (.int b5), some (.int b6), some (.int b7), some (.int b8), some (.int b9), some (.int b10), x11, some (.int b12), some (.int s0)], [.int b8, .int b12], aa_H g) rfl r
      refine rn_ic (P) rfl decide_eq_true_iff.symm r (fun c92 l93n l93 r => ?_) (fun c92 l93n l93 r => ?_)
      · exact dn_228_243 (P) (fun n2 l2 => hO0 n2 (by omega)) (fun z hz => hR _ hz) x2 (some (.int b8)) (some (.int b9)) x11 jx2 rn_ji rn_ji jx11 r
      · obtain ⟨n94, ln94, r⟩ := rn_steps 0 (254, [some (.ref 540), some (.int b1), x2, some (.int b3), some (.int b4), some (.int b5), some (.int b6), some (.int b7), some (.int b8), some (.int b9), some (.int b10), x11, some (.int b12), some (.int s0)], [], aa_H g) rfl r
        exact dn_228_254 (P) (fun n2 l2 => hO0 n2 (by omega)) (fun z hz => hR _ hz) x2 x11 (some (.int b12)) (some (.int s0)) jx2 jx11 rn_ji rn_ji r
noncomputable def fn_228_190 (g : aa_G) (b1 : Int32) (b3 : Int32) (b4 : Int32) (b5 : Int32) (b6 : Int32) (b7 : Int32) (b8 : Int32) (b9 : Int32) (b10 : Int32) (b11 : Int32) (s0 : Int32) : (aa_G × Int32 × Int32 × Int32) ⊕ (Int32 × aa_G) := if b7 ≤ ((g 540 30) + b11) then fn_228_216 g b1 b3 b4 b5 b6 b7 b8 b9 b10 s0 b7 else fn_228_216 g b1 b3 b4 b5 b6 b7 b8 b9 b10 s0 ((g 540 30) + b11)
theorem dn_228_190 {v : Option Value} {h : zz_H} {n : Nat} {g : aa_G} {b1 : Int32} {b3 : Int32} {b4 : Int32} {b5 : Int32} {b6 : Int32} {b7 : Int32} {b8 : Int32} {b9 : Int32} {b10 : Int32} {b11 : Int32} {s0 : Int32} (P : (aa_G × Int32 × Int32 × Int32) ⊕ (Int32 × aa_G) → Prop) (hO0 : ∀ n2, n2 < n → ∀ (yg : aa_G) (yb8 : Int32) (yb9 : Int32) (yb10 : Int32) (yx2 yx11 yx12 yx13 : Option Value) (_ : rn_jk yx2) (_ : rn_jk yx11) (_ : rn_jk yx12) (_ : rn_jk yx13), rn_s n2 228 (115, [some (.ref 540), some (.int b1), yx2, some (.int b3), some (.int b4), some (.int b5), some (.int b6), some (.int b7), some (.int yb8), some (.int yb9), some (.int yb10), yx11, yx12, yx13], [], aa_H yg) v h → P (.inl (yg, yb8, yb9, yb10))) (hR : ∀ E, iw_s v h E → P (.inr E))  (x2 x12 x13 : Option Value) (jx2 : rn_jk x2) (jx12 : rn_jk x12) (jx13 : rn_jk x13) (r : rn_s n 228 (190, [some (.ref 540), some (.int b1), x2, some (.int b3), some (.int b4), some (.int b5), some (.int b6), some (.int b7), some (.int b8), some (.int b9), some (.int b10), some (.int b11), x12, x13], [.int s0], aa_H g) v h) : P (fn_228_190 g b1 b3 b4 b5 b6 b7 b8 b9 b10 b11 s0) := by
  unfold fn_228_190
  obtain ⟨n79, ln79, r⟩ := rn_steps 5 (201, [some (.ref 540), some (.int b1), x2, some (.int b3), some (.int b4), some (.int b5), some (.int b6), some (.int b7), some (.int b8), some (.int b9), some (.int b10), some (.int b11), some (.int s0), x13], [.int b7, .int ((g 540 30) + b11)], aa_H g) rfl r
  refine rn_ic (P) rfl decide_eq_true_iff.symm r (fun c80 l81n l81 r => ?_) (fun c80 l81n l81 r => ?_)
  · obtain ⟨n82, ln82, r⟩ := rn_steps 0 (216, [some (.ref 540), some (.int b1), x2, some (.int b3), some (.int b4), some (.int b5), some (.int b6), some (.int b7), some (.int b8), some (.int b9), some (.int b10), some (.int b11), some (.int s0), x13], [.int b7], aa_H g) rfl r
    exact dn_228_216 (P) (fun n2 l2 => hO0 n2 (by omega)) (fun z hz => hR _ hz) x2 (some (.int b11)) x13 jx2 rn_ji jx13 r
  · obtain ⟨n83, ln83, r⟩ := rn_steps 4 (216, [some (.ref 540), some (.int b1), x2, some (.int b3), some (.int b4), some (.int b5), some (.int b6), some (.int b7), some (.int b8), some (.int b9), some (.int b10), some (.int b11), some (.int s0), x13], [.int ((g 540 30) + b11)], aa_H g) rfl r
    exact dn_228_216 (P) (fun n2 l2 => hO0 n2 (by omega)) (fun z hz => hR _ hz) x2 (some (.int b11)) x13 jx2 rn_ji jx13 r
noncomputable def fn_228_134 (g : aa_G) (b1 : Int32) (b3 : Int32) (b4 : Int32) (b5 : Int32) (b6 : Int32) (b7 : Int32) (b8 : Int32) (b9 : Int32) (b10 : Int32) (s0 : Int32) : (aa_G × Int32 × Int32 × Int32) ⊕ (Int32 × aa_G) := if s0 ≠ 0 then if ((g 540 29) + ((((b10 - b4) * 86400) - (fn_209 g (b1 - b1 / 4 * 4))) + (fn_209 g (b1 / 4)))) ≤ b6 then fn_228_190 g b1 b3 b4 b5 b6 b7 b8 b9 b10 ((((b10 - b4) * 86400) - (fn_209 g (b1 - b1 / 4 * 4))) + (fn_209 g (b1 / 4))) b6 else fn_228_190 g b1 b3 b4 b5 b6 b7 b8 b9 b10 ((((b10 - b4) * 86400) - (fn_209 g (b1 - b1 / 4 * 4))) + (fn_209 g (b1 / 4))) ((g 540 29) + ((((b10 - b4) * 86400) - (fn_209 g (b1 - b1 / 4 * 4))) + (fn_209 g (b1 / 4)))) else fn_228_254 g b1 b3 b4 b5 b6 b7 b8 b9 b10
theorem dn_228_134 {v : Option Value} {h : zz_H} {n : Nat} {g : aa_G} {b1 : Int32} {b3 : Int32} {b4 : Int32} {b5 : Int32} {b6 : Int32} {b7 : Int32} {b8 : Int32} {b9 : Int32} {b10 : Int32} {s0 : Int32} (P : (aa_G × Int32 × Int32 × Int32) ⊕ (Int32 × aa_G) → Prop) (hO0 : ∀ n2, n2 < n → ∀ (yg : aa_G) (yb8 : Int32) (yb9 : Int32) (yb10 : Int32) (yx2 yx11 yx12 yx13 : Option Value) (_ : rn_jk yx2) (_ : rn_jk yx11) (_ : rn_jk yx12) (_ : rn_jk yx13), rn_s n2 228 (115, [some (.ref 540), some (.int b1), yx2, some (.int b3), some (.int b4), some (.int b5), some (.int b6), some (.int b7), some (.int yb8), some (.int yb9), some (.int yb10), yx11, yx12, yx13], [], aa_H yg) v h → P (.inl (yg, yb8, yb9, yb10))) (hR : ∀ E, iw_s v h E → P (.inr E))  (x2 x11 x12 x13 : Option Value) (jx2 : rn_jk x2) (jx11 : rn_jk x11) (jx12 : rn_jk x12) (jx13 : rn_jk x13) (r : rn_s n 228 (134, [some (.ref 540), some (.int b1), x2, some (.int b3), some (.int b4), some (.int b5), some (.int b6), some (.int b7), some (.int b8), some (.int b9), some (.int b10), x11, x12, x13], [.int s0], aa_H g) v h) : P (fn_228_134 g b1 b3 b4 b5 b6 b7 b8 b9 b10 s0) := by
  unfold fn_228_134
  refine rn_if (P) rfl decide_eq_true_iff.symm r (fun c65 l66n l66 r => ?_) (fun c65 l66n l66 r => ?_)
  · obtain ⟨n67, ln67, r⟩ := rn_steps 8 (152, [some (.ref 540), some (.int b1), x2, some (.int b3), some (.int b4), some (.int b5), some (.int b6), some (.int b7), some (.int b8), some (.int b9), some (.int b10), x11, x12, x13], [.int (b1 - b1 / 4 * 4), .ref 540, .int ((b10 - b4) * 86400)], aa_H g) rfl r
    obtain ⟨_, n68, v1, h1, -, ln68, rc, r⟩ := rn_call (m2 := 209) (as := [.ref 540, .int (b1 - b1 / 4 * 4)]) (rest := [.int ((b10 - b4) * 86400)]) rfl rfl r
    obtain ⟨rfl, rfl⟩ := dn_209 rc
    have r : rn_s _ 228 (155, [some (.ref 540), some (.int b1), x2, some (.int b3), some (.int b4), some (.int b5), some (.int b6), some (.int b7), some (.int b8), some (.int b9), some (.int b10), x11, x12, x13], [.int (fn_209 g (b1 - b1 / 4 * 4)), .int ((b10 - b4) * 86400)], aa_H g) v h := r
    obtain ⟨n70, ln70, r⟩ := rn_steps 4 (160, [some (.ref 540), some (.int b1), x2, some (.int b3), some (.int b4), some (.int b5), some (.int b6), some (.int b7), some (.int b8), some (.int b9), some (.int b10), x11, x12, x13], [.int (b1 / 4), .ref 540, .int (((b10 - b4) * 86400) - (fn_209 g (b1 - b1 / 4 * 4)))], aa_H g) rfl r
    obtain ⟨_, n71, v1, h1, -, ln71, rc, r⟩ := rn_call (m2 := 209) (as := [.ref 540, .int (b1 / 4)]) (rest := [.int (((b10 - b4) * 86400) - (fn_209 g (b1 - b1 / 4 * 4)))]) rfl rfl r
    obtain ⟨rfl, rfl⟩ := dn_209 rc
    have r : rn_s _ 228 (163, [some (.ref 540), some (.int b1), x2, some (.int b3), some (.int b4), some (.int b5), some (.int b6), some (.int b7), some (.int b8), some (.int b9), some (.int b10), x11, x12, x13], [.int (fn_209 g (b1 / 4)), .int (((b10 - b4) * 86400) - (fn_209 g (b1 - b1 / 4 * 4)))], aa_H g) v h := r
    obtain ⟨n73, ln73, r⟩ := rn_steps 6 (175, [some (.ref 540), some (.int b1), x2, some (.int b3), some (.int b4), some (.int b5), some (.int b6), some (.int b7), some (.int b8), some (.int b9), some (.int b10), some (.int ((((b10 - b4) * 86400) - (fn_209 g (b1 - b1 / 4 * 4))) + (fn_209 g (b1 / 4)))), x12, x13], [.int b6, .int ((g 540 29) + ((((b10 - b4) * 86400) - (fn_209 g (b1 - b1 / 4 * 4))) + (fn_209 g (b1 / 4))))], aa_H g) rfl r
    refine rn_ic (P) rfl decide_eq_true_iff.symm r (fun c74 l75n l75 r => ?_) (fun c74 l75n l75 r => ?_)
    · obtain ⟨n76, ln76, r⟩ := rn_steps 0 (190, [some (.ref 540), some (.int b1), x2, some (.int b3), some (.int b4), some (.int b5), some (.int b6), some (.int b7), some (.int b8), some (.int b9), some (.int b10), some (.int ((((b10 - b4) * 86400) - (fn_209 g (b1 - b1 / 4 * 4))) + (fn_209 g (b1 / 4)))), x12, x13], [.int b6], aa_H g) rfl r
      exact dn_228_190 (P) (fun n2 l2 => hO0 n2 (by omega)) (fun z hz => hR _ hz) x2 x12 x13 jx2 jx12 jx13 r
    · obtain ⟨n77, ln77, r⟩ := rn_steps 4 (190, [some (.ref 540), some (.int b1), x2, some (.int b3), some (.int b4), some (.int b5), some (.int b6), some (.int b7), some (.int b8), some (.int b9), some (.int b10), some (.int ((((b10 - b4) * 86400) - (fn_209 g (b1 - b1 / 4 * 4))) + (fn_209 g (b1 / 4)))), x12, x13], [.int ((g 540 29) + ((((b10 - b4) * 86400) - (fn_209 g (b1 - b1 / 4 * 4))) + (fn_209 g (b1 / 4))))], aa_H g) rfl r
      exact dn_228_190 (P) (fun n2 l2 => hO0 n2 (by omega)) (fun z hz => hR _ hz) x2 x12 x13 jx2 jx12 jx13 r
  · obtain ⟨n78, ln78, r⟩ := rn_steps 0 (254, [some (.ref 540), some (.int b1), x2, some (.int b3), some (.int b4), some (.int b5), some (.int b6), some (.int b7), some (.int b8), some (.int b9), some (.int b10), x11, x12, x13], [], aa_H g) rfl r
    exact dn_228_254 (P) (fun n2 l2 => hO0 n2 (by omega)) (fun z hz => hR _ hz) x2 x11 x12 x13 jx2 jx11 jx12 jx13 r
noncomputable def fn_228_115b (g : aa_G) (b1 : Int32) (b3 : Int32) (b4 : Int32) (b5 : Int32) (b6 : Int32) (b7 : Int32) (b8 : Int32) (b9 : Int32) (b10 : Int32) : (aa_G × Int32 × Int32 × Int32) ⊕ (Int32 × aa_G) := if (b4 + 4) < b10 then if b5 = 0 then .inr (b8, g) else if b8 ≠ (-1000000) then .inr (b9, g) else .inr (b8, g) else fn_228_134 ((fn_229 g (b1 - b1 / 4 * 4) b10 b3).2) b1 b3 b4 b5 b6 b7 b8 b9 b10 ((fn_229 g (b1 - b1 / 4 * 4) b10 b3).1)
noncomputable def fn_228_115 (g : aa_G) (b1 : Int32) (b3 : Int32) (b4 : Int32) (b5 : Int32) (b6 : Int32) (b7 : Int32) (b8 : Int32) (b9 : Int32) (b10 : Int32) : Int32 × aa_G := lp_f (0, g) (fun z : (aa_G × Int32 × Int32 × Int32) => fn_228_115b z.1 b1 b3 b4 b5 b6 b7 z.2.1 z.2.2.1 z.2.2.2) (g, b8, b9, b10)
theorem dn_228_115l {v : Option Value} {h : zz_H} {N : Nat} {b1 : Int32} {b3 : Int32} {b4 : Int32} {b5 : Int32} {b6 : Int32} {b7 : Int32} {d : Int32 × aa_G} : ∀ (n : Nat), n ≤ N → ∀ (g : aa_G) (b8 : Int32) (b9 : Int32) (b10 : Int32) (x2 x11 x12 x13 : Option Value) (jx2 : rn_jk x2) (jx11 : rn_jk x11) (jx12 : rn_jk x12) (jx13 : rn_jk x13), rn_s n 228 (115, [some (.ref 540), some (.int b1), x2, some (.int b3), some (.int b4), some (.int b5), some (.int b6), some (.int b7), some (.int b8), some (.int b9), some (.int b10), x11, x12, x13], [], aa_H g) v h → (iw_s v h) (lp_f d (fun z : (aa_G × Int32 × Int32 × Int32) => fn_228_115b z.1 b1 b3 b4 b5 b6 b7 z.2.1 z.2.2.1 z.2.2.2) (g, b8, b9, b10)) := by
  generalize hf : (fun z : (aa_G × Int32 × Int32 × Int32) => fn_228_115b z.1 b1 b3 b4 b5 b6 b7 z.2.1 z.2.2.1 z.2.2.2) = f
  intro n
  induction n using Nat.strongRecOn with
  | _ n ih =>
    intro hN g b8 b9 b10 x2 x11 x12 x13 jx2 jx11 jx12 jx13 r
    refine lp_go ?_
    rw [← congrFun hf (g, b8, b9, b10)]
    show lp_q (iw_s v h) d f (fn_228_115b g b1 b3 b4 b5 b6 b7 b8 b9 b10)
    unfold fn_228_115b
    obtain ⟨n50, ln50, r⟩ := rn_steps 3 (121, [some (.ref 540), some (.int b1), x2, some (.int b3), some (.int b4), some (.int b5), some (.int b6), some (.int b7), some (.int b8), some (.int b9), some (.int b10), x11, x12, x13], [.int (b4 + 4), .int b10], aa_H g) rfl r
    refine rn_ic (lp_q (iw_s v h) d f) rfl decide_eq_true_iff.symm r (fun c51 l52n l52 r => ?_) (fun c51 l52n l52 r => ?_)
    · obtain ⟨n53, ln53, r⟩ := rn_steps 0 (262, [some (.ref 540), some (.int b1), x2, some (.int b3), some (.int b4), some (.int b5), some (.int b6), some (.int b7), some (.int b8), some (.int b9), some (.int b10), x11, x12, x13], [.int b5], aa_H g) rfl r
      refine rn_if (lp_q (iw_s v h) d f) rfl decide_eq_true_iff.symm r (fun c54 l55n l55 r => ?_) (fun c54 l55n l55 r => ?_)
      · obtain ⟨n56, ln56, r⟩ := rn_steps 1 (280, [some (.ref 540), some (.int b1), x2, some (.int b3), some (.int b4), some (.int b5), some (.int b6), some (.int b7), some (.int b8), some (.int b9), some (.int b10), x11, x12, x13], [.int b8], aa_H g) rfl r
        exact rn_ire rfl r
      · obtain ⟨n57, ln57, r⟩ := rn_steps 1 (270, [some (.ref 540), some (.int b1), x2, some (.int b3), some (.int b4), some (.int b5), some (.int b6), some (.int b7), some (.int b8), some (.int b9), some (.int b10), x11, x12, x13], [.int (-1000000), .int b8], aa_H g) rfl r
        refine rn_ic (lp_q (iw_s v h) d f) rfl decide_eq_true_iff.symm r (fun c58 l59n l59 r => ?_) (fun c58 l59n l59 r => ?_)
        · obtain ⟨n60, ln60, r⟩ := rn_steps 0 (280, [some (.ref 540), some (.int b1), x2, some (.int b3), some (.int b4), some (.int b5), some (.int b6), some (.int b7), some (.int b8), some (.int b9), some (.int b10), x11, x12, x13], [.int b9], aa_H g) rfl r
          exact rn_ire rfl r
        · obtain ⟨n61, ln61, r⟩ := rn_steps 1 (280, [some (.ref 540), some (.int b1), x2, some (.int b3), some (.int b4), some (.int b5), some (.int b6), some (.int b7), some (.int b8), some (.int b9), some (.int b10), x11, x12, x13], [.int b8], aa_H g) rfl r
          exact rn_ire rfl r
    · obtain ⟨n62, ln62, r⟩ := rn_steps 5 (131, [some (.ref 540), some (.int b1), x2, some (.int b3), some (.int b4), some (.int b5), some (.int b6), some (.int b7), some (.int b8), some (.int b9), some (.int b10), x11, x12, x13], [.int b3, .int b10, .int (b1 - b1 / 4 * 4), .ref 540], aa_H g) rfl r
      obtain ⟨_, n63, v1, h1, -, ln63, rc, r⟩ := rn_call (m2 := 229) (as := [.ref 540, .int (b1 - b1 / 4 * 4), .int b10, .int b3]) (rest := []) rfl rfl r
      obtain ⟨rfl, rfl⟩ := dn_229 rc
      have r : rn_s _ 228 (134, [some (.ref 540), some (.int b1), x2, some (.int b3), some (.int b4), some (.int b5), some (.int b6), some (.int b7), some (.int b8), some (.int b9), some (.int b10), x11, x12, x13], [.int ((fn_229 g (b1 - b1 / 4 * 4) b10 b3).1)], aa_H ((fn_229 g (b1 - b1 / 4 * 4) b10 b3).2)) v h := r
      exact dn_228_134 (lp_q (iw_s v h) d f) (fun n2 l2 => ih n2 (by omega) (by omega)) (fun z hz => hz) x2 x11 x12 x13 jx2 jx11 jx12 jx13 r
theorem dn_228_115 {v : Option Value} {h : zz_H} {n : Nat} {g : aa_G} {b1 : Int32} {b3 : Int32} {b4 : Int32} {b5 : Int32} {b6 : Int32} {b7 : Int32} {b8 : Int32} {b9 : Int32} {b10 : Int32}  (x2 x11 x12 x13 : Option Value) (jx2 : rn_jk x2) (jx11 : rn_jk x11) (jx12 : rn_jk x12) (jx13 : rn_jk x13) (r : rn_s n 228 (115, [some (.ref 540), some (.int b1), x2, some (.int b3), some (.int b4), some (.int b5), some (.int b6), some (.int b7), some (.int b8), some (.int b9), some (.int b10), x11, x12, x13], [], aa_H g) v h) : (iw_s v h) (fn_228_115 g b1 b3 b4 b5 b6 b7 b8 b9 b10) := dn_228_115l  n (Nat.le_refl n) g b8 b9 b10 x2 x11 x12 x13 jx2 jx11 jx12 jx13 r
noncomputable def fn_228_82 (g : aa_G) (b1 : Int32) (b3 : Int32) (b4 : Int32) (b5 : Int32) (s0 : Int32) : Int32 × aa_G := if s0 ≠ 0 then fn_228_115 g b1 b3 b4 b5 (g 540 29) (g 540 30) (-1000000) 0 (b4 - 4) else (-1000000, g)
theorem dn_228_82 {v : Option Value} {h : zz_H} {n : Nat} {g : aa_G} {b1 : Int32} {b3 : Int32} {b4 : Int32} {b5 : Int32} {s0 : Int32}  (x2 x6 x7 x8 x9 x10 x11 x12 x13 : Option Value) (jx2 : rn_jk x2) (jx6 : rn_jk x6) (jx7 : rn_jk x7) (jx8 : rn_jk x8) (jx9 : rn_jk x9) (jx10 : rn_jk x10) (jx11 : rn_jk x11) (jx12 : rn_jk x12) (jx13 : rn_jk x13) (r : rn_s n 228 (82, [some (.ref 540), some (.int b1), x2, some (.int b3), some (.int b4), some (.int b5), x6, x7, x8, x9, x10, x11, x12, x13], [.int s0], aa_H g) v h) : iw_s v h (fn_228_82 g b1 b3 b4 b5 s0) := by
  unfold fn_228_82
  refine rn_if (iw_s v h) rfl decide_eq_true_iff.symm r (fun c46 l47n l47 r => ?_) (fun c46 l47n l47 r => ?_)
  · obtain ⟨n48, ln48, r⟩ := rn_steps 13 (115, [some (.ref 540), some (.int b1), x2, some (.int b3), some (.int b4), some (.int b5), some (.int (g 540 29)), some (.int (g 540 30)), some (.int (-1000000)), some (.int 0), some (.int (b4 - 4)), x11, x12, x13], [], aa_H g) rfl r
    exact dn_228_115 x2 x11 x12 x13 jx2 jx11 jx12 jx13 r
  · obtain ⟨n49, ln49, r⟩ := rn_steps 0 (88, [some (.ref 540), some (.int b1), x2, some (.int b3), some (.int b4), some (.int b5), x6, x7, x8, x9, x10, x11, x12, x13], [.int (-1000000)], aa_H g) rfl r
    exact rn_ire rfl r
noncomputable def fn_228 (g : aa_G) (a1 : Int32) (a2 : Int32) (a3 : Int32) (a4 : Int32) (a5 : Int32) : Int32 × aa_G := if (fn_154 a1 0 15) = 0 then (-1000000, g) else if (fn_192 g (a1 / 4)) = 0 then (-1000000, g) else if (fn_192 g (a1 - a1 / 4 * 4)) = 0 then (-1000000, g) else if (fn_154 a2 0 23) = 0 then (-1000000, g) else if (fn_154 a3 0 23) = 0 then (-1000000, g) else if (fn_193 a4) = 0 then (-1000000, g) else if (fn_154 a5 0 1) ≠ 0 then fn_228_82 ((fn_229 g (a1 / 4) a4 a2).2) a1 a3 a4 a5 ((fn_229 g (a1 / 4) a4 a2).1) else (-1000000, g)
theorem dn_228 {v : Option Value} {h : zz_H} {n : Nat} {g : aa_G} {a1 : Int32} {a2 : Int32} {a3 : Int32} {a4 : Int32} {a5 : Int32}  (r : rn_s n 228 (0, zz_in [.ref 540, .int a1, .int a2, .int a3, .int a4, .int a5] (zz_nl 228), [], aa_H g) v h) : iw_s v h (fn_228 g a1 a2 a3 a4 a5) := by
  have r : rn_s n 228 (0, [some (.ref 540), some (.int a1), some (.int a2), some (.int a3), some (.int a4), some (.int a5), none, none, none, none, none, none, none, none], [], aa_H g) v h := r
  unfold fn_228
  obtain ⟨n1, ln1, r⟩ := rn_steps 2 (4, [some (.ref 540), some (.int a1), some (.int a2), some (.int a3), some (.int a4), some (.int a5), none, none, none, none, none, none, none, none], [.int 15, .int 0, .int a1], aa_H g) rfl r
  obtain ⟨_, n2, v1, h1, -, ln2, rc, r⟩ := rn_call (m2 := 154) (as := [.int a1, .int 0, .int 15]) (rest := []) rfl rfl r
  obtain ⟨rfl, rfl⟩ := dn_154 rc
  have r : rn_s _ 228 (7, [some (.ref 540), some (.int a1), some (.int a2), some (.int a3), some (.int a4), some (.int a5), none, none, none, none, none, none, none, none], [.int (fn_154 a1 0 15)], aa_H g) v h := r
  refine rn_if (iw_s v h) rfl decide_eq_true_iff.symm r (fun c4 l5n l5 r => ?_) (fun c4 l5n l5 r => ?_)
  · obtain ⟨n6, ln6, r⟩ := rn_steps 0 (71, [some (.ref 540), some (.int a1), some (.int a2), some (.int a3), some (.int a4), some (.int a5), none, none, none, none, none, none, none, none], [.int (-1000000)], aa_H g) rfl r
    exact rn_ire rfl r
  · obtain ⟨n7, ln7, r⟩ := rn_steps 3 (14, [some (.ref 540), some (.int a1), some (.int a2), some (.int a3), some (.int a4), some (.int a5), none, none, none, none, none, none, none, none], [.int (a1 / 4), .ref 540], aa_H g) rfl r
    obtain ⟨_, n8, v1, h1, -, ln8, rc, r⟩ := rn_call (m2 := 192) (as := [.ref 540, .int (a1 / 4)]) (rest := []) rfl rfl r
    obtain ⟨rfl, rfl⟩ := dn_192 rc
    have r : rn_s _ 228 (17, [some (.ref 540), some (.int a1), some (.int a2), some (.int a3), some (.int a4), some (.int a5), none, none, none, none, none, none, none, none], [.int (fn_192 g (a1 / 4))], aa_H g) v h := r
    refine rn_if (iw_s v h) rfl decide_eq_true_iff.symm r (fun c10 l11n l11 r => ?_) (fun c10 l11n l11 r => ?_)
    · obtain ⟨n12, ln12, r⟩ := rn_steps 0 (71, [some (.ref 540), some (.int a1), some (.int a2), some (.int a3), some (.int a4), some (.int a5), none, none, none, none, none, none, none, none], [.int (-1000000)], aa_H g) rfl r
      exact rn_ire rfl r
    · obtain ⟨n13, ln13, r⟩ := rn_steps 3 (24, [some (.ref 540), some (.int a1), some (.int a2), some (.int a3), some (.int a4), some (.int a5), none, none, none, none, none, none, none, none], [.int (a1 - a1 / 4 * 4), .ref 540], aa_H g) rfl r
      obtain ⟨_, n14, v1, h1, -, ln14, rc, r⟩ := rn_call (m2 := 192) (as := [.ref 540, .int (a1 - a1 / 4 * 4)]) (rest := []) rfl rfl r
      obtain ⟨rfl, rfl⟩ := dn_192 rc
      have r : rn_s _ 228 (27, [some (.ref 540), some (.int a1), some (.int a2), some (.int a3), some (.int a4), some (.int a5), none, none, none, none, none, none, none, none], [.int (fn_192 g (a1 - a1 / 4 * 4))], aa_H g) v h := r
      refine rn_if (iw_s v h) rfl decide_eq_true_iff.symm r (fun c16 l17n l17 r => ?_) (fun c16 l17n l17 r => ?_)
      · obtain ⟨n18, ln18, r⟩ := rn_steps 0 (71, [some (.ref 540), some (.int a1), some (.int a2), some (.int a3), some (.int a4), some (.int a5), none, none, none, none, none, none, none, none], [.int (-1000000)], aa_H g) rfl r
        exact rn_ire rfl r
      · obtain ⟨n19, ln19, r⟩ := rn_steps 2 (34, [some (.ref 540), some (.int a1), some (.int a2), some (.int a3), some (.int a4), some (.int a5), none, none, none, none, none, none, none, none], [.int 23, .int 0, .int a2], aa_H g) rfl r
        obtain ⟨_, n20, v1, h1, -, ln20, rc, r⟩ := rn_call (m2 := 154) (as := [.int a2, .int 0, .int 23]) (rest := []) rfl rfl r
        obtain ⟨rfl, rfl⟩ := dn_154 rc
        have r : rn_s _ 228 (37, [some (.ref 540), some (.int a1), some (.int a2), some (.int a3), some (.int a4), some (.int a5), none, none, none, none, none, none, none, none], [.int (fn_154 a2 0 23)], aa_H g) v h := r
        refine rn_if (iw_s v h) rfl decide_eq_true_iff.symm r (fun c22 l23n l23 r => ?_) (fun c22 l23n l23 r => ?_)
        · obtain ⟨n24, ln24, r⟩ := rn_steps 0 (71, [some (.ref 540), some (.int a1), some (.int a2), some (.int a3), some (.int a4), some (.int a5), none, none, none, none, none, none, none, none], [.int (-1000000)], aa_H g) rfl r
          exact rn_ire rfl r
        · obtain ⟨n25, ln25, r⟩ := rn_steps 2 (44, [some (.ref 540), some (.int a1), some (.int a2), some (.int a3), some (.int a4), some (.int a5), none, none, none, none, none, none, none, none], [.int 23, .int 0, .int a3], aa_H g) rfl r
          obtain ⟨_, n26, v1, h1, -, ln26, rc, r⟩ := rn_call (m2 := 154) (as := [.int a3, .int 0, .int 23]) (rest := []) rfl rfl r
          obtain ⟨rfl, rfl⟩ := dn_154 rc
          have r : rn_s _ 228 (47, [some (.ref 540), some (.int a1), some (.int a2), some (.int a3), some (.int a4), some (.int a5), none, none, none, none, none, none, none, none], [.int (fn_154 a3 0 23)], aa_H g) v h := r
          refine rn_if (iw_s v h) rfl decide_eq_true_iff.symm r (fun c28 l29n l29 r => ?_) (fun c28 l29n l29 r => ?_)
          · obtain ⟨n30, ln30, r⟩ := rn_steps 0 (71, [some (.ref 540), some (.int a1), some (.int a2), some (.int a3), some (.int a4), some (.int a5), none, none, none, none, none, none, none, none], [.int (-1000000)], aa_H g) rfl r
            exact rn_ire rfl r
          · obtain ⟨n31, ln31, r⟩ := rn_steps 0 (52, [some (.ref 540), some (.int a1), some (.int a2), some (.int a3), some (.int a4), some (.int a5), none, none, none, none, none, none, none, none], [.int a4], aa_H g) rfl r
            obtain ⟨_, n32, v1, h1, -, ln32, rc, r⟩ := rn_call (m2 := 193) (as := [.int a4]) (rest := []) rfl rfl r
            obtain ⟨rfl, rfl⟩ := dn_193 rc
            have r : rn_s _ 228 (55, [some (.ref 540), some (.int a1), some (.int a2), some (.int a3), some (.int a4), some (.int a5), none, none, none, none, none, none, none, none], [.int (fn_193 a4)], aa_H g) v h := r
            refine rn_if (iw_s v h) rfl decide_eq_true_iff.symm r (fun c34 l35n l35 r => ?_) (fun c34 l35n l35 r => ?_)
            · obtain ⟨n36, ln36, r⟩ := rn_steps 0 (71, [some (.ref 540), some (.int a1), some (.int a2), some (.int a3), some (.int a4), some (.int a5), none, none, none, none, none, none, none, none], [.int (-1000000)], aa_H g) rfl r
              exact rn_ire rfl r
            · obtain ⟨n37, ln37, r⟩ := rn_steps 2 (62, [some (.ref 540), some (.int a1), some (.int a2), some (.int a3), some (.int a4), some (.int a5), none, none, none, none, none, none, none, none], [.int 1, .int 0, .int a5], aa_H g) rfl r
              obtain ⟨_, n38, v1, h1, -, ln38, rc, r⟩ := rn_call (m2 := 154) (as := [.int a5, .int 0, .int 1]) (rest := []) rfl rfl r
              obtain ⟨rfl, rfl⟩ := dn_154 rc
              have r : rn_s _ 228 (65, [some (.ref 540), some (.int a1), some (.int a2), some (.int a3), some (.int a4), some (.int a5), none, none, none, none, none, none, none, none], [.int (fn_154 a5 0 1)], aa_H g) v h := r
              refine rn_if (iw_s v h) rfl decide_eq_true_iff.symm r (fun c40 l41n l41 r => ?_) (fun c40 l41n l41 r => ?_)
              · obtain ⟨n42, ln42, r⟩ := rn_steps 5 (79, [some (.ref 540), some (.int a1), some (.int a2), some (.int a3), some (.int a4), some (.int a5), none, none, none, none, none, none, none, none], [.int a2, .int a4, .int (a1 / 4), .ref 540], aa_H g) rfl r
                obtain ⟨_, n43, v1, h1, -, ln43, rc, r⟩ := rn_call (m2 := 229) (as := [.ref 540, .int (a1 / 4), .int a4, .int a2]) (rest := []) rfl rfl r
                obtain ⟨rfl, rfl⟩ := dn_229 rc
                have r : rn_s _ 228 (82, [some (.ref 540), some (.int a1), some (.int a2), some (.int a3), some (.int a4), some (.int a5), none, none, none, none, none, none, none, none], [.int ((fn_229 g (a1 / 4) a4 a2).1)], aa_H ((fn_229 g (a1 / 4) a4 a2).2)) v h := r
                exact dn_228_82 (some (.int a2)) none none none none none none none none rn_ji rn_jn rn_jn rn_jn rn_jn rn_jn rn_jn rn_jn rn_jn r
              · obtain ⟨n45, ln45, r⟩ := rn_steps 0 (71, [some (.ref 540), some (.int a1), some (.int a2), some (.int a3), some (.int a4), some (.int a5), none, none, none, none, none, none, none, none], [.int (-1000000)], aa_H g) rfl r
                exact rn_ire rfl r
-- 232: UnequalHoursModel best
noncomputable def fn_232_144 (g : aa_G) (b1 : Int32) (b2 : Int32) (b3 : Int32) (b4 : Int32) (b5 : Int32) (b6 : Int32) (b7 : Int32) (b8 : Int32) : (aa_G × Int32 × Int32 × Int32) ⊕ (Int32 × aa_G) := .inl (g, b6, b7, b8 + 1)
theorem dn_232_144 {v : Option Value} {h : zz_H} {n : Nat} {g : aa_G} {b1 : Int32} {b2 : Int32} {b3 : Int32} {b4 : Int32} {b5 : Int32} {b6 : Int32} {b7 : Int32} {b8 : Int32} (P : (aa_G × Int32 × Int32 × Int32) ⊕ (Int32 × aa_G) → Prop) (hO0 : ∀ n2, n2 < n → ∀ (yg : aa_G) (yb6 : Int32) (yb7 : Int32) (yb8 : Int32) (yx9 : Option Value) (_ : rn_jk yx9), rn_s n2 232 (59, [some (.ref 540), some (.int b1), some (.int b2), some (.int b3), some (.int b4), some (.int b5), some (.int yb6), some (.int yb7), some (.int yb8), yx9], [], aa_H yg) v h → P (.inl (yg, yb6, yb7, yb8))) (hR : ∀ E, iw_s v h E → P (.inr E))  (x9 : Option Value) (jx9 : rn_jk x9) (r : rn_s n 232 (144, [some (.ref 540), some (.int b1), some (.int b2), some (.int b3), some (.int b4), some (.int b5), some (.int b6), some (.int b7), some (.int b8), x9], [], aa_H g) v h) : P (fn_232_144 g b1 b2 b3 b4 b5 b6 b7 b8) := by
  unfold fn_232_144
  obtain ⟨n58, ln58, r⟩ := rn_steps 1 (59, [some (.ref 540), some (.int b1), some (.int b2), some (.int b3), some (.int b4), some (.int b5), some (.int b6), some (.int b7), some (.int (b8 + 1)), x9], [], aa_H g) rfl r
  exact hO0 _ (by omega) g b6 b7 (b8 + 1) x9 jx9 r
noncomputable def fn_232_136 (g : aa_G) (b1 : Int32) (b2 : Int32) (b3 : Int32) (b4 : Int32) (b5 : Int32) (b8 : Int32) (b9 : Int32) : (aa_G × Int32 × Int32 × Int32) ⊕ (Int32 × aa_G) := fn_232_144 g b1 b2 b3 b4 b5 b8 b9 b8
theorem dn_232_136 {v : Option Value} {h : zz_H} {n : Nat} {g : aa_G} {b1 : Int32} {b2 : Int32} {b3 : Int32} {b4 : Int32} {b5 : Int32} {b8 : Int32} {b9 : Int32} (P : (aa_G × Int32 × Int32 × Int32) ⊕ (Int32 × aa_G) → Prop) (hO0 : ∀ n2, n2 < n → ∀ (yg : aa_G) (yb6 : Int32) (yb7 : Int32) (yb8 : Int32) (yx9 : Option Value) (_ : rn_jk yx9), rn_s n2 232 (59, [some (.ref 540), some (.int b1), some (.int b2), some (.int b3), some (.int b4), some (.int b5), some (.int yb6), some (.int yb7), some (.int yb8), yx9], [], aa_H yg) v h → P (.inl (yg, yb6, yb7, yb8))) (hR : ∀ E, iw_s v h E → P (.inr E))  (x6 x7 : Option Value) (jx6 : rn_jk x6) (jx7 : rn_jk x7) (r : rn_s n 232 (136, [some (.ref 540), some (.int b1), some (.int b2), some (.int b3), some (.int b4), some (.int b5), x6, x7, some (.int b8), some (.int b9)], [], aa_H g) v h) : P (fn_232_136 g b1 b2 b3 b4 b5 b8 b9) := by
  unfold fn_232_136
  obtain ⟨n59, ln59, r⟩ := rn_steps 3 (144, [some (.ref 540), some (.int b1), some (.int b2), some (.int b3), some (.int b4), some (.int b5), some (.int b8), some (.int b9), some (.int b8), some (.int b9)], [], aa_H g) rfl r
  exact dn_232_144 (P) (fun n2 l2 => hO0 n2 (by omega)) (fun z hz => hR _ hz) (some (.int b9)) rn_ji r
noncomputable def fn_232_117 (g : aa_G) (b1 : Int32) (b2 : Int32) (b3 : Int32) (b4 : Int32) (b5 : Int32) (b6 : Int32) (b7 : Int32) (b8 : Int32) (s0 : Int32) : (aa_G × Int32 × Int32 × Int32) ⊕ (Int32 × aa_G) := if b6 = (-2) then fn_232_136 g b1 b2 b3 b4 b5 b8 s0 else if b7 < s0 then fn_232_136 g b1 b2 b3 b4 b5 b8 s0 else fn_232_144 g b1 b2 b3 b4 b5 b6 b7 b8
theorem dn_232_117 {v : Option Value} {h : zz_H} {n : Nat} {g : aa_G} {b1 : Int32} {b2 : Int32} {b3 : Int32} {b4 : Int32} {b5 : Int32} {b6 : Int32} {b7 : Int32} {b8 : Int32} {s0 : Int32} (P : (aa_G × Int32 × Int32 × Int32) ⊕ (Int32 × aa_G) → Prop) (hO0 : ∀ n2, n2 < n → ∀ (yg : aa_G) (yb6 : Int32) (yb7 : Int32) (yb8 : Int32) (yx9 : Option Value) (_ : rn_jk yx9), rn_s n2 232 (59, [some (.ref 540), some (.int b1), some (.int b2), some (.int b3), some (.int b4), some (.int b5), some (.int yb6), some (.int yb7), some (.int yb8), yx9], [], aa_H yg) v h → P (.inl (yg, yb6, yb7, yb8))) (hR : ∀ E, iw_s v h E → P (.inr E))  (x9 : Option Value) (jx9 : rn_jk x9) (r : rn_s n 232 (117, [some (.ref 540), some (.int b1), some (.int b2), some (.int b3), some (.int b4), some (.int b5), some (.int b6), some (.int b7), some (.int b8), x9], [.int s0], aa_H g) v h) : P (fn_232_117 g b1 b2 b3 b4 b5 b6 b7 b8 s0) := by
  unfold fn_232_117
  obtain ⟨n51, ln51, r⟩ := rn_steps 2 (123, [some (.ref 540), some (.int b1), some (.int b2), some (.int b3), some (.int b4), some (.int b5), some (.int b6), some (.int b7), some (.int b8), some (.int s0)], [.int (-2), .int b6], aa_H g) rfl r
  refine rn_ic (P) rfl decide_eq_true_iff.symm r (fun c52 l53n l53 r => ?_) (fun c52 l53n l53 r => ?_)
  · exact dn_232_136 (P) (fun n2 l2 => hO0 n2 (by omega)) (fun z hz => hR _ hz) (some (.int b6)) (some (.int b7)) rn_ji rn_ji r
  · obtain ⟨n54, ln54, r⟩ := rn_steps 1 (130, [some (.ref 540), some (.int b1), some (.int b2), some (.int b3), some (.int b4), some (.int b5), some (.int b6), some (.int b7), some (.int b8), some (.int s0)], [.int b7, .int s0], aa_H g) rfl r
    refine rn_ic (P) rfl decide_eq_true_iff.symm r (fun c55 l56n l56 r => ?_) (fun c55 l56n l56 r => ?_)
    · exact dn_232_136 (P) (fun n2 l2 => hO0 n2 (by omega)) (fun z hz => hR _ hz) (some (.int b6)) (some (.int b7)) rn_ji rn_ji r
    · obtain ⟨n57, ln57, r⟩ := rn_steps 0 (144, [some (.ref 540), some (.int b1), some (.int b2), some (.int b3), some (.int b4), some (.int b5), some (.int b6), some (.int b7), some (.int b8), some (.int s0)], [], aa_H g) rfl r
      exact dn_232_144 (P) (fun n2 l2 => hO0 n2 (by omega)) (fun z hz => hR _ hz) (some (.int s0)) rn_ji r
noncomputable def fn_232_76 (g : aa_G) (b1 : Int32) (b2 : Int32) (b3 : Int32) (b4 : Int32) (b5 : Int32) (b6 : Int32) (b7 : Int32) (b8 : Int32) (s0 : Int32) : (aa_G × Int32 × Int32 × Int32) ⊕ (Int32 × aa_G) := if s0 ≠ 0 then if b5 ≠ 0 then if b5 ≠ 1 then fn_232_117 g b1 b2 b3 b4 b5 b6 b7 b8 (g 540 29) else fn_232_117 g b1 b2 b3 b4 b5 b6 b7 b8 (-(g 540 29)) else fn_232_117 g b1 b2 b3 b4 b5 b6 b7 b8 ((g 540 30) - (g 540 29)) else fn_232_144 g b1 b2 b3 b4 b5 b6 b7 b8
theorem dn_232_76 {v : Option Value} {h : zz_H} {n : Nat} {g : aa_G} {b1 : Int32} {b2 : Int32} {b3 : Int32} {b4 : Int32} {b5 : Int32} {b6 : Int32} {b7 : Int32} {b8 : Int32} {s0 : Int32} (P : (aa_G × Int32 × Int32 × Int32) ⊕ (Int32 × aa_G) → Prop) (hO0 : ∀ n2, n2 < n → ∀ (yg : aa_G) (yb6 : Int32) (yb7 : Int32) (yb8 : Int32) (yx9 : Option Value) (_ : rn_jk yx9), rn_s n2 232 (59, [some (.ref 540), some (.int b1), some (.int b2), some (.int b3), some (.int b4), some (.int b5), some (.int yb6), some (.int yb7), some (.int yb8), yx9], [], aa_H yg) v h → P (.inl (yg, yb6, yb7, yb8))) (hR : ∀ E, iw_s v h E → P (.inr E))  (x9 : Option Value) (jx9 : rn_jk x9) (r : rn_s n 232 (76, [some (.ref 540), some (.int b1), some (.int b2), some (.int b3), some (.int b4), some (.int b5), some (.int b6), some (.int b7), some (.int b8), x9], [.int s0], aa_H g) v h) : P (fn_232_76 g b1 b2 b3 b4 b5 b6 b7 b8 s0) := by
  unfold fn_232_76
  refine rn_if (P) rfl decide_eq_true_iff.symm r (fun c39 l40n l40 r => ?_) (fun c39 l40n l40 r => ?_)
  · obtain ⟨n41, ln41, r⟩ := rn_steps 0 (84, [some (.ref 540), some (.int b1), some (.int b2), some (.int b3), some (.int b4), some (.int b5), some (.int b6), some (.int b7), some (.int b8), x9], [.int b5], aa_H g) rfl r
    refine rn_if (P) rfl decide_eq_true_iff.symm r (fun c42 l43n l43 r => ?_) (fun c42 l43n l43 r => ?_)
    · obtain ⟨n44, ln44, r⟩ := rn_steps 1 (102, [some (.ref 540), some (.int b1), some (.int b2), some (.int b3), some (.int b4), some (.int b5), some (.int b6), some (.int b7), some (.int b8), x9], [.int 1, .int b5], aa_H g) rfl r
      refine rn_ic (P) rfl decide_eq_true_iff.symm r (fun c45 l46n l46 r => ?_) (fun c45 l46n l46 r => ?_)
      · obtain ⟨n47, ln47, r⟩ := rn_steps 1 (117, [some (.ref 540), some (.int b1), some (.int b2), some (.int b3), some (.int b4), some (.int b5), some (.int b6), some (.int b7), some (.int b8), x9], [.int (g 540 29)], aa_H g) rfl r
        exact dn_232_117 (P) (fun n2 l2 => hO0 n2 (by omega)) (fun z hz => hR _ hz) x9 jx9 r
      · obtain ⟨n48, ln48, r⟩ := rn_steps 3 (117, [some (.ref 540), some (.int b1), some (.int b2), some (.int b3), some (.int b4), some (.int b5), some (.int b6), some (.int b7), some (.int b8), x9], [.int (-(g 540 29))], aa_H g) rfl r
        exact dn_232_117 (P) (fun n2 l2 => hO0 n2 (by omega)) (fun z hz => hR _ hz) x9 jx9 r
    · obtain ⟨n49, ln49, r⟩ := rn_steps 5 (117, [some (.ref 540), some (.int b1), some (.int b2), some (.int b3), some (.int b4), some (.int b5), some (.int b6), some (.int b7), some (.int b8), x9], [.int ((g 540 30) - (g 540 29))], aa_H g) rfl r
      exact dn_232_117 (P) (fun n2 l2 => hO0 n2 (by omega)) (fun z hz => hR _ hz) x9 jx9 r
  · obtain ⟨n50, ln50, r⟩ := rn_steps 0 (144, [some (.ref 540), some (.int b1), some (.int b2), some (.int b3), some (.int b4), some (.int b5), some (.int b6), some (.int b7), some (.int b8), x9], [], aa_H g) rfl r
    exact dn_232_144 (P) (fun n2 l2 => hO0 n2 (by omega)) (fun z hz => hR _ hz) x9 jx9 r
noncomputable def fn_232_59b (g : aa_G) (b1 : Int32) (b2 : Int32) (b3 : Int32) (b4 : Int32) (b5 : Int32) (b6 : Int32) (b7 : Int32) (b8 : Int32) : (aa_G × Int32 × Int32 × Int32) ⊕ (Int32 × aa_G) := if (b2 + b3) ≤ b8 then .inr (b6, g) else fn_232_76 ((fn_229 g b1 b8 b4).2) b1 b2 b3 b4 b5 b6 b7 b8 ((fn_229 g b1 b8 b4).1)
noncomputable def fn_232_59 (g : aa_G) (b1 : Int32) (b2 : Int32) (b3 : Int32) (b4 : Int32) (b5 : Int32) (b6 : Int32) (b7 : Int32) (b8 : Int32) : Int32 × aa_G := lp_f (0, g) (fun z : (aa_G × Int32 × Int32 × Int32) => fn_232_59b z.1 b1 b2 b3 b4 b5 z.2.1 z.2.2.1 z.2.2.2) (g, b6, b7, b8)
theorem dn_232_59l {v : Option Value} {h : zz_H} {N : Nat} {b1 : Int32} {b2 : Int32} {b3 : Int32} {b4 : Int32} {b5 : Int32} {d : Int32 × aa_G} : ∀ (n : Nat), n ≤ N → ∀ (g : aa_G) (b6 : Int32) (b7 : Int32) (b8 : Int32) (x9 : Option Value) (jx9 : rn_jk x9), rn_s n 232 (59, [some (.ref 540), some (.int b1), some (.int b2), some (.int b3), some (.int b4), some (.int b5), some (.int b6), some (.int b7), some (.int b8), x9], [], aa_H g) v h → (iw_s v h) (lp_f d (fun z : (aa_G × Int32 × Int32 × Int32) => fn_232_59b z.1 b1 b2 b3 b4 b5 z.2.1 z.2.2.1 z.2.2.2) (g, b6, b7, b8)) := by
  generalize hf : (fun z : (aa_G × Int32 × Int32 × Int32) => fn_232_59b z.1 b1 b2 b3 b4 b5 z.2.1 z.2.2.1 z.2.2.2) = f
  intro n
  induction n using Nat.strongRecOn with
  | _ n ih =>
    intro hN g b6 b7 b8 x9 jx9 r
    refine lp_go ?_
    rw [← congrFun hf (g, b6, b7, b8)]
    show lp_q (iw_s v h) d f (fn_232_59b g b1 b2 b3 b4 b5 b6 b7 b8)
    unfold fn_232_59b
    obtain ⟨n32, ln32, r⟩ := rn_steps 3 (64, [some (.ref 540), some (.int b1), some (.int b2), some (.int b3), some (.int b4), some (.int b5), some (.int b6), some (.int b7), some (.int b8), x9], [.int (b2 + b3), .int b8], aa_H g) rfl r
    refine rn_ic (lp_q (iw_s v h) d f) rfl decide_eq_true_iff.symm r (fun c33 l34n l34 r => ?_) (fun c33 l34n l34 r => ?_)
    · obtain ⟨n35, ln35, r⟩ := rn_steps 0 (152, [some (.ref 540), some (.int b1), some (.int b2), some (.int b3), some (.int b4), some (.int b5), some (.int b6), some (.int b7), some (.int b8), x9], [.int b6], aa_H g) rfl r
      exact rn_ire rfl r
    · obtain ⟨n36, ln36, r⟩ := rn_steps 3 (73, [some (.ref 540), some (.int b1), some (.int b2), some (.int b3), some (.int b4), some (.int b5), some (.int b6), some (.int b7), some (.int b8), x9], [.int b4, .int b8, .int b1, .ref 540], aa_H g) rfl r
      obtain ⟨_, n37, v1, h1, -, ln37, rc, r⟩ := rn_call (m2 := 229) (as := [.ref 540, .int b1, .int b8, .int b4]) (rest := []) rfl rfl r
      obtain ⟨rfl, rfl⟩ := dn_229 rc
      have r : rn_s _ 232 (76, [some (.ref 540), some (.int b1), some (.int b2), some (.int b3), some (.int b4), some (.int b5), some (.int b6), some (.int b7), some (.int b8), x9], [.int ((fn_229 g b1 b8 b4).1)], aa_H ((fn_229 g b1 b8 b4).2)) v h := r
      exact dn_232_76 (lp_q (iw_s v h) d f) (fun n2 l2 => ih n2 (by omega) (by omega)) (fun z hz => hz) x9 jx9 r
theorem dn_232_59 {v : Option Value} {h : zz_H} {n : Nat} {g : aa_G} {b1 : Int32} {b2 : Int32} {b3 : Int32} {b4 : Int32} {b5 : Int32} {b6 : Int32} {b7 : Int32} {b8 : Int32}  (x9 : Option Value) (jx9 : rn_jk x9) (r : rn_s n 232 (59, [some (.ref 540), some (.int b1), some (.int b2), some (.int b3), some (.int b4), some (.int b5), some (.int b6), some (.int b7), some (.int b8), x9], [], aa_H g) v h) : (iw_s v h) (fn_232_59 g b1 b2 b3 b4 b5 b6 b7 b8) := dn_232_59l  n (Nat.le_refl n) g b6 b7 b8 x9 jx9 r
noncomputable def fn_232 (g : aa_G) (a1 : Int32) (a2 : Int32) (a3 : Int32) (a4 : Int32) (a5 : Int32) : Int32 × aa_G := if (fn_192 g a1) = 0 then (-1, g) else if (fn_154 a3 1 360) = 0 then (-1, g) else if (fn_193 a2) = 0 then (-1, g) else if (fn_154 a4 0 11) = 0 then (-1, g) else if (fn_154 a5 0 2) ≠ 0 then fn_232_59 g a1 a2 a3 a4 a5 (-2) 0 a2 else (-1, g)
theorem dn_232 {v : Option Value} {h : zz_H} {n : Nat} {g : aa_G} {a1 : Int32} {a2 : Int32} {a3 : Int32} {a4 : Int32} {a5 : Int32}  (r : rn_s n 232 (0, zz_in [.ref 540, .int a1, .int a2, .int a3, .int a4, .int a5] (zz_nl 232), [], aa_H g) v h) : iw_s v h (fn_232 g a1 a2 a3 a4 a5) := by
  have r : rn_s n 232 (0, [some (.ref 540), some (.int a1), some (.int a2), some (.int a3), some (.int a4), some (.int a5), none, none, none, none], [], aa_H g) v h := r
  unfold fn_232
  obtain ⟨n1, ln1, r⟩ := rn_steps 1 (2, [some (.ref 540), some (.int a1), some (.int a2), some (.int a3), some (.int a4), some (.int a5), none, none, none, none], [.int a1, .ref 540], aa_H g) rfl r
  obtain ⟨_, n2, v1, h1, -, ln2, rc, r⟩ := rn_call (m2 := 192) (as := [.ref 540, .int a1]) (rest := []) rfl rfl r
  obtain ⟨rfl, rfl⟩ := dn_192 rc
  have r : rn_s _ 232 (5, [some (.ref 540), some (.int a1), some (.int a2), some (.int a3), some (.int a4), some (.int a5), none, none, none, none], [.int (fn_192 g a1)], aa_H g) v h := r
  refine rn_if (iw_s v h) rfl decide_eq_true_iff.symm r (fun c4 l5n l5 r => ?_) (fun c4 l5n l5 r => ?_)
  · obtain ⟨n6, ln6, r⟩ := rn_steps 0 (48, [some (.ref 540), some (.int a1), some (.int a2), some (.int a3), some (.int a4), some (.int a5), none, none, none, none], [.int (-1)], aa_H g) rfl r
    exact rn_ire rfl r
  · obtain ⟨n7, ln7, r⟩ := rn_steps 2 (13, [some (.ref 540), some (.int a1), some (.int a2), some (.int a3), some (.int a4), some (.int a5), none, none, none, none], [.int 360, .int 1, .int a3], aa_H g) rfl r
    obtain ⟨_, n8, v1, h1, -, ln8, rc, r⟩ := rn_call (m2 := 154) (as := [.int a3, .int 1, .int 360]) (rest := []) rfl rfl r
    obtain ⟨rfl, rfl⟩ := dn_154 rc
    have r : rn_s _ 232 (16, [some (.ref 540), some (.int a1), some (.int a2), some (.int a3), some (.int a4), some (.int a5), none, none, none, none], [.int (fn_154 a3 1 360)], aa_H g) v h := r
    refine rn_if (iw_s v h) rfl decide_eq_true_iff.symm r (fun c10 l11n l11 r => ?_) (fun c10 l11n l11 r => ?_)
    · obtain ⟨n12, ln12, r⟩ := rn_steps 0 (48, [some (.ref 540), some (.int a1), some (.int a2), some (.int a3), some (.int a4), some (.int a5), none, none, none, none], [.int (-1)], aa_H g) rfl r
      exact rn_ire rfl r
    · obtain ⟨n13, ln13, r⟩ := rn_steps 0 (20, [some (.ref 540), some (.int a1), some (.int a2), some (.int a3), some (.int a4), some (.int a5), none, none, none, none], [.int a2], aa_H g) rfl r
      obtain ⟨_, n14, v1, h1, -, ln14, rc, r⟩ := rn_call (m2 := 193) (as := [.int a2]) (rest := []) rfl rfl r
      obtain ⟨rfl, rfl⟩ := dn_193 rc
      have r : rn_s _ 232 (23, [some (.ref 540), some (.int a1), some (.int a2), some (.int a3), some (.int a4), some (.int a5), none, none, none, none], [.int (fn_193 a2)], aa_H g) v h := r
      refine rn_if (iw_s v h) rfl decide_eq_true_iff.symm r (fun c16 l17n l17 r => ?_) (fun c16 l17n l17 r => ?_)
      · obtain ⟨n18, ln18, r⟩ := rn_steps 0 (48, [some (.ref 540), some (.int a1), some (.int a2), some (.int a3), some (.int a4), some (.int a5), none, none, none, none], [.int (-1)], aa_H g) rfl r
        exact rn_ire rfl r
      · obtain ⟨n19, ln19, r⟩ := rn_steps 2 (31, [some (.ref 540), some (.int a1), some (.int a2), some (.int a3), some (.int a4), some (.int a5), none, none, none, none], [.int 11, .int 0, .int a4], aa_H g) rfl r
        obtain ⟨_, n20, v1, h1, -, ln20, rc, r⟩ := rn_call (m2 := 154) (as := [.int a4, .int 0, .int 11]) (rest := []) rfl rfl r
        obtain ⟨rfl, rfl⟩ := dn_154 rc
        have r : rn_s _ 232 (34, [some (.ref 540), some (.int a1), some (.int a2), some (.int a3), some (.int a4), some (.int a5), none, none, none, none], [.int (fn_154 a4 0 11)], aa_H g) v h := r
        refine rn_if (iw_s v h) rfl decide_eq_true_iff.symm r (fun c22 l23n l23 r => ?_) (fun c22 l23n l23 r => ?_)
        · obtain ⟨n24, ln24, r⟩ := rn_steps 0 (48, [some (.ref 540), some (.int a1), some (.int a2), some (.int a3), some (.int a4), some (.int a5), none, none, none, none], [.int (-1)], aa_H g) rfl r
          exact rn_ire rfl r
        · obtain ⟨n25, ln25, r⟩ := rn_steps 2 (41, [some (.ref 540), some (.int a1), some (.int a2), some (.int a3), some (.int a4), some (.int a5), none, none, none, none], [.int 2, .int 0, .int a5], aa_H g) rfl r
          obtain ⟨_, n26, v1, h1, -, ln26, rc, r⟩ := rn_call (m2 := 154) (as := [.int a5, .int 0, .int 2]) (rest := []) rfl rfl r
          obtain ⟨rfl, rfl⟩ := dn_154 rc
          have r : rn_s _ 232 (44, [some (.ref 540), some (.int a1), some (.int a2), some (.int a3), some (.int a4), some (.int a5), none, none, none, none], [.int (fn_154 a5 0 2)], aa_H g) v h := r
          refine rn_if (iw_s v h) rfl decide_eq_true_iff.symm r (fun c28 l29n l29 r => ?_) (fun c28 l29n l29 r => ?_)
          · obtain ⟨n30, ln30, r⟩ := rn_steps 5 (59, [some (.ref 540), some (.int a1), some (.int a2), some (.int a3), some (.int a4), some (.int a5), some (.int (-2)), some (.int 0), some (.int a2), none], [], aa_H g) rfl r
            exact dn_232_59 none rn_jn r
          · obtain ⟨n31, ln31, r⟩ := rn_steps 0 (48, [some (.ref 540), some (.int a1), some (.int a2), some (.int a3), some (.int a4), some (.int a5), none, none, none, none], [.int (-1)], aa_H g) rfl r
            exact rn_ire rfl r
-- 234: UnequalHoursModel lastOf
noncomputable def fn_234 (a0 : Int32) : Int32 := if ((a0 + 360) - 1) ≤ 35999 then (a0 + 360) - 1 else 35999
theorem dn_234 {v : Option Value} {h : zz_H} {n : Nat} {g : aa_G} {a0 : Int32}  (r : rn_s n 234 (0, zz_in [.int a0] (zz_nl 234), [], aa_H g) v h) : ir_s g v h (fn_234 a0) := by
  have r : rn_s n 234 (0, [some (.int a0)], [], aa_H g) v h := r
  unfold fn_234
  obtain ⟨n1, ln1, r⟩ := rn_steps 5 (9, [some (.int a0)], [.int 35999, .int ((a0 + 360) - 1)], aa_H g) rfl r
  refine rn_ic (ir_s g v h) rfl decide_eq_true_iff.symm r (fun c2 l3n l3 r => ?_) (fun c2 l3n l3 r => ?_)
  · obtain ⟨n4, ln4, r⟩ := rn_steps 4 (24, [some (.int a0)], [.int ((a0 + 360) - 1)], aa_H g) rfl r
    exact rn_ire rfl r
  · obtain ⟨n5, ln5, r⟩ := rn_steps 1 (24, [some (.int a0)], [.int 35999], aa_H g) rfl r
    exact rn_ire rfl r
-- 233: UnequalHoursModel candle
noncomputable def fn_233_85 (g : aa_G) (b1 : Int32) (b3 : Int32) (b4 : Int32) (b5 : Int32) : (aa_G × Int32 × Int32) ⊕ (Int32 × aa_G) := .inl (g, b4, b5 + 1)
theorem dn_233_85 {v : Option Value} {h : zz_H} {n : Nat} {g : aa_G} {b1 : Int32} {b3 : Int32} {b4 : Int32} {b5 : Int32} (P : (aa_G × Int32 × Int32) ⊕ (Int32 × aa_G) → Prop) (hO0 : ∀ n2, n2 < n → ∀ (yg : aa_G) (yb4 : Int32) (yb5 : Int32) (yx2 yx6 : Option Value) (_ : rn_jk yx2) (_ : rn_jk yx6), rn_s n2 233 (29, [some (.ref 540), some (.int b1), yx2, some (.int b3), some (.int yb4), some (.int yb5), yx6], [], aa_H yg) v h → P (.inl (yg, yb4, yb5))) (hR : ∀ E, iw_s v h E → P (.inr E))  (x2 x6 : Option Value) (jx2 : rn_jk x2) (jx6 : rn_jk x6) (r : rn_s n 233 (85, [some (.ref 540), some (.int b1), x2, some (.int b3), some (.int b4), some (.int b5), x6], [], aa_H g) v h) : P (fn_233_85 g b1 b3 b4 b5) := by
  unfold fn_233_85
  obtain ⟨n39, ln39, r⟩ := rn_steps 1 (29, [some (.ref 540), some (.int b1), x2, some (.int b3), some (.int b4), some (.int (b5 + 1)), x6], [], aa_H g) rfl r
  exact hO0 _ (by omega) g b4 (b5 + 1) x2 x6 jx2 jx6 r
noncomputable def fn_233_51 (g : aa_G) (b1 : Int32) (b3 : Int32) (b4 : Int32) (b5 : Int32) (s0 : Int32) : (aa_G × Int32 × Int32) ⊕ (Int32 × aa_G) := if s0 ≠ (-1) then if (s0 / 12) < b4 then fn_233_85 g b1 b3 (b4 - (s0 / 12)) b5 else .inr (b5, g) else fn_233_85 g b1 b3 b4 b5
theorem dn_233_51 {v : Option Value} {h : zz_H} {n : Nat} {g : aa_G} {b1 : Int32} {b3 : Int32} {b4 : Int32} {b5 : Int32} {s0 : Int32} (P : (aa_G × Int32 × Int32) ⊕ (Int32 × aa_G) → Prop) (hO0 : ∀ n2, n2 < n → ∀ (yg : aa_G) (yb4 : Int32) (yb5 : Int32) (yx2 yx6 : Option Value) (_ : rn_jk yx2) (_ : rn_jk yx6), rn_s n2 233 (29, [some (.ref 540), some (.int b1), yx2, some (.int b3), some (.int yb4), some (.int yb5), yx6], [], aa_H yg) v h → P (.inl (yg, yb4, yb5))) (hR : ∀ E, iw_s v h E → P (.inr E))  (x2 x6 : Option Value) (jx2 : rn_jk x2) (jx6 : rn_jk x6) (r : rn_s n 233 (51, [some (.ref 540), some (.int b1), x2, some (.int b3), some (.int b4), some (.int b5), x6], [.int s0], aa_H g) v h) : P (fn_233_51 g b1 b3 b4 b5 s0) := by
  unfold fn_233_51
  obtain ⟨n30, ln30, r⟩ := rn_steps 2 (56, [some (.ref 540), some (.int b1), x2, some (.int b3), some (.int b4), some (.int b5), some (.int s0)], [.int (-1), .int s0], aa_H g) rfl r
  refine rn_ic (P) rfl decide_eq_true_iff.symm r (fun c31 l32n l32 r => ?_) (fun c31 l32n l32 r => ?_)
  · obtain ⟨n33, ln33, r⟩ := rn_steps 3 (69, [some (.ref 540), some (.int b1), x2, some (.int b3), some (.int b4), some (.int b5), some (.int s0)], [.int (s0 / 12), .int b4], aa_H g) rfl r
    refine rn_ic (P) rfl decide_eq_true_iff.symm r (fun c34 l35n l35 r => ?_) (fun c34 l35n l35 r => ?_)
    · obtain ⟨n36, ln36, r⟩ := rn_steps 5 (85, [some (.ref 540), some (.int b1), x2, some (.int b3), some (.int (b4 - (s0 / 12))), some (.int b5), some (.int s0)], [], aa_H g) rfl r
      exact dn_233_85 (P) (fun n2 l2 => hO0 n2 (by omega)) (fun z hz => hR _ hz) x2 (some (.int s0)) jx2 rn_ji r
    · obtain ⟨n37, ln37, r⟩ := rn_steps 0 (74, [some (.ref 540), some (.int b1), x2, some (.int b3), some (.int b4), some (.int b5), some (.int s0)], [.int b5], aa_H g) rfl r
      exact hR _ (rn_ire rfl r)
  · obtain ⟨n38, ln38, r⟩ := rn_steps 0 (85, [some (.ref 540), some (.int b1), x2, some (.int b3), some (.int b4), some (.int b5), some (.int s0)], [], aa_H g) rfl r
    exact dn_233_85 (P) (fun n2 l2 => hO0 n2 (by omega)) (fun z hz => hR _ hz) x2 (some (.int s0)) jx2 rn_ji r
noncomputable def fn_233_29b (g : aa_G) (b1 : Int32) (b3 : Int32) (b4 : Int32) (b5 : Int32) : (aa_G × Int32 × Int32) ⊕ (Int32 × aa_G) := if (fn_234 b3) < b5 then .inr (-2, g) else if b4 = (-1) then .inr (-2, g) else fn_233_51 ((fn_222 g b1 b5).2) b1 b3 b4 b5 ((fn_222 g b1 b5).1)
noncomputable def fn_233_29 (g : aa_G) (b1 : Int32) (b3 : Int32) (b4 : Int32) (b5 : Int32) : Int32 × aa_G := lp_f (0, g) (fun z : (aa_G × Int32 × Int32) => fn_233_29b z.1 b1 b3 z.2.1 z.2.2) (g, b4, b5)
theorem dn_233_29l {v : Option Value} {h : zz_H} {N : Nat} {b1 : Int32} {b3 : Int32} {d : Int32 × aa_G} : ∀ (n : Nat), n ≤ N → ∀ (g : aa_G) (b4 : Int32) (b5 : Int32) (x2 x6 : Option Value) (jx2 : rn_jk x2) (jx6 : rn_jk x6), rn_s n 233 (29, [some (.ref 540), some (.int b1), x2, some (.int b3), some (.int b4), some (.int b5), x6], [], aa_H g) v h → (iw_s v h) (lp_f d (fun z : (aa_G × Int32 × Int32) => fn_233_29b z.1 b1 b3 z.2.1 z.2.2) (g, b4, b5)) := by
  generalize hf : (fun z : (aa_G × Int32 × Int32) => fn_233_29b z.1 b1 b3 z.2.1 z.2.2) = f
  intro n
  induction n using Nat.strongRecOn with
  | _ n ih =>
    intro hN g b4 b5 x2 x6 jx2 jx6 r
    refine lp_go ?_
    rw [← congrFun hf (g, b4, b5)]
    show lp_q (iw_s v h) d f (fn_233_29b g b1 b3 b4 b5)
    unfold fn_233_29b
    obtain ⟨n17, ln17, r⟩ := rn_steps 1 (32, [some (.ref 540), some (.int b1), x2, some (.int b3), some (.int b4), some (.int b5), x6], [.int b3, .int b5], aa_H g) rfl r
    obtain ⟨_, n18, v1, h1, -, ln18, rc, r⟩ := rn_call (m2 := 234) (as := [.int b3]) (rest := [.int b5]) rfl rfl r
    obtain ⟨rfl, rfl⟩ := dn_234 rc
    have r : rn_s _ 233 (35, [some (.ref 540), some (.int b1), x2, some (.int b3), some (.int b4), some (.int b5), x6], [.int (fn_234 b3), .int b5], aa_H g) v h := r
    refine rn_ic (lp_q (iw_s v h) d f) rfl decide_eq_true_iff.symm r (fun c20 l21n l21 r => ?_) (fun c20 l21n l21 r => ?_)
    · obtain ⟨n22, ln22, r⟩ := rn_steps 0 (93, [some (.ref 540), some (.int b1), x2, some (.int b3), some (.int b4), some (.int b5), x6], [.int (-2)], aa_H g) rfl r
      exact rn_ire rfl r
    · obtain ⟨n23, ln23, r⟩ := rn_steps 1 (41, [some (.ref 540), some (.int b1), x2, some (.int b3), some (.int b4), some (.int b5), x6], [.int (-1), .int b4], aa_H g) rfl r
      refine rn_ic (lp_q (iw_s v h) d f) rfl decide_eq_true_iff.symm r (fun c24 l25n l25 r => ?_) (fun c24 l25n l25 r => ?_)
      · obtain ⟨n26, ln26, r⟩ := rn_steps 0 (93, [some (.ref 540), some (.int b1), x2, some (.int b3), some (.int b4), some (.int b5), x6], [.int (-2)], aa_H g) rfl r
        exact rn_ire rfl r
      · obtain ⟨n27, ln27, r⟩ := rn_steps 2 (48, [some (.ref 540), some (.int b1), x2, some (.int b3), some (.int b4), some (.int b5), x6], [.int b5, .int b1, .ref 540], aa_H g) rfl r
        obtain ⟨_, n28, v1, h1, -, ln28, rc, r⟩ := rn_call (m2 := 222) (as := [.ref 540, .int b1, .int b5]) (rest := []) rfl rfl r
        obtain ⟨rfl, rfl⟩ := dn_222 rc
        have r : rn_s _ 233 (51, [some (.ref 540), some (.int b1), x2, some (.int b3), some (.int b4), some (.int b5), x6], [.int ((fn_222 g b1 b5).1)], aa_H ((fn_222 g b1 b5).2)) v h := r
        exact dn_233_51 (lp_q (iw_s v h) d f) (fun n2 l2 => ih n2 (by omega) (by omega)) (fun z hz => hz) x2 x6 jx2 jx6 r
theorem dn_233_29 {v : Option Value} {h : zz_H} {n : Nat} {g : aa_G} {b1 : Int32} {b3 : Int32} {b4 : Int32} {b5 : Int32}  (x2 x6 : Option Value) (jx2 : rn_jk x2) (jx6 : rn_jk x6) (r : rn_s n 233 (29, [some (.ref 540), some (.int b1), x2, some (.int b3), some (.int b4), some (.int b5), x6], [], aa_H g) v h) : (iw_s v h) (fn_233_29 g b1 b3 b4 b5) := dn_233_29l  n (Nat.le_refl n) g b4 b5 x2 x6 jx2 jx6 r
noncomputable def fn_233_24 (g : aa_G) (b1 : Int32) (b3 : Int32) (s0 : Int32) : Int32 × aa_G := fn_233_29 g b1 b3 s0 b3
theorem dn_233_24 {v : Option Value} {h : zz_H} {n : Nat} {g : aa_G} {b1 : Int32} {b3 : Int32} {s0 : Int32}  (x2 x4 x5 x6 : Option Value) (jx2 : rn_jk x2) (jx4 : rn_jk x4) (jx5 : rn_jk x5) (jx6 : rn_jk x6) (r : rn_s n 233 (24, [some (.ref 540), some (.int b1), x2, some (.int b3), x4, x5, x6], [.int s0], aa_H g) v h) : iw_s v h (fn_233_24 g b1 b3 s0) := by
  unfold fn_233_24
  obtain ⟨n16, ln16, r⟩ := rn_steps 2 (29, [some (.ref 540), some (.int b1), x2, some (.int b3), some (.int s0), some (.int b3), x6], [], aa_H g) rfl r
  exact dn_233_29 x2 x6 jx2 jx6 r
noncomputable def fn_233 (g : aa_G) (a1 : Int32) (a2 : Int32) (a3 : Int32) : Int32 × aa_G := if (fn_191 g a1 a2) = 0 then (-1, g) else if (fn_193 a3) ≠ 0 then fn_233_24 ((fn_222 g a1 a2).2) a1 a3 ((fn_222 g a1 a2).1) else (-1, g)
theorem dn_233 {v : Option Value} {h : zz_H} {n : Nat} {g : aa_G} {a1 : Int32} {a2 : Int32} {a3 : Int32}  (r : rn_s n 233 (0, zz_in [.ref 540, .int a1, .int a2, .int a3] (zz_nl 233), [], aa_H g) v h) : iw_s v h (fn_233 g a1 a2 a3) := by
  have r : rn_s n 233 (0, [some (.ref 540), some (.int a1), some (.int a2), some (.int a3), none, none, none], [], aa_H g) v h := r
  unfold fn_233
  obtain ⟨n1, ln1, r⟩ := rn_steps 2 (3, [some (.ref 540), some (.int a1), some (.int a2), some (.int a3), none, none, none], [.int a2, .int a1, .ref 540], aa_H g) rfl r
  obtain ⟨_, n2, v1, h1, -, ln2, rc, r⟩ := rn_call (m2 := 191) (as := [.ref 540, .int a1, .int a2]) (rest := []) rfl rfl r
  obtain ⟨rfl, rfl⟩ := dn_191 rc
  have r : rn_s _ 233 (6, [some (.ref 540), some (.int a1), some (.int a2), some (.int a3), none, none, none], [.int (fn_191 g a1 a2)], aa_H g) v h := r
  refine rn_if (iw_s v h) rfl decide_eq_true_iff.symm r (fun c4 l5n l5 r => ?_) (fun c4 l5n l5 r => ?_)
  · obtain ⟨n6, ln6, r⟩ := rn_steps 0 (17, [some (.ref 540), some (.int a1), some (.int a2), some (.int a3), none, none, none], [.int (-1)], aa_H g) rfl r
    exact rn_ire rfl r
  · obtain ⟨n7, ln7, r⟩ := rn_steps 0 (10, [some (.ref 540), some (.int a1), some (.int a2), some (.int a3), none, none, none], [.int a3], aa_H g) rfl r
    obtain ⟨_, n8, v1, h1, -, ln8, rc, r⟩ := rn_call (m2 := 193) (as := [.int a3]) (rest := []) rfl rfl r
    obtain ⟨rfl, rfl⟩ := dn_193 rc
    have r : rn_s _ 233 (13, [some (.ref 540), some (.int a1), some (.int a2), some (.int a3), none, none, none], [.int (fn_193 a3)], aa_H g) v h := r
    refine rn_if (iw_s v h) rfl decide_eq_true_iff.symm r (fun c10 l11n l11 r => ?_) (fun c10 l11n l11 r => ?_)
    · obtain ⟨n12, ln12, r⟩ := rn_steps 2 (21, [some (.ref 540), some (.int a1), some (.int a2), some (.int a3), none, none, none], [.int a2, .int a1, .ref 540], aa_H g) rfl r
      obtain ⟨_, n13, v1, h1, -, ln13, rc, r⟩ := rn_call (m2 := 222) (as := [.ref 540, .int a1, .int a2]) (rest := []) rfl rfl r
      obtain ⟨rfl, rfl⟩ := dn_222 rc
      have r : rn_s _ 233 (24, [some (.ref 540), some (.int a1), some (.int a2), some (.int a3), none, none, none], [.int ((fn_222 g a1 a2).1)], aa_H ((fn_222 g a1 a2).2)) v h := r
      exact dn_233_24 (some (.int a2)) none none none rn_ji rn_jn rn_jn rn_jn r
    · obtain ⟨n15, ln15, r⟩ := rn_steps 0 (17, [some (.ref 540), some (.int a1), some (.int a2), some (.int a3), none, none, none], [.int (-1)], aa_H g) rfl r
      exact rn_ire rfl r
-- 235: UnequalHoursModel shared
noncomputable def fn_235_203 (g : aa_G) (b1 : Int32) (b2 : Int32) (b3 : Int32) (b4 : Int32) (b5 : Int32) (b6 : Int32) (b7 : Int32) (b8 : Int32) : (aa_G × Int32 × Int32 × Int32) ⊕ (Int32 × aa_G) := .inl (g, b6, b7, b8 + 1)
theorem dn_235_203 {v : Option Value} {h : zz_H} {n : Nat} {g : aa_G} {b1 : Int32} {b2 : Int32} {b3 : Int32} {b4 : Int32} {b5 : Int32} {b6 : Int32} {b7 : Int32} {b8 : Int32} (P : (aa_G × Int32 × Int32 × Int32) ⊕ (Int32 × aa_G) → Prop) (hO0 : ∀ n2, n2 < n → ∀ (yg : aa_G) (yb6 : Int32) (yb7 : Int32) (yb8 : Int32) (yx9 yx10 : Option Value) (_ : rn_jk yx9) (_ : rn_jk yx10), rn_s n2 235 (90, [some (.ref 540), some (.int b1), some (.int b2), some (.int b3), some (.int b4), some (.int b5), some (.int yb6), some (.int yb7), some (.int yb8), yx9, yx10], [], aa_H yg) v h → P (.inl (yg, yb6, yb7, yb8))) (hR : ∀ E, iw_s v h E → P (.inr E))  (x9 x10 : Option Value) (jx9 : rn_jk x9) (jx10 : rn_jk x10) (r : rn_s n 235 (203, [some (.ref 540), some (.int b1), some (.int b2), some (.int b3), some (.int b4), some (.int b5), some (.int b6), some (.int b7), some (.int b8), x9, x10], [], aa_H g) v h) : P (fn_235_203 g b1 b2 b3 b4 b5 b6 b7 b8) := by
  unfold fn_235_203
  obtain ⟨n68, ln68, r⟩ := rn_steps 1 (90, [some (.ref 540), some (.int b1), some (.int b2), some (.int b3), some (.int b4), some (.int b5), some (.int b6), some (.int b7), some (.int (b8 + 1)), x9, x10], [], aa_H g) rfl r
  exact hO0 _ (by omega) g b6 b7 (b8 + 1) x9 x10 jx9 jx10 r
noncomputable def fn_235_182 (g : aa_G) (b1 : Int32) (b2 : Int32) (b3 : Int32) (b4 : Int32) (b5 : Int32) (b6 : Int32) (b7 : Int32) (b8 : Int32) (s0 : Int32) (s1 : Int32) : (aa_G × Int32 × Int32 × Int32) ⊕ (Int32 × aa_G) := if 0 < (s1 - s0) then fn_235_203 g b1 b2 b3 b4 b5 (b6 + (s1 - s0)) (b7 + 1) b8 else fn_235_203 g b1 b2 b3 b4 b5 b6 b7 b8
theorem dn_235_182 {v : Option Value} {h : zz_H} {n : Nat} {g : aa_G} {b1 : Int32} {b2 : Int32} {b3 : Int32} {b4 : Int32} {b5 : Int32} {b6 : Int32} {b7 : Int32} {b8 : Int32} {s0 : Int32} {s1 : Int32} (P : (aa_G × Int32 × Int32 × Int32) ⊕ (Int32 × aa_G) → Prop) (hO0 : ∀ n2, n2 < n → ∀ (yg : aa_G) (yb6 : Int32) (yb7 : Int32) (yb8 : Int32) (yx9 yx10 : Option Value) (_ : rn_jk yx9) (_ : rn_jk yx10), rn_s n2 235 (90, [some (.ref 540), some (.int b1), some (.int b2), some (.int b3), some (.int b4), some (.int b5), some (.int yb6), some (.int yb7), some (.int yb8), yx9, yx10], [], aa_H yg) v h → P (.inl (yg, yb6, yb7, yb8))) (hR : ∀ E, iw_s v h E → P (.inr E))  (x9 x10 : Option Value) (jx9 : rn_jk x9) (jx10 : rn_jk x10) (r : rn_s n 235 (182, [some (.ref 540), some (.int b1), some (.int b2), some (.int b3), some (.int b4), some (.int b5), some (.int b6), some (.int b7), some (.int b8), x9, x10], [.int s0, .int s1], aa_H g) v h) : P (fn_235_182 g b1 b2 b3 b4 b5 b6 b7 b8 s0 s1) := by
  unfold fn_235_182
  obtain ⟨n69, ln69, r⟩ := rn_steps 0 (183, [some (.ref 540), some (.int b1), some (.int b2), some (.int b3), some (.int b4), some (.int b5), some (.int b6), some (.int b7), some (.int b8), x9, x10], [.int (s1 - s0)], aa_H g) rfl r
  obtain ⟨n70, ln70, r⟩ := rn_isx (i := 10) rfl rfl jx9 rfl ⟨Nat.le_of_ble_eq_true rfl, Nat.le_of_ble_eq_true rfl⟩ r
  have r : rn_s _ 235 (185, [some (.ref 540), some (.int b1), some (.int b2), some (.int b3), some (.int b4), some (.int b5), some (.int b6), some (.int b7), some (.int b8), x9, some (.int (s1 - s0))], [], aa_H g) v h := r
  obtain ⟨n71, ln71, r⟩ := rn_steps 0 (187, [some (.ref 540), some (.int b1), some (.int b2), some (.int b3), some (.int b4), some (.int b5), some (.int b6), some (.int b7), some (.int b8), x9, some (.int (s1 - s0))], [.int (s1 - s0)], aa_H g) rfl r
  refine rn_if (P) rfl decide_eq_true_iff.symm r (fun c72 l73n l73 r => ?_) (fun c72 l73n l73 r => ?_)
  · obtain ⟨n74, ln74, r⟩ := rn_steps 4 (203, [some (.ref 540), some (.int b1), some (.int b2), some (.int b3), some (.int b4), some (.int b5), some (.int (b6 + (s1 - s0))), some (.int (b7 + 1)), some (.int b8), x9, some (.int (s1 - s0))], [], aa_H g) rfl r
    exact dn_235_203 (P) (fun n2 l2 => hO0 n2 (by omega)) (fun z hz => hR _ hz) x9 (some (.int (s1 - s0))) jx9 rn_ji r
  · obtain ⟨n75, ln75, r⟩ := rn_steps 0 (203, [some (.ref 540), some (.int b1), some (.int b2), some (.int b3), some (.int b4), some (.int b5), some (.int b6), some (.int b7), some (.int b8), x9, some (.int (s1 - s0))], [], aa_H g) rfl r
    exact dn_235_203 (P) (fun n2 l2 => hO0 n2 (by omega)) (fun z hz => hR _ hz) x9 (some (.int (s1 - s0))) jx9 rn_ji r
noncomputable def fn_235_168 (g : aa_G) (b1 : Int32) (b2 : Int32) (b3 : Int32) (b4 : Int32) (b5 : Int32) (b6 : Int32) (b7 : Int32) (b8 : Int32) (b9 : Int32) (s0 : Int32) : (aa_G × Int32 × Int32 × Int32) ⊕ (Int32 × aa_G) := if b9 ≤ b4 then fn_235_182 g b1 b2 b3 b4 b5 b6 b7 b8 b4 s0 else fn_235_182 g b1 b2 b3 b4 b5 b6 b7 b8 b9 s0
theorem dn_235_168 {v : Option Value} {h : zz_H} {n : Nat} {g : aa_G} {b1 : Int32} {b2 : Int32} {b3 : Int32} {b4 : Int32} {b5 : Int32} {b6 : Int32} {b7 : Int32} {b8 : Int32} {b9 : Int32} {s0 : Int32} (P : (aa_G × Int32 × Int32 × Int32) ⊕ (Int32 × aa_G) → Prop) (hO0 : ∀ n2, n2 < n → ∀ (yg : aa_G) (yb6 : Int32) (yb7 : Int32) (yb8 : Int32) (yx9 yx10 : Option Value) (_ : rn_jk yx9) (_ : rn_jk yx10), rn_s n2 235 (90, [some (.ref 540), some (.int b1), some (.int b2), some (.int b3), some (.int b4), some (.int b5), some (.int yb6), some (.int yb7), some (.int yb8), yx9, yx10], [], aa_H yg) v h → P (.inl (yg, yb6, yb7, yb8))) (hR : ∀ E, iw_s v h E → P (.inr E))  (x10 : Option Value) (jx10 : rn_jk x10) (r : rn_s n 235 (168, [some (.ref 540), some (.int b1), some (.int b2), some (.int b3), some (.int b4), some (.int b5), some (.int b6), some (.int b7), some (.int b8), some (.int b9), x10], [.int s0], aa_H g) v h) : P (fn_235_168 g b1 b2 b3 b4 b5 b6 b7 b8 b9 s0) := by
  unfold fn_235_168
  obtain ⟨n63, ln63, r⟩ := rn_steps 1 (172, [some (.ref 540), some (.int b1), some (.int b2), some (.int b3), some (.int b4), some (.int b5), some (.int b6), some (.int b7), some (.int b8), some (.int b9), x10], [.int b4, .int b9, .int s0], aa_H g) rfl r
  refine rn_ic (P) rfl decide_eq_true_iff.symm r (fun c64 l65n l65 r => ?_) (fun c64 l65n l65 r => ?_)
  · obtain ⟨n66, ln66, r⟩ := rn_steps 0 (182, [some (.ref 540), some (.int b1), some (.int b2), some (.int b3), some (.int b4), some (.int b5), some (.int b6), some (.int b7), some (.int b8), some (.int b9), x10], [.int b4, .int s0], aa_H g) rfl r
    exact dn_235_182 (P) (fun n2 l2 => hO0 n2 (by omega)) (fun z hz => hR _ hz) (some (.int b9)) x10 rn_ji jx10 r
  · obtain ⟨n67, ln67, r⟩ := rn_steps 1 (182, [some (.ref 540), some (.int b1), some (.int b2), some (.int b3), some (.int b4), some (.int b5), some (.int b6), some (.int b7), some (.int b8), some (.int b9), x10], [.int b9, .int s0], aa_H g) rfl r
    exact dn_235_182 (P) (fun n2 l2 => hO0 n2 (by omega)) (fun z hz => hR _ hz) (some (.int b9)) x10 rn_ji jx10 r
noncomputable def fn_235_108 (g : aa_G) (b1 : Int32) (b2 : Int32) (b3 : Int32) (b4 : Int32) (b5 : Int32) (b6 : Int32) (b7 : Int32) (b8 : Int32) (s0 : Int32) : (aa_G × Int32 × Int32 × Int32) ⊕ (Int32 × aa_G) := if s0 ≠ 0 then if b5 ≤ (((((g 540 17) + ((b8 - b2) * 86400)) - (fn_209 g (b1 - b1 / 4 * 4))) + (fn_209 g (b1 / 4))) + (g 540 18)) then fn_235_168 g b1 b2 b3 b4 b5 b6 b7 b8 ((((g 540 17) + ((b8 - b2) * 86400)) - (fn_209 g (b1 - b1 / 4 * 4))) + (fn_209 g (b1 / 4))) b5 else fn_235_168 g b1 b2 b3 b4 b5 b6 b7 b8 ((((g 540 17) + ((b8 - b2) * 86400)) - (fn_209 g (b1 - b1 / 4 * 4))) + (fn_209 g (b1 / 4))) (((((g 540 17) + ((b8 - b2) * 86400)) - (fn_209 g (b1 - b1 / 4 * 4))) + (fn_209 g (b1 / 4))) + (g 540 18)) else fn_235_203 g b1 b2 b3 b4 b5 b6 b7 b8
theorem dn_235_108 {v : Option Value} {h : zz_H} {n : Nat} {g : aa_G} {b1 : Int32} {b2 : Int32} {b3 : Int32} {b4 : Int32} {b5 : Int32} {b6 : Int32} {b7 : Int32} {b8 : Int32} {s0 : Int32} (P : (aa_G × Int32 × Int32 × Int32) ⊕ (Int32 × aa_G) → Prop) (hO0 : ∀ n2, n2 < n → ∀ (yg : aa_G) (yb6 : Int32) (yb7 : Int32) (yb8 : Int32) (yx9 yx10 : Option Value) (_ : rn_jk yx9) (_ : rn_jk yx10), rn_s n2 235 (90, [some (.ref 540), some (.int b1), some (.int b2), some (.int b3), some (.int b4), some (.int b5), some (.int yb6), some (.int yb7), some (.int yb8), yx9, yx10], [], aa_H yg) v h → P (.inl (yg, yb6, yb7, yb8))) (hR : ∀ E, iw_s v h E → P (.inr E))  (x9 x10 : Option Value) (jx9 : rn_jk x9) (jx10 : rn_jk x10) (r : rn_s n 235 (108, [some (.ref 540), some (.int b1), some (.int b2), some (.int b3), some (.int b4), some (.int b5), some (.int b6), some (.int b7), some (.int b8), x9, x10], [.int s0], aa_H g) v h) : P (fn_235_108 g b1 b2 b3 b4 b5 b6 b7 b8 s0) := by
  unfold fn_235_108
  refine rn_if (P) rfl decide_eq_true_iff.symm r (fun c49 l50n l50 r => ?_) (fun c49 l50n l50 r => ?_)
  · obtain ⟨n51, ln51, r⟩ := rn_steps 11 (130, [some (.ref 540), some (.int b1), some (.int b2), some (.int b3), some (.int b4), some (.int b5), some (.int b6), some (.int b7), some (.int b8), x9, x10], [.int (b1 - b1 / 4 * 4), .ref 540, .int ((g 540 17) + ((b8 - b2) * 86400))], aa_H g) rfl r
    obtain ⟨_, n52, v1, h1, -, ln52, rc, r⟩ := rn_call (m2 := 209) (as := [.ref 540, .int (b1 - b1 / 4 * 4)]) (rest := [.int ((g 540 17) + ((b8 - b2) * 86400))]) rfl rfl r
    obtain ⟨rfl, rfl⟩ := dn_209 rc
    have r : rn_s _ 235 (133, [some (.ref 540), some (.int b1), some (.int b2), some (.int b3), some (.int b4), some (.int b5), some (.int b6), some (.int b7), some (.int b8), x9, x10], [.int (fn_209 g (b1 - b1 / 4 * 4)), .int ((g 540 17) + ((b8 - b2) * 86400))], aa_H g) v h := r
    obtain ⟨n54, ln54, r⟩ := rn_steps 4 (138, [some (.ref 540), some (.int b1), some (.int b2), some (.int b3), some (.int b4), some (.int b5), some (.int b6), some (.int b7), some (.int b8), x9, x10], [.int (b1 / 4), .ref 540, .int (((g 540 17) + ((b8 - b2) * 86400)) - (fn_209 g (b1 - b1 / 4 * 4)))], aa_H g) rfl r
    obtain ⟨_, n55, v1, h1, -, ln55, rc, r⟩ := rn_call (m2 := 209) (as := [.ref 540, .int (b1 / 4)]) (rest := [.int (((g 540 17) + ((b8 - b2) * 86400)) - (fn_209 g (b1 - b1 / 4 * 4)))]) rfl rfl r
    obtain ⟨rfl, rfl⟩ := dn_209 rc
    have r : rn_s _ 235 (141, [some (.ref 540), some (.int b1), some (.int b2), some (.int b3), some (.int b4), some (.int b5), some (.int b6), some (.int b7), some (.int b8), x9, x10], [.int (fn_209 g (b1 / 4)), .int (((g 540 17) + ((b8 - b2) * 86400)) - (fn_209 g (b1 - b1 / 4 * 4)))], aa_H g) v h := r
    obtain ⟨n57, ln57, r⟩ := rn_steps 6 (153, [some (.ref 540), some (.int b1), some (.int b2), some (.int b3), some (.int b4), some (.int b5), some (.int b6), some (.int b7), some (.int b8), some (.int ((((g 540 17) + ((b8 - b2) * 86400)) - (fn_209 g (b1 - b1 / 4 * 4))) + (fn_209 g (b1 / 4)))), x10], [.int b5, .int (((((g 540 17) + ((b8 - b2) * 86400)) - (fn_209 g (b1 - b1 / 4 * 4))) + (fn_209 g (b1 / 4))) + (g 540 18))], aa_H g) rfl r
    refine rn_ic (P) rfl decide_eq_true_iff.symm r (fun c58 l59n l59 r => ?_) (fun c58 l59n l59 r => ?_)
    · obtain ⟨n60, ln60, r⟩ := rn_steps 0 (168, [some (.ref 540), some (.int b1), some (.int b2), some (.int b3), some (.int b4), some (.int b5), some (.int b6), some (.int b7), some (.int b8), some (.int ((((g 540 17) + ((b8 - b2) * 86400)) - (fn_209 g (b1 - b1 / 4 * 4))) + (fn_209 g (b1 / 4)))), x10], [.int b5], aa_H g) rfl r
      exact dn_235_168 (P) (fun n2 l2 => hO0 n2 (by omega)) (fun z hz => hR _ hz) x10 jx10 r
    · obtain ⟨n61, ln61, r⟩ := rn_steps 4 (168, [some (.ref 540), some (.int b1), some (.int b2), some (.int b3), some (.int b4), some (.int b5), some (.int b6), some (.int b7), some (.int b8), some (.int ((((g 540 17) + ((b8 - b2) * 86400)) - (fn_209 g (b1 - b1 / 4 * 4))) + (fn_209 g (b1 / 4)))), x10], [.int (((((g 540 17) + ((b8 - b2) * 86400)) - (fn_209 g (b1 - b1 / 4 * 4))) + (fn_209 g (b1 / 4))) + (g 540 18))], aa_H g) rfl r
      exact dn_235_168 (P) (fun n2 l2 => hO0 n2 (by omega)) (fun z hz => hR _ hz) x10 jx10 r
  · obtain ⟨n62, ln62, r⟩ := rn_steps 0 (203, [some (.ref 540), some (.int b1), some (.int b2), some (.int b3), some (.int b4), some (.int b5), some (.int b6), some (.int b7), some (.int b8), x9, x10], [], aa_H g) rfl r
    exact dn_235_203 (P) (fun n2 l2 => hO0 n2 (by omega)) (fun z hz => hR _ hz) x9 x10 jx9 jx10 r
noncomputable def fn_235_90b (g : aa_G) (b1 : Int32) (b2 : Int32) (b3 : Int32) (b4 : Int32) (b5 : Int32) (b6 : Int32) (b7 : Int32) (b8 : Int32) : (aa_G × Int32 × Int32 × Int32) ⊕ (Int32 × aa_G) := if (b2 + 1) < b8 then if b3 ≠ 0 then .inr (b7, g) else .inr (b6, g) else fn_235_108 ((fn_194 g (b1 - b1 / 4 * 4) b8 0).2) b1 b2 b3 b4 b5 b6 b7 b8 ((fn_194 g (b1 - b1 / 4 * 4) b8 0).1)
noncomputable def fn_235_90 (g : aa_G) (b1 : Int32) (b2 : Int32) (b3 : Int32) (b4 : Int32) (b5 : Int32) (b6 : Int32) (b7 : Int32) (b8 : Int32) : Int32 × aa_G := lp_f (0, g) (fun z : (aa_G × Int32 × Int32 × Int32) => fn_235_90b z.1 b1 b2 b3 b4 b5 z.2.1 z.2.2.1 z.2.2.2) (g, b6, b7, b8)
theorem dn_235_90l {v : Option Value} {h : zz_H} {N : Nat} {b1 : Int32} {b2 : Int32} {b3 : Int32} {b4 : Int32} {b5 : Int32} {d : Int32 × aa_G} : ∀ (n : Nat), n ≤ N → ∀ (g : aa_G) (b6 : Int32) (b7 : Int32) (b8 : Int32) (x9 x10 : Option Value) (jx9 : rn_jk x9) (jx10 : rn_jk x10), rn_s n 235 (90, [some (.ref 540), some (.int b1), some (.int b2), some (.int b3), some (.int b4), some (.int b5), some (.int b6), some (.int b7), some (.int b8), x9, x10], [], aa_H g) v h → (iw_s v h) (lp_f d (fun z : (aa_G × Int32 × Int32 × Int32) => fn_235_90b z.1 b1 b2 b3 b4 b5 z.2.1 z.2.2.1 z.2.2.2) (g, b6, b7, b8)) := by
  generalize hf : (fun z : (aa_G × Int32 × Int32 × Int32) => fn_235_90b z.1 b1 b2 b3 b4 b5 z.2.1 z.2.2.1 z.2.2.2) = f
  intro n
  induction n using Nat.strongRecOn with
  | _ n ih =>
    intro hN g b6 b7 b8 x9 x10 jx9 jx10 r
    refine lp_go ?_
    rw [← congrFun hf (g, b6, b7, b8)]
    show lp_q (iw_s v h) d f (fn_235_90b g b1 b2 b3 b4 b5 b6 b7 b8)
    unfold fn_235_90b
    obtain ⟨n38, ln38, r⟩ := rn_steps 3 (95, [some (.ref 540), some (.int b1), some (.int b2), some (.int b3), some (.int b4), some (.int b5), some (.int b6), some (.int b7), some (.int b8), x9, x10], [.int (b2 + 1), .int b8], aa_H g) rfl r
    refine rn_ic (lp_q (iw_s v h) d f) rfl decide_eq_true_iff.symm r (fun c39 l40n l40 r => ?_) (fun c39 l40n l40 r => ?_)
    · obtain ⟨n41, ln41, r⟩ := rn_steps 0 (210, [some (.ref 540), some (.int b1), some (.int b2), some (.int b3), some (.int b4), some (.int b5), some (.int b6), some (.int b7), some (.int b8), x9, x10], [.int b3], aa_H g) rfl r
      refine rn_if (lp_q (iw_s v h) d f) rfl decide_eq_true_iff.symm r (fun c42 l43n l43 r => ?_) (fun c42 l43n l43 r => ?_)
      · obtain ⟨n44, ln44, r⟩ := rn_steps 0 (220, [some (.ref 540), some (.int b1), some (.int b2), some (.int b3), some (.int b4), some (.int b5), some (.int b6), some (.int b7), some (.int b8), x9, x10], [.int b7], aa_H g) rfl r
        exact rn_ire rfl r
      · obtain ⟨n45, ln45, r⟩ := rn_steps 1 (220, [some (.ref 540), some (.int b1), some (.int b2), some (.int b3), some (.int b4), some (.int b5), some (.int b6), some (.int b7), some (.int b8), x9, x10], [.int b6], aa_H g) rfl r
        exact rn_ire rfl r
    · obtain ⟨n46, ln46, r⟩ := rn_steps 5 (105, [some (.ref 540), some (.int b1), some (.int b2), some (.int b3), some (.int b4), some (.int b5), some (.int b6), some (.int b7), some (.int b8), x9, x10], [.int 0, .int b8, .int (b1 - b1 / 4 * 4), .ref 540], aa_H g) rfl r
      obtain ⟨_, n47, v1, h1, -, ln47, rc, r⟩ := rn_call (m2 := 194) (as := [.ref 540, .int (b1 - b1 / 4 * 4), .int b8, .int 0]) (rest := []) rfl rfl r
      obtain ⟨rfl, rfl⟩ := dn_194 rc
      have r : rn_s _ 235 (108, [some (.ref 540), some (.int b1), some (.int b2), some (.int b3), some (.int b4), some (.int b5), some (.int b6), some (.int b7), some (.int b8), x9, x10], [.int ((fn_194 g (b1 - b1 / 4 * 4) b8 0).1)], aa_H ((fn_194 g (b1 - b1 / 4 * 4) b8 0).2)) v h := r
      exact dn_235_108 (lp_q (iw_s v h) d f) (fun n2 l2 => ih n2 (by omega) (by omega)) (fun z hz => hz) x9 x10 jx9 jx10 r
theorem dn_235_90 {v : Option Value} {h : zz_H} {n : Nat} {g : aa_G} {b1 : Int32} {b2 : Int32} {b3 : Int32} {b4 : Int32} {b5 : Int32} {b6 : Int32} {b7 : Int32} {b8 : Int32}  (x9 x10 : Option Value) (jx9 : rn_jk x9) (jx10 : rn_jk x10) (r : rn_s n 235 (90, [some (.ref 540), some (.int b1), some (.int b2), some (.int b3), some (.int b4), some (.int b5), some (.int b6), some (.int b7), some (.int b8), x9, x10], [], aa_H g) v h) : (iw_s v h) (fn_235_90 g b1 b2 b3 b4 b5 b6 b7 b8) := dn_235_90l  n (Nat.le_refl n) g b6 b7 b8 x9 x10 jx9 jx10 r
noncomputable def fn_235_57 (g : aa_G) (b1 : Int32) (b2 : Int32) (b3 : Int32) (s0 : Int32) : Int32 × aa_G := if s0 ≠ 0 then fn_235_90 g b1 b2 b3 (g 540 17) ((g 540 17) + (g 540 18)) 0 0 (b2 - 1) else (0, g)
theorem dn_235_57 {v : Option Value} {h : zz_H} {n : Nat} {g : aa_G} {b1 : Int32} {b2 : Int32} {b3 : Int32} {s0 : Int32}  (x4 x5 x6 x7 x8 x9 x10 : Option Value) (jx4 : rn_jk x4) (jx5 : rn_jk x5) (jx6 : rn_jk x6) (jx7 : rn_jk x7) (jx8 : rn_jk x8) (jx9 : rn_jk x9) (jx10 : rn_jk x10) (r : rn_s n 235 (57, [some (.ref 540), some (.int b1), some (.int b2), some (.int b3), x4, x5, x6, x7, x8, x9, x10], [.int s0], aa_H g) v h) : iw_s v h (fn_235_57 g b1 b2 b3 s0) := by
  unfold fn_235_57
  refine rn_if (iw_s v h) rfl decide_eq_true_iff.symm r (fun c34 l35n l35 r => ?_) (fun c34 l35n l35 r => ?_)
  · obtain ⟨n36, ln36, r⟩ := rn_steps 16 (90, [some (.ref 540), some (.int b1), some (.int b2), some (.int b3), some (.int (g 540 17)), some (.int ((g 540 17) + (g 540 18))), some (.int 0), some (.int 0), some (.int (b2 - 1)), x9, x10], [], aa_H g) rfl r
    exact dn_235_90 x9 x10 jx9 jx10 r
  · obtain ⟨n37, ln37, r⟩ := rn_steps 0 (61, [some (.ref 540), some (.int b1), some (.int b2), some (.int b3), x4, x5, x6, x7, x8, x9, x10], [.int 0], aa_H g) rfl r
    exact rn_ire rfl r
noncomputable def fn_235 (g : aa_G) (a1 : Int32) (a2 : Int32) (a3 : Int32) : Int32 × aa_G := if (fn_154 a1 0 15) = 0 then (-1, g) else if (fn_192 g (a1 / 4)) = 0 then (-1, g) else if (fn_192 g (a1 - a1 / 4 * 4)) = 0 then (-1, g) else if (fn_193 a2) = 0 then (-1, g) else if (fn_154 a3 0 1) ≠ 0 then fn_235_57 ((fn_194 g (a1 / 4) a2 0).2) a1 a2 a3 ((fn_194 g (a1 / 4) a2 0).1) else (-1, g)
theorem dn_235 {v : Option Value} {h : zz_H} {n : Nat} {g : aa_G} {a1 : Int32} {a2 : Int32} {a3 : Int32}  (r : rn_s n 235 (0, zz_in [.ref 540, .int a1, .int a2, .int a3] (zz_nl 235), [], aa_H g) v h) : iw_s v h (fn_235 g a1 a2 a3) := by
  have r : rn_s n 235 (0, [some (.ref 540), some (.int a1), some (.int a2), some (.int a3), none, none, none, none, none, none, none], [], aa_H g) v h := r
  unfold fn_235
  obtain ⟨n1, ln1, r⟩ := rn_steps 2 (4, [some (.ref 540), some (.int a1), some (.int a2), some (.int a3), none, none, none, none, none, none, none], [.int 15, .int 0, .int a1], aa_H g) rfl r
  obtain ⟨_, n2, v1, h1, -, ln2, rc, r⟩ := rn_call (m2 := 154) (as := [.int a1, .int 0, .int 15]) (rest := []) rfl rfl r
  obtain ⟨rfl, rfl⟩ := dn_154 rc
  have r : rn_s _ 235 (7, [some (.ref 540), some (.int a1), some (.int a2), some (.int a3), none, none, none, none, none, none, none], [.int (fn_154 a1 0 15)], aa_H g) v h := r
  refine rn_if (iw_s v h) rfl decide_eq_true_iff.symm r (fun c4 l5n l5 r => ?_) (fun c4 l5n l5 r => ?_)
  · obtain ⟨n6, ln6, r⟩ := rn_steps 0 (47, [some (.ref 540), some (.int a1), some (.int a2), some (.int a3), none, none, none, none, none, none, none], [.int (-1)], aa_H g) rfl r
    exact rn_ire rfl r
  · obtain ⟨n7, ln7, r⟩ := rn_steps 3 (14, [some (.ref 540), some (.int a1), some (.int a2), some (.int a3), none, none, none, none, none, none, none], [.int (a1 / 4), .ref 540], aa_H g) rfl r
    obtain ⟨_, n8, v1, h1, -, ln8, rc, r⟩ := rn_call (m2 := 192) (as := [.ref 540, .int (a1 / 4)]) (rest := []) rfl rfl r
    obtain ⟨rfl, rfl⟩ := dn_192 rc
    have r : rn_s _ 235 (17, [some (.ref 540), some (.int a1), some (.int a2), some (.int a3), none, none, none, none, none, none, none], [.int (fn_192 g (a1 / 4))], aa_H g) v h := r
    refine rn_if (iw_s v h) rfl decide_eq_true_iff.symm r (fun c10 l11n l11 r => ?_) (fun c10 l11n l11 r => ?_)
    · obtain ⟨n12, ln12, r⟩ := rn_steps 0 (47, [some (.ref 540), some (.int a1), some (.int a2), some (.int a3), none, none, none, none, none, none, none], [.int (-1)], aa_H g) rfl r
      exact rn_ire rfl r
    · obtain ⟨n13, ln13, r⟩ := rn_steps 3 (24, [some (.ref 540), some (.int a1), some (.int a2), some (.int a3), none, none, none, none, none, none, none], [.int (a1 - a1 / 4 * 4), .ref 540], aa_H g) rfl r
      obtain ⟨_, n14, v1, h1, -, ln14, rc, r⟩ := rn_call (m2 := 192) (as := [.ref 540, .int (a1 - a1 / 4 * 4)]) (rest := []) rfl rfl r
      obtain ⟨rfl, rfl⟩ := dn_192 rc
      have r : rn_s _ 235 (27, [some (.ref 540), some (.int a1), some (.int a2), some (.int a3), none, none, none, none, none, none, none], [.int (fn_192 g (a1 - a1 / 4 * 4))], aa_H g) v h := r
      refine rn_if (iw_s v h) rfl decide_eq_true_iff.symm r (fun c16 l17n l17 r => ?_) (fun c16 l17n l17 r => ?_)
      · obtain ⟨n18, ln18, r⟩ := rn_steps 0 (47, [some (.ref 540), some (.int a1), some (.int a2), some (.int a3), none, none, none, none, none, none, none], [.int (-1)], aa_H g) rfl r
        exact rn_ire rfl r
      · obtain ⟨n19, ln19, r⟩ := rn_steps 0 (31, [some (.ref 540), some (.int a1), some (.int a2), some (.int a3), none, none, none, none, none, none, none], [.int a2], aa_H g) rfl r
        obtain ⟨_, n20, v1, h1, -, ln20, rc, r⟩ := rn_call (m2 := 193) (as := [.int a2]) (rest := []) rfl rfl r
        obtain ⟨rfl, rfl⟩ := dn_193 rc
        have r : rn_s _ 235 (34, [some (.ref 540), some (.int a1), some (.int a2), some (.int a3), none, none, none, none, none, none, none], [.int (fn_193 a2)], aa_H g) v h := r
        refine rn_if (iw_s v h) rfl decide_eq_true_iff.symm r (fun c22 l23n l23 r => ?_) (fun c22 l23n l23 r => ?_)
        · obtain ⟨n24, ln24, r⟩ := rn_steps 0 (47, [some (.ref 540), some (.int a1), some (.int a2), some (.int a3), none, none, none, none, none, none, none], [.int (-1)], aa_H g) rfl r
          exact rn_ire rfl r
        · obtain ⟨n25, ln25, r⟩ := rn_steps 2 (40, [some (.ref 540), some (.int a1), some (.int a2), some (.int a3), none, none, none, none, none, none, none], [.int 1, .int 0, .int a3], aa_H g) rfl r
          obtain ⟨_, n26, v1, h1, -, ln26, rc, r⟩ := rn_call (m2 := 154) (as := [.int a3, .int 0, .int 1]) (rest := []) rfl rfl r
          obtain ⟨rfl, rfl⟩ := dn_154 rc
          have r : rn_s _ 235 (43, [some (.ref 540), some (.int a1), some (.int a2), some (.int a3), none, none, none, none, none, none, none], [.int (fn_154 a3 0 1)], aa_H g) v h := r
          refine rn_if (iw_s v h) rfl decide_eq_true_iff.symm r (fun c28 l29n l29 r => ?_) (fun c28 l29n l29 r => ?_)
          · obtain ⟨n30, ln30, r⟩ := rn_steps 5 (54, [some (.ref 540), some (.int a1), some (.int a2), some (.int a3), none, none, none, none, none, none, none], [.int 0, .int a2, .int (a1 / 4), .ref 540], aa_H g) rfl r
            obtain ⟨_, n31, v1, h1, -, ln31, rc, r⟩ := rn_call (m2 := 194) (as := [.ref 540, .int (a1 / 4), .int a2, .int 0]) (rest := []) rfl rfl r
            obtain ⟨rfl, rfl⟩ := dn_194 rc
            have r : rn_s _ 235 (57, [some (.ref 540), some (.int a1), some (.int a2), some (.int a3), none, none, none, none, none, none, none], [.int ((fn_194 g (a1 / 4) a2 0).1)], aa_H ((fn_194 g (a1 / 4) a2 0).2)) v h := r
            exact dn_235_57 none none none none none none none rn_jn rn_jn rn_jn rn_jn rn_jn rn_jn rn_jn r
          · obtain ⟨n33, ln33, r⟩ := rn_steps 0 (47, [some (.ref 540), some (.int a1), some (.int a2), some (.int a3), none, none, none, none, none, none, none], [.int (-1)], aa_H g) rfl r
            exact rn_ire rfl r
-- 237: UnequalHoursModel spare
noncomputable def fn_237_155 (g : aa_G) (b1 : Int32) (b3 : Int32) (s0 : Int32) (s1 : Int32) : (aa_G × Int32 × Int32) ⊕ (Int32 × aa_G) := .inl (g, s1 + s0, b3 + 1)
theorem dn_237_155 {v : Option Value} {h : zz_H} {n : Nat} {g : aa_G} {b1 : Int32} {b3 : Int32} {s0 : Int32} {s1 : Int32} (P : (aa_G × Int32 × Int32) ⊕ (Int32 × aa_G) → Prop) (hO0 : ∀ n2, n2 < n → ∀ (yg : aa_G) (yb2 : Int32) (yb3 : Int32) (yx4 yx5 : Option Value) (_ : rn_jk yx4) (_ : rn_jk yx5), rn_s n2 237 (14, [some (.ref 540), some (.int b1), some (.int yb2), some (.int yb3), yx4, yx5], [], aa_H yg) v h → P (.inl (yg, yb2, yb3))) (hR : ∀ E, iw_s v h E → P (.inr E))  (x2 x4 x5 : Option Value) (jx2 : rn_jk x2) (jx4 : rn_jk x4) (jx5 : rn_jk x5) (r : rn_s n 237 (155, [some (.ref 540), some (.int b1), x2, some (.int b3), x4, x5], [.int s0, .int s1], aa_H g) v h) : P (fn_237_155 g b1 b3 s0 s1) := by
  unfold fn_237_155
  obtain ⟨n62, ln62, r⟩ := rn_steps 3 (14, [some (.ref 540), some (.int b1), some (.int (s1 + s0)), some (.int (b3 + 1)), x4, x5], [], aa_H g) rfl r
  exact hO0 _ (by omega) g (s1 + s0) (b3 + 1) x4 x5 jx4 jx5 r
noncomputable def fn_237_130 (g : aa_G) (b1 : Int32) (b3 : Int32) (s0 : Int32) : (aa_G × Int32 × Int32) ⊕ (Int32 × aa_G) := fn_237_155 g b1 b3 0 s0
theorem dn_237_130 {v : Option Value} {h : zz_H} {n : Nat} {g : aa_G} {b1 : Int32} {b3 : Int32} {s0 : Int32} (P : (aa_G × Int32 × Int32) ⊕ (Int32 × aa_G) → Prop) (hO0 : ∀ n2, n2 < n → ∀ (yg : aa_G) (yb2 : Int32) (yb3 : Int32) (yx4 yx5 : Option Value) (_ : rn_jk yx4) (_ : rn_jk yx5), rn_s n2 237 (14, [some (.ref 540), some (.int b1), some (.int yb2), some (.int yb3), yx4, yx5], [], aa_H yg) v h → P (.inl (yg, yb2, yb3))) (hR : ∀ E, iw_s v h E → P (.inr E))  (x2 x4 x5 : Option Value) (jx2 : rn_jk x2) (jx4 : rn_jk x4) (jx5 : rn_jk x5) (r : rn_s n 237 (130, [some (.ref 540), some (.int b1), x2, some (.int b3), x4, x5], [.int s0], aa_H g) v h) : P (fn_237_130 g b1 b3 s0) := by
  unfold fn_237_130
  obtain ⟨n63, ln63, r⟩ := rn_steps 1 (155, [some (.ref 540), some (.int b1), x2, some (.int b3), x4, x5], [.int 0, .int s0], aa_H g) rfl r
  exact dn_237_155 (P) (fun n2 l2 => hO0 n2 (by omega)) (fun z hz => hR _ hz) x2 x4 x5 jx2 jx4 jx5 r
noncomputable def fn_237_89 (g : aa_G) (b1 : Int32) (b3 : Int32) (b4 : Int32) (s0 : Int32) (s2 : Int32) : (aa_G × Int32 × Int32) ⊕ (Int32 × aa_G) := if (g 541 s0.toNatClampNeg) ≠ (-1) then fn_237_130 g b1 b3 s2 else if (g 540 14) ≠ (g 541 (b4 + 1).toNatClampNeg) then fn_237_130 g b1 b3 s2 else if (g 540 15) ≠ (g 541 (b4 + 2).toNatClampNeg) then fn_237_130 g b1 b3 s2 else fn_237_155 g b1 b3 1 s2
theorem dn_237_89 {v : Option Value} {h : zz_H} {n : Nat} {g : aa_G} {b1 : Int32} {b3 : Int32} {b4 : Int32} {s0 : Int32} {s2 : Int32} (P : (aa_G × Int32 × Int32) ⊕ (Int32 × aa_G) → Prop) (hO0 : ∀ n2, n2 < n → ∀ (yg : aa_G) (yb2 : Int32) (yb3 : Int32) (yx4 yx5 : Option Value) (_ : rn_jk yx4) (_ : rn_jk yx5), rn_s n2 237 (14, [some (.ref 540), some (.int b1), some (.int yb2), some (.int yb3), yx4, yx5], [], aa_H yg) v h → P (.inl (yg, yb2, yb3))) (hR : ∀ E, iw_s v h E → P (.inr E))  (x2 x5 : Option Value) (jx2 : rn_jk x2) (jx5 : rn_jk x5) (r : rn_s n 237 (89, [some (.ref 540), some (.int b1), x2, some (.int b3), some (.int b4), x5], [.int s0, .ref 541, .int s2], aa_H g) v h) : P (fn_237_89 g b1 b3 b4 s0 s2) := by
  unfold fn_237_89
  obtain ⟨hb47, n46, ln46, r⟩ := rn_ial (k := 541) rfl ⟨by decide, by decide⟩ rfl r
  have r : rn_s _ 237 (90, [some (.ref 540), some (.int b1), x2, some (.int b3), some (.int b4), x5], [.int (g 541 s0.toNatClampNeg), .int s2], aa_H g) v h := r
  obtain ⟨n48, ln48, r⟩ := rn_steps 0 (91, [some (.ref 540), some (.int b1), x2, some (.int b3), some (.int b4), x5], [.int (-1), .int (g 541 s0.toNatClampNeg), .int s2], aa_H g) rfl r
  refine rn_ic (P) rfl decide_eq_true_iff.symm r (fun c49 l50n l50 r => ?_) (fun c49 l50n l50 r => ?_)
  · exact dn_237_130 (P) (fun n2 l2 => hO0 n2 (by omega)) (fun z hz => hR _ hz) x2 (some (.int b4)) x5 jx2 rn_ji jx5 r
  · obtain ⟨n51, ln51, r⟩ := rn_steps 6 (106, [some (.ref 540), some (.int b1), x2, some (.int b3), some (.int b4), x5], [.int (b4 + 1), .ref 541, .int (g 540 14), .int s2], aa_H g) rfl r
    obtain ⟨hb53, n52, ln52, r⟩ := rn_ial (k := 541) rfl ⟨by decide, by decide⟩ rfl r
    have r : rn_s _ 237 (107, [some (.ref 540), some (.int b1), x2, some (.int b3), some (.int b4), x5], [.int (g 541 (b4 + 1).toNatClampNeg), .int (g 540 14), .int s2], aa_H g) v h := r
    refine rn_ic (P) rfl decide_eq_true_iff.symm r (fun c54 l55n l55 r => ?_) (fun c54 l55n l55 r => ?_)
    · exact dn_237_130 (P) (fun n2 l2 => hO0 n2 (by omega)) (fun z hz => hR _ hz) x2 (some (.int b4)) x5 jx2 rn_ji jx5 r
    · obtain ⟨n56, ln56, r⟩ := rn_steps 6 (122, [some (.ref 540), some (.int b1), x2, some (.int b3), some (.int b4), x5], [.int (b4 + 2), .ref 541, .int (g 540 15), .int s2], aa_H g) rfl r
      obtain ⟨hb58, n57, ln57, r⟩ := rn_ial (k := 541) rfl ⟨by decide, by decide⟩ rfl r
      have r : rn_s _ 237 (123, [some (.ref 540), some (.int b1), x2, some (.int b3), some (.int b4), x5], [.int (g 541 (b4 + 2).toNatClampNeg), .int (g 540 15), .int s2], aa_H g) v h := r
      refine rn_ic (P) rfl decide_eq_true_iff.symm r (fun c59 l60n l60 r => ?_) (fun c59 l60n l60 r => ?_)
      · exact dn_237_130 (P) (fun n2 l2 => hO0 n2 (by omega)) (fun z hz => hR _ hz) x2 (some (.int b4)) x5 jx2 rn_ji jx5 r
      · obtain ⟨n61, ln61, r⟩ := rn_steps 1 (155, [some (.ref 540), some (.int b1), x2, some (.int b3), some (.int b4), x5], [.int 1, .int s2], aa_H g) rfl r
        exact dn_237_155 (P) (fun n2 l2 => hO0 n2 (by omega)) (fun z hz => hR _ hz) x2 (some (.int b4)) x5 jx2 rn_ji jx5 r
noncomputable def fn_237_146 (g : aa_G) (b1 : Int32) (b3 : Int32) (s0 : Int32) (s2 : Int32) (s3 : Int32) : (aa_G × Int32 × Int32) ⊕ (Int32 × aa_G) := if s2 ≠ (g 541 s0.toNatClampNeg) then fn_237_155 g b1 b3 0 s3 else fn_237_155 g b1 b3 1 s3
theorem dn_237_146 {v : Option Value} {h : zz_H} {n : Nat} {g : aa_G} {b1 : Int32} {b3 : Int32} {s0 : Int32} {s2 : Int32} {s3 : Int32} (P : (aa_G × Int32 × Int32) ⊕ (Int32 × aa_G) → Prop) (hO0 : ∀ n2, n2 < n → ∀ (yg : aa_G) (yb2 : Int32) (yb3 : Int32) (yx4 yx5 : Option Value) (_ : rn_jk yx4) (_ : rn_jk yx5), rn_s n2 237 (14, [some (.ref 540), some (.int b1), some (.int yb2), some (.int yb3), yx4, yx5], [], aa_H yg) v h → P (.inl (yg, yb2, yb3))) (hR : ∀ E, iw_s v h E → P (.inr E))  (x2 x4 x5 : Option Value) (jx2 : rn_jk x2) (jx4 : rn_jk x4) (jx5 : rn_jk x5) (r : rn_s n 237 (146, [some (.ref 540), some (.int b1), x2, some (.int b3), x4, x5], [.int s0, .ref 541, .int s2, .int s3], aa_H g) v h) : P (fn_237_146 g b1 b3 s0 s2 s3) := by
  unfold fn_237_146
  obtain ⟨hb41, n40, ln40, r⟩ := rn_ial (k := 541) rfl ⟨by decide, by decide⟩ rfl r
  have r : rn_s _ 237 (147, [some (.ref 540), some (.int b1), x2, some (.int b3), x4, x5], [.int (g 541 s0.toNatClampNeg), .int s2, .int s3], aa_H g) v h := r
  refine rn_ic (P) rfl decide_eq_true_iff.symm r (fun c42 l43n l43 r => ?_) (fun c42 l43n l43 r => ?_)
  · obtain ⟨n44, ln44, r⟩ := rn_steps 0 (155, [some (.ref 540), some (.int b1), x2, some (.int b3), x4, x5], [.int 0, .int s3], aa_H g) rfl r
    exact dn_237_155 (P) (fun n2 l2 => hO0 n2 (by omega)) (fun z hz => hR _ hz) x2 x4 x5 jx2 jx4 jx5 r
  · obtain ⟨n45, ln45, r⟩ := rn_steps 1 (155, [some (.ref 540), some (.int b1), x2, some (.int b3), x4, x5], [.int 1, .int s3], aa_H g) rfl r
    exact dn_237_155 (P) (fun n2 l2 => hO0 n2 (by omega)) (fun z hz => hR _ hz) x2 x4 x5 jx2 jx4 jx5 r
noncomputable def fn_237_68 (g : aa_G) (b1 : Int32) (b2 : Int32) (b3 : Int32) (b4 : Int32) (s0 : Int32) : (aa_G × Int32 × Int32) ⊕ (Int32 × aa_G) := if s0 = 0 then fn_237_146 (zz_w g 540 16 (-1)) b1 b3 (b4 + 3) (g 540 13) b2 else fn_237_89 (zz_w g 540 16 (-1)) b1 b3 b4 (b4 + 3) b2
theorem dn_237_68 {v : Option Value} {h : zz_H} {n : Nat} {g : aa_G} {b1 : Int32} {b2 : Int32} {b3 : Int32} {b4 : Int32} {s0 : Int32} (P : (aa_G × Int32 × Int32) ⊕ (Int32 × aa_G) → Prop) (hO0 : ∀ n2, n2 < n → ∀ (yg : aa_G) (yb2 : Int32) (yb3 : Int32) (yx4 yx5 : Option Value) (_ : rn_jk yx4) (_ : rn_jk yx5), rn_s n2 237 (14, [some (.ref 540), some (.int b1), some (.int yb2), some (.int yb3), yx4, yx5], [], aa_H yg) v h → P (.inl (yg, yb2, yb3))) (hR : ∀ E, iw_s v h E → P (.inr E))  (x5 : Option Value) (jx5 : rn_jk x5) (r : rn_s n 237 (68, [some (.ref 540), some (.int b1), some (.int b2), some (.int b3), some (.int b4), x5], [.int s0], aa_H g) v h) : P (fn_237_68 g b1 b2 b3 b4 s0) := by
  unfold fn_237_68
  obtain ⟨n35, ln35, r⟩ := rn_steps 5 (78, [some (.ref 540), some (.int b1), some (.int b2), some (.int b3), some (.int b4), some (.int s0)], [.int s0, .int b2], aa_H (zz_w g 540 16 (-1))) rfl r
  refine rn_if (P) rfl decide_eq_true_iff.symm r (fun c36 l37n l37 r => ?_) (fun c36 l37n l37 r => ?_)
  · obtain ⟨n38, ln38, r⟩ := rn_steps 6 (146, [some (.ref 540), some (.int b1), some (.int b2), some (.int b3), some (.int b4), some (.int s0)], [.int (b4 + 3), .ref 541, .int (g 540 13), .int b2], aa_H (zz_w g 540 16 (-1))) rfl r
    exact dn_237_146 (P) (fun n2 l2 => hO0 n2 (by omega)) (fun z hz => hR _ hz) (some (.int b2)) (some (.int b4)) (some (.int s0)) rn_ji rn_ji rn_ji r
  · obtain ⟨n39, ln39, r⟩ := rn_steps 4 (89, [some (.ref 540), some (.int b1), some (.int b2), some (.int b3), some (.int b4), some (.int s0)], [.int (b4 + 3), .ref 541, .int b2], aa_H (zz_w g 540 16 (-1))) rfl r
    exact dn_237_89 (P) (fun n2 l2 => hO0 n2 (by omega)) (fun z hz => hR _ hz) (some (.int b2)) (some (.int s0)) rn_ji rn_ji r
noncomputable def fn_237_64 (g : aa_G) (b1 : Int32) (b2 : Int32) (b3 : Int32) (b4 : Int32) (s0 : Int32) (s2 : Int32) : (aa_G × Int32 × Int32) ⊕ (Int32 × aa_G) := fn_237_68 ((fn_195 g s2 (g 541 s0.toNatClampNeg)).2) b1 b2 b3 b4 ((fn_195 g s2 (g 541 s0.toNatClampNeg)).1)
theorem dn_237_64 {v : Option Value} {h : zz_H} {n : Nat} {g : aa_G} {b1 : Int32} {b2 : Int32} {b3 : Int32} {b4 : Int32} {s0 : Int32} {s2 : Int32} (P : (aa_G × Int32 × Int32) ⊕ (Int32 × aa_G) → Prop) (hO0 : ∀ n2, n2 < n → ∀ (yg : aa_G) (yb2 : Int32) (yb3 : Int32) (yx4 yx5 : Option Value) (_ : rn_jk yx4) (_ : rn_jk yx5), rn_s n2 237 (14, [some (.ref 540), some (.int b1), some (.int yb2), some (.int yb3), yx4, yx5], [], aa_H yg) v h → P (.inl (yg, yb2, yb3))) (hR : ∀ E, iw_s v h E → P (.inr E))  (x5 : Option Value) (jx5 : rn_jk x5) (r : rn_s n 237 (64, [some (.ref 540), some (.int b1), some (.int b2), some (.int b3), some (.int b4), x5], [.int s0, .ref 541, .int s2, .ref 540], aa_H g) v h) : P (fn_237_64 g b1 b2 b3 b4 s0 s2) := by
  unfold fn_237_64
  obtain ⟨hb32, n31, ln31, r⟩ := rn_ial (k := 541) rfl ⟨by decide, by decide⟩ rfl r
  have r : rn_s _ 237 (65, [some (.ref 540), some (.int b1), some (.int b2), some (.int b3), some (.int b4), x5], [.int (g 541 s0.toNatClampNeg), .int s2, .ref 540], aa_H g) v h := r
  obtain ⟨_, n33, v1, h1, -, ln33, rc, r⟩ := rn_call (m2 := 195) (as := [.ref 540, .int s2, .int (g 541 s0.toNatClampNeg)]) (rest := []) rfl rfl r
  obtain ⟨rfl, rfl⟩ := dn_195 rc
  have r : rn_s _ 237 (68, [some (.ref 540), some (.int b1), some (.int b2), some (.int b3), some (.int b4), x5], [.int ((fn_195 g s2 (g 541 s0.toNatClampNeg)).1)], aa_H ((fn_195 g s2 (g 541 s0.toNatClampNeg)).2)) v h := r
  exact dn_237_68 (P) (fun n2 l2 => hO0 n2 (by omega)) (fun z hz => hR _ hz) x5 jx5 r
noncomputable def fn_237_14b (g : aa_G) (b1 : Int32) (b2 : Int32) (b3 : Int32) : (aa_G × Int32 × Int32) ⊕ (Int32 × aa_G) := if (g 541 ((fn_164 b1) + 1).toNatClampNeg) ≤ b3 then .inr (b2, g) else if (g 541 ((fn_164 b1) + 1).toNatClampNeg) ≤ 1 then .inr (b2, g) else fn_237_64 (zz_w g 540 16 b3) b1 b2 b3 (fn_175 b1 b3) (fn_175 b1 b3) b1
noncomputable def fn_237_14 (g : aa_G) (b1 : Int32) (b2 : Int32) (b3 : Int32) : Int32 × aa_G := lp_f (0, g) (fun z : (aa_G × Int32 × Int32) => fn_237_14b z.1 b1 z.2.1 z.2.2) (g, b2, b3)
theorem dn_237_14l {v : Option Value} {h : zz_H} {N : Nat} {b1 : Int32} {d : Int32 × aa_G} : ∀ (n : Nat), n ≤ N → ∀ (g : aa_G) (b2 : Int32) (b3 : Int32) (x4 x5 : Option Value) (jx4 : rn_jk x4) (jx5 : rn_jk x5), rn_s n 237 (14, [some (.ref 540), some (.int b1), some (.int b2), some (.int b3), x4, x5], [], aa_H g) v h → (iw_s v h) (lp_f d (fun z : (aa_G × Int32 × Int32) => fn_237_14b z.1 b1 z.2.1 z.2.2) (g, b2, b3)) := by
  generalize hf : (fun z : (aa_G × Int32 × Int32) => fn_237_14b z.1 b1 z.2.1 z.2.2) = f
  intro n
  induction n using Nat.strongRecOn with
  | _ n ih =>
    intro hN g b2 b3 x4 x5 jx4 jx5 r
    refine lp_go ?_
    rw [← congrFun hf (g, b2, b3)]
    show lp_q (iw_s v h) d f (fn_237_14b g b1 b2 b3)
    unfold fn_237_14b
    obtain ⟨n8, ln8, r⟩ := rn_steps 3 (20, [some (.ref 540), some (.int b1), some (.int b2), some (.int b3), x4, x5], [.int b1, .ref 541, .int b3], aa_H g) rfl r
    obtain ⟨_, n9, v1, h1, -, ln9, rc, r⟩ := rn_call (m2 := 164) (as := [.int b1]) (rest := [.ref 541, .int b3]) rfl rfl r
    obtain ⟨rfl, rfl⟩ := dn_164 rc
    have r : rn_s _ 237 (23, [some (.ref 540), some (.int b1), some (.int b2), some (.int b3), x4, x5], [.int (fn_164 b1), .ref 541, .int b3], aa_H g) v h := r
    obtain ⟨n11, ln11, r⟩ := rn_steps 1 (25, [some (.ref 540), some (.int b1), some (.int b2), some (.int b3), x4, x5], [.int ((fn_164 b1) + 1), .ref 541, .int b3], aa_H g) rfl r
    obtain ⟨hb13, n12, ln12, r⟩ := rn_ial (k := 541) rfl ⟨by decide, by decide⟩ rfl r
    have r : rn_s _ 237 (26, [some (.ref 540), some (.int b1), some (.int b2), some (.int b3), x4, x5], [.int (g 541 ((fn_164 b1) + 1).toNatClampNeg), .int b3], aa_H g) v h := r
    refine rn_ic (lp_q (iw_s v h) d f) rfl decide_eq_true_iff.symm r (fun c14 l15n l15 r => ?_) (fun c14 l15n l15 r => ?_)
    · obtain ⟨n16, ln16, r⟩ := rn_steps 0 (164, [some (.ref 540), some (.int b1), some (.int b2), some (.int b3), x4, x5], [.int b2], aa_H g) rfl r
      exact rn_ire rfl r
    · obtain ⟨n17, ln17, r⟩ := rn_steps 2 (34, [some (.ref 540), some (.int b1), some (.int b2), some (.int b3), x4, x5], [.int b1, .ref 541], aa_H g) rfl r
      obtain ⟨_, n18, v1, h1, -, ln18, rc, r⟩ := rn_call (m2 := 164) (as := [.int b1]) (rest := [.ref 541]) rfl rfl r
      obtain ⟨rfl, rfl⟩ := dn_164 rc
      have r : rn_s _ 237 (37, [some (.ref 540), some (.int b1), some (.int b2), some (.int b3), x4, x5], [.int (fn_164 b1), .ref 541], aa_H g) v h := r
      obtain ⟨n20, ln20, r⟩ := rn_steps 1 (39, [some (.ref 540), some (.int b1), some (.int b2), some (.int b3), x4, x5], [.int ((fn_164 b1) + 1), .ref 541], aa_H g) rfl r
      obtain ⟨hb22, n21, ln21, r⟩ := rn_ial (k := 541) rfl ⟨by decide, by decide⟩ rfl r
      have r : rn_s _ 237 (40, [some (.ref 540), some (.int b1), some (.int b2), some (.int b3), x4, x5], [.int (g 541 ((fn_164 b1) + 1).toNatClampNeg)], aa_H g) v h := r
      obtain ⟨n23, ln23, r⟩ := rn_steps 0 (41, [some (.ref 540), some (.int b1), some (.int b2), some (.int b3), x4, x5], [.int 1, .int (g 541 ((fn_164 b1) + 1).toNatClampNeg)], aa_H g) rfl r
      refine rn_ic (lp_q (iw_s v h) d f) rfl decide_eq_true_iff.symm r (fun c24 l25n l25 r => ?_) (fun c24 l25n l25 r => ?_)
      · obtain ⟨n26, ln26, r⟩ := rn_steps 0 (164, [some (.ref 540), some (.int b1), some (.int b2), some (.int b3), x4, x5], [.int b2], aa_H g) rfl r
        exact rn_ire rfl r
      · obtain ⟨n27, ln27, r⟩ := rn_steps 1 (46, [some (.ref 540), some (.int b1), some (.int b2), some (.int b3), x4, x5], [.int b3, .int b1], aa_H g) rfl r
        obtain ⟨_, n28, v1, h1, -, ln28, rc, r⟩ := rn_call (m2 := 175) (as := [.int b1, .int b3]) (rest := []) rfl rfl r
        obtain ⟨rfl, rfl⟩ := dn_175 rc
        have r : rn_s _ 237 (49, [some (.ref 540), some (.int b1), some (.int b2), some (.int b3), x4, x5], [.int (fn_175 b1 b3)], aa_H g) v h := r
        obtain ⟨n30, ln30, r⟩ := rn_steps 8 (64, [some (.ref 540), some (.int b1), some (.int b2), some (.int b3), some (.int (fn_175 b1 b3)), x5], [.int (fn_175 b1 b3), .ref 541, .int b1, .ref 540], aa_H (zz_w g 540 16 b3)) rfl r
        exact dn_237_64 (lp_q (iw_s v h) d f) (fun n2 l2 => ih n2 (by omega) (by omega)) (fun z hz => hz) x5 jx5 r
theorem dn_237_14 {v : Option Value} {h : zz_H} {n : Nat} {g : aa_G} {b1 : Int32} {b2 : Int32} {b3 : Int32}  (x4 x5 : Option Value) (jx4 : rn_jk x4) (jx5 : rn_jk x5) (r : rn_s n 237 (14, [some (.ref 540), some (.int b1), some (.int b2), some (.int b3), x4, x5], [], aa_H g) v h) : (iw_s v h) (fn_237_14 g b1 b2 b3) := dn_237_14l  n (Nat.le_refl n) g b2 b3 x4 x5 jx4 jx5 r
noncomputable def fn_237 (g : aa_G) (a1 : Int32) : Int32 × aa_G := if (fn_192 g a1) ≠ 0 then fn_237_14 g a1 0 0 else (-1, g)
theorem dn_237 {v : Option Value} {h : zz_H} {n : Nat} {g : aa_G} {a1 : Int32}  (r : rn_s n 237 (0, zz_in [.ref 540, .int a1] (zz_nl 237), [], aa_H g) v h) : iw_s v h (fn_237 g a1) := by
  have r : rn_s n 237 (0, [some (.ref 540), some (.int a1), none, none, none, none], [], aa_H g) v h := r
  unfold fn_237
  obtain ⟨n1, ln1, r⟩ := rn_steps 1 (2, [some (.ref 540), some (.int a1), none, none, none, none], [.int a1, .ref 540], aa_H g) rfl r
  obtain ⟨_, n2, v1, h1, -, ln2, rc, r⟩ := rn_call (m2 := 192) (as := [.ref 540, .int a1]) (rest := []) rfl rfl r
  obtain ⟨rfl, rfl⟩ := dn_192 rc
  have r : rn_s _ 237 (5, [some (.ref 540), some (.int a1), none, none, none, none], [.int (fn_192 g a1)], aa_H g) v h := r
  refine rn_if (iw_s v h) rfl decide_eq_true_iff.symm r (fun c4 l5n l5 r => ?_) (fun c4 l5n l5 r => ?_)
  · obtain ⟨n6, ln6, r⟩ := rn_steps 3 (14, [some (.ref 540), some (.int a1), some (.int 0), some (.int 0), none, none], [], aa_H g) rfl r
    exact dn_237_14 none none rn_jn rn_jn r
  · obtain ⟨n7, ln7, r⟩ := rn_steps 0 (9, [some (.ref 540), some (.int a1), none, none, none, none], [.int (-1)], aa_H g) rfl r
    exact rn_ire rfl r
-- 238: UnequalHoursModel arrive
noncomputable def fn_238_114 (g : aa_G) (b5 : Int32) (s0 : Int32) : Int32 × aa_G := if s0 = 0 then (-2, g) else (fn_201 g (b5 - 1), g)
theorem dn_238_114 {v : Option Value} {h : zz_H} {n : Nat} {g : aa_G} {b5 : Int32} {s0 : Int32}  (x1 x2 x3 x4 : Option Value) (jx1 : rn_jk x1) (jx2 : rn_jk x2) (jx3 : rn_jk x3) (jx4 : rn_jk x4) (r : rn_s n 238 (114, [some (.ref 540), x1, x2, x3, x4, some (.int b5)], [.int s0], aa_H g) v h) : iw_s v h (fn_238_114 g b5 s0) := by
  unfold fn_238_114
  refine rn_if (iw_s v h) rfl decide_eq_true_iff.symm r (fun c51 l52n l52 r => ?_) (fun c51 l52n l52 r => ?_)
  · obtain ⟨n53, ln53, r⟩ := rn_steps 0 (130, [some (.ref 540), x1, x2, x3, x4, some (.int b5)], [.int (-2)], aa_H g) rfl r
    exact rn_ire rfl r
  · obtain ⟨n54, ln54, r⟩ := rn_steps 3 (122, [some (.ref 540), x1, x2, x3, x4, some (.int b5)], [.int (b5 - 1), .ref 540], aa_H g) rfl r
    obtain ⟨_, n55, v1, h1, -, ln55, rc, r⟩ := rn_call (m2 := 201) (as := [.ref 540, .int (b5 - 1)]) (rest := []) rfl rfl r
    obtain ⟨rfl, rfl⟩ := dn_201 rc
    have r : rn_s _ 238 (125, [some (.ref 540), x1, x2, x3, x4, some (.int b5)], [.int (fn_201 g (b5 - 1))], aa_H g) v h := r
    obtain ⟨n57, ln57, r⟩ := rn_steps 0 (130, [some (.ref 540), x1, x2, x3, x4, some (.int b5)], [.int (fn_201 g (b5 - 1))], aa_H g) rfl r
    exact rn_ire rfl r
noncomputable def fn_238_63 (g : aa_G) (b1 : Int32) (b5 : Int32) : Int32 × aa_G := if (fn_193 (g 540 22)) ≠ 0 then if 2 ≤ b5 then fn_238_114 ((fn_200 g (b1 - b1 / 4 * 4) (g 540 22) (g 540 23)).2) b5 ((fn_200 g (b1 - b1 / 4 * 4) (g 540 22) (g 540 23)).1) else if b5 ≠ 0 then (g 540 23, g) else (g 540 22, g) else (-2, g)
theorem dn_238_63 {v : Option Value} {h : zz_H} {n : Nat} {g : aa_G} {b1 : Int32} {b5 : Int32}  (x2 x3 x4 : Option Value) (jx2 : rn_jk x2) (jx3 : rn_jk x3) (jx4 : rn_jk x4) (r : rn_s n 238 (63, [some (.ref 540), some (.int b1), x2, x3, x4, some (.int b5)], [], aa_H g) v h) : iw_s v h (fn_238_63 g b1 b5) := by
  unfold fn_238_63
  obtain ⟨n34, ln34, r⟩ := rn_steps 1 (67, [some (.ref 540), some (.int b1), x2, x3, x4, some (.int b5)], [.int (g 540 22)], aa_H g) rfl r
  obtain ⟨_, n35, v1, h1, -, ln35, rc, r⟩ := rn_call (m2 := 193) (as := [.int (g 540 22)]) (rest := []) rfl rfl r
  obtain ⟨rfl, rfl⟩ := dn_193 rc
  have r : rn_s _ 238 (70, [some (.ref 540), some (.int b1), x2, x3, x4, some (.int b5)], [.int (fn_193 (g 540 22))], aa_H g) v h := r
  refine rn_if (iw_s v h) rfl decide_eq_true_iff.symm r (fun c37 l38n l38 r => ?_) (fun c37 l38n l38 r => ?_)
  · obtain ⟨n39, ln39, r⟩ := rn_steps 1 (79, [some (.ref 540), some (.int b1), x2, x3, x4, some (.int b5)], [.int 2, .int b5], aa_H g) rfl r
    refine rn_ic (iw_s v h) rfl decide_eq_true_iff.symm r (fun c40 l41n l41 r => ?_) (fun c40 l41n l41 r => ?_)
    · obtain ⟨n42, ln42, r⟩ := rn_steps 7 (111, [some (.ref 540), some (.int b1), x2, x3, x4, some (.int b5)], [.int (g 540 23), .int (g 540 22), .int (b1 - b1 / 4 * 4), .ref 540], aa_H g) rfl r
      obtain ⟨_, n43, v1, h1, -, ln43, rc, r⟩ := rn_call (m2 := 200) (as := [.ref 540, .int (b1 - b1 / 4 * 4), .int (g 540 22), .int (g 540 23)]) (rest := []) rfl rfl r
      obtain ⟨rfl, rfl⟩ := dn_200 rc
      have r : rn_s _ 238 (114, [some (.ref 540), some (.int b1), x2, x3, x4, some (.int b5)], [.int ((fn_200 g (b1 - b1 / 4 * 4) (g 540 22) (g 540 23)).1)], aa_H ((fn_200 g (b1 - b1 / 4 * 4) (g 540 22) (g 540 23)).2)) v h := r
      exact dn_238_114 (some (.int b1)) x2 x3 x4 rn_ji jx2 jx3 jx4 r
    · obtain ⟨n45, ln45, r⟩ := rn_steps 0 (84, [some (.ref 540), some (.int b1), x2, x3, x4, some (.int b5)], [.int b5], aa_H g) rfl r
      refine rn_if (iw_s v h) rfl decide_eq_true_iff.symm r (fun c46 l47n l47 r => ?_) (fun c46 l47n l47 r => ?_)
      · obtain ⟨n48, ln48, r⟩ := rn_steps 1 (98, [some (.ref 540), some (.int b1), x2, x3, x4, some (.int b5)], [.int (g 540 23)], aa_H g) rfl r
        exact rn_ire rfl r
      · obtain ⟨n49, ln49, r⟩ := rn_steps 2 (98, [some (.ref 540), some (.int b1), x2, x3, x4, some (.int b5)], [.int (g 540 22)], aa_H g) rfl r
        exact rn_ire rfl r
  · obtain ⟨n50, ln50, r⟩ := rn_steps 0 (75, [some (.ref 540), some (.int b1), x2, x3, x4, some (.int b5)], [.int (-2)], aa_H g) rfl r
    exact rn_ire rfl r
noncomputable def fn_238 (g : aa_G) (a1 : Int32) (a2 : Int32) (a3 : Int32) (a4 : Int32) (a5 : Int32) : Int32 × aa_G := if (fn_239 g a1) = 0 then (-1, g) else if (fn_193 a2) = 0 then (-1, g) else if (fn_199 a3) = 0 then (-1, g) else if (fn_154 a4 0 864000) = 0 then (-1, g) else if (fn_154 a5 0 3) ≠ 0 then fn_238_63 (fn_208 g (a1 / 4) a2.toInt64 ((a3 + a4).toInt64) (a1 - a1 / 4 * 4)) a1 a5 else (-1, g)
theorem dn_238 {v : Option Value} {h : zz_H} {n : Nat} {g : aa_G} {a1 : Int32} {a2 : Int32} {a3 : Int32} {a4 : Int32} {a5 : Int32}  (r : rn_s n 238 (0, zz_in [.ref 540, .int a1, .int a2, .int a3, .int a4, .int a5] (zz_nl 238), [], aa_H g) v h) : iw_s v h (fn_238 g a1 a2 a3 a4 a5) := by
  have r : rn_s n 238 (0, [some (.ref 540), some (.int a1), some (.int a2), some (.int a3), some (.int a4), some (.int a5)], [], aa_H g) v h := r
  unfold fn_238
  obtain ⟨n1, ln1, r⟩ := rn_steps 1 (2, [some (.ref 540), some (.int a1), some (.int a2), some (.int a3), some (.int a4), some (.int a5)], [.int a1, .ref 540], aa_H g) rfl r
  obtain ⟨_, n2, v1, h1, -, ln2, rc, r⟩ := rn_call (m2 := 239) (as := [.ref 540, .int a1]) (rest := []) rfl rfl r
  obtain ⟨rfl, rfl⟩ := dn_239 rc
  have r : rn_s _ 238 (5, [some (.ref 540), some (.int a1), some (.int a2), some (.int a3), some (.int a4), some (.int a5)], [.int (fn_239 g a1)], aa_H g) v h := r
  refine rn_if (iw_s v h) rfl decide_eq_true_iff.symm r (fun c4 l5n l5 r => ?_) (fun c4 l5n l5 r => ?_)
  · obtain ⟨n6, ln6, r⟩ := rn_steps 0 (45, [some (.ref 540), some (.int a1), some (.int a2), some (.int a3), some (.int a4), some (.int a5)], [.int (-1)], aa_H g) rfl r
    exact rn_ire rfl r
  · obtain ⟨n7, ln7, r⟩ := rn_steps 0 (9, [some (.ref 540), some (.int a1), some (.int a2), some (.int a3), some (.int a4), some (.int a5)], [.int a2], aa_H g) rfl r
    obtain ⟨_, n8, v1, h1, -, ln8, rc, r⟩ := rn_call (m2 := 193) (as := [.int a2]) (rest := []) rfl rfl r
    obtain ⟨rfl, rfl⟩ := dn_193 rc
    have r : rn_s _ 238 (12, [some (.ref 540), some (.int a1), some (.int a2), some (.int a3), some (.int a4), some (.int a5)], [.int (fn_193 a2)], aa_H g) v h := r
    refine rn_if (iw_s v h) rfl decide_eq_true_iff.symm r (fun c10 l11n l11 r => ?_) (fun c10 l11n l11 r => ?_)
    · obtain ⟨n12, ln12, r⟩ := rn_steps 0 (45, [some (.ref 540), some (.int a1), some (.int a2), some (.int a3), some (.int a4), some (.int a5)], [.int (-1)], aa_H g) rfl r
      exact rn_ire rfl r
    · obtain ⟨n13, ln13, r⟩ := rn_steps 0 (16, [some (.ref 540), some (.int a1), some (.int a2), some (.int a3), some (.int a4), some (.int a5)], [.int a3], aa_H g) rfl r
      obtain ⟨_, n14, v1, h1, -, ln14, rc, r⟩ := rn_call (m2 := 199) (as := [.int a3]) (rest := []) rfl rfl r
      obtain ⟨rfl, rfl⟩ := dn_199 rc
      have r : rn_s _ 238 (19, [some (.ref 540), some (.int a1), some (.int a2), some (.int a3), some (.int a4), some (.int a5)], [.int (fn_199 a3)], aa_H g) v h := r
      refine rn_if (iw_s v h) rfl decide_eq_true_iff.symm r (fun c16 l17n l17 r => ?_) (fun c16 l17n l17 r => ?_)
      · obtain ⟨n18, ln18, r⟩ := rn_steps 0 (45, [some (.ref 540), some (.int a1), some (.int a2), some (.int a3), some (.int a4), some (.int a5)], [.int (-1)], aa_H g) rfl r
        exact rn_ire rfl r
      · obtain ⟨n19, ln19, r⟩ := rn_steps 2 (28, [some (.ref 540), some (.int a1), some (.int a2), some (.int a3), some (.int a4), some (.int a5)], [.int 864000, .int 0, .int a4], aa_H g) rfl r
        obtain ⟨_, n20, v1, h1, -, ln20, rc, r⟩ := rn_call (m2 := 154) (as := [.int a4, .int 0, .int 864000]) (rest := []) rfl rfl r
        obtain ⟨rfl, rfl⟩ := dn_154 rc
        have r : rn_s _ 238 (31, [some (.ref 540), some (.int a1), some (.int a2), some (.int a3), some (.int a4), some (.int a5)], [.int (fn_154 a4 0 864000)], aa_H g) v h := r
        refine rn_if (iw_s v h) rfl decide_eq_true_iff.symm r (fun c22 l23n l23 r => ?_) (fun c22 l23n l23 r => ?_)
        · obtain ⟨n24, ln24, r⟩ := rn_steps 0 (45, [some (.ref 540), some (.int a1), some (.int a2), some (.int a3), some (.int a4), some (.int a5)], [.int (-1)], aa_H g) rfl r
          exact rn_ire rfl r
        · obtain ⟨n25, ln25, r⟩ := rn_steps 2 (38, [some (.ref 540), some (.int a1), some (.int a2), some (.int a3), some (.int a4), some (.int a5)], [.int 3, .int 0, .int a5], aa_H g) rfl r
          obtain ⟨_, n26, v1, h1, -, ln26, rc, r⟩ := rn_call (m2 := 154) (as := [.int a5, .int 0, .int 3]) (rest := []) rfl rfl r
          obtain ⟨rfl, rfl⟩ := dn_154 rc
          have r : rn_s _ 238 (41, [some (.ref 540), some (.int a1), some (.int a2), some (.int a3), some (.int a4), some (.int a5)], [.int (fn_154 a5 0 3)], aa_H g) v h := r
          refine rn_if (iw_s v h) rfl decide_eq_true_iff.symm r (fun c28 l29n l29 r => ?_) (fun c28 l29n l29 r => ?_)
          · obtain ⟨n30, ln30, r⟩ := rn_steps 12 (60, [some (.ref 540), some (.int a1), some (.int a2), some (.int a3), some (.int a4), some (.int a5)], [.int (a1 - a1 / 4 * 4), .long ((a3 + a4).toInt64), .long a2.toInt64, .int (a1 / 4), .ref 540], aa_H g) rfl r
            obtain ⟨_, n31, v1, h1, -, ln31, rc, r⟩ := rn_call (m2 := 208) (as := [.ref 540, .int (a1 / 4), .long a2.toInt64, .long ((a3 + a4).toInt64), .int (a1 - a1 / 4 * 4)]) (rest := []) rfl rfl r
            obtain ⟨rfl, rfl⟩ := dn_208 rc
            have r : rn_s _ 238 (63, [some (.ref 540), some (.int a1), some (.int a2), some (.int a3), some (.int a4), some (.int a5)], [], aa_H (fn_208 g (a1 / 4) a2.toInt64 ((a3 + a4).toInt64) (a1 - a1 / 4 * 4))) v h := r
            exact dn_238_63 (some (.int a2)) (some (.int a3)) (some (.int a4)) rn_ji rn_ji rn_ji r
          · obtain ⟨n33, ln33, r⟩ := rn_steps 0 (45, [some (.ref 540), some (.int a1), some (.int a2), some (.int a3), some (.int a4), some (.int a5)], [.int (-1)], aa_H g) rfl r
            exact rn_ire rfl r
