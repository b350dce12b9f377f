/-! METHODS READ (printed by wip/dc/dc.py) -/
-- 132: UnequalHours meet
noncomputable def fn_132_241 (g : aa_G) (b3 : Int32) (b4 : Int32) (b5 : Int32) (B6 : Nat) (B7 : Nat) (b8 : Int32) (b9 : Int32) (b10 : Int32) : (aa_G × Int32) ⊕ (Int32 × aa_G) := .inl (g, b10 + 1)
theorem dn_132_241 {v : Option Value} {h : zz_H} {n : Nat} {g : aa_G} {b3 : Int32} {b4 : Int32} {b5 : Int32} {B6 : Nat} {B7 : Nat} {b8 : Int32} {b9 : Int32} {b10 : Int32} (P : (aa_G × Int32) ⊕ (Int32 × aa_G) → Prop) (hO0 : ∀ n2, n2 < n → ∀ (yg : aa_G) (yb10 : Int32) (yx1 yx2 yx11 yx12 yx13 : Option Value) (_ : rn_jk yx1) (_ : rn_jk yx2) (_ : rn_jk yx11) (_ : rn_jk yx12) (_ : rn_jk yx13), rn_s n2 132 (115, [some (.ref 1), yx1, yx2, some (.int b3), some (.int b4), some (.int b5), some (.ref B6), some (.ref B7), some (.int b8), some (.int b9), some (.int yb10), yx11, yx12, yx13], [], aa_H yg) v h → P (.inl (yg, yb10))) (hR : ∀ E, iw_s v h E → P (.inr E)) (hB6 : ct_tw B6) (hB7 : ct_tw B7) (x1 x2 x11 x12 x13 : Option Value) (jx1 : rn_jk x1) (jx2 : rn_jk x2) (jx11 : rn_jk x11) (jx12 : rn_jk x12) (jx13 : rn_jk x13) (r : rn_s n 132 (241, [some (.ref 1), x1, x2, some (.int b3), some (.int b4), some (.int b5), some (.ref B6), some (.ref B7), some (.int b8), some (.int b9), some (.int b10), x11, x12, x13], [], aa_H g) v h) : P (fn_132_241 g b3 b4 b5 B6 B7 b8 b9 b10) := by
  unfold fn_132_241
  obtain ⟨n92, ln92, r⟩ := rn_steps 1 (115, [some (.ref 1), x1, x2, some (.int b3), some (.int b4), some (.int b5), some (.ref B6), some (.ref B7), some (.int b8), some (.int b9), some (.int (b10 + 1)), x11, x12, x13], [], aa_H g) rfl r
  exact hO0 _ (by omega) g (b10 + 1) x1 x2 x11 x12 x13 jx1 jx2 jx11 jx12 jx13 r
noncomputable def fn_132_208 (g : aa_G) (b3 : Int32) (b4 : Int32) (b5 : Int32) (B6 : Nat) (B7 : Nat) (b8 : Int32) (b9 : Int32) (b10 : Int32) (b12 : Int32) (b13 : Int32) : (aa_G × Int32) ⊕ (Int32 × aa_G) := if (g 462 0) = 0 then fn_132_241 g b3 b4 b5 B6 B7 b8 b9 b10 else if b13 ≤ b12 then fn_132_241 g b3 b4 b5 B6 B7 b8 b9 b10 else if b5 ≠ 0 then .inr (b13 - b12, g) else .inr (b12, g)
theorem dn_132_208 {v : Option Value} {h : zz_H} {n : Nat} {g : aa_G} {b3 : Int32} {b4 : Int32} {b5 : Int32} {B6 : Nat} {B7 : Nat} {b8 : Int32} {b9 : Int32} {b10 : Int32} {b12 : Int32} {b13 : Int32} (P : (aa_G × Int32) ⊕ (Int32 × aa_G) → Prop) (hO0 : ∀ n2, n2 < n → ∀ (yg : aa_G) (yb10 : Int32) (yx1 yx2 yx11 yx12 yx13 : Option Value) (_ : rn_jk yx1) (_ : rn_jk yx2) (_ : rn_jk yx11) (_ : rn_jk yx12) (_ : rn_jk yx13), rn_s n2 132 (115, [some (.ref 1), yx1, yx2, some (.int b3), some (.int b4), some (.int b5), some (.ref B6), some (.ref B7), some (.int b8), some (.int b9), some (.int yb10), yx11, yx12, yx13], [], aa_H yg) v h → P (.inl (yg, yb10))) (hR : ∀ E, iw_s v h E → P (.inr E)) (hB6 : ct_tw B6) (hB7 : ct_tw B7) (x1 x2 x11 : Option Value) (jx1 : rn_jk x1) (jx2 : rn_jk x2) (jx11 : rn_jk x11) (r : rn_s n 132 (208, [some (.ref 1), x1, x2, some (.int b3), some (.int b4), some (.int b5), some (.ref B6), some (.ref B7), some (.int b8), some (.int b9), some (.int b10), x11, some (.int b12), some (.int b13)], [], aa_H g) v h) : P (fn_132_208 g b3 b4 b5 B6 B7 b8 b9 b10 b12 b13) := by
  unfold fn_132_208
  obtain ⟨n81, ln81, r⟩ := rn_steps 2 (215, [some (.ref 1), x1, x2, some (.int b3), some (.int b4), some (.int b5), some (.ref B6), some (.ref B7), some (.int b8), some (.int b9), some (.int b10), x11, some (.int b12), some (.int b13)], [.int (g 462 0)], aa_H g) rfl r
  refine rn_if (P) rfl decide_eq_true_iff.symm r (fun c82 l83n l83 r => ?_) (fun c82 l83n l83 r => ?_)
  · exact dn_132_241 (P) (fun n2 l2 => hO0 n2 (by omega)) (fun z hz => hR _ hz) hB6 hB7 x1 x2 x11 (some (.int b12)) (some (.int b13)) jx1 jx2 jx11 rn_ji rn_ji r
  · obtain ⟨n84, ln84, r⟩ := rn_steps 1 (222, [some (.ref 1), x1, x2, some (.int b3), some (.int b4), some (.int b5), some (.ref B6), some (.ref B7), some (.int b8), some (.int b9), some (.int b10), x11, some (.int b12), some (.int b13)], [.int b13, .int b12], aa_H g) rfl r
    refine rn_ic (P) rfl decide_eq_true_iff.symm r (fun c85 l86n l86 r => ?_) (fun c85 l86n l86 r => ?_)
    · exact dn_132_241 (P) (fun n2 l2 => hO0 n2 (by omega)) (fun z hz => hR _ hz) hB6 hB7 x1 x2 x11 (some (.int b12)) (some (.int b13)) jx1 jx2 jx11 rn_ji rn_ji r
    · obtain ⟨n87, ln87, r⟩ := rn_steps 0 (227, [some (.ref 1), x1, x2, some (.int b3), some (.int b4), some (.int b5), some (.ref B6), some (.ref B7), some (.int b8), some (.int b9), some (.int b10), x11, some (.int b12), some (.int b13)], [.int b5], aa_H g) rfl r
      refine rn_if (P) rfl decide_eq_true_iff.symm r (fun c88 l89n l89 r => ?_) (fun c88 l89n l89 r => ?_)
      · obtain ⟨n90, ln90, r⟩ := rn_steps 2 (240, [some (.ref 1), x1, x2, some (.int b3), some (.int b4), some (.int b5), some (.ref B6), some (.ref B7), some (.int b8), some (.int b9), some (.int b10), x11, some (.int b12), some (.int b13)], [.int (b13 - b12)], aa_H g) rfl r
        exact hR _ (rn_ire rfl r)
      · obtain ⟨n91, ln91, r⟩ := rn_steps 1 (240, [some (.ref 1), x1, x2, some (.int b3), some (.int b4), some (.int b5), some (.ref B6), some (.ref B7), some (.int b8), some (.int b9), some (.int b10), x11, some (.int b12), some (.int b13)], [.int b12], aa_H g) rfl r
        exact hR _ (rn_ire rfl r)
noncomputable def fn_132_185 (g : aa_G) (b3 : Int32) (b4 : Int32) (b5 : Int32) (B6 : Nat) (B7 : Nat) (b8 : Int32) (b9 : Int32) (b10 : Int32) (b11 : Int32) (b12 : Int32) : (aa_G × Int32) ⊕ (Int32 × aa_G) := fn_132_208 g b3 b4 b5 B6 B7 b8 b9 b10 b12 (if ((fn_100 g 462 ((b3 - b3 / 12 * 12) + 1)) + b11) < b9 then ((fn_100 g 462 ((b3 - b3 / 12 * 12) + 1)) + b11) else b9)
theorem dn_132_185 {v : Option Value} {h : zz_H} {n : Nat} {g : aa_G} {b3 : Int32} {b4 : Int32} {b5 : Int32} {B6 : Nat} {B7 : Nat} {b8 : Int32} {b9 : Int32} {b10 : Int32} {b11 : Int32} {b12 : Int32} (P : (aa_G × Int32) ⊕ (Int32 × aa_G) → Prop) (hO0 : ∀ n2, n2 < n → ∀ (yg : aa_G) (yb10 : Int32) (yx1 yx2 yx11 yx12 yx13 : Option Value) (_ : rn_jk yx1) (_ : rn_jk yx2) (_ : rn_jk yx11) (_ : rn_jk yx12) (_ : rn_jk yx13), rn_s n2 132 (115, [some (.ref 1), yx1, yx2, some (.int b3), some (.int b4), some (.int b5), some (.ref B6), some (.ref B7), some (.int b8), some (.int b9), some (.int yb10), yx11, yx12, yx13], [], aa_H yg) v h → P (.inl (yg, yb10))) (hR : ∀ E, iw_s v h E → P (.inr E)) (hB6 : ct_tw B6) (hB7 : ct_tw B7) (x1 x2 x13 : Option Value) (jx1 : rn_jk x1) (jx2 : rn_jk x2) (jx13 : rn_jk x13) (r : rn_s n 132 (185, [some (.ref 1), x1, x2, some (.int b3), some (.int b4), some (.int b5), some (.ref B6), some (.ref B7), some (.int b8), some (.int b9), some (.int b10), some (.int b11), some (.int b12), x13], [], aa_H g) v h) : P (fn_132_185 g b3 b4 b5 B6 B7 b8 b9 b10 b11 b12) := by
  unfold fn_132_185
  obtain ⟨n77, ln77, r⟩ := rn_steps 7 (197, [some (.ref 1), x1, x2, some (.int b3), some (.int b4), some (.int b5), some (.ref B6), some (.ref B7), some (.int b8), some (.int b9), some (.int b10), some (.int b11), some (.int b12), x13], [.int ((b3 - b3 / 12 * 12) + 1), .ref 462, .int b9], aa_H g) rfl r
  obtain ⟨_, n78, v1, h1, -, ln78, rc, r⟩ := rn_call (m2 := 100) (as := [.ref 462, .int ((b3 - b3 / 12 * 12) + 1)]) (rest := [.int b9]) rfl rfl r
  obtain ⟨rfl, rfl⟩ := dn_100 sp_c462 rc
  have r : rn_s _ 132 (200, [some (.ref 1), x1, x2, some (.int b3), some (.int b4), some (.int b5), some (.ref B6), some (.ref B7), some (.int b8), some (.int b9), some (.int b10), some (.int b11), some (.int b12), x13], [.int (fn_100 g 462 ((b3 - b3 / 12 * 12) + 1)), .int b9], aa_H g) v h := r
  obtain ⟨n80, ln80, r⟩ := rn_steps 3 (208, [some (.ref 1), x1, x2, some (.int b3), some (.int b4), some (.int b5), some (.ref B6), some (.ref B7), some (.int b8), some (.int b9), some (.int b10), some (.int b11), some (.int b12), some (.int (if ((fn_100 g 462 ((b3 - b3 / 12 * 12) + 1)) + b11) < b9 then ((fn_100 g 462 ((b3 - b3 / 12 * 12) + 1)) + b11) else b9))], [], aa_H g) rfl r
  exact dn_132_208 (P) (fun n2 l2 => hO0 n2 (by omega)) (fun z hz => hR _ hz) hB6 hB7 x1 x2 (some (.int b11)) jx1 jx2 rn_ji r
noncomputable def fn_132_149 (g : aa_G) (b3 : Int32) (b4 : Int32) (b5 : Int32) (B6 : Nat) (B7 : Nat) (b8 : Int32) (b9 : Int32) (b10 : Int32) : (aa_G × Int32) ⊕ (Int32 × aa_G) := fn_132_185 g b3 b4 b5 B6 B7 b8 b9 b10 ((b10 * 86400) - (fn_94 g B6 B7)) (if b8 < ((fn_100 g 462 (b3 - b3 / 12 * 12)) + ((b10 * 86400) - (fn_94 g B6 B7))) then ((fn_100 g 462 (b3 - b3 / 12 * 12)) + ((b10 * 86400) - (fn_94 g B6 B7))) else b8)
theorem dn_132_149 {v : Option Value} {h : zz_H} {n : Nat} {g : aa_G} {b3 : Int32} {b4 : Int32} {b5 : Int32} {B6 : Nat} {B7 : Nat} {b8 : Int32} {b9 : Int32} {b10 : Int32} (P : (aa_G × Int32) ⊕ (Int32 × aa_G) → Prop) (hO0 : ∀ n2, n2 < n → ∀ (yg : aa_G) (yb10 : Int32) (yx1 yx2 yx11 yx12 yx13 : Option Value) (_ : rn_jk yx1) (_ : rn_jk yx2) (_ : rn_jk yx11) (_ : rn_jk yx12) (_ : rn_jk yx13), rn_s n2 132 (115, [some (.ref 1), yx1, yx2, some (.int b3), some (.int b4), some (.int b5), some (.ref B6), some (.ref B7), some (.int b8), some (.int b9), some (.int yb10), yx11, yx12, yx13], [], aa_H yg) v h → P (.inl (yg, yb10))) (hR : ∀ E, iw_s v h E → P (.inr E)) (hB6 : ct_tw B6) (hB7 : ct_tw B7) (x1 x2 x11 x12 x13 : Option Value) (jx1 : rn_jk x1) (jx2 : rn_jk x2) (jx11 : rn_jk x11) (jx12 : rn_jk x12) (jx13 : rn_jk x13) (r : rn_s n 132 (149, [some (.ref 1), x1, x2, some (.int b3), some (.int b4), some (.int b5), some (.ref B6), some (.ref B7), some (.int b8), some (.int b9), some (.int b10), x11, x12, x13], [], aa_H g) v h) : P (fn_132_149 g b3 b4 b5 B6 B7 b8 b9 b10) := by
  unfold fn_132_149
  obtain ⟨n70, ln70, r⟩ := rn_steps 4 (158, [some (.ref 1), x1, x2, some (.int b3), some (.int b4), some (.int b5), some (.ref B6), some (.ref B7), some (.int b8), some (.int b9), some (.int b10), x11, x12, x13], [.ref B7, .ref B6, .int (b10 * 86400)], aa_H g) rfl r
  obtain ⟨_, n71, v1, h1, -, ln71, rc, r⟩ := rn_call (m2 := 94) (as := [.ref B6, .ref B7]) (rest := [.int (b10 * 86400)]) rfl rfl r
  obtain ⟨rfl, rfl⟩ := dn_94 hB6 hB7 rc
  have r : rn_s _ 132 (161, [some (.ref 1), x1, x2, some (.int b3), some (.int b4), some (.int b5), some (.ref B6), some (.ref B7), some (.int b8), some (.int b9), some (.int b10), x11, x12, x13], [.int (fn_94 g B6 B7), .int (b10 * 86400)], aa_H g) v h := r
  obtain ⟨n73, ln73, r⟩ := rn_steps 7 (174, [some (.ref 1), x1, x2, some (.int b3), some (.int b4), some (.int b5), some (.ref B6), some (.ref B7), some (.int b8), some (.int b9), some (.int b10), some (.int ((b10 * 86400) - (fn_94 g B6 B7))), x12, x13], [.int (b3 - b3 / 12 * 12), .ref 462, .int b8], aa_H g) rfl r
  obtain ⟨_, n74, v1, h1, -, ln74, rc, r⟩ := rn_call (m2 := 100) (as := [.ref 462, .int (b3 - b3 / 12 * 12)]) (rest := [.int b8]) rfl rfl r
  obtain ⟨rfl, rfl⟩ := dn_100 sp_c462 rc
  have r : rn_s _ 132 (177, [some (.ref 1), x1, x2, some (.int b3), some (.int b4), some (.int b5), some (.ref B6), some (.ref B7), some (.int b8), some (.int b9), some (.int b10), some (.int ((b10 * 86400) - (fn_94 g B6 B7))), x12, x13], [.int (fn_100 g 462 (b3 - b3 / 12 * 12)), .int b8], aa_H g) v h := r
  obtain ⟨n76, ln76, r⟩ := rn_steps 3 (185, [some (.ref 1), x1, x2, some (.int b3), some (.int b4), some (.int b5), some (.ref B6), some (.ref B7), some (.int b8), some (.int b9), some (.int b10), some (.int ((b10 * 86400) - (fn_94 g B6 B7))), some (.int (if b8 < ((fn_100 g 462 (b3 - b3 / 12 * 12)) + ((b10 * 86400) - (fn_94 g B6 B7))) then ((fn_100 g 462 (b3 - b3 / 12 * 12)) + ((b10 * 86400) - (fn_94 g B6 B7))) else b8)), x13], [], aa_H g) rfl r
  exact dn_132_185 (P) (fun n2 l2 => hO0 n2 (by omega)) (fun z hz => hR _ hz) hB6 hB7 x1 x2 x13 jx1 jx2 jx13 r
noncomputable def fn_132_115b (g : aa_G) (b3 : Int32) (b4 : Int32) (b5 : Int32) (B6 : Nat) (B7 : Nat) (b8 : Int32) (b9 : Int32) (b10 : Int32) : (aa_G × Int32) ⊕ (Int32 × aa_G) := if 3 < b10 then .inr (-1000000, g) else if (g 461 0) = 0 then .inr (-1000000, g) else fn_132_149 (fn_78 g 462 (some B7) (b4 + b10) (b3 / 12)) b3 b4 b5 B6 B7 b8 b9 b10
noncomputable def fn_132_115 (g : aa_G) (b3 : Int32) (b4 : Int32) (b5 : Int32) (B6 : Nat) (B7 : Nat) (b8 : Int32) (b9 : Int32) (b10 : Int32) : Int32 × aa_G := lp_f (0, g) (fun z : (aa_G × Int32) => fn_132_115b z.1 b3 b4 b5 B6 B7 b8 b9 z.2) (g, b10)
theorem dn_132_115l {v : Option Value} {h : zz_H} {N : Nat} {b3 : Int32} {b4 : Int32} {b5 : Int32} {B6 : Nat} {B7 : Nat} {b8 : Int32} {b9 : Int32} (hB6 : ct_tw B6) (hB7 : ct_tw B7) {d : Int32 × aa_G} : ∀ (n : Nat), n ≤ N → ∀ (g : aa_G) (b10 : Int32) (x1 x2 x11 x12 x13 : Option Value) (jx1 : rn_jk x1) (jx2 : rn_jk x2) (jx11 : rn_jk x11) (jx12 : rn_jk x12) (jx13 : rn_jk x13), rn_s n 132 (115, [some (.ref 1), x1, x2, some (.int b3), some (.int b4), some (.int b5), some (.ref B6), some (.ref B7), some (.int b8), some (.int b9), some (.int b10), x11, x12, x13], [], aa_H g) v h → (iw_s v h) (lp_f d (fun z : (aa_G × Int32) => fn_132_115b z.1 b3 b4 b5 B6 B7 b8 b9 z.2) (g, b10)) := by
  generalize hf : (fun z : (aa_G × Int32) => fn_132_115b z.1 b3 b4 b5 B6 B7 b8 b9 z.2) = f
  intro n
  induction n using Nat.strongRecOn with
  | _ n ih =>
    intro hN g b10 x1 x2 x11 x12 x13 jx1 jx2 jx11 jx12 jx13 r
    refine lp_go ?_
    rw [← congrFun hf (g, b10)]
    show lp_q (iw_s v h) d f (fn_132_115b g b3 b4 b5 B6 B7 b8 b9 b10)
    unfold fn_132_115b
    obtain ⟨n59, ln59, r⟩ := rn_steps 1 (118, [some (.ref 1), x1, x2, some (.int b3), some (.int b4), some (.int b5), some (.ref B6), some (.ref B7), some (.int b8), some (.int b9), some (.int b10), x11, x12, x13], [.int 3, .int b10], aa_H g) rfl r
    refine rn_ic (lp_q (iw_s v h) d f) rfl decide_eq_true_iff.symm r (fun c60 l61n l61 r => ?_) (fun c60 l61n l61 r => ?_)
    · obtain ⟨n62, ln62, r⟩ := rn_steps 0 (249, [some (.ref 1), x1, x2, some (.int b3), some (.int b4), some (.int b5), some (.ref B6), some (.ref B7), some (.int b8), some (.int b9), some (.int b10), x11, x12, x13], [.int (-1000000)], aa_H g) rfl r
      exact rn_ire rfl r
    · obtain ⟨n63, ln63, r⟩ := rn_steps 2 (128, [some (.ref 1), x1, x2, some (.int b3), some (.int b4), some (.int b5), some (.ref B6), some (.ref B7), some (.int b8), some (.int b9), some (.int b10), x11, x12, x13], [.int (g 461 0)], aa_H g) rfl r
      refine rn_if (lp_q (iw_s v h) d f) rfl decide_eq_true_iff.symm r (fun c64 l65n l65 r => ?_) (fun c64 l65n l65 r => ?_)
      · obtain ⟨n66, ln66, r⟩ := rn_steps 0 (249, [some (.ref 1), x1, x2, some (.int b3), some (.int b4), some (.int b5), some (.ref B6), some (.ref B7), some (.int b8), some (.int b9), some (.int b10), x11, x12, x13], [.int (-1000000)], aa_H g) rfl r
        exact rn_ire rfl r
      · obtain ⟨n67, ln67, r⟩ := rn_steps 8 (146, [some (.ref 1), x1, x2, some (.int b3), some (.int b4), some (.int b5), some (.ref B6), some (.ref B7), some (.int b8), some (.int b9), some (.int b10), x11, x12, x13], [.int (b3 / 12), .int (b4 + b10), .ref B7, .ref 462], aa_H g) rfl r
        obtain ⟨_, n68, v1, h1, -, ln68, rc, r⟩ := rn_call (m2 := 78) (as := [.ref 462, .ref B7, .int (b4 + b10), .int (b3 / 12)]) (rest := []) rfl rfl r
        obtain ⟨rfl, rfl⟩ := dn_78 sp_c462 (rn_o1 hB7) rc
        have r : rn_s _ 132 (149, [some (.ref 1), x1, x2, some (.int b3), some (.int b4), some (.int b5), some (.ref B6), some (.ref B7), some (.int b8), some (.int b9), some (.int b10), x11, x12, x13], [], aa_H (fn_78 g 462 (some B7) (b4 + b10) (b3 / 12))) v h := r
        exact dn_132_149 (lp_q (iw_s v h) d f) (fun n2 l2 => ih n2 (by omega) (by omega)) (fun z hz => hz) hB6 hB7 x1 x2 x11 x12 x13 jx1 jx2 jx11 jx12 jx13 r
theorem dn_132_115 {v : Option Value} {h : zz_H} {n : Nat} {g : aa_G} {b3 : Int32} {b4 : Int32} {b5 : Int32} {B6 : Nat} {B7 : Nat} {b8 : Int32} {b9 : Int32} {b10 : Int32} (hB6 : ct_tw B6) (hB7 : ct_tw B7) (x1 x2 x11 x12 x13 : Option Value) (jx1 : rn_jk x1) (jx2 : rn_jk x2) (jx11 : rn_jk x11) (jx12 : rn_jk x12) (jx13 : rn_jk x13) (r : rn_s n 132 (115, [some (.ref 1), x1, x2, some (.int b3), some (.int b4), some (.int b5), some (.ref B6), some (.ref B7), some (.int b8), some (.int b9), some (.int b10), x11, x12, x13], [], aa_H g) v h) : (iw_s v h) (fn_132_115 g b3 b4 b5 B6 B7 b8 b9 b10) := dn_132_115l hB6 hB7 n (Nat.le_refl n) g b10 x1 x2 x11 x12 x13 jx1 jx2 jx11 jx12 jx13 r
noncomputable def fn_132_83 (g : aa_G) (b2 : Int32) (b3 : Int32) (b4 : Int32) (b5 : Int32) (B6 : Nat) (B7 : Nat) : Int32 × aa_G := fn_132_115 g b3 b4 b5 B6 B7 (fn_100 g 461 (b2 - b2 / 12 * 12)) (fn_100 g 461 ((b2 - b2 / 12 * 12) + 1)) (-3)
theorem dn_132_83 {v : Option Value} {h : zz_H} {n : Nat} {g : aa_G} {b2 : Int32} {b3 : Int32} {b4 : Int32} {b5 : Int32} {B6 : Nat} {B7 : Nat} (hB6 : ct_tw B6) (hB7 : ct_tw B7) (x1 x8 x9 x10 x11 x12 x13 : Option Value) (jx1 : rn_jk x1) (jx8 : rn_jk x8) (jx9 : rn_jk x9) (jx10 : rn_jk x10) (jx11 : rn_jk x11) (jx12 : rn_jk x12) (jx13 : rn_jk x13) (r : rn_s n 132 (83, [some (.ref 1), x1, some (.int b2), some (.int b3), some (.int b4), some (.int b5), some (.ref B6), some (.ref B7), x8, x9, x10, x11, x12, x13], [], aa_H g) v h) : iw_s v h (fn_132_83 g b2 b3 b4 b5 B6 B7) := by
  unfold fn_132_83
  obtain ⟨n52, ln52, r⟩ := rn_steps 4 (91, [some (.ref 1), x1, some (.int b2), some (.int b3), some (.int b4), some (.int b5), some (.ref B6), some (.ref B7), x8, x9, x10, x11, x12, x13], [.int (b2 - b2 / 12 * 12), .ref 461], aa_H g) rfl r
  obtain ⟨_, n53, v1, h1, -, ln53, rc, r⟩ := rn_call (m2 := 100) (as := [.ref 461, .int (b2 - b2 / 12 * 12)]) (rest := []) rfl rfl r
  obtain ⟨rfl, rfl⟩ := dn_100 sp_c461 rc
  have r : rn_s _ 132 (94, [some (.ref 1), x1, some (.int b2), some (.int b3), some (.int b4), some (.int b5), some (.ref B6), some (.ref B7), x8, x9, x10, x11, x12, x13], [.int (fn_100 g 461 (b2 - b2 / 12 * 12))], aa_H g) v h := r
  obtain ⟨n55, ln55, r⟩ := rn_steps 7 (106, [some (.ref 1), x1, some (.int b2), some (.int b3), some (.int b4), some (.int b5), some (.ref B6), some (.ref B7), some (.int (fn_100 g 461 (b2 - b2 / 12 * 12))), x9, x10, x11, x12, x13], [.int ((b2 - b2 / 12 * 12) + 1), .ref 461], aa_H g) rfl r
  obtain ⟨_, n56, v1, h1, -, ln56, rc, r⟩ := rn_call (m2 := 100) (as := [.ref 461, .int ((b2 - b2 / 12 * 12) + 1)]) (rest := []) rfl rfl r
  obtain ⟨rfl, rfl⟩ := dn_100 sp_c461 rc
  have r : rn_s _ 132 (109, [some (.ref 1), x1, some (.int b2), some (.int b3), some (.int b4), some (.int b5), some (.ref B6), some (.ref B7), some (.int (fn_100 g 461 (b2 - b2 / 12 * 12))), x9, x10, x11, x12, x13], [.int (fn_100 g 461 ((b2 - b2 / 12 * 12) + 1))], aa_H g) v h := r
  obtain ⟨n58, ln58, r⟩ := rn_steps 2 (115, [some (.ref 1), x1, some (.int b2), some (.int b3), some (.int b4), some (.int b5), some (.ref B6), some (.ref B7), some (.int (fn_100 g 461 (b2 - b2 / 12 * 12))), some (.int (fn_100 g 461 ((b2 - b2 / 12 * 12) + 1))), some (.int (-3)), x11, x12, x13], [], aa_H g) rfl r
  exact dn_132_115 hB6 hB7 x1 (some (.int b2)) x11 x12 x13 jx1 rn_ji jx11 jx12 jx13 r
noncomputable def fn_132 (g : aa_G) (a1 : Int32) (a2 : Int32) (a3 : Int32) (a4 : Int32) (a5 : Int32) : Int32 × aa_G := (match fn_133 g a1 with | none => ((match fn_134 g a1 with | none => ((-1000000, g)) | some W13 => ((-1000000, g)))) | some W6 => ((match fn_134 g a1 with | none => ((-1000000, g)) | some W22 => (if (fn_77 a4) = 0 then (-1000000, g) else if (fn_14 a5 0 1) ≠ 0 then if (fn_14 a2 0 23) = 0 then (-1000000, g) else if (fn_14 a3 0 23) ≠ 0 then fn_132_83 (fn_78 g 461 (some W6) a4 (a2 / 12)) a2 a3 a4 a5 W6 W22 else (-1000000, g) else (-1000000, g)))))
theorem dn_132 {v : Option Value} {h : zz_H} {n : Nat} {g : aa_G} {a1 : Int32} {a2 : Int32} {a3 : Int32} {a4 : Int32} {a5 : Int32}  (r : rn_s n 132 (0, zz_in [.ref 1, .int a1, .int a2, .int a3, .int a4, .int a5] (zz_nl 132), [], aa_H g) v h) : iw_s v h (fn_132 g a1 a2 a3 a4 a5) := by
  have r : rn_s n 132 (0, [some (.ref 1), some (.int a1), some (.int a2), some (.int a3), some (.int a4), some (.int a5), none, none, none, none, none, none, none, none], [], aa_H g) v h := r
  unfold fn_132
  obtain ⟨n1, ln1, r⟩ := rn_steps 1 (2, [some (.ref 1), some (.int a1), some (.int a2), some (.int a3), some (.int a4), some (.int a5), none, none, none, none, none, none, none, none], [.int a1, .ref 1], aa_H g) rfl r
  obtain ⟨_, n2, v1, h1, -, ln2, rc, r⟩ := rn_call (m2 := 133) (as := [.ref 1, .int a1]) (rest := []) rfl rfl r
  obtain ⟨rfl, rfl, ho4⟩ := dn_133 rc
  have r : rn_s _ 132 (5, [some (.ref 1), some (.int a1), some (.int a2), some (.int a3), some (.int a4), some (.int a5), none, none, none, none, none, none, none, none], [zz_val (fn_133 g a1)], aa_H g) v h := r
  cases e5 : fn_133 g a1 with
  | none =>
    rw [e5] at r
    have r : rn_s _ 132 (5, [some (.ref 1), some (.int a1), some (.int a2), some (.int a3), some (.int a4), some (.int a5), none, none, none, none, none, none, none, none], [.null], aa_H g) v h := r
    dsimp only
    obtain ⟨n8, ln8, r⟩ := rn_steps 2 (9, [some (.ref 1), some (.int a1), some (.int a2), some (.int a3), some (.int a4), some (.int a5), some (.null), none, none, none, none, none, none, none], [.int a1, .ref 1], aa_H g) rfl r
    obtain ⟨_, n9, v1, h1, -, ln9, rc, r⟩ := rn_call (m2 := 134) (as := [.ref 1, .int a1]) (rest := []) rfl rfl r
    obtain ⟨rfl, rfl, ho11⟩ := dn_134 rc
    have r : rn_s _ 132 (12, [some (.ref 1), some (.int a1), some (.int a2), some (.int a3), some (.int a4), some (.int a5), some (.null), none, none, none, none, none, none, none], [zz_val (fn_134 g a1)], aa_H g) v h := r
    cases e12 : fn_134 g a1 with
    | none =>
      rw [e12] at r
      have r : rn_s _ 132 (12, [some (.ref 1), some (.int a1), some (.int a2), some (.int a3), some (.int a4), some (.int a5), some (.null), none, none, none, none, none, none, none], [.null], aa_H g) v h := r
      dsimp only
      obtain ⟨n15, ln15, r⟩ := rn_steps 3 (44, [some (.ref 1), some (.int a1), some (.int a2), some (.int a3), some (.int a4), some (.int a5), some (.null), some (.null), none, none, none, none, none, none], [.int (-1000000)], aa_H g) rfl r
      exact rn_ire rfl r
    | some W13 =>
      rw [e12] at r
      have hw14 : ct_tw W13 := ho11 _ e12
      have r : rn_s _ 132 (12, [some (.ref 1), some (.int a1), some (.int a2), some (.int a3), some (.int a4), some (.int a5), some (.null), none, none, none, none, none, none, none], [.ref W13], aa_H g) v h := r
      dsimp only
      obtain ⟨n16, ln16, r⟩ := rn_steps 3 (44, [some (.ref 1), some (.int a1), some (.int a2), some (.int a3), some (.int a4), some (.int a5), some (.null), some (.ref W13), none, none, none, none, none, none], [.int (-1000000)], aa_H g) rfl r
      exact rn_ire rfl r
  | some W6 =>
    rw [e5] at r
    have hw7 : ct_tw W6 := ho4 _ e5
    have r : rn_s _ 132 (5, [some (.ref 1), some (.int a1), some (.int a2), some (.int a3), some (.int a4), some (.int a5), none, none, none, none, none, none, none, none], [.ref W6], aa_H g) v h := r
    dsimp only
    obtain ⟨n17, ln17, r⟩ := rn_steps 2 (9, [some (.ref 1), some (.int a1), some (.int a2), some (.int a3), some (.int a4), some (.int a5), some (.ref W6), none, none, none, none, none, none, none], [.int a1, .ref 1], aa_H g) rfl r
    obtain ⟨_, n18, v1, h1, -, ln18, rc, r⟩ := rn_call (m2 := 134) (as := [.ref 1, .int a1]) (rest := []) rfl rfl r
    obtain ⟨rfl, rfl, ho20⟩ := dn_134 rc
    have r : rn_s _ 132 (12, [some (.ref 1), some (.int a1), some (.int a2), some (.int a3), some (.int a4), some (.int a5), some (.ref W6), none, none, none, none, none, none, none], [zz_val (fn_134 g a1)], aa_H g) v h := r
    cases e21 : fn_134 g a1 with
    | none =>
      rw [e21] at r
      have r : rn_s _ 132 (12, [some (.ref 1), some (.int a1), some (.int a2), some (.int a3), some (.int a4), some (.int a5), some (.ref W6), none, none, none, none, none, none, none], [.null], aa_H g) v h := r
      dsimp only
      obtain ⟨n24, ln24, r⟩ := rn_steps 5 (44, [some (.ref 1), some (.int a1), some (.int a2), some (.int a3), some (.int a4), some (.int a5), some (.ref W6), some (.null), none, none, none, none, none, none], [.int (-1000000)], aa_H g) rfl r
      exact rn_ire rfl r
    | some W22 =>
      rw [e21] at r
      have hw23 : ct_tw W22 := ho20 _ e21
      have r : rn_s _ 132 (12, [some (.ref 1), some (.int a1), some (.int a2), some (.int a3), some (.int a4), some (.int a5), some (.ref W6), none, none, none, none, none, none, none], [.ref W22], aa_H g) v h := r
      dsimp only
      obtain ⟨n25, ln25, r⟩ := rn_steps 5 (26, [some (.ref 1), some (.int a1), some (.int a2), some (.int a3), some (.int a4), some (.int a5), some (.ref W6), some (.ref W22), none, none, none, none, none, none], [.int a4], aa_H g) rfl r
      obtain ⟨_, n26, v1, h1, -, ln26, rc, r⟩ := rn_call (m2 := 77) (as := [.int a4]) (rest := []) rfl rfl r
      obtain ⟨rfl, rfl⟩ := dn_77 rc
      have r : rn_s _ 132 (29, [some (.ref 1), some (.int a1), some (.int a2), some (.int a3), some (.int a4), some (.int a5), some (.ref W6), some (.ref W22), none, none, none, none, none, none], [.int (fn_77 a4)], aa_H g) v h := r
      refine rn_if (iw_s v h) rfl decide_eq_true_iff.symm r (fun c28 l29n l29 r => ?_) (fun c28 l29n l29 r => ?_)
      · obtain ⟨n30, ln30, r⟩ := rn_steps 0 (44, [some (.ref 1), some (.int a1), some (.int a2), some (.int a3), some (.int a4), some (.int a5), some (.ref W6), some (.ref W22), none, none, none, none, none, none], [.int (-1000000)], aa_H g) rfl r
        exact rn_ire rfl r
      · obtain ⟨n31, ln31, r⟩ := rn_steps 2 (36, [some (.ref 1), some (.int a1), some (.int a2), some (.int a3), some (.int a4), some (.int a5), some (.ref W6), some (.ref W22), none, none, none, none, none, none], [.int 1, .int 0, .int a5], aa_H g) rfl r
        obtain ⟨_, n32, v1, h1, -, ln32, rc, r⟩ := rn_call (m2 := 14) (as := [.int a5, .int 0, .int 1]) (rest := []) rfl rfl r
        obtain ⟨rfl, rfl⟩ := dn_14 rc
        have r : rn_s _ 132 (39, [some (.ref 1), some (.int a1), some (.int a2), some (.int a3), some (.int a4), some (.int a5), some (.ref W6), some (.ref W22), none, none, none, none, none, none], [.int (fn_14 a5 0 1)], aa_H g) v h := r
        refine rn_if (iw_s v h) rfl decide_eq_true_iff.symm r (fun c34 l35n l35 r => ?_) (fun c34 l35n l35 r => ?_)
        · obtain ⟨n36, ln36, r⟩ := rn_steps 2 (49, [some (.ref 1), some (.int a1), some (.int a2), some (.int a3), some (.int a4), some (.int a5), some (.ref W6), some (.ref W22), none, none, none, none, none, none], [.int 23, .int 0, .int a2], aa_H g) rfl r
          obtain ⟨_, n37, v1, h1, -, ln37, rc, r⟩ := rn_call (m2 := 14) (as := [.int a2, .int 0, .int 23]) (rest := []) rfl rfl r
          obtain ⟨rfl, rfl⟩ := dn_14 rc
          have r : rn_s _ 132 (52, [some (.ref 1), some (.int a1), some (.int a2), some (.int a3), some (.int a4), some (.int a5), some (.ref W6), some (.ref W22), none, none, none, none, none, none], [.int (fn_14 a2 0 23)], aa_H g) v h := r
          refine rn_if (iw_s v h) rfl decide_eq_true_iff.symm r (fun c39 l40n l40 r => ?_) (fun c39 l40n l40 r => ?_)
          · obtain ⟨n41, ln41, r⟩ := rn_steps 0 (67, [some (.ref 1), some (.int a1), some (.int a2), some (.int a3), some (.int a4), some (.int a5), some (.ref W6), some (.ref W22), none, none, none, none, none, none], [.int (-1000000)], aa_H g) rfl r
            exact rn_ire rfl r
          · obtain ⟨n42, ln42, r⟩ := rn_steps 2 (59, [some (.ref 1), some (.int a1), some (.int a2), some (.int a3), some (.int a4), some (.int a5), some (.ref W6), some (.ref W22), none, none, none, none, none, none], [.int 23, .int 0, .int a3], aa_H g) rfl r
            obtain ⟨_, n43, v1, h1, -, ln43, rc, r⟩ := rn_call (m2 := 14) (as := [.int a3, .int 0, .int 23]) (rest := []) rfl rfl r
            obtain ⟨rfl, rfl⟩ := dn_14 rc
            have r : rn_s _ 132 (62, [some (.ref 1), some (.int a1), some (.int a2), some (.int a3), some (.int a4), some (.int a5), some (.ref W6), some (.ref W22), none, none, none, none, none, none], [.int (fn_14 a3 0 23)], aa_H g) v h := r
            refine rn_if (iw_s v h) rfl decide_eq_true_iff.symm r (fun c45 l46n l46 r => ?_) (fun c45 l46n l46 r => ?_)
            · obtain ⟨n47, ln47, r⟩ := rn_steps 6 (80, [some (.ref 1), some (.int a1), some (.int a2), some (.int a3), some (.int a4), some (.int a5), some (.ref W6), some (.ref W22), none, none, none, none, none, none], [.int (a2 / 12), .int a4, .ref W6, .ref 461], aa_H g) rfl r
              obtain ⟨_, n48, v1, h1, -, ln48, rc, r⟩ := rn_call (m2 := 78) (as := [.ref 461, .ref W6, .int a4, .int (a2 / 12)]) (rest := []) rfl rfl r
              obtain ⟨rfl, rfl⟩ := dn_78 sp_c461 (rn_o1 hw7) rc
              have r : rn_s _ 132 (83, [some (.ref 1), some (.int a1), some (.int a2), some (.int a3), some (.int a4), some (.int a5), some (.ref W6), some (.ref W22), none, none, none, none, none, none], [], aa_H (fn_78 g 461 (some W6) a4 (a2 / 12))) v h := r
              exact dn_132_83 hw7 hw23 (some (.int a1)) none none none none none none rn_ji rn_jn rn_jn rn_jn rn_jn rn_jn rn_jn r
            · obtain ⟨n50, ln50, r⟩ := rn_steps 0 (67, [some (.ref 1), some (.int a1), some (.int a2), some (.int a3), some (.int a4), some (.int a5), some (.ref W6), some (.ref W22), none, none, none, none, none, none], [.int (-1000000)], aa_H g) rfl r
              exact rn_ire rfl r
        · obtain ⟨n51, ln51, r⟩ := rn_steps 0 (44, [some (.ref 1), some (.int a1), some (.int a2), some (.int a3), some (.int a4), some (.int a5), some (.ref W6), some (.ref W22), none, none, none, none, none, none], [.int (-1000000)], aa_H g) rfl r
          exact rn_ire rfl r
-- 135: UnequalHours shared
noncomputable def fn_135_189 (g : aa_G) (b2 : Int32) (b3 : Int32) (B4 : Nat) (B5 : Nat) (b6 : Int32) (b7 : Int32) (b8 : Int32) : (aa_G × Int32 × Int32 × Int32) ⊕ (Int32 × aa_G) := .inl (g, b6, b7, b8 + 1)
theorem dn_135_189 {v : Option Value} {h : zz_H} {n : Nat} {g : aa_G} {b2 : Int32} {b3 : Int32} {B4 : Nat} {B5 : Nat} {b6 : Int32} {b7 : Int32} {b8 : Int32} (P : (aa_G × Int32 × Int32 × Int32) ⊕ (Int32 × aa_G) → Prop) (hO0 : ∀ n2, n2 < n → ∀ (yg : aa_G) (yb6 : Int32) (yb7 : Int32) (yb8 : Int32) (yx1 yx9 yx10 yx11 : Option Value) (_ : rn_jk yx1) (_ : rn_jk yx9) (_ : rn_jk yx10) (_ : rn_jk yx11), rn_s n2 135 (62, [some (.ref 1), yx1, some (.int b2), some (.int b3), some (.ref B4), some (.ref B5), some (.int yb6), some (.int yb7), some (.int yb8), yx9, yx10, yx11], [], aa_H yg) v h → P (.inl (yg, yb6, yb7, yb8))) (hR : ∀ E, iw_s v h E → P (.inr E)) (hB4 : ct_tw B4) (hB5 : ct_tw B5) (x1 x9 x10 x11 : Option Value) (jx1 : rn_jk x1) (jx9 : rn_jk x9) (jx10 : rn_jk x10) (jx11 : rn_jk x11) (r : rn_s n 135 (189, [some (.ref 1), x1, some (.int b2), some (.int b3), some (.ref B4), some (.ref B5), some (.int b6), some (.int b7), some (.int b8), x9, x10, x11], [], aa_H g) v h) : P (fn_135_189 g b2 b3 B4 B5 b6 b7 b8) := by
  unfold fn_135_189
  obtain ⟨n67, ln67, r⟩ := rn_steps 1 (62, [some (.ref 1), x1, some (.int b2), some (.int b3), some (.ref B4), some (.ref B5), some (.int b6), some (.int b7), some (.int (b8 + 1)), x9, x10, x11], [], aa_H g) rfl r
  exact hO0 _ (by omega) g b6 b7 (b8 + 1) x1 x9 x10 x11 jx1 jx9 jx10 jx11 r
noncomputable def fn_135_159 (g : aa_G) (b2 : Int32) (b3 : Int32) (B4 : Nat) (B5 : Nat) (b6 : Int32) (b7 : Int32) (b8 : Int32) (b10 : Int32) (b11 : Int32) : (aa_G × Int32 × Int32 × Int32) ⊕ (Int32 × aa_G) := if (g 462 0) = 0 then fn_135_189 g b2 b3 B4 B5 b6 b7 b8 else if b11 ≤ b10 then fn_135_189 g b2 b3 B4 B5 b6 b7 b8 else fn_135_189 g b2 b3 B4 B5 (b6 + (b11 - b10)) (b7 + 1) b8
theorem dn_135_159 {v : Option Value} {h : zz_H} {n : Nat} {g : aa_G} {b2 : Int32} {b3 : Int32} {B4 : Nat} {B5 : Nat} {b6 : Int32} {b7 : Int32} {b8 : Int32} {b10 : Int32} {b11 : Int32} (P : (aa_G × Int32 × Int32 × Int32) ⊕ (Int32 × aa_G) → Prop) (hO0 : ∀ n2, n2 < n → ∀ (yg : aa_G) (yb6 : Int32) (yb7 : Int32) (yb8 : Int32) (yx1 yx9 yx10 yx11 : Option Value) (_ : rn_jk yx1) (_ : rn_jk yx9) (_ : rn_jk yx10) (_ : rn_jk yx11), rn_s n2 135 (62, [some (.ref 1), yx1, some (.int b2), some (.int b3), some (.ref B4), some (.ref B5), some (.int yb6), some (.int yb7), some (.int yb8), yx9, yx10, yx11], [], aa_H yg) v h → P (.inl (yg, yb6, yb7, yb8))) (hR : ∀ E, iw_s v h E → P (.inr E)) (hB4 : ct_tw B4) (hB5 : ct_tw B5) (x1 x9 : Option Value) (jx1 : rn_jk x1) (jx9 : rn_jk x9) (r : rn_s n 135 (159, [some (.ref 1), x1, some (.int b2), some (.int b3), some (.ref B4), some (.ref B5), some (.int b6), some (.int b7), some (.int b8), x9, some (.int b10), some (.int b11)], [], aa_H g) v h) : P (fn_135_159 g b2 b3 B4 B5 b6 b7 b8 b10 b11) := by
  unfold fn_135_159
  obtain ⟨n60, ln60, r⟩ := rn_steps 2 (166, [some (.ref 1), x1, some (.int b2), some (.int b3), some (.ref B4), some (.ref B5), some (.int b6), some (.int b7), some (.int b8), x9, some (.int b10), some (.int b11)], [.int (g 462 0)], aa_H g) rfl r
  refine rn_if (P) rfl decide_eq_true_iff.symm r (fun c61 l62n l62 r => ?_) (fun c61 l62n l62 r => ?_)
  · exact dn_135_189 (P) (fun n2 l2 => hO0 n2 (by omega)) (fun z hz => hR _ hz) hB4 hB5 x1 x9 (some (.int b10)) (some (.int b11)) jx1 jx9 rn_ji rn_ji r
  · obtain ⟨n63, ln63, r⟩ := rn_steps 1 (173, [some (.ref 1), x1, some (.int b2), some (.int b3), some (.ref B4), some (.ref B5), some (.int b6), some (.int b7), some (.int b8), x9, some (.int b10), some (.int b11)], [.int b11, .int b10], aa_H g) rfl r
    refine rn_ic (P) rfl decide_eq_true_iff.symm r (fun c64 l65n l65 r => ?_) (fun c64 l65n l65 r => ?_)
    · exact dn_135_189 (P) (fun n2 l2 => hO0 n2 (by omega)) (fun z hz => hR _ hz) hB4 hB5 x1 x9 (some (.int b10)) (some (.int b11)) jx1 jx9 rn_ji rn_ji r
    · obtain ⟨n66, ln66, r⟩ := rn_steps 6 (189, [some (.ref 1), x1, some (.int b2), some (.int b3), some (.ref B4), some (.ref B5), some (.int (b6 + (b11 - b10))), some (.int (b7 + 1)), some (.int b8), x9, some (.int b10), some (.int b11)], [], aa_H g) rfl r
      exact dn_135_189 (P) (fun n2 l2 => hO0 n2 (by omega)) (fun z hz => hR _ hz) hB4 hB5 x1 x9 (some (.int b10)) (some (.int b11)) jx1 jx9 rn_ji rn_ji r
noncomputable def fn_135_129 (g : aa_G) (b2 : Int32) (b3 : Int32) (B4 : Nat) (B5 : Nat) (b6 : Int32) (b7 : Int32) (b8 : Int32) (b9 : Int32) (b10 : Int32) : (aa_G × Int32 × Int32 × Int32) ⊕ (Int32 × aa_G) := fn_135_159 g b2 b3 B4 B5 b6 b7 b8 b10 (if (b9 + (g 462 4)) < ((g 461 3) + (g 461 4)) then (b9 + (g 462 4)) else ((g 461 3) + (g 461 4)))
theorem dn_135_129 {v : Option Value} {h : zz_H} {n : Nat} {g : aa_G} {b2 : Int32} {b3 : Int32} {B4 : Nat} {B5 : Nat} {b6 : Int32} {b7 : Int32} {b8 : Int32} {b9 : Int32} {b10 : Int32} (P : (aa_G × Int32 × Int32 × Int32) ⊕ (Int32 × aa_G) → Prop) (hO0 : ∀ n2, n2 < n → ∀ (yg : aa_G) (yb6 : Int32) (yb7 : Int32) (yb8 : Int32) (yx1 yx9 yx10 yx11 : Option Value) (_ : rn_jk yx1) (_ : rn_jk yx9) (_ : rn_jk yx10) (_ : rn_jk yx11), rn_s n2 135 (62, [some (.ref 1), yx1, some (.int b2), some (.int b3), some (.ref B4), some (.ref B5), some (.int yb6), some (.int yb7), some (.int yb8), yx9, yx10, yx11], [], aa_H yg) v h → P (.inl (yg, yb6, yb7, yb8))) (hR : ∀ E, iw_s v h E → P (.inr E)) (hB4 : ct_tw B4) (hB5 : ct_tw B5) (x1 x11 : Option Value) (jx1 : rn_jk x1) (jx11 : rn_jk x11) (r : rn_s n 135 (129, [some (.ref 1), x1, some (.int b2), some (.int b3), some (.ref B4), some (.ref B5), some (.int b6), some (.int b7), some (.int b8), some (.int b9), some (.int b10), x11], [], aa_H g) v h) : P (fn_135_129 g b2 b3 B4 B5 b6 b7 b8 b9 b10) := by
  unfold fn_135_129
  obtain ⟨n59, ln59, r⟩ := rn_steps 13 (159, [some (.ref 1), x1, some (.int b2), some (.int b3), some (.ref B4), some (.ref B5), some (.int b6), some (.int b7), some (.int b8), some (.int b9), some (.int b10), some (.int (if (b9 + (g 462 4)) < ((g 461 3) + (g 461 4)) then (b9 + (g 462 4)) else ((g 461 3) + (g 461 4))))], [], aa_H g) rfl r
  exact dn_135_159 (P) (fun n2 l2 => hO0 n2 (by omega)) (fun z hz => hR _ hz) hB4 hB5 x1 (some (.int b9)) jx1 rn_ji r
noncomputable def fn_135_92 (g : aa_G) (b2 : Int32) (b3 : Int32) (B4 : Nat) (B5 : Nat) (b6 : Int32) (b7 : Int32) (b8 : Int32) : (aa_G × Int32 × Int32 × Int32) ⊕ (Int32 × aa_G) := fn_135_129 g b2 b3 B4 B5 b6 b7 b8 (((g 462 3) + (b8 * 86400)) - (fn_94 g B4 B5)) (if (g 461 3) < (((g 462 3) + (b8 * 86400)) - (fn_94 g B4 B5)) then (((g 462 3) + (b8 * 86400)) - (fn_94 g B4 B5)) else (g 461 3))
theorem dn_135_92 {v : Option Value} {h : zz_H} {n : Nat} {g : aa_G} {b2 : Int32} {b3 : Int32} {B4 : Nat} {B5 : Nat} {b6 : Int32} {b7 : Int32} {b8 : Int32} (P : (aa_G × Int32 × Int32 × Int32) ⊕ (Int32 × aa_G) → Prop) (hO0 : ∀ n2, n2 < n → ∀ (yg : aa_G) (yb6 : Int32) (yb7 : Int32) (yb8 : Int32) (yx1 yx9 yx10 yx11 : Option Value) (_ : rn_jk yx1) (_ : rn_jk yx9) (_ : rn_jk yx10) (_ : rn_jk yx11), rn_s n2 135 (62, [some (.ref 1), yx1, some (.int b2), some (.int b3), some (.ref B4), some (.ref B5), some (.int yb6), some (.int yb7), some (.int yb8), yx9, yx10, yx11], [], aa_H yg) v h → P (.inl (yg, yb6, yb7, yb8))) (hR : ∀ E, iw_s v h E → P (.inr E)) (hB4 : ct_tw B4) (hB5 : ct_tw B5) (x1 x9 x10 x11 : Option Value) (jx1 : rn_jk x1) (jx9 : rn_jk x9) (jx10 : rn_jk x10) (jx11 : rn_jk x11) (r : rn_s n 135 (92, [some (.ref 1), x1, some (.int b2), some (.int b3), some (.ref B4), some (.ref B5), some (.int b6), some (.int b7), some (.int b8), x9, x10, x11], [], aa_H g) v h) : P (fn_135_92 g b2 b3 B4 B5 b6 b7 b8) := by
  unfold fn_135_92
  obtain ⟨n55, ln55, r⟩ := rn_steps 8 (109, [some (.ref 1), x1, some (.int b2), some (.int b3), some (.ref B4), some (.ref B5), some (.int b6), some (.int b7), some (.int b8), x9, x10, x11], [.ref B5, .ref B4, .int ((g 462 3) + (b8 * 86400))], aa_H g) rfl r
  obtain ⟨_, n56, v1, h1, -, ln56, rc, r⟩ := rn_call (m2 := 94) (as := [.ref B4, .ref B5]) (rest := [.int ((g 462 3) + (b8 * 86400))]) rfl rfl r
  obtain ⟨rfl, rfl⟩ := dn_94 hB4 hB5 rc
  have r : rn_s _ 135 (112, [some (.ref 1), x1, some (.int b2), some (.int b3), some (.ref B4), some (.ref B5), some (.int b6), some (.int b7), some (.int b8), x9, x10, x11], [.int (fn_94 g B4 B5), .int ((g 462 3) + (b8 * 86400))], aa_H g) v h := r
  obtain ⟨n58, ln58, r⟩ := rn_steps 7 (129, [some (.ref 1), x1, some (.int b2), some (.int b3), some (.ref B4), some (.ref B5), some (.int b6), some (.int b7), some (.int b8), some (.int (((g 462 3) + (b8 * 86400)) - (fn_94 g B4 B5))), some (.int (if (g 461 3) < (((g 462 3) + (b8 * 86400)) - (fn_94 g B4 B5)) then (((g 462 3) + (b8 * 86400)) - (fn_94 g B4 B5)) else (g 461 3))), x11], [], aa_H g) rfl r
  exact dn_135_129 (P) (fun n2 l2 => hO0 n2 (by omega)) (fun z hz => hR _ hz) hB4 hB5 x1 x11 jx1 jx11 r
noncomputable def fn_135_195 (g : aa_G) (b3 : Int32) (b6 : Int32) (b7 : Int32) : Int32 × aa_G := if b3 ≠ 0 then (b7, g) else (b6, g)
theorem dn_135_195 {v : Option Value} {h : zz_H} {n : Nat} {g : aa_G} {b3 : Int32} {b6 : Int32} {b7 : Int32}  (x0 x1 x2 x4 x5 x8 x9 x10 x11 : Option Value) (jx0 : rn_jk x0) (jx1 : rn_jk x1) (jx2 : rn_jk x2) (jx4 : rn_jk x4) (jx5 : rn_jk x5) (jx8 : rn_jk x8) (jx9 : rn_jk x9) (jx10 : rn_jk x10) (jx11 : rn_jk x11) (r : rn_s n 135 (195, [x0, x1, x2, some (.int b3), x4, x5, some (.int b6), some (.int b7), x8, x9, x10, x11], [], aa_H g) v h) : iw_s v h (fn_135_195 g b3 b6 b7) := by
  unfold fn_135_195
  obtain ⟨n50, ln50, r⟩ := rn_steps 0 (196, [x0, x1, x2, some (.int b3), x4, x5, some (.int b6), some (.int b7), x8, x9, x10, x11], [.int b3], aa_H g) rfl r
  refine rn_if (iw_s v h) rfl decide_eq_true_iff.symm r (fun c51 l52n l52 r => ?_) (fun c51 l52n l52 r => ?_)
  · obtain ⟨n53, ln53, r⟩ := rn_steps 0 (206, [x0, x1, x2, some (.int b3), x4, x5, some (.int b6), some (.int b7), x8, x9, x10, x11], [.int b7], aa_H g) rfl r
    exact rn_ire rfl r
  · obtain ⟨n54, ln54, r⟩ := rn_steps 1 (206, [x0, x1, x2, some (.int b3), x4, x5, some (.int b6), some (.int b7), x8, x9, x10, x11], [.int b6], aa_H g) rfl r
    exact rn_ire rfl r
noncomputable def fn_135_62b (g : aa_G) (b2 : Int32) (b3 : Int32) (B4 : Nat) (B5 : Nat) (b6 : Int32) (b7 : Int32) (b8 : Int32) : (aa_G × Int32 × Int32 × Int32) ⊕ (Int32 × aa_G) := if 1 < b8 then .inr (fn_135_195 g b3 b6 b7) else if (g 461 0) = 0 then .inr (fn_135_195 g b3 b6 b7) else fn_135_92 (fn_78 g 462 (some B5) (b2 + b8) 0) b2 b3 B4 B5 b6 b7 b8
noncomputable def fn_135_62 (g : aa_G) (b2 : Int32) (b3 : Int32) (B4 : Nat) (B5 : Nat) (b6 : Int32) (b7 : Int32) (b8 : Int32) : Int32 × aa_G := lp_f (0, g) (fun z : (aa_G × Int32 × Int32 × Int32) => fn_135_62b z.1 b2 b3 B4 B5 z.2.1 z.2.2.1 z.2.2.2) (g, b6, b7, b8)
theorem dn_135_62l {v : Option Value} {h : zz_H} {N : Nat} {b2 : Int32} {b3 : Int32} {B4 : Nat} {B5 : Nat} (hB4 : ct_tw B4) (hB5 : ct_tw B5) {d : Int32 × aa_G} : ∀ (n : Nat), n ≤ N → ∀ (g : aa_G) (b6 : Int32) (b7 : Int32) (b8 : Int32) (x1 x9 x10 x11 : Option Value) (jx1 : rn_jk x1) (jx9 : rn_jk x9) (jx10 : rn_jk x10) (jx11 : rn_jk x11), rn_s n 135 (62, [some (.ref 1), x1, some (.int b2), some (.int b3), some (.ref B4), some (.ref B5), some (.int b6), some (.int b7), some (.int b8), x9, x10, x11], [], aa_H g) v h → (iw_s v h) (lp_f d (fun z : (aa_G × Int32 × Int32 × Int32) => fn_135_62b z.1 b2 b3 B4 B5 z.2.1 z.2.2.1 z.2.2.2) (g, b6, b7, b8)) := by
  generalize hf : (fun z : (aa_G × Int32 × Int32 × Int32) => fn_135_62b z.1 b2 b3 B4 B5 z.2.1 z.2.2.1 z.2.2.2) = f
  intro n
  induction n using Nat.strongRecOn with
  | _ n ih =>
    intro hN g b6 b7 b8 x1 x9 x10 x11 jx1 jx9 jx10 jx11 r
    refine lp_go ?_
    rw [← congrFun hf (g, b6, b7, b8)]
    show lp_q (iw_s v h) d f (fn_135_62b g b2 b3 B4 B5 b6 b7 b8)
    unfold fn_135_62b
    obtain ⟨n41, ln41, r⟩ := rn_steps 1 (65, [some (.ref 1), x1, some (.int b2), some (.int b3), some (.ref B4), some (.ref B5), some (.int b6), some (.int b7), some (.int b8), x9, x10, x11], [.int 1, .int b8], aa_H g) rfl r
    refine rn_ic (lp_q (iw_s v h) d f) rfl decide_eq_true_iff.symm r (fun c42 l43n l43 r => ?_) (fun c42 l43n l43 r => ?_)
    · exact dn_135_195 (some (.ref 1)) x1 (some (.int b2)) (some (.ref B4)) (some (.ref B5)) (some (.int b8)) x9 x10 x11 rn_jr jx1 rn_ji rn_jr rn_jr rn_ji jx9 jx10 jx11 r
    · obtain ⟨n44, ln44, r⟩ := rn_steps 2 (75, [some (.ref 1), x1, some (.int b2), some (.int b3), some (.ref B4), some (.ref B5), some (.int b6), some (.int b7), some (.int b8), x9, x10, x11], [.int (g 461 0)], aa_H g) rfl r
      refine rn_if (lp_q (iw_s v h) d f) rfl decide_eq_true_iff.symm r (fun c45 l46n l46 r => ?_) (fun c45 l46n l46 r => ?_)
      · exact dn_135_195 (some (.ref 1)) x1 (some (.int b2)) (some (.ref B4)) (some (.ref B5)) (some (.int b8)) x9 x10 x11 rn_jr jx1 rn_ji rn_jr rn_jr rn_ji jx9 jx10 jx11 r
      · obtain ⟨n47, ln47, r⟩ := rn_steps 6 (89, [some (.ref 1), x1, some (.int b2), some (.int b3), some (.ref B4), some (.ref B5), some (.int b6), some (.int b7), some (.int b8), x9, x10, x11], [.int 0, .int (b2 + b8), .ref B5, .ref 462], aa_H g) rfl r
        obtain ⟨_, n48, v1, h1, -, ln48, rc, r⟩ := rn_call (m2 := 78) (as := [.ref 462, .ref B5, .int (b2 + b8), .int 0]) (rest := []) rfl rfl r
        obtain ⟨rfl, rfl⟩ := dn_78 sp_c462 (rn_o1 hB5) rc
        have r : rn_s _ 135 (92, [some (.ref 1), x1, some (.int b2), some (.int b3), some (.ref B4), some (.ref B5), some (.int b6), some (.int b7), some (.int b8), x9, x10, x11], [], aa_H (fn_78 g 462 (some B5) (b2 + b8) 0)) v h := r
        exact dn_135_92 (lp_q (iw_s v h) d f) (fun n2 l2 => ih n2 (by omega) (by omega)) (fun z hz => hz) hB4 hB5 x1 x9 x10 x11 jx1 jx9 jx10 jx11 r
theorem dn_135_62 {v : Option Value} {h : zz_H} {n : Nat} {g : aa_G} {b2 : Int32} {b3 : Int32} {B4 : Nat} {B5 : Nat} {b6 : Int32} {b7 : Int32} {b8 : Int32} (hB4 : ct_tw B4) (hB5 : ct_tw B5) (x1 x9 x10 x11 : Option Value) (jx1 : rn_jk x1) (jx9 : rn_jk x9) (jx10 : rn_jk x10) (jx11 : rn_jk x11) (r : rn_s n 135 (62, [some (.ref 1), x1, some (.int b2), some (.int b3), some (.ref B4), some (.ref B5), some (.int b6), some (.int b7), some (.int b8), x9, x10, x11], [], aa_H g) v h) : (iw_s v h) (fn_135_62 g b2 b3 B4 B5 b6 b7 b8) := dn_135_62l hB4 hB5 n (Nat.le_refl n) g b6 b7 b8 x1 x9 x10 x11 jx1 jx9 jx10 jx11 r
noncomputable def fn_135_53 (g : aa_G) (b2 : Int32) (b3 : Int32) (B4 : Nat) (B5 : Nat) : Int32 × aa_G := fn_135_62 g b2 b3 B4 B5 0 0 (-1)
theorem dn_135_53 {v : Option Value} {h : zz_H} {n : Nat} {g : aa_G} {b2 : Int32} {b3 : Int32} {B4 : Nat} {B5 : Nat} (hB4 : ct_tw B4) (hB5 : ct_tw B5) (x1 x6 x7 x8 x9 x10 x11 : Option Value) (jx1 : rn_jk x1) (jx6 : rn_jk x6) (jx7 : rn_jk x7) (jx8 : rn_jk x8) (jx9 : rn_jk x9) (jx10 : rn_jk x10) (jx11 : rn_jk x11) (r : rn_s n 135 (53, [some (.ref 1), x1, some (.int b2), some (.int b3), some (.ref B4), some (.ref B5), x6, x7, x8, x9, x10, x11], [], aa_H g) v h) : iw_s v h (fn_135_53 g b2 b3 B4 B5) := by
  unfold fn_135_53
  obtain ⟨n40, ln40, r⟩ := rn_steps 5 (62, [some (.ref 1), x1, some (.int b2), some (.int b3), some (.ref B4), some (.ref B5), some (.int 0), some (.int 0), some (.int (-1)), x9, x10, x11], [], aa_H g) rfl r
  exact dn_135_62 hB4 hB5 x1 x9 x10 x11 jx1 jx9 jx10 jx11 r
noncomputable def fn_135 (g : aa_G) (a1 : Int32) (a2 : Int32) (a3 : Int32) : Int32 × aa_G := (match fn_133 g a1 with | none => ((match fn_134 g a1 with | none => ((-1, g)) | some W13 => ((-1, g)))) | some W6 => ((match fn_134 g a1 with | none => ((-1, g)) | some W22 => (if (fn_77 a2) = 0 then (-1, g) else if (fn_14 a3 0 1) ≠ 0 then fn_135_53 (fn_78 g 461 (some W6) a2 0) a2 a3 W6 W22 else (-1, g)))))
theorem dn_135 {v : Option Value} {h : zz_H} {n : Nat} {g : aa_G} {a1 : Int32} {a2 : Int32} {a3 : Int32}  (r : rn_s n 135 (0, zz_in [.ref 1, .int a1, .int a2, .int a3] (zz_nl 135), [], aa_H g) v h) : iw_s v h (fn_135 g a1 a2 a3) := by
  have r : rn_s n 135 (0, [some (.ref 1), some (.int a1), some (.int a2), some (.int a3), none, none, none, none, none, none, none, none], [], aa_H g) v h := r
  unfold fn_135
  obtain ⟨n1, ln1, r⟩ := rn_steps 1 (2, [some (.ref 1), some (.int a1), some (.int a2), some (.int a3), none, none, none, none, none, none, none, none], [.int a1, .ref 1], aa_H g) rfl r
  obtain ⟨_, n2, v1, h1, -, ln2, rc, r⟩ := rn_call (m2 := 133) (as := [.ref 1, .int a1]) (rest := []) rfl rfl r
  obtain ⟨rfl, rfl, ho4⟩ := dn_133 rc
  have r : rn_s _ 135 (5, [some (.ref 1), some (.int a1), some (.int a2), some (.int a3), none, none, none, none, none, none, none, none], [zz_val (fn_133 g a1)], aa_H g) v h := r
  cases e5 : fn_133 g a1 with
  | none =>
    rw [e5] at r
    have r : rn_s _ 135 (5, [some (.ref 1), some (.int a1), some (.int a2), some (.int a3), none, none, none, none, none, none, none, none], [.null], aa_H g) v h := r
    dsimp only
    obtain ⟨n8, ln8, r⟩ := rn_steps 2 (9, [some (.ref 1), some (.int a1), some (.int a2), some (.int a3), some (.null), none, none, none, none, none, none, none], [.int a1, .ref 1], aa_H g) rfl r
    obtain ⟨_, n9, v1, h1, -, ln9, rc, r⟩ := rn_call (m2 := 134) (as := [.ref 1, .int a1]) (rest := []) rfl rfl r
    obtain ⟨rfl, rfl, ho11⟩ := dn_134 rc
    have r : rn_s _ 135 (12, [some (.ref 1), some (.int a1), some (.int a2), some (.int a3), some (.null), none, none, none, none, none, none, none], [zz_val (fn_134 g a1)], aa_H g) v h := r
    cases e12 : fn_134 g a1 with
    | none =>
      rw [e12] at r
      have r : rn_s _ 135 (12, [some (.ref 1), some (.int a1), some (.int a2), some (.int a3), some (.null), none, none, none, none, none, none, none], [.null], aa_H g) v h := r
      dsimp only
      obtain ⟨n15, ln15, r⟩ := rn_steps 3 (41, [some (.ref 1), some (.int a1), some (.int a2), some (.int a3), some (.null), some (.null), none, none, none, none, none, none], [.int (-1)], aa_H g) rfl r
      exact rn_ire rfl r
    | some W13 =>
      rw [e12] at r
      have hw14 : ct_tw W13 := ho11 _ e12
      have r : rn_s _ 135 (12, [some (.ref 1), some (.int a1), some (.int a2), some (.int a3), some (.null), none, none, none, none, none, none, none], [.ref W13], aa_H g) v h := r
      dsimp only
      obtain ⟨n16, ln16, r⟩ := rn_steps 3 (41, [some (.ref 1), some (.int a1), some (.int a2), some (.int a3), some (.null), some (.ref W13), none, none, none, none, none, none], [.int (-1)], aa_H g) rfl r
      exact rn_ire rfl r
  | some W6 =>
    rw [e5] at r
    have hw7 : ct_tw W6 := ho4 _ e5
    have r : rn_s _ 135 (5, [some (.ref 1), some (.int a1), some (.int a2), some (.int a3), none, none, none, none, none, none, none, none], [.ref W6], aa_H g) v h := r
    dsimp only
    obtain ⟨n17, ln17, r⟩ := rn_steps 2 (9, [some (.ref 1), some (.int a1), some (.int a2), some (.int a3), some (.ref W6), none, none, none, none, none, none, none], [.int a1, .ref 1], aa_H g) rfl r
    obtain ⟨_, n18, v1, h1, -, ln18, rc, r⟩ := rn_call (m2 := 134) (as := [.ref 1, .int a1]) (rest := []) rfl rfl r
    obtain ⟨rfl, rfl, ho20⟩ := dn_134 rc
    have r : rn_s _ 135 (12, [some (.ref 1), some (.int a1), some (.int a2), some (.int a3), some (.ref W6), none, none, none, none, none, none, none], [zz_val (fn_134 g a1)], aa_H g) v h := r
    cases e21 : fn_134 g a1 with
    | none =>
      rw [e21] at r
      have r : rn_s _ 135 (12, [some (.ref 1), some (.int a1), some (.int a2), some (.int a3), some (.ref W6), none, none, none, none, none, none, none], [.null], aa_H g) v h := r
      dsimp only
      obtain ⟨n24, ln24, r⟩ := rn_steps 5 (41, [some (.ref 1), some (.int a1), some (.int a2), some (.int a3), some (.ref W6), some (.null), none, none, none, none, none, none], [.int (-1)], aa_H g) rfl r
      exact rn_ire rfl r
    | some W22 =>
      rw [e21] at r
      have hw23 : ct_tw W22 := ho20 _ e21
      have r : rn_s _ 135 (12, [some (.ref 1), some (.int a1), some (.int a2), some (.int a3), some (.ref W6), none, none, none, none, none, none, none], [.ref W22], aa_H g) v h := r
      dsimp only
      obtain ⟨n25, ln25, r⟩ := rn_steps 5 (25, [some (.ref 1), some (.int a1), some (.int a2), some (.int a3), some (.ref W6), some (.ref W22), none, none, none, none, none, none], [.int a2], aa_H g) rfl r
      obtain ⟨_, n26, v1, h1, -, ln26, rc, r⟩ := rn_call (m2 := 77) (as := [.int a2]) (rest := []) rfl rfl r
      obtain ⟨rfl, rfl⟩ := dn_77 rc
      have r : rn_s _ 135 (28, [some (.ref 1), some (.int a1), some (.int a2), some (.int a3), some (.ref W6), some (.ref W22), none, none, none, none, none, none], [.int (fn_77 a2)], aa_H g) v h := r
      refine rn_if (iw_s v h) rfl decide_eq_true_iff.symm r (fun c28 l29n l29 r => ?_) (fun c28 l29n l29 r => ?_)
      · obtain ⟨n30, ln30, r⟩ := rn_steps 0 (41, [some (.ref 1), some (.int a1), some (.int a2), some (.int a3), some (.ref W6), some (.ref W22), none, none, none, none, none, none], [.int (-1)], aa_H g) rfl r
        exact rn_ire rfl r
      · obtain ⟨n31, ln31, r⟩ := rn_steps 2 (34, [some (.ref 1), some (.int a1), some (.int a2), some (.int a3), some (.ref W6), some (.ref W22), none, none, none, none, none, none], [.int 1, .int 0, .int a3], aa_H g) rfl r
        obtain ⟨_, n32, v1, h1, -, ln32, rc, r⟩ := rn_call (m2 := 14) (as := [.int a3, .int 0, .int 1]) (rest := []) rfl rfl r
        obtain ⟨rfl, rfl⟩ := dn_14 rc
        have r : rn_s _ 135 (37, [some (.ref 1), some (.int a1), some (.int a2), some (.int a3), some (.ref W6), some (.ref W22), none, none, none, none, none, none], [.int (fn_14 a3 0 1)], aa_H g) v h := r
        refine rn_if (iw_s v h) rfl decide_eq_true_iff.symm r (fun c34 l35n l35 r => ?_) (fun c34 l35n l35 r => ?_)
        · obtain ⟨n36, ln36, r⟩ := rn_steps 4 (50, [some (.ref 1), some (.int a1), some (.int a2), some (.int a3), some (.ref W6), some (.ref W22), none, none, none, none, none, none], [.int 0, .int a2, .ref W6, .ref 461], aa_H g) rfl r
          obtain ⟨_, n37, v1, h1, -, ln37, rc, r⟩ := rn_call (m2 := 78) (as := [.ref 461, .ref W6, .int a2, .int 0]) (rest := []) rfl rfl r
          obtain ⟨rfl, rfl⟩ := dn_78 sp_c461 (rn_o1 hw7) rc
          have r : rn_s _ 135 (53, [some (.ref 1), some (.int a1), some (.int a2), some (.int a3), some (.ref W6), some (.ref W22), none, none, none, none, none, none], [], aa_H (fn_78 g 461 (some W6) a2 0)) v h := r
          exact dn_135_53 hw7 hw23 (some (.int a1)) none none none none none none rn_ji rn_jn rn_jn rn_jn rn_jn rn_jn rn_jn r
        · obtain ⟨n39, ln39, r⟩ := rn_steps 0 (41, [some (.ref 1), some (.int a1), some (.int a2), some (.int a3), some (.ref W6), some (.ref W22), none, none, none, none, none, none], [.int (-1)], aa_H g) rfl r
          exact rn_ire rfl r
-- 136: UnequalHours arrive
noncomputable def fn_136 (g : aa_G) (a1 : Int32) (a2 : Int32) (a3 : Int32) (a4 : Int32) (a5 : Int32) : Int32 × aa_G := (match fn_133 g a1 with | none => ((match fn_134 g a1 with | none => ((-1, g)) | some W13 => ((-1, g)))) | some W6 => ((match fn_134 g a1 with | none => ((-1, g)) | some W22 => (if (fn_77 a2) = 0 then (-1, g) else if (fn_66 a3) ≠ 0 then if (fn_14 a4 0 864000) = 0 then (-1, g) else if (fn_14 a5 0 3) ≠ 0 then if (fn_77 (a2 + (fn_82 ((a3 + a4) + (fn_94 g W6 W22)) 86400))) ≠ 0 then if a5 ≠ 0 then if a5 ≠ 1 then ((fn_85 g (a1 - a1 / 4 * 4) (a2 + (fn_82 ((a3 + a4) + (fn_94 g W6 W22)) 86400)) (fn_81 ((a3 + a4) + (fn_94 g W6 W22)) 86400) (a5 - 1)).1, (fn_85 g (a1 - a1 / 4 * 4) (a2 + (fn_82 ((a3 + a4) + (fn_94 g W6 W22)) 86400)) (fn_81 ((a3 + a4) + (fn_94 g W6 W22)) 86400) (a5 - 1)).2) else (fn_81 ((a3 + a4) + (fn_94 g W6 W22)) 86400, g) else (a2 + (fn_82 ((a3 + a4) + (fn_94 g W6 W22)) 86400), g) else (-2, g) else (-1, g) else (-1, g)))))
theorem dn_136 {v : Option Value} {h : zz_H} {n : Nat} {g : aa_G} {a1 : Int32} {a2 : Int32} {a3 : Int32} {a4 : Int32} {a5 : Int32}  (r : rn_s n 136 (0, zz_in [.ref 1, .int a1, .int a2, .int a3, .int a4, .int a5] (zz_nl 136), [], aa_H g) v h) : iw_s v h (fn_136 g a1 a2 a3 a4 a5) := by
  have r : rn_s n 136 (0, [some (.ref 1), some (.int a1), some (.int a2), some (.int a3), some (.int a4), some (.int a5), none, none, none, none, none], [], aa_H g) v h := r
  unfold fn_136
  obtain ⟨n1, ln1, r⟩ := rn_steps 1 (2, [some (.ref 1), some (.int a1), some (.int a2), some (.int a3), some (.int a4), some (.int a5), none, none, none, none, none], [.int a1, .ref 1], aa_H g) rfl r
  obtain ⟨_, n2, v1, h1, -, ln2, rc, r⟩ := rn_call (m2 := 133) (as := [.ref 1, .int a1]) (rest := []) rfl rfl r
  obtain ⟨rfl, rfl, ho4⟩ := dn_133 rc
  have r : rn_s _ 136 (5, [some (.ref 1), some (.int a1), some (.int a2), some (.int a3), some (.int a4), some (.int a5), none, none, none, none, none], [zz_val (fn_133 g a1)], aa_H g) v h := r
  cases e5 : fn_133 g a1 with
  | none =>
    rw [e5] at r
    have r : rn_s _ 136 (5, [some (.ref 1), some (.int a1), some (.int a2), some (.int a3), some (.int a4), some (.int a5), none, none, none, none, none], [.null], aa_H g) v h := r
    dsimp only
    obtain ⟨n8, ln8, r⟩ := rn_steps 2 (9, [some (.ref 1), some (.int a1), some (.int a2), some (.int a3), some (.int a4), some (.int a5), some (.null), none, none, none, none], [.int a1, .ref 1], aa_H g) rfl r
    obtain ⟨_, n9, v1, h1, -, ln9, rc, r⟩ := rn_call (m2 := 134) (as := [.ref 1, .int a1]) (rest := []) rfl rfl r
    obtain ⟨rfl, rfl, ho11⟩ := dn_134 rc
    have r : rn_s _ 136 (12, [some (.ref 1), some (.int a1), some (.int a2), some (.int a3), some (.int a4), some (.int a5), some (.null), none, none, none, none], [zz_val (fn_134 g a1)], aa_H g) v h := r
    cases e12 : fn_134 g a1 with
    | none =>
      rw [e12] at r
      have r : rn_s _ 136 (12, [some (.ref 1), some (.int a1), some (.int a2), some (.int a3), some (.int a4), some (.int a5), some (.null), none, none, none, none], [.null], aa_H g) v h := r
      dsimp only
      obtain ⟨n15, ln15, r⟩ := rn_steps 3 (39, [some (.ref 1), some (.int a1), some (.int a2), some (.int a3), some (.int a4), some (.int a5), some (.null), some (.null), none, none, none], [.int (-1)], aa_H g) rfl r
      exact rn_ire rfl r
    | some W13 =>
      rw [e12] at r
      have hw14 : ct_tw W13 := ho11 _ e12
      have r : rn_s _ 136 (12, [some (.ref 1), some (.int a1), some (.int a2), some (.int a3), some (.int a4), some (.int a5), some (.null), none, none, none, none], [.ref W13], aa_H g) v h := r
      dsimp only
      obtain ⟨n16, ln16, r⟩ := rn_steps 3 (39, [some (.ref 1), some (.int a1), some (.int a2), some (.int a3), some (.int a4), some (.int a5), some (.null), some (.ref W13), none, none, none], [.int (-1)], aa_H g) rfl r
      exact rn_ire rfl r
  | some W6 =>
    rw [e5] at r
    have hw7 : ct_tw W6 := ho4 _ e5
    have r : rn_s _ 136 (5, [some (.ref 1), some (.int a1), some (.int a2), some (.int a3), some (.int a4), some (.int a5), none, none, none, none, none], [.ref W6], aa_H g) v h := r
    dsimp only
    obtain ⟨n17, ln17, r⟩ := rn_steps 2 (9, [some (.ref 1), some (.int a1), some (.int a2), some (.int a3), some (.int a4), some (.int a5), some (.ref W6), none, none, none, none], [.int a1, .ref 1], aa_H g) rfl r
    obtain ⟨_, n18, v1, h1, -, ln18, rc, r⟩ := rn_call (m2 := 134) (as := [.ref 1, .int a1]) (rest := []) rfl rfl r
    obtain ⟨rfl, rfl, ho20⟩ := dn_134 rc
    have r : rn_s _ 136 (12, [some (.ref 1), some (.int a1), some (.int a2), some (.int a3), some (.int a4), some (.int a5), some (.ref W6), none, none, none, none], [zz_val (fn_134 g a1)], aa_H g) v h := r
    cases e21 : fn_134 g a1 with
    | none =>
      rw [e21] at r
      have r : rn_s _ 136 (12, [some (.ref 1), some (.int a1), some (.int a2), some (.int a3), some (.int a4), some (.int a5), some (.ref W6), none, none, none, none], [.null], aa_H g) v h := r
      dsimp only
      obtain ⟨n24, ln24, r⟩ := rn_steps 5 (39, [some (.ref 1), some (.int a1), some (.int a2), some (.int a3), some (.int a4), some (.int a5), some (.ref W6), some (.null), none, none, none], [.int (-1)], aa_H g) rfl r
      exact rn_ire rfl r
    | some W22 =>
      rw [e21] at r
      have hw23 : ct_tw W22 := ho20 _ e21
      have r : rn_s _ 136 (12, [some (.ref 1), some (.int a1), some (.int a2), some (.int a3), some (.int a4), some (.int a5), some (.ref W6), none, none, none, none], [.ref W22], aa_H g) v h := r
      dsimp only
      obtain ⟨n25, ln25, r⟩ := rn_steps 5 (25, [some (.ref 1), some (.int a1), some (.int a2), some (.int a3), some (.int a4), some (.int a5), some (.ref W6), some (.ref W22), none, none, none], [.int a2], aa_H g) rfl r
      obtain ⟨_, n26, v1, h1, -, ln26, rc, r⟩ := rn_call (m2 := 77) (as := [.int a2]) (rest := []) rfl rfl r
      obtain ⟨rfl, rfl⟩ := dn_77 rc
      have r : rn_s _ 136 (28, [some (.ref 1), some (.int a1), some (.int a2), some (.int a3), some (.int a4), some (.int a5), some (.ref W6), some (.ref W22), none, none, none], [.int (fn_77 a2)], aa_H g) v h := r
      refine rn_if (iw_s v h) rfl decide_eq_true_iff.symm r (fun c28 l29n l29 r => ?_) (fun c28 l29n l29 r => ?_)
      · obtain ⟨n30, ln30, r⟩ := rn_steps 0 (39, [some (.ref 1), some (.int a1), some (.int a2), some (.int a3), some (.int a4), some (.int a5), some (.ref W6), some (.ref W22), none, none, none], [.int (-1)], aa_H g) rfl r
        exact rn_ire rfl r
      · obtain ⟨n31, ln31, r⟩ := rn_steps 0 (32, [some (.ref 1), some (.int a1), some (.int a2), some (.int a3), some (.int a4), some (.int a5), some (.ref W6), some (.ref W22), none, none, none], [.int a3], aa_H g) rfl r
        obtain ⟨_, n32, v1, h1, -, ln32, rc, r⟩ := rn_call (m2 := 66) (as := [.int a3]) (rest := []) rfl rfl r
        obtain ⟨rfl, rfl⟩ := dn_66 rc
        have r : rn_s _ 136 (35, [some (.ref 1), some (.int a1), some (.int a2), some (.int a3), some (.int a4), some (.int a5), some (.ref W6), some (.ref W22), none, none, none], [.int (fn_66 a3)], aa_H g) v h := r
        refine rn_if (iw_s v h) rfl decide_eq_true_iff.symm r (fun c34 l35n l35 r => ?_) (fun c34 l35n l35 r => ?_)
        · obtain ⟨n36, ln36, r⟩ := rn_steps 2 (46, [some (.ref 1), some (.int a1), some (.int a2), some (.int a3), some (.int a4), some (.int a5), some (.ref W6), some (.ref W22), none, none, none], [.int 864000, .int 0, .int a4], aa_H g) rfl r
          obtain ⟨_, n37, v1, h1, -, ln37, rc, r⟩ := rn_call (m2 := 14) (as := [.int a4, .int 0, .int 864000]) (rest := []) rfl rfl r
          obtain ⟨rfl, rfl⟩ := dn_14 rc
          have r : rn_s _ 136 (49, [some (.ref 1), some (.int a1), some (.int a2), some (.int a3), some (.int a4), some (.int a5), some (.ref W6), some (.ref W22), none, none, none], [.int (fn_14 a4 0 864000)], aa_H g) v h := r
          refine rn_if (iw_s v h) rfl decide_eq_true_iff.symm r (fun c39 l40n l40 r => ?_) (fun c39 l40n l40 r => ?_)
          · obtain ⟨n41, ln41, r⟩ := rn_steps 0 (63, [some (.ref 1), some (.int a1), some (.int a2), some (.int a3), some (.int a4), some (.int a5), some (.ref W6), some (.ref W22), none, none, none], [.int (-1)], aa_H g) rfl r
            exact rn_ire rfl r
          · obtain ⟨n42, ln42, r⟩ := rn_steps 2 (56, [some (.ref 1), some (.int a1), some (.int a2), some (.int a3), some (.int a4), some (.int a5), some (.ref W6), some (.ref W22), none, none, none], [.int 3, .int 0, .int a5], aa_H g) rfl r
            obtain ⟨_, n43, v1, h1, -, ln43, rc, r⟩ := rn_call (m2 := 14) (as := [.int a5, .int 0, .int 3]) (rest := []) rfl rfl r
            obtain ⟨rfl, rfl⟩ := dn_14 rc
            have r : rn_s _ 136 (59, [some (.ref 1), some (.int a1), some (.int a2), some (.int a3), some (.int a4), some (.int a5), some (.ref W6), some (.ref W22), none, none, none], [.int (fn_14 a5 0 3)], aa_H g) v h := r
            refine rn_if (iw_s v h) rfl decide_eq_true_iff.symm r (fun c45 l46n l46 r => ?_) (fun c45 l46n l46 r => ?_)
            · obtain ⟨n47, ln47, r⟩ := rn_steps 4 (72, [some (.ref 1), some (.int a1), some (.int a2), some (.int a3), some (.int a4), some (.int a5), some (.ref W6), some (.ref W22), none, none, none], [.ref W22, .ref W6, .int (a3 + a4)], aa_H g) rfl r
              obtain ⟨_, n48, v1, h1, -, ln48, rc, r⟩ := rn_call (m2 := 94) (as := [.ref W6, .ref W22]) (rest := [.int (a3 + a4)]) rfl rfl r
              obtain ⟨rfl, rfl⟩ := dn_94 hw7 hw23 rc
              have r : rn_s _ 136 (75, [some (.ref 1), some (.int a1), some (.int a2), some (.int a3), some (.int a4), some (.int a5), some (.ref W6), some (.ref W22), none, none, none], [.int (fn_94 g W6 W22), .int (a3 + a4)], aa_H g) v h := r
              obtain ⟨n50, ln50, r⟩ := rn_steps 4 (83, [some (.ref 1), some (.int a1), some (.int a2), some (.int a3), some (.int a4), some (.int a5), some (.ref W6), some (.ref W22), some (.int ((a3 + a4) + (fn_94 g W6 W22))), none, none], [.int 86400, .int ((a3 + a4) + (fn_94 g W6 W22)), .int a2], aa_H g) rfl r
              obtain ⟨_, n51, v1, h1, -, ln51, rc, r⟩ := rn_call (m2 := 82) (as := [.int ((a3 + a4) + (fn_94 g W6 W22)), .int 86400]) (rest := [.int a2]) rfl rfl r
              obtain ⟨rfl, rfl⟩ := dn_82 rc
              have r : rn_s _ 136 (86, [some (.ref 1), some (.int a1), some (.int a2), some (.int a3), some (.int a4), some (.int a5), some (.ref W6), some (.ref W22), some (.int ((a3 + a4) + (fn_94 g W6 W22))), none, none], [.int (fn_82 ((a3 + a4) + (fn_94 g W6 W22)) 86400), .int a2], aa_H g) v h := r
              obtain ⟨n53, ln53, r⟩ := rn_steps 3 (93, [some (.ref 1), some (.int a1), some (.int a2), some (.int a3), some (.int a4), some (.int a5), some (.ref W6), some (.ref W22), some (.int ((a3 + a4) + (fn_94 g W6 W22))), some (.int (a2 + (fn_82 ((a3 + a4) + (fn_94 g W6 W22)) 86400))), none], [.int 86400, .int ((a3 + a4) + (fn_94 g W6 W22))], aa_H g) rfl r
              obtain ⟨_, n54, v1, h1, -, ln54, rc, r⟩ := rn_call (m2 := 81) (as := [.int ((a3 + a4) + (fn_94 g W6 W22)), .int 86400]) (rest := []) rfl rfl r
              obtain ⟨rfl, rfl⟩ := dn_81 rc
              have r : rn_s _ 136 (96, [some (.ref 1), some (.int a1), some (.int a2), some (.int a3), some (.int a4), some (.int a5), some (.ref W6), some (.ref W22), some (.int ((a3 + a4) + (fn_94 g W6 W22))), some (.int (a2 + (fn_82 ((a3 + a4) + (fn_94 g W6 W22)) 86400))), none], [.int (fn_81 ((a3 + a4) + (fn_94 g W6 W22)) 86400)], aa_H g) v h := r
              obtain ⟨n56, ln56, r⟩ := rn_steps 1 (100, [some (.ref 1), some (.int a1), some (.int a2), some (.int a3), some (.int a4), some (.int a5), some (.ref W6), some (.ref W22), some (.int ((a3 + a4) + (fn_94 g W6 W22))), some (.int (a2 + (fn_82 ((a3 + a4) + (fn_94 g W6 W22)) 86400))), some (.int (fn_81 ((a3 + a4) + (fn_94 g W6 W22)) 86400))], [.int (a2 + (fn_82 ((a3 + a4) + (fn_94 g W6 W22)) 86400))], aa_H g) rfl r
              obtain ⟨_, n57, v1, h1, -, ln57, rc, r⟩ := rn_call (m2 := 77) (as := [.int (a2 + (fn_82 ((a3 + a4) + (fn_94 g W6 W22)) 86400))]) (rest := []) rfl rfl r
              obtain ⟨rfl, rfl⟩ := dn_77 rc
              have r : rn_s _ 136 (103, [some (.ref 1), some (.int a1), some (.int a2), some (.int a3), some (.int a4), some (.int a5), some (.ref W6), some (.ref W22), some (.int ((a3 + a4) + (fn_94 g W6 W22))), some (.int (a2 + (fn_82 ((a3 + a4) + (fn_94 g W6 W22)) 86400))), some (.int (fn_81 ((a3 + a4) + (fn_94 g W6 W22)) 86400))], [.int (fn_77 (a2 + (fn_82 ((a3 + a4) + (fn_94 g W6 W22)) 86400)))], aa_H g) v h := r
              refine rn_if (iw_s v h) rfl decide_eq_true_iff.symm r (fun c59 l60n l60 r => ?_) (fun c59 l60n l60 r => ?_)
              · obtain ⟨n61, ln61, r⟩ := rn_steps 0 (111, [some (.ref 1), some (.int a1), some (.int a2), some (.int a3), some (.int a4), some (.int a5), some (.ref W6), some (.ref W22), some (.int ((a3 + a4) + (fn_94 g W6 W22))), some (.int (a2 + (fn_82 ((a3 + a4) + (fn_94 g W6 W22)) 86400))), some (.int (fn_81 ((a3 + a4) + (fn_94 g W6 W22)) 86400))], [.int a5], aa_H g) rfl r
                refine rn_if (iw_s v h) rfl decide_eq_true_iff.symm r (fun c62 l63n l63 r => ?_) (fun c62 l63n l63 r => ?_)
                · obtain ⟨n64, ln64, r⟩ := rn_steps 1 (120, [some (.ref 1), some (.int a1), some (.int a2), some (.int a3), some (.int a4), some (.int a5), some (.ref W6), some (.ref W22), some (.int ((a3 + a4) + (fn_94 g W6 W22))), some (.int (a2 + (fn_82 ((a3 + a4) + (fn_94 g W6 W22)) 86400))), some (.int (fn_81 ((a3 + a4) + (fn_94 g W6 W22)) 86400))], [.int 1, .int a5], aa_H g) rfl r
                  refine rn_ic (iw_s v h) rfl decide_eq_true_iff.symm r (fun c65 l66n l66 r => ?_) (fun c65 l66n l66 r => ?_)
                  · obtain ⟨n67, ln67, r⟩ := rn_steps 8 (138, [some (.ref 1), some (.int a1), some (.int a2), some (.int a3), some (.int a4), some (.int a5), some (.ref W6), some (.ref W22), some (.int ((a3 + a4) + (fn_94 g W6 W22))), some (.int (a2 + (fn_82 ((a3 + a4) + (fn_94 g W6 W22)) 86400))), some (.int (fn_81 ((a3 + a4) + (fn_94 g W6 W22)) 86400))], [.int (a5 - 1), .int (fn_81 ((a3 + a4) + (fn_94 g W6 W22)) 86400), .int (a2 + (fn_82 ((a3 + a4) + (fn_94 g W6 W22)) 86400)), .int (a1 - a1 / 4 * 4), .ref 1], aa_H g) rfl r
                    obtain ⟨_, n68, v1, h1, -, ln68, rc, r⟩ := rn_call (m2 := 85) (as := [.ref 1, .int (a1 - a1 / 4 * 4), .int (a2 + (fn_82 ((a3 + a4) + (fn_94 g W6 W22)) 86400)), .int (fn_81 ((a3 + a4) + (fn_94 g W6 W22)) 86400), .int (a5 - 1)]) (rest := []) rfl rfl r
                    obtain ⟨rfl, rfl⟩ := dn_85 rc
                    have r : rn_s _ 136 (141, [some (.ref 1), some (.int a1), some (.int a2), some (.int a3), some (.int a4), some (.int a5), some (.ref W6), some (.ref W22), some (.int ((a3 + a4) + (fn_94 g W6 W22))), some (.int (a2 + (fn_82 ((a3 + a4) + (fn_94 g W6 W22)) 86400))), some (.int (fn_81 ((a3 + a4) + (fn_94 g W6 W22)) 86400))], [.int ((fn_85 g (a1 - a1 / 4 * 4) (a2 + (fn_82 ((a3 + a4) + (fn_94 g W6 W22)) 86400)) (fn_81 ((a3 + a4) + (fn_94 g W6 W22)) 86400) (a5 - 1)).1)], aa_H ((fn_85 g (a1 - a1 / 4 * 4) (a2 + (fn_82 ((a3 + a4) + (fn_94 g W6 W22)) 86400)) (fn_81 ((a3 + a4) + (fn_94 g W6 W22)) 86400) (a5 - 1)).2)) v h := r
                    exact rn_ire rfl r
                  · obtain ⟨n70, ln70, r⟩ := rn_steps 0 (125, [some (.ref 1), some (.int a1), some (.int a2), some (.int a3), some (.int a4), some (.int a5), some (.ref W6), some (.ref W22), some (.int ((a3 + a4) + (fn_94 g W6 W22))), some (.int (a2 + (fn_82 ((a3 + a4) + (fn_94 g W6 W22)) 86400))), some (.int (fn_81 ((a3 + a4) + (fn_94 g W6 W22)) 86400))], [.int (fn_81 ((a3 + a4) + (fn_94 g W6 W22)) 86400)], aa_H g) rfl r
                    exact rn_ire rfl r
                · obtain ⟨n71, ln71, r⟩ := rn_steps 0 (116, [some (.ref 1), some (.int a1), some (.int a2), some (.int a3), some (.int a4), some (.int a5), some (.ref W6), some (.ref W22), some (.int ((a3 + a4) + (fn_94 g W6 W22))), some (.int (a2 + (fn_82 ((a3 + a4) + (fn_94 g W6 W22)) 86400))), some (.int (fn_81 ((a3 + a4) + (fn_94 g W6 W22)) 86400))], [.int (a2 + (fn_82 ((a3 + a4) + (fn_94 g W6 W22)) 86400))], aa_H g) rfl r
                  exact rn_ire rfl r
              · obtain ⟨n72, ln72, r⟩ := rn_steps 0 (108, [some (.ref 1), some (.int a1), some (.int a2), some (.int a3), some (.int a4), some (.int a5), some (.ref W6), some (.ref W22), some (.int ((a3 + a4) + (fn_94 g W6 W22))), some (.int (a2 + (fn_82 ((a3 + a4) + (fn_94 g W6 W22)) 86400))), some (.int (fn_81 ((a3 + a4) + (fn_94 g W6 W22)) 86400))], [.int (-2)], aa_H g) rfl r
                exact rn_ire rfl r
            · obtain ⟨n73, ln73, r⟩ := rn_steps 0 (63, [some (.ref 1), some (.int a1), some (.int a2), some (.int a3), some (.int a4), some (.int a5), some (.ref W6), some (.ref W22), none, none, none], [.int (-1)], aa_H g) rfl r
              exact rn_ire rfl r
        · obtain ⟨n74, ln74, r⟩ := rn_steps 0 (39, [some (.ref 1), some (.int a1), some (.int a2), some (.int a3), some (.int a4), some (.int a5), some (.ref W6), some (.ref W22), none, none, none], [.int (-1)], aa_H g) rfl r
          exact rn_ire rfl r
-- 137: UnequalHours shows
noncomputable def fn_137_116 (g : aa_G) (s0 : Int32) (s1 : Int32) (s2 : Int32) (s3 : Int32) : Int32 × aa_G := ((fn_85 g s3 s2 s1 s0).1, (fn_85 g s3 s2 s1 s0).2)
theorem dn_137_116 {v : Option Value} {h : zz_H} {n : Nat} {g : aa_G} {s0 : Int32} {s1 : Int32} {s2 : Int32} {s3 : Int32}  (x0 x1 x2 x3 x4 x5 x6 x7 x8 x9 x10 : Option Value) (jx0 : rn_jk x0) (jx1 : rn_jk x1) (jx2 : rn_jk x2) (jx3 : rn_jk x3) (jx4 : rn_jk x4) (jx5 : rn_jk x5) (jx6 : rn_jk x6) (jx7 : rn_jk x7) (jx8 : rn_jk x8) (jx9 : rn_jk x9) (jx10 : rn_jk x10) (r : rn_s n 137 (116, [x0, x1, x2, x3, x4, x5, x6, x7, x8, x9, x10], [.int s0, .int s1, .int s2, .int s3, .ref 1], aa_H g) v h) : iw_s v h (fn_137_116 g s0 s1 s2 s3) := by
  unfold fn_137_116
  obtain ⟨_, n58, v1, h1, -, ln58, rc, r⟩ := rn_call (m2 := 85) (as := [.ref 1, .int s3, .int s2, .int s1, .int s0]) (rest := []) rfl rfl r
  obtain ⟨rfl, rfl⟩ := dn_85 rc
  have r : rn_s _ 137 (119, [x0, x1, x2, x3, x4, x5, x6, x7, x8, x9, x10], [.int ((fn_85 g s3 s2 s1 s0).1)], aa_H ((fn_85 g s3 s2 s1 s0).2)) v h := r
  exact rn_ire rfl r
noncomputable def fn_137_47 (g : aa_G) (b1 : Int32) (b2 : Int32) (b5 : Int32) (B6 : Nat) (B7 : Nat) (s0 : Int32) : Int32 × aa_G := if 0 ≤ s0 then if (fn_77 (b2 + (fn_82 (s0 + (fn_94 g B6 B7)) 86400))) ≠ 0 then if b5 ≠ 2 then fn_137_116 g b5 (fn_81 (s0 + (fn_94 g B6 B7)) 86400) (b2 + (fn_82 (s0 + (fn_94 g B6 B7)) 86400)) (b1 - b1 / 4 * 4) else fn_137_116 g 4 (fn_81 (s0 + (fn_94 g B6 B7)) 86400) (b2 + (fn_82 (s0 + (fn_94 g B6 B7)) 86400)) (b1 - b1 / 4 * 4) else (-2, g) else (s0, g)
theorem dn_137_47 {v : Option Value} {h : zz_H} {n : Nat} {g : aa_G} {b1 : Int32} {b2 : Int32} {b5 : Int32} {B6 : Nat} {B7 : Nat} {s0 : Int32} (hB6 : ct_tw B6) (hB7 : ct_tw B7) (x3 x4 x8 x9 x10 : Option Value) (jx3 : rn_jk x3) (jx4 : rn_jk x4) (jx8 : rn_jk x8) (jx9 : rn_jk x9) (jx10 : rn_jk x10) (r : rn_s n 137 (47, [some (.ref 1), some (.int b1), some (.int b2), x3, x4, some (.int b5), some (.ref B6), some (.ref B7), x8, x9, x10], [.int s0], aa_H g) v h) : iw_s v h (fn_137_47 g b1 b2 b5 B6 B7 s0) := by
  unfold fn_137_47
  obtain ⟨n34, ln34, r⟩ := rn_steps 1 (51, [some (.ref 1), some (.int b1), some (.int b2), x3, x4, some (.int b5), some (.ref B6), some (.ref B7), some (.int s0), x9, x10], [.int s0], aa_H g) rfl r
  refine rn_if (iw_s v h) rfl decide_eq_true_iff.symm r (fun c35 l36n l36 r => ?_) (fun c35 l36n l36 r => ?_)
  · obtain ⟨n37, ln37, r⟩ := rn_steps 2 (63, [some (.ref 1), some (.int b1), some (.int b2), x3, x4, some (.int b5), some (.ref B6), some (.ref B7), some (.int s0), x9, x10], [.ref B7, .ref B6, .int s0], aa_H g) rfl r
    obtain ⟨_, n38, v1, h1, -, ln38, rc, r⟩ := rn_call (m2 := 94) (as := [.ref B6, .ref B7]) (rest := [.int s0]) rfl rfl r
    obtain ⟨rfl, rfl⟩ := dn_94 hB6 hB7 rc
    have r : rn_s _ 137 (66, [some (.ref 1), some (.int b1), some (.int b2), x3, x4, some (.int b5), some (.ref B6), some (.ref B7), some (.int s0), x9, x10], [.int (fn_94 g B6 B7), .int s0], aa_H g) v h := r
    obtain ⟨n40, ln40, r⟩ := rn_steps 4 (74, [some (.ref 1), some (.int b1), some (.int b2), x3, x4, some (.int b5), some (.ref B6), some (.ref B7), some (.int s0), some (.int (s0 + (fn_94 g B6 B7))), x10], [.int 86400, .int (s0 + (fn_94 g B6 B7)), .int b2], aa_H g) rfl r
    obtain ⟨_, n41, v1, h1, -, ln41, rc, r⟩ := rn_call (m2 := 82) (as := [.int (s0 + (fn_94 g B6 B7)), .int 86400]) (rest := [.int b2]) rfl rfl r
    obtain ⟨rfl, rfl⟩ := dn_82 rc
    have r : rn_s _ 137 (77, [some (.ref 1), some (.int b1), some (.int b2), x3, x4, some (.int b5), some (.ref B6), some (.ref B7), some (.int s0), some (.int (s0 + (fn_94 g B6 B7))), x10], [.int (fn_82 (s0 + (fn_94 g B6 B7)) 86400), .int b2], aa_H g) v h := r
    obtain ⟨n43, ln43, r⟩ := rn_steps 2 (82, [some (.ref 1), some (.int b1), some (.int b2), x3, x4, some (.int b5), some (.ref B6), some (.ref B7), some (.int s0), some (.int (s0 + (fn_94 g B6 B7))), some (.int (b2 + (fn_82 (s0 + (fn_94 g B6 B7)) 86400)))], [.int (b2 + (fn_82 (s0 + (fn_94 g B6 B7)) 86400))], aa_H g) rfl r
    obtain ⟨_, n44, v1, h1, -, ln44, rc, r⟩ := rn_call (m2 := 77) (as := [.int (b2 + (fn_82 (s0 + (fn_94 g B6 B7)) 86400))]) (rest := []) rfl rfl r
    obtain ⟨rfl, rfl⟩ := dn_77 rc
    have r : rn_s _ 137 (85, [some (.ref 1), some (.int b1), some (.int b2), x3, x4, some (.int b5), some (.ref B6), some (.ref B7), some (.int s0), some (.int (s0 + (fn_94 g B6 B7))), some (.int (b2 + (fn_82 (s0 + (fn_94 g B6 B7)) 86400)))], [.int (fn_77 (b2 + (fn_82 (s0 + (fn_94 g B6 B7)) 86400)))], aa_H g) v h := r
    refine rn_if (iw_s v h) rfl decide_eq_true_iff.symm r (fun c46 l47n l47 r => ?_) (fun c46 l47n l47 r => ?_)
    · obtain ⟨n48, ln48, r⟩ := rn_steps 6 (101, [some (.ref 1), some (.int b1), some (.int b2), x3, x4, some (.int b5), some (.ref B6), some (.ref B7), some (.int s0), some (.int (s0 + (fn_94 g B6 B7))), some (.int (b2 + (fn_82 (s0 + (fn_94 g B6 B7)) 86400)))], [.int 86400, .int (s0 + (fn_94 g B6 B7)), .int (b2 + (fn_82 (s0 + (fn_94 g B6 B7)) 86400)), .int (b1 - b1 / 4 * 4), .ref 1], aa_H g) rfl r
      obtain ⟨_, n49, v1, h1, -, ln49, rc, r⟩ := rn_call (m2 := 81) (as := [.int (s0 + (fn_94 g B6 B7)), .int 86400]) (rest := [.int (b2 + (fn_82 (s0 + (fn_94 g B6 B7)) 86400)), .int (b1 - b1 / 4 * 4), .ref 1]) rfl rfl r
      obtain ⟨rfl, rfl⟩ := dn_81 rc
      have r : rn_s _ 137 (104, [some (.ref 1), some (.int b1), some (.int b2), x3, x4, some (.int b5), some (.ref B6), some (.ref B7), some (.int s0), some (.int (s0 + (fn_94 g B6 B7))), some (.int (b2 + (fn_82 (s0 + (fn_94 g B6 B7)) 86400)))], [.int (fn_81 (s0 + (fn_94 g B6 B7)) 86400), .int (b2 + (fn_82 (s0 + (fn_94 g B6 B7)) 86400)), .int (b1 - b1 / 4 * 4), .ref 1], aa_H g) v h := r
      obtain ⟨n51, ln51, r⟩ := rn_steps 1 (107, [some (.ref 1), some (.int b1), some (.int b2), x3, x4, some (.int b5), some (.ref B6), some (.ref B7), some (.int s0), some (.int (s0 + (fn_94 g B6 B7))), some (.int (b2 + (fn_82 (s0 + (fn_94 g B6 B7)) 86400)))], [.int 2, .int b5, .int (fn_81 (s0 + (fn_94 g B6 B7)) 86400), .int (b2 + (fn_82 (s0 + (fn_94 g B6 B7)) 86400)), .int (b1 - b1 / 4 * 4), .ref 1], aa_H g) rfl r
      refine rn_ic (iw_s v h) rfl decide_eq_true_iff.symm r (fun c52 l53n l53 r => ?_) (fun c52 l53n l53 r => ?_)
      · obtain ⟨n54, ln54, r⟩ := rn_steps 0 (116, [some (.ref 1), some (.int b1), some (.int b2), x3, x4, some (.int b5), some (.ref B6), some (.ref B7), some (.int s0), some (.int (s0 + (fn_94 g B6 B7))), some (.int (b2 + (fn_82 (s0 + (fn_94 g B6 B7)) 86400)))], [.int b5, .int (fn_81 (s0 + (fn_94 g B6 B7)) 86400), .int (b2 + (fn_82 (s0 + (fn_94 g B6 B7)) 86400)), .int (b1 - b1 / 4 * 4), .ref 1], aa_H g) rfl r
        exact dn_137_116 (some (.ref 1)) (some (.int b1)) (some (.int b2)) x3 x4 (some (.int b5)) (some (.ref B6)) (some (.ref B7)) (some (.int s0)) (some (.int (s0 + (fn_94 g B6 B7)))) (some (.int (b2 + (fn_82 (s0 + (fn_94 g B6 B7)) 86400)))) rn_jr rn_ji rn_ji jx3 jx4 rn_ji rn_jr rn_jr rn_ji rn_ji rn_ji r
      · obtain ⟨n55, ln55, r⟩ := rn_steps 1 (116, [some (.ref 1), some (.int b1), some (.int b2), x3, x4, some (.int b5), some (.ref B6), some (.ref B7), some (.int s0), some (.int (s0 + (fn_94 g B6 B7))), some (.int (b2 + (fn_82 (s0 + (fn_94 g B6 B7)) 86400)))], [.int 4, .int (fn_81 (s0 + (fn_94 g B6 B7)) 86400), .int (b2 + (fn_82 (s0 + (fn_94 g B6 B7)) 86400)), .int (b1 - b1 / 4 * 4), .ref 1], aa_H g) rfl r
        exact dn_137_116 (some (.ref 1)) (some (.int b1)) (some (.int b2)) x3 x4 (some (.int b5)) (some (.ref B6)) (some (.ref B7)) (some (.int s0)) (some (.int (s0 + (fn_94 g B6 B7)))) (some (.int (b2 + (fn_82 (s0 + (fn_94 g B6 B7)) 86400)))) rn_jr rn_ji rn_ji jx3 jx4 rn_ji rn_jr rn_jr rn_ji rn_ji rn_ji r
    · obtain ⟨n56, ln56, r⟩ := rn_steps 0 (90, [some (.ref 1), some (.int b1), some (.int b2), x3, x4, some (.int b5), some (.ref B6), some (.ref B7), some (.int s0), some (.int (s0 + (fn_94 g B6 B7))), some (.int (b2 + (fn_82 (s0 + (fn_94 g B6 B7)) 86400)))], [.int (-2)], aa_H g) rfl r
      exact rn_ire rfl r
  · obtain ⟨n57, ln57, r⟩ := rn_steps 0 (56, [some (.ref 1), some (.int b1), some (.int b2), x3, x4, some (.int b5), some (.ref B6), some (.ref B7), some (.int s0), x9, x10], [.int s0], aa_H g) rfl r
    exact rn_ire rfl r
noncomputable def fn_137 (g : aa_G) (a1 : Int32) (a2 : Int32) (a3 : Int32) (a4 : Int32) (a5 : Int32) : Int32 × aa_G := (match fn_133 g a1 with | none => ((match fn_134 g a1 with | none => ((-1, g)) | some W13 => ((-1, g)))) | some W6 => ((match fn_134 g a1 with | none => ((-1, g)) | some W22 => (if (fn_14 a5 0 2) ≠ 0 then fn_137_47 ((fn_90 g (a1 / 4) a2 a3 a4).2) a1 a2 a5 W6 W22 ((fn_90 g (a1 / 4) a2 a3 a4).1) else (-1, g)))))
theorem dn_137 {v : Option Value} {h : zz_H} {n : Nat} {g : aa_G} {a1 : Int32} {a2 : Int32} {a3 : Int32} {a4 : Int32} {a5 : Int32}  (r : rn_s n 137 (0, zz_in [.ref 1, .int a1, .int a2, .int a3, .int a4, .int a5] (zz_nl 137), [], aa_H g) v h) : iw_s v h (fn_137 g a1 a2 a3 a4 a5) := by
  have r : rn_s n 137 (0, [some (.ref 1), some (.int a1), some (.int a2), some (.int a3), some (.int a4), some (.int a5), none, none, none, none, none], [], aa_H g) v h := r
  unfold fn_137
  obtain ⟨n1, ln1, r⟩ := rn_steps 1 (2, [some (.ref 1), some (.int a1), some (.int a2), some (.int a3), some (.int a4), some (.int a5), none, none, none, none, none], [.int a1, .ref 1], aa_H g) rfl r
  obtain ⟨_, n2, v1, h1, -, ln2, rc, r⟩ := rn_call (m2 := 133) (as := [.ref 1, .int a1]) (rest := []) rfl rfl r
  obtain ⟨rfl, rfl, ho4⟩ := dn_133 rc
  have r : rn_s _ 137 (5, [some (.ref 1), some (.int a1), some (.int a2), some (.int a3), some (.int a4), some (.int a5), none, none, none, none, none], [zz_val (fn_133 g a1)], aa_H g) v h := r
  cases e5 : fn_133 g a1 with
  | none =>
    rw [e5] at r
    have r : rn_s _ 137 (5, [some (.ref 1), some (.int a1), some (.int a2), some (.int a3), some (.int a4), some (.int a5), none, none, none, none, none], [.null], aa_H g) v h := r
    dsimp only
    obtain ⟨n8, ln8, r⟩ := rn_steps 2 (9, [some (.ref 1), some (.int a1), some (.int a2), some (.int a3), some (.int a4), some (.int a5), some (.null), none, none, none, none], [.int a1, .ref 1], aa_H g) rfl r
    obtain ⟨_, n9, v1, h1, -, ln9, rc, r⟩ := rn_call (m2 := 134) (as := [.ref 1, .int a1]) (rest := []) rfl rfl r
    obtain ⟨rfl, rfl, ho11⟩ := dn_134 rc
    have r : rn_s _ 137 (12, [some (.ref 1), some (.int a1), some (.int a2), some (.int a3), some (.int a4), some (.int a5), some (.null), none, none, none, none], [zz_val (fn_134 g a1)], aa_H g) v h := r
    cases e12 : fn_134 g a1 with
    | none =>
      rw [e12] at r
      have r : rn_s _ 137 (12, [some (.ref 1), some (.int a1), some (.int a2), some (.int a3), some (.int a4), some (.int a5), some (.null), none, none, none, none], [.null], aa_H g) v h := r
      dsimp only
      obtain ⟨n15, ln15, r⟩ := rn_steps 3 (35, [some (.ref 1), some (.int a1), some (.int a2), some (.int a3), some (.int a4), some (.int a5), some (.null), some (.null), none, none, none], [.int (-1)], aa_H g) rfl r
      exact rn_ire rfl r
    | some W13 =>
      rw [e12] at r
      have hw14 : ct_tw W13 := ho11 _ e12
      have r : rn_s _ 137 (12, [some (.ref 1), some (.int a1), some (.int a2), some (.int a3), some (.int a4), some (.int a5), some (.null), none, none, none, none], [.ref W13], aa_H g) v h := r
      dsimp only
      obtain ⟨n16, ln16, r⟩ := rn_steps 3 (35, [some (.ref 1), some (.int a1), some (.int a2), some (.int a3), some (.int a4), some (.int a5), some (.null), some (.ref W13), none, none, none], [.int (-1)], aa_H g) rfl r
      exact rn_ire rfl r
  | some W6 =>
    rw [e5] at r
    have hw7 : ct_tw W6 := ho4 _ e5
    have r : rn_s _ 137 (5, [some (.ref 1), some (.int a1), some (.int a2), some (.int a3), some (.int a4), some (.int a5), none, none, none, none, none], [.ref W6], aa_H g) v h := r
    dsimp only
    obtain ⟨n17, ln17, r⟩ := rn_steps 2 (9, [some (.ref 1), some (.int a1), some (.int a2), some (.int a3), some (.int a4), some (.int a5), some (.ref W6), none, none, none, none], [.int a1, .ref 1], aa_H g) rfl r
    obtain ⟨_, n18, v1, h1, -, ln18, rc, r⟩ := rn_call (m2 := 134) (as := [.ref 1, .int a1]) (rest := []) rfl rfl r
    obtain ⟨rfl, rfl, ho20⟩ := dn_134 rc
    have r : rn_s _ 137 (12, [some (.ref 1), some (.int a1), some (.int a2), some (.int a3), some (.int a4), some (.int a5), some (.ref W6), none, none, none, none], [zz_val (fn_134 g a1)], aa_H g) v h := r
    cases e21 : fn_134 g a1 with
    | none =>
      rw [e21] at r
      have r : rn_s _ 137 (12, [some (.ref 1), some (.int a1), some (.int a2), some (.int a3), some (.int a4), some (.int a5), some (.ref W6), none, none, none, none], [.null], aa_H g) v h := r
      dsimp only
      obtain ⟨n24, ln24, r⟩ := rn_steps 5 (35, [some (.ref 1), some (.int a1), some (.int a2), some (.int a3), some (.int a4), some (.int a5), some (.ref W6), some (.null), none, none, none], [.int (-1)], aa_H g) rfl r
      exact rn_ire rfl r
    | some W22 =>
      rw [e21] at r
      have hw23 : ct_tw W22 := ho20 _ e21
      have r : rn_s _ 137 (12, [some (.ref 1), some (.int a1), some (.int a2), some (.int a3), some (.int a4), some (.int a5), some (.ref W6), none, none, none, none], [.ref W22], aa_H g) v h := r
      dsimp only
      obtain ⟨n25, ln25, r⟩ := rn_steps 7 (28, [some (.ref 1), some (.int a1), some (.int a2), some (.int a3), some (.int a4), some (.int a5), some (.ref W6), some (.ref W22), none, none, none], [.int 2, .int 0, .int a5], aa_H g) rfl r
      obtain ⟨_, n26, v1, h1, -, ln26, rc, r⟩ := rn_call (m2 := 14) (as := [.int a5, .int 0, .int 2]) (rest := []) rfl rfl r
      obtain ⟨rfl, rfl⟩ := dn_14 rc
      have r : rn_s _ 137 (31, [some (.ref 1), some (.int a1), some (.int a2), some (.int a3), some (.int a4), some (.int a5), some (.ref W6), some (.ref W22), none, none, none], [.int (fn_14 a5 0 2)], aa_H g) v h := r
      refine rn_if (iw_s v h) rfl decide_eq_true_iff.symm r (fun c28 l29n l29 r => ?_) (fun c28 l29n l29 r => ?_)
      · obtain ⟨n30, ln30, r⟩ := rn_steps 6 (44, [some (.ref 1), some (.int a1), some (.int a2), some (.int a3), some (.int a4), some (.int a5), some (.ref W6), some (.ref W22), none, none, none], [.int a4, .int a3, .int a2, .int (a1 / 4), .ref 1], aa_H g) rfl r
        obtain ⟨_, n31, v1, h1, -, ln31, rc, r⟩ := rn_call (m2 := 90) (as := [.ref 1, .int (a1 / 4), .int a2, .int a3, .int a4]) (rest := []) rfl rfl r
        obtain ⟨rfl, rfl⟩ := dn_90 rc
        have r : rn_s _ 137 (47, [some (.ref 1), some (.int a1), some (.int a2), some (.int a3), some (.int a4), some (.int a5), some (.ref W6), some (.ref W22), none, none, none], [.int ((fn_90 g (a1 / 4) a2 a3 a4).1)], aa_H ((fn_90 g (a1 / 4) a2 a3 a4).2)) v h := r
        exact dn_137_47 hw7 hw23 (some (.int a3)) (some (.int a4)) none none none rn_ji rn_ji rn_jn rn_jn rn_jn r
      · obtain ⟨n33, ln33, r⟩ := rn_steps 0 (35, [some (.ref 1), some (.int a1), some (.int a2), some (.int a3), some (.int a4), some (.int a5), some (.ref W6), some (.ref W22), none, none, none], [.int (-1)], aa_H g) rfl r
        exact rn_ire rfl r
-- 140: UnequalHours lag
noncomputable def fn_140_51 (g : aa_G) (B5 : Nat) (B6 : Nat) (b7 : Int32) (s0 : Int32) : Int32 × aa_G := if b7 < 0 then (-1000000, g) else if 0 ≤ s0 then ((s0 - b7) - (fn_94 g B5 B6), g) else (-1000000, g)
theorem dn_140_51 {v : Option Value} {h : zz_H} {n : Nat} {g : aa_G} {B5 : Nat} {B6 : Nat} {b7 : Int32} {s0 : Int32} (hB5 : ct_tw B5) (hB6 : ct_tw B6) (x0 x1 x2 x3 x4 x8 : Option Value) (jx0 : rn_jk x0) (jx1 : rn_jk x1) (jx2 : rn_jk x2) (jx3 : rn_jk x3) (jx4 : rn_jk x4) (jx8 : rn_jk x8) (r : rn_s n 140 (51, [x0, x1, x2, x3, x4, some (.ref B5), some (.ref B6), some (.int b7), x8], [.int s0], aa_H g) v h) : iw_s v h (fn_140_51 g B5 B6 b7 s0) := by
  unfold fn_140_51
  obtain ⟨n31, ln31, r⟩ := rn_steps 1 (55, [x0, x1, x2, x3, x4, some (.ref B5), some (.ref B6), some (.int b7), some (.int s0)], [.int b7], aa_H g) rfl r
  refine rn_if (iw_s v h) rfl decide_eq_true_iff.symm r (fun c32 l33n l33 r => ?_) (fun c32 l33n l33 r => ?_)
  · obtain ⟨n34, ln34, r⟩ := rn_steps 1 (81, [x0, x1, x2, x3, x4, some (.ref B5), some (.ref B6), some (.int b7), some (.int s0)], [.int (-1000000)], aa_H g) rfl r
    exact rn_ire rfl r
  · obtain ⟨n35, ln35, r⟩ := rn_steps 0 (60, [x0, x1, x2, x3, x4, some (.ref B5), some (.ref B6), some (.int b7), some (.int s0)], [.int s0], aa_H g) rfl r
    refine rn_if (iw_s v h) rfl decide_eq_true_iff.symm r (fun c36 l37n l37 r => ?_) (fun c36 l37n l37 r => ?_)
    · obtain ⟨n38, ln38, r⟩ := rn_steps 4 (77, [x0, x1, x2, x3, x4, some (.ref B5), some (.ref B6), some (.int b7), some (.int s0)], [.ref B6, .ref B5, .int (s0 - b7)], aa_H g) rfl r
      obtain ⟨_, n39, v1, h1, -, ln39, rc, r⟩ := rn_call (m2 := 94) (as := [.ref B5, .ref B6]) (rest := [.int (s0 - b7)]) rfl rfl r
      obtain ⟨rfl, rfl⟩ := dn_94 hB5 hB6 rc
      have r : rn_s _ 140 (80, [x0, x1, x2, x3, x4, some (.ref B5), some (.ref B6), some (.int b7), some (.int s0)], [.int (fn_94 g B5 B6), .int (s0 - b7)], aa_H g) v h := r
      obtain ⟨n41, ln41, r⟩ := rn_steps 0 (81, [x0, x1, x2, x3, x4, some (.ref B5), some (.ref B6), some (.int b7), some (.int s0)], [.int ((s0 - b7) - (fn_94 g B5 B6))], aa_H g) rfl r
      exact rn_ire rfl r
    · obtain ⟨n42, ln42, r⟩ := rn_steps 1 (81, [x0, x1, x2, x3, x4, some (.ref B5), some (.ref B6), some (.int b7), some (.int s0)], [.int (-1000000)], aa_H g) rfl r
      exact rn_ire rfl r
noncomputable def fn_140_38 (g : aa_G) (b1 : Int32) (b2 : Int32) (b3 : Int32) (b4 : Int32) (B5 : Nat) (B6 : Nat) (s0 : Int32) : Int32 × aa_G := fn_140_51 ((fn_90 g (b1 - b1 / 4 * 4) b2 b3 b4).2) B5 B6 s0 ((fn_90 g (b1 - b1 / 4 * 4) b2 b3 b4).1)
theorem dn_140_38 {v : Option Value} {h : zz_H} {n : Nat} {g : aa_G} {b1 : Int32} {b2 : Int32} {b3 : Int32} {b4 : Int32} {B5 : Nat} {B6 : Nat} {s0 : Int32} (hB5 : ct_tw B5) (hB6 : ct_tw B6) (x7 x8 : Option Value) (jx7 : rn_jk x7) (jx8 : rn_jk x8) (r : rn_s n 140 (38, [some (.ref 1), some (.int b1), some (.int b2), some (.int b3), some (.int b4), some (.ref B5), some (.ref B6), x7, x8], [.int s0], aa_H g) v h) : iw_s v h (fn_140_38 g b1 b2 b3 b4 B5 B6 s0) := by
  unfold fn_140_38
  obtain ⟨n28, ln28, r⟩ := rn_steps 7 (48, [some (.ref 1), some (.int b1), some (.int b2), some (.int b3), some (.int b4), some (.ref B5), some (.ref B6), some (.int s0), x8], [.int b4, .int b3, .int b2, .int (b1 - b1 / 4 * 4), .ref 1], aa_H g) rfl r
  obtain ⟨_, n29, v1, h1, -, ln29, rc, r⟩ := rn_call (m2 := 90) (as := [.ref 1, .int (b1 - b1 / 4 * 4), .int b2, .int b3, .int b4]) (rest := []) rfl rfl r
  obtain ⟨rfl, rfl⟩ := dn_90 rc
  have r : rn_s _ 140 (51, [some (.ref 1), some (.int b1), some (.int b2), some (.int b3), some (.int b4), some (.ref B5), some (.ref B6), some (.int s0), x8], [.int ((fn_90 g (b1 - b1 / 4 * 4) b2 b3 b4).1)], aa_H ((fn_90 g (b1 - b1 / 4 * 4) b2 b3 b4).2)) v h := r
  exact dn_140_51 hB5 hB6 (some (.ref 1)) (some (.int b1)) (some (.int b2)) (some (.int b3)) (some (.int b4)) x8 rn_jr rn_ji rn_ji rn_ji rn_ji jx8 r
noncomputable def fn_140 (g : aa_G) (a1 : Int32) (a2 : Int32) (a3 : Int32) (a4 : Int32) : Int32 × aa_G := (match fn_133 g a1 with | none => ((match fn_134 g a1 with | none => ((-1000000, g)) | some W13 => ((-1000000, g)))) | some W6 => ((match fn_134 g a1 with | none => ((-1000000, g)) | some W22 => (fn_140_38 ((fn_90 g (a1 / 4) a2 a3 a4).2) a1 a2 a3 a4 W6 W22 ((fn_90 g (a1 / 4) a2 a3 a4).1)))))
theorem dn_140 {v : Option Value} {h : zz_H} {n : Nat} {g : aa_G} {a1 : Int32} {a2 : Int32} {a3 : Int32} {a4 : Int32}  (r : rn_s n 140 (0, zz_in [.ref 1, .int a1, .int a2, .int a3, .int a4] (zz_nl 140), [], aa_H g) v h) : iw_s v h (fn_140 g a1 a2 a3 a4) := by
  have r : rn_s n 140 (0, [some (.ref 1), some (.int a1), some (.int a2), some (.int a3), some (.int a4), none, none, none, none], [], aa_H g) v h := r
  unfold fn_140
  obtain ⟨n1, ln1, r⟩ := rn_steps 1 (2, [some (.ref 1), some (.int a1), some (.int a2), some (.int a3), some (.int a4), none, none, none, none], [.int a1, .ref 1], aa_H g) rfl r
  obtain ⟨_, n2, v1, h1, -, ln2, rc, r⟩ := rn_call (m2 := 133) (as := [.ref 1, .int a1]) (rest := []) rfl rfl r
  obtain ⟨rfl, rfl, ho4⟩ := dn_133 rc
  have r : rn_s _ 140 (5, [some (.ref 1), some (.int a1), some (.int a2), some (.int a3), some (.int a4), none, none, none, none], [zz_val (fn_133 g a1)], aa_H g) v h := r
  cases e5 : fn_133 g a1 with
  | none =>
    rw [e5] at r
    have r : rn_s _ 140 (5, [some (.ref 1), some (.int a1), some (.int a2), some (.int a3), some (.int a4), none, none, none, none], [.null], aa_H g) v h := r
    dsimp only
    obtain ⟨n8, ln8, r⟩ := rn_steps 2 (9, [some (.ref 1), some (.int a1), some (.int a2), some (.int a3), some (.int a4), some (.null), none, none, none], [.int a1, .ref 1], aa_H g) rfl r
    obtain ⟨_, n9, v1, h1, -, ln9, rc, r⟩ := rn_call (m2 := 134) (as := [.ref 1, .int a1]) (rest := []) rfl rfl r
    obtain ⟨rfl, rfl, ho11⟩ := dn_134 rc
    have r : rn_s _ 140 (12, [some (.ref 1), some (.int a1), some (.int a2), some (.int a3), some (.int a4), some (.null), none, none, none], [zz_val (fn_134 g a1)], aa_H g) v h := r
    cases e12 : fn_134 g a1 with
    | none =>
      rw [e12] at r
      have r : rn_s _ 140 (12, [some (.ref 1), some (.int a1), some (.int a2), some (.int a3), some (.int a4), some (.null), none, none, none], [.null], aa_H g) v h := r
      dsimp only
      obtain ⟨n15, ln15, r⟩ := rn_steps 3 (26, [some (.ref 1), some (.int a1), some (.int a2), some (.int a3), some (.int a4), some (.null), some (.null), none, none], [.int (-1000000)], aa_H g) rfl r
      exact rn_ire rfl r
    | some W13 =>
      rw [e12] at r
      have hw14 : ct_tw W13 := ho11 _ e12
      have r : rn_s _ 140 (12, [some (.ref 1), some (.int a1), some (.int a2), some (.int a3), some (.int a4), some (.null), none, none, none], [.ref W13], aa_H g) v h := r
      dsimp only
      obtain ⟨n16, ln16, r⟩ := rn_steps 3 (26, [some (.ref 1), some (.int a1), some (.int a2), some (.int a3), some (.int a4), some (.null), some (.ref W13), none, none], [.int (-1000000)], aa_H g) rfl r
      exact rn_ire rfl r
  | some W6 =>
    rw [e5] at r
    have hw7 : ct_tw W6 := ho4 _ e5
    have r : rn_s _ 140 (5, [some (.ref 1), some (.int a1), some (.int a2), some (.int a3), some (.int a4), none, none, none, none], [.ref W6], aa_H g) v h := r
    dsimp only
    obtain ⟨n17, ln17, r⟩ := rn_steps 2 (9, [some (.ref 1), some (.int a1), some (.int a2), some (.int a3), some (.int a4), some (.ref W6), none, none, none], [.int a1, .ref 1], aa_H g) rfl r
    obtain ⟨_, n18, v1, h1, -, ln18, rc, r⟩ := rn_call (m2 := 134) (as := [.ref 1, .int a1]) (rest := []) rfl rfl r
    obtain ⟨rfl, rfl, ho20⟩ := dn_134 rc
    have r : rn_s _ 140 (12, [some (.ref 1), some (.int a1), some (.int a2), some (.int a3), some (.int a4), some (.ref W6), none, none, none], [zz_val (fn_134 g a1)], aa_H g) v h := r
    cases e21 : fn_134 g a1 with
    | none =>
      rw [e21] at r
      have r : rn_s _ 140 (12, [some (.ref 1), some (.int a1), some (.int a2), some (.int a3), some (.int a4), some (.ref W6), none, none, none], [.null], aa_H g) v h := r
      dsimp only
      obtain ⟨n24, ln24, r⟩ := rn_steps 5 (26, [some (.ref 1), some (.int a1), some (.int a2), some (.int a3), some (.int a4), some (.ref W6), some (.null), none, none], [.int (-1000000)], aa_H g) rfl r
      exact rn_ire rfl r
    | some W22 =>
      rw [e21] at r
      have hw23 : ct_tw W22 := ho20 _ e21
      have r : rn_s _ 140 (12, [some (.ref 1), some (.int a1), some (.int a2), some (.int a3), some (.int a4), some (.ref W6), none, none, none], [.ref W22], aa_H g) v h := r
      dsimp only
      obtain ⟨n25, ln25, r⟩ := rn_steps 11 (35, [some (.ref 1), some (.int a1), some (.int a2), some (.int a3), some (.int a4), some (.ref W6), some (.ref W22), none, none], [.int a4, .int a3, .int a2, .int (a1 / 4), .ref 1], aa_H g) rfl r
      obtain ⟨_, n26, v1, h1, -, ln26, rc, r⟩ := rn_call (m2 := 90) (as := [.ref 1, .int (a1 / 4), .int a2, .int a3, .int a4]) (rest := []) rfl rfl r
      obtain ⟨rfl, rfl⟩ := dn_90 rc
      have r : rn_s _ 140 (38, [some (.ref 1), some (.int a1), some (.int a2), some (.int a3), some (.int a4), some (.ref W6), some (.ref W22), none, none], [.int ((fn_90 g (a1 / 4) a2 a3 a4).1)], aa_H ((fn_90 g (a1 / 4) a2 a3 a4).2)) v h := r
      exact dn_140_38 hw7 hw23 none none rn_jn rn_jn r
