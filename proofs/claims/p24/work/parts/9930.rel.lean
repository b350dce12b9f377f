section
/-! METHODS READ (printed by wip/dc/dc.py) -/
-- 236: UnequalHoursModel busiest
noncomputable def fn_236_82b (g : aa_G) (b1 : Int32) (b2 : Int32) (b3 : Int32) (b4 : Int32) (b5 : Int32) (b6 : Int32) : (aa_G × Int32) ⊕ ((aa_G × Int32) ⊕ (Int32 × aa_G)) := if (g 540 26) ≤ b6 then .inr (.inl (g, b5 + 1)) else .inl (zz_w g 550 (g 547 b6.toNatClampNeg).toNatClampNeg ((g 550 (g 547 b6.toNatClampNeg).toNatClampNeg) + 1), b6 + 1)
noncomputable def fn_236_82 (g : aa_G) (b1 : Int32) (b2 : Int32) (b3 : Int32) (b4 : Int32) (b5 : Int32) (b6 : Int32) : (aa_G × Int32) ⊕ (Int32 × aa_G) := lp_f (.inr (0, g)) (fun z : (aa_G × Int32) => fn_236_82b z.1 b1 b2 b3 b4 b5 z.2) (g, b6)
theorem dn_236_82l {v : Option Value} {h : zz_H} {N : Nat} {b1 : Int32} {b2 : Int32} {b3 : Int32} {b4 : Int32} {b5 : Int32} (P : (aa_G × Int32) ⊕ (Int32 × aa_G) → Prop) (hO0 : ∀ n2, n2 < N → ∀ (yg : aa_G) (yb5 : Int32) (yx6 : Option Value) (_ : rn_jk yx6), rn_s n2 236 (64, [some (.ref 540), some (.int b1), some (.int b2), some (.int b3), some (.int b4), some (.int yb5), yx6], [], aa_H yg) v h → P (.inl (yg, yb5))) (hR : ∀ E, iw_s v h E → P (.inr E)) {d : (aa_G × Int32) ⊕ (Int32 × aa_G)} : ∀ (n : Nat), n ≤ N → ∀ (g : aa_G) (b6 : Int32), rn_s n 236 (82, [some (.ref 540), some (.int b1), some (.int b2), some (.int b3), some (.int b4), some (.int b5), some (.int b6)], [], aa_H g) v h → P (lp_f d (fun z : (aa_G × Int32) => fn_236_82b z.1 b1 b2 b3 b4 b5 z.2) (g, b6)) := by
  generalize hf : (fun z : (aa_G × Int32) => fn_236_82b z.1 b1 b2 b3 b4 b5 z.2) = f
  intro n
  induction n using Nat.strongRecOn with
  | _ n ih =>
    intro hN g b6  r
    refine lp_go ?_
    rw [← congrFun hf (g, b6)]
    show lp_q P d f (fn_236_82b g b1 b2 b3 b4 b5 b6)
    unfold fn_236_82b
    obtain ⟨n70, ln70, r⟩ := rn_steps 2 (88, [some (.ref 540), some (.int b1), some (.int b2), some (.int b3), some (.int b4), some (.int b5), some (.int b6)], [.int (g 540 26), .int b6], aa_H g) rfl r
    refine rn_ic (lp_q P d f) rfl decide_eq_true_iff.symm r (fun c71 l72n l72 r => ?_) (fun c71 l72n l72 r => ?_)
    · obtain ⟨n73, ln73, r⟩ := rn_steps 1 (64, [some (.ref 540), some (.int b1), some (.int b2), some (.int b3), some (.int b4), some (.int (b5 + 1)), some (.int b6)], [], aa_H g) rfl r
      exact hO0 _ (by omega) g (b5 + 1) (some (.int b6)) rn_ji r
    · obtain ⟨n74, ln74, r⟩ := rn_steps 4 (101, [some (.ref 540), some (.int b1), some (.int b2), some (.int b3), some (.int b4), some (.int b5), some (.int b6)], [.int b6, .ref 547, .ref 550], aa_H g) rfl r
      obtain ⟨hb76, n75, ln75, r⟩ := rn_ial (k := 547) rfl ⟨by decide, by decide⟩ rfl r
      have r : rn_s _ 236 (102, [some (.ref 540), some (.int b1), some (.int b2), some (.int b3), some (.int b4), some (.int b5), some (.int b6)], [.int (g 547 b6.toNatClampNeg), .ref 550], aa_H g) v h := r
      obtain ⟨n77, ln77, r⟩ := rn_steps 0 (103, [some (.ref 540), some (.int b1), some (.int b2), some (.int b3), some (.int b4), some (.int b5), some (.int b6)], [.int (g 547 b6.toNatClampNeg), .ref 550, .int (g 547 b6.toNatClampNeg), .ref 550], aa_H g) rfl r
      obtain ⟨hb79, n78, ln78, r⟩ := rn_ial (k := 550) rfl ⟨by decide, by decide⟩ rfl r
      have r : rn_s _ 236 (104, [some (.ref 540), some (.int b1), some (.int b2), some (.int b3), some (.int b4), some (.int b5), some (.int b6)], [.int (g 550 (g 547 b6.toNatClampNeg).toNatClampNeg), .int (g 547 b6.toNatClampNeg), .ref 550], aa_H g) v h := r
      obtain ⟨n80, ln80, r⟩ := rn_steps 1 (106, [some (.ref 540), some (.int b1), some (.int b2), some (.int b3), some (.int b4), some (.int b5), some (.int b6)], [.int ((g 550 (g 547 b6.toNatClampNeg).toNatClampNeg) + 1), .int (g 547 b6.toNatClampNeg), .ref 550], aa_H g) rfl r
      obtain ⟨hb82, n81, ln81, r⟩ := rn_ias (k := 550) rfl ⟨by decide, by decide⟩ rfl r
      have r : rn_s _ 236 (107, [some (.ref 540), some (.int b1), some (.int b2), some (.int b3), some (.int b4), some (.int b5), some (.int b6)], [], aa_H (zz_w g 550 (g 547 b6.toNatClampNeg).toNatClampNeg ((g 550 (g 547 b6.toNatClampNeg).toNatClampNeg) + 1))) v h := r
      obtain ⟨n83, ln83, r⟩ := rn_steps 1 (82, [some (.ref 540), some (.int b1), some (.int b2), some (.int b3), some (.int b4), some (.int b5), some (.int (b6 + 1))], [], aa_H (zz_w g 550 (g 547 b6.toNatClampNeg).toNatClampNeg ((g 550 (g 547 b6.toNatClampNeg).toNatClampNeg) + 1))) rfl r
      exact ih _ (by omega) (by omega) (zz_w g 550 (g 547 b6.toNatClampNeg).toNatClampNeg ((g 550 (g 547 b6.toNatClampNeg).toNatClampNeg) + 1)) (b6 + 1) r
theorem dn_236_82 {v : Option Value} {h : zz_H} {n : Nat} {g : aa_G} {b1 : Int32} {b2 : Int32} {b3 : Int32} {b4 : Int32} {b5 : Int32} {b6 : Int32} (P : (aa_G × Int32) ⊕ (Int32 × aa_G) → Prop) (hO0 : ∀ n2, n2 < n → ∀ (yg : aa_G) (yb5 : Int32) (yx6 : Option Value) (_ : rn_jk yx6), rn_s n2 236 (64, [some (.ref 540), some (.int b1), some (.int b2), some (.int b3), some (.int b4), some (.int yb5), yx6], [], aa_H yg) v h → P (.inl (yg, yb5))) (hR : ∀ E, iw_s v h E → P (.inr E))  (r : rn_s n 236 (82, [some (.ref 540), some (.int b1), some (.int b2), some (.int b3), some (.int b4), some (.int b5), some (.int b6)], [], aa_H g) v h) : P (fn_236_82 g b1 b2 b3 b4 b5 b6) := dn_236_82l P hO0 hR n (Nat.le_refl n) g b6 r
noncomputable def fn_236_79 (g : aa_G) (b1 : Int32) (b2 : Int32) (b3 : Int32) (b4 : Int32) (b5 : Int32) : (aa_G × Int32) ⊕ (Int32 × aa_G) := fn_236_82 g b1 b2 b3 b4 b5 0
theorem dn_236_79 {v : Option Value} {h : zz_H} {n : Nat} {g : aa_G} {b1 : Int32} {b2 : Int32} {b3 : Int32} {b4 : Int32} {b5 : Int32} (P : (aa_G × Int32) ⊕ (Int32 × aa_G) → Prop) (hO0 : ∀ n2, n2 < n → ∀ (yg : aa_G) (yb5 : Int32) (yx6 : Option Value) (_ : rn_jk yx6), rn_s n2 236 (64, [some (.ref 540), some (.int b1), some (.int b2), some (.int b3), some (.int b4), some (.int yb5), yx6], [], aa_H yg) v h → P (.inl (yg, yb5))) (hR : ∀ E, iw_s v h E → P (.inr E))  (x6 : Option Value) (jx6 : rn_jk x6) (r : rn_s n 236 (79, [some (.ref 540), some (.int b1), some (.int b2), some (.int b3), some (.int b4), some (.int b5), x6], [], aa_H g) v h) : P (fn_236_79 g b1 b2 b3 b4 b5) := by
  unfold fn_236_79
  obtain ⟨n68, ln68, r⟩ := rn_steps 1 (82, [some (.ref 540), some (.int b1), some (.int b2), some (.int b3), some (.int b4), some (.int b5), some (.int 0)], [], aa_H g) rfl r
  exact dn_236_82 (P) (fun n2 l2 => hO0 n2 (by omega)) (fun z hz => hR _ hz) r
noncomputable def fn_236_156 (g : aa_G) (b4 : Int32) (b6 : Int32) (s0 : Int32) : (Int32 × Int32) ⊕ (Int32 × aa_G) := .inl (s0, b6 + 1)
theorem dn_236_156 {v : Option Value} {h : zz_H} {n : Nat} {g : aa_G} {b4 : Int32} {b6 : Int32} {s0 : Int32} (P : (Int32 × Int32) ⊕ (Int32 × aa_G) → Prop) (hO0 : ∀ n2, n2 < n → ∀ (yb5 : Int32) (yb6 : Int32) (yx1 yx2 yx3 : Option Value) (_ : rn_jk yx1) (_ : rn_jk yx2) (_ : rn_jk yx3), rn_s n2 236 (125, [some (.ref 540), yx1, yx2, yx3, some (.int b4), some (.int yb5), some (.int yb6)], [], aa_H g) v h → P (.inl (yb5, yb6))) (hR : ∀ E, iw_s v h E → P (.inr E))  (x1 x2 x3 x5 : Option Value) (jx1 : rn_jk x1) (jx2 : rn_jk x2) (jx3 : rn_jk x3) (jx5 : rn_jk x5) (r : rn_s n 236 (156, [some (.ref 540), x1, x2, x3, some (.int b4), x5, some (.int b6)], [.int s0], aa_H g) v h) : P (fn_236_156 g b4 b6 s0) := by
  unfold fn_236_156
  obtain ⟨n69, ln69, r⟩ := rn_steps 2 (125, [some (.ref 540), x1, x2, x3, some (.int b4), some (.int s0), some (.int (b6 + 1))], [], aa_H g) rfl r
  exact hO0 _ (by omega) s0 (b6 + 1) x1 x2 x3 jx1 jx2 jx3 r
noncomputable def fn_236_125b (g : aa_G) (b4 : Int32) (b5 : Int32) (b6 : Int32) : (Int32 × Int32) ⊕ (Int32 × aa_G) := if 8 ≤ b6 then if b4 ≠ 1 then if (g 550 b5.toNatClampNeg) ≠ 0 then .inr (b5, g) else .inr (-1, g) else .inr (g 550 b5.toNatClampNeg, g) else if (g 550 b6.toNatClampNeg) ≤ (g 550 b5.toNatClampNeg) then fn_236_156 g b4 b6 b5 else fn_236_156 g b4 b6 b6
noncomputable def fn_236_125 (g : aa_G) (b4 : Int32) (b5 : Int32) (b6 : Int32) : Int32 × aa_G := lp_f (0, g) (fun z : (Int32 × Int32) => fn_236_125b g b4 z.1 z.2) (b5, b6)
theorem dn_236_125l {v : Option Value} {h : zz_H} {N : Nat} {g : aa_G} {b4 : Int32} {d : Int32 × aa_G} : ∀ (n : Nat), n ≤ N → ∀ (b5 : Int32) (b6 : Int32) (x1 x2 x3 : Option Value) (jx1 : rn_jk x1) (jx2 : rn_jk x2) (jx3 : rn_jk x3), rn_s n 236 (125, [some (.ref 540), x1, x2, x3, some (.int b4), some (.int b5), some (.int b6)], [], aa_H g) v h → (iw_s v h) (lp_f d (fun z : (Int32 × Int32) => fn_236_125b g b4 z.1 z.2) (b5, b6)) := by
  generalize hf : (fun z : (Int32 × Int32) => fn_236_125b g b4 z.1 z.2) = f
  intro n
  induction n using Nat.strongRecOn with
  | _ n ih =>
    intro hN b5 b6 x1 x2 x3 jx1 jx2 jx3 r
    refine lp_go ?_
    rw [← congrFun hf (b5, b6)]
    show lp_q (iw_s v h) d f (fn_236_125b g b4 b5 b6)
    unfold fn_236_125b
    obtain ⟨n41, ln41, r⟩ := rn_steps 1 (129, [some (.ref 540), x1, x2, x3, some (.int b4), some (.int b5), some (.int b6)], [.int 8, .int b6], aa_H g) rfl r
    refine rn_ic (lp_q (iw_s v h) d f) rfl decide_eq_true_iff.symm r (fun c42 l43n l43 r => ?_) (fun c42 l43n l43 r => ?_)
    · obtain ⟨n44, ln44, r⟩ := rn_steps 1 (167, [some (.ref 540), x1, x2, x3, some (.int b4), some (.int b5), some (.int b6)], [.int 1, .int b4], aa_H g) rfl r
      refine rn_ic (lp_q (iw_s v h) d f) rfl decide_eq_true_iff.symm r (fun c45 l46n l46 r => ?_) (fun c45 l46n l46 r => ?_)
      · obtain ⟨n47, ln47, r⟩ := rn_steps 2 (186, [some (.ref 540), x1, x2, x3, some (.int b4), some (.int b5), some (.int b6)], [.int b5, .ref 550], aa_H g) rfl r
        obtain ⟨hb49, n48, ln48, r⟩ := rn_ial (k := 550) rfl ⟨by decide, by decide⟩ rfl r
        have r : rn_s _ 236 (187, [some (.ref 540), x1, x2, x3, some (.int b4), some (.int b5), some (.int b6)], [.int (g 550 b5.toNatClampNeg)], aa_H g) v h := r
        refine rn_if (lp_q (iw_s v h) d f) rfl decide_eq_true_iff.symm r (fun c50 l51n l51 r => ?_) (fun c50 l51n l51 r => ?_)
        · obtain ⟨n52, ln52, r⟩ := rn_steps 0 (196, [some (.ref 540), x1, x2, x3, some (.int b4), some (.int b5), some (.int b6)], [.int b5], aa_H g) rfl r
          exact rn_ire rfl r
        · obtain ⟨n53, ln53, r⟩ := rn_steps 1 (196, [some (.ref 540), x1, x2, x3, some (.int b4), some (.int b5), some (.int b6)], [.int (-1)], aa_H g) rfl r
          exact rn_ire rfl r
      · obtain ⟨n54, ln54, r⟩ := rn_steps 2 (176, [some (.ref 540), x1, x2, x3, some (.int b4), some (.int b5), some (.int b6)], [.int b5, .ref 550], aa_H g) rfl r
        obtain ⟨hb56, n55, ln55, r⟩ := rn_ial (k := 550) rfl ⟨by decide, by decide⟩ rfl r
        have r : rn_s _ 236 (177, [some (.ref 540), x1, x2, x3, some (.int b4), some (.int b5), some (.int b6)], [.int (g 550 b5.toNatClampNeg)], aa_H g) v h := r
        obtain ⟨n57, ln57, r⟩ := rn_steps 0 (196, [some (.ref 540), x1, x2, x3, some (.int b4), some (.int b5), some (.int b6)], [.int (g 550 b5.toNatClampNeg)], aa_H g) rfl r
        exact rn_ire rfl r
    · obtain ⟨n58, ln58, r⟩ := rn_steps 2 (138, [some (.ref 540), x1, x2, x3, some (.int b4), some (.int b5), some (.int b6)], [.int b6, .ref 550], aa_H g) rfl r
      obtain ⟨hb60, n59, ln59, r⟩ := rn_ial (k := 550) rfl ⟨by decide, by decide⟩ rfl r
      have r : rn_s _ 236 (139, [some (.ref 540), x1, x2, x3, some (.int b4), some (.int b5), some (.int b6)], [.int (g 550 b6.toNatClampNeg)], aa_H g) v h := r
      obtain ⟨n61, ln61, r⟩ := rn_steps 2 (145, [some (.ref 540), x1, x2, x3, some (.int b4), some (.int b5), some (.int b6)], [.int b5, .ref 550, .int (g 550 b6.toNatClampNeg)], aa_H g) rfl r
      obtain ⟨hb63, n62, ln62, r⟩ := rn_ial (k := 550) rfl ⟨by decide, by decide⟩ rfl r
      have r : rn_s _ 236 (146, [some (.ref 540), x1, x2, x3, some (.int b4), some (.int b5), some (.int b6)], [.int (g 550 b5.toNatClampNeg), .int (g 550 b6.toNatClampNeg)], aa_H g) v h := r
      refine rn_ic (lp_q (iw_s v h) d f) rfl decide_eq_true_iff.symm r (fun c64 l65n l65 r => ?_) (fun c64 l65n l65 r => ?_)
      · obtain ⟨n66, ln66, r⟩ := rn_steps 0 (156, [some (.ref 540), x1, x2, x3, some (.int b4), some (.int b5), some (.int b6)], [.int b5], aa_H g) rfl r
        exact dn_236_156 (lp_q (iw_s v h) d f) (fun n2 l2 => ih n2 (by omega) (by omega)) (fun z hz => hz) x1 x2 x3 (some (.int b5)) jx1 jx2 jx3 rn_ji r
      · obtain ⟨n67, ln67, r⟩ := rn_steps 1 (156, [some (.ref 540), x1, x2, x3, some (.int b4), some (.int b5), some (.int b6)], [.int b6], aa_H g) rfl r
        exact dn_236_156 (lp_q (iw_s v h) d f) (fun n2 l2 => ih n2 (by omega) (by omega)) (fun z hz => hz) x1 x2 x3 (some (.int b5)) jx1 jx2 jx3 rn_ji r
theorem dn_236_125 {v : Option Value} {h : zz_H} {n : Nat} {g : aa_G} {b4 : Int32} {b5 : Int32} {b6 : Int32}  (x1 x2 x3 : Option Value) (jx1 : rn_jk x1) (jx2 : rn_jk x2) (jx3 : rn_jk x3) (r : rn_s n 236 (125, [some (.ref 540), x1, x2, x3, some (.int b4), some (.int b5), some (.int b6)], [], aa_H g) v h) : (iw_s v h) (fn_236_125 g b4 b5 b6) := dn_236_125l  n (Nat.le_refl n) b5 b6 x1 x2 x3 jx1 jx2 jx3 r
noncomputable def fn_236_64b (g : aa_G) (b1 : Int32) (b2 : Int32) (b3 : Int32) (b4 : Int32) (b5 : Int32) : (aa_G × Int32) ⊕ (Int32 × aa_G) := if (b2 + b3) ≤ b5 then .inr (fn_236_125 g b4 0 1) else fn_236_79 (fn_212 g b1 b5) b1 b2 b3 b4 b5
noncomputable def fn_236_64 (g : aa_G) (b1 : Int32) (b2 : Int32) (b3 : Int32) (b4 : Int32) (b5 : Int32) : Int32 × aa_G := lp_f (0, g) (fun z : (aa_G × Int32) => fn_236_64b z.1 b1 b2 b3 b4 z.2) (g, b5)
theorem dn_236_64l {v : Option Value} {h : zz_H} {N : Nat} {b1 : Int32} {b2 : Int32} {b3 : Int32} {b4 : Int32} {d : Int32 × aa_G} : ∀ (n : Nat), n ≤ N → ∀ (g : aa_G) (b5 : Int32) (x6 : Option Value) (jx6 : rn_jk x6), rn_s n 236 (64, [some (.ref 540), some (.int b1), some (.int b2), some (.int b3), some (.int b4), some (.int b5), x6], [], aa_H g) v h → (iw_s v h) (lp_f d (fun z : (aa_G × Int32) => fn_236_64b z.1 b1 b2 b3 b4 z.2) (g, b5)) := by
  generalize hf : (fun z : (aa_G × Int32) => fn_236_64b z.1 b1 b2 b3 b4 z.2) = f
  intro n
  induction n using Nat.strongRecOn with
  | _ n ih =>
    intro hN g b5 x6 jx6 r
    refine lp_go ?_
    rw [← congrFun hf (g, b5)]
    show lp_q (iw_s v h) d f (fn_236_64b g b1 b2 b3 b4 b5)
    unfold fn_236_64b
    obtain ⟨n34, ln34, r⟩ := rn_steps 3 (69, [some (.ref 540), some (.int b1), some (.int b2), some (.int b3), some (.int b4), some (.int b5), x6], [.int (b2 + b3), .int b5], aa_H g) rfl r
    refine rn_ic (lp_q (iw_s v h) d f) rfl decide_eq_true_iff.symm r (fun c35 l36n l36 r => ?_) (fun c35 l36n l36 r => ?_)
    · obtain ⟨n37, ln37, r⟩ := rn_steps 3 (125, [some (.ref 540), some (.int b1), some (.int b2), some (.int b3), some (.int b4), some (.int 0), some (.int 1)], [], aa_H g) rfl r
      exact dn_236_125 (some (.int b1)) (some (.int b2)) (some (.int b3)) rn_ji rn_ji rn_ji r
    · obtain ⟨n38, ln38, r⟩ := rn_steps 2 (76, [some (.ref 540), some (.int b1), some (.int b2), some (.int b3), some (.int b4), some (.int b5), x6], [.int b5, .int b1, .ref 540], aa_H g) rfl r
      obtain ⟨_, n39, v1, h1, -, ln39, rc, r⟩ := rn_call (m2 := 212) (as := [.ref 540, .int b1, .int b5]) (rest := []) rfl rfl r
      obtain ⟨rfl, rfl⟩ := dn_212 rc
      have r : rn_s _ 236 (79, [some (.ref 540), some (.int b1), some (.int b2), some (.int b3), some (.int b4), some (.int b5), x6], [], aa_H (fn_212 g b1 b5)) v h := r
      exact dn_236_79 (lp_q (iw_s v h) d f) (fun n2 l2 => ih n2 (by omega) (by omega)) (fun z hz => hz) x6 jx6 r
theorem dn_236_64 {v : Option Value} {h : zz_H} {n : Nat} {g : aa_G} {b1 : Int32} {b2 : Int32} {b3 : Int32} {b4 : Int32} {b5 : Int32}  (x6 : Option Value) (jx6 : rn_jk x6) (r : rn_s n 236 (64, [some (.ref 540), some (.int b1), some (.int b2), some (.int b3), some (.int b4), some (.int b5), x6], [], aa_H g) v h) : (iw_s v h) (fn_236_64 g b1 b2 b3 b4 b5) := dn_236_64l  n (Nat.le_refl n) g b5 x6 jx6 r
noncomputable def fn_236_40b (g : aa_G) (b1 : Int32) (b2 : Int32) (b3 : Int32) (b4 : Int32) (b5 : Int32) : (aa_G × Int32) ⊕ (Int32 × aa_G) := if 8 ≤ b5 then .inr (fn_236_64 g b1 b2 b3 b4 b2) else .inl (zz_w g 550 b5.toNatClampNeg 0, b5 + 1)
noncomputable def fn_236_40 (g : aa_G) (b1 : Int32) (b2 : Int32) (b3 : Int32) (b4 : Int32) (b5 : Int32) : Int32 × aa_G := lp_f (0, g) (fun z : (aa_G × Int32) => fn_236_40b z.1 b1 b2 b3 b4 z.2) (g, b5)
theorem dn_236_40l {v : Option Value} {h : zz_H} {N : Nat} {b1 : Int32} {b2 : Int32} {b3 : Int32} {b4 : Int32} {d : Int32 × aa_G} : ∀ (n : Nat), n ≤ N → ∀ (g : aa_G) (b5 : Int32) (x6 : Option Value) (jx6 : rn_jk x6), rn_s n 236 (40, [some (.ref 540), some (.int b1), some (.int b2), some (.int b3), some (.int b4), some (.int b5), x6], [], aa_H g) v h → (iw_s v h) (lp_f d (fun z : (aa_G × Int32) => fn_236_40b z.1 b1 b2 b3 b4 z.2) (g, b5)) := by
  generalize hf : (fun z : (aa_G × Int32) => fn_236_40b z.1 b1 b2 b3 b4 z.2) = f
  intro n
  induction n using Nat.strongRecOn with
  | _ n ih =>
    intro hN g b5 x6 jx6 r
    refine lp_go ?_
    rw [← congrFun hf (g, b5)]
    show lp_q (iw_s v h) d f (fn_236_40b g b1 b2 b3 b4 b5)
    unfold fn_236_40b
    obtain ⟨n26, ln26, r⟩ := rn_steps 1 (44, [some (.ref 540), some (.int b1), some (.int b2), some (.int b3), some (.int b4), some (.int b5), x6], [.int 8, .int b5], aa_H g) rfl r
    refine rn_ic (lp_q (iw_s v h) d f) rfl decide_eq_true_iff.symm r (fun c27 l28n l28 r => ?_) (fun c27 l28n l28 r => ?_)
    · obtain ⟨n29, ln29, r⟩ := rn_steps 1 (64, [some (.ref 540), some (.int b1), some (.int b2), some (.int b3), some (.int b4), some (.int b2), x6], [], aa_H g) rfl r
      exact dn_236_64 x6 jx6 r
    · obtain ⟨n30, ln30, r⟩ := rn_steps 3 (54, [some (.ref 540), some (.int b1), some (.int b2), some (.int b3), some (.int b4), some (.int b5), x6], [.int 0, .int b5, .ref 550], aa_H g) rfl r
      obtain ⟨hb32, n31, ln31, r⟩ := rn_ias (k := 550) rfl ⟨by decide, by decide⟩ rfl r
      have r : rn_s _ 236 (55, [some (.ref 540), some (.int b1), some (.int b2), some (.int b3), some (.int b4), some (.int b5), x6], [], aa_H (zz_w g 550 b5.toNatClampNeg 0)) v h := r
      obtain ⟨n33, ln33, r⟩ := rn_steps 1 (40, [some (.ref 540), some (.int b1), some (.int b2), some (.int b3), some (.int b4), some (.int (b5 + 1)), x6], [], aa_H (zz_w g 550 b5.toNatClampNeg 0)) rfl r
      exact ih _ (by omega) (by omega) (zz_w g 550 b5.toNatClampNeg 0) (b5 + 1) x6 jx6 r
theorem dn_236_40 {v : Option Value} {h : zz_H} {n : Nat} {g : aa_G} {b1 : Int32} {b2 : Int32} {b3 : Int32} {b4 : Int32} {b5 : Int32}  (x6 : Option Value) (jx6 : rn_jk x6) (r : rn_s n 236 (40, [some (.ref 540), some (.int b1), some (.int b2), some (.int b3), some (.int b4), some (.int b5), x6], [], aa_H g) v h) : (iw_s v h) (fn_236_40 g b1 b2 b3 b4 b5) := dn_236_40l  n (Nat.le_refl n) g b5 x6 jx6 r
noncomputable def fn_236 (g : aa_G) (a1 : Int32) (a2 : Int32) (a3 : Int32) (a4 : Int32) : Int32 × aa_G := if (fn_192 g a1) = 0 then (-1, g) else if (fn_154 a3 1 60) = 0 then (-1, g) else if (fn_193 a2) = 0 then (-1, g) else if (fn_154 a4 0 1) ≠ 0 then fn_236_40 g a1 a2 a3 a4 0 else (-1, g)
theorem dn_236 {v : Option Value} {h : zz_H} {n : Nat} {g : aa_G} {a1 : Int32} {a2 : Int32} {a3 : Int32} {a4 : Int32}  (r : rn_s n 236 (0, zz_in [.ref 540, .int a1, .int a2, .int a3, .int a4] (zz_nl 236), [], aa_H g) v h) : iw_s v h (fn_236 g a1 a2 a3 a4) := by
  have r : rn_s n 236 (0, [some (.ref 540), some (.int a1), some (.int a2), some (.int a3), some (.int a4), none, none], [], aa_H g) v h := r
  unfold fn_236
  obtain ⟨n1, ln1, r⟩ := rn_steps 1 (2, [some (.ref 540), some (.int a1), some (.int a2), some (.int a3), some (.int a4), none, none], [.int a1, .ref 540], aa_H g) rfl r
  obtain ⟨_, n2, v1, h1, -, ln2, rc, r⟩ := rn_call (m2 := 192) (as := [.ref 540, .int a1]) (rest := []) rfl rfl r
  obtain ⟨rfl, rfl⟩ := dn_192 rc
  have r : rn_s _ 236 (5, [some (.ref 540), some (.int a1), some (.int a2), some (.int a3), some (.int a4), none, none], [.int (fn_192 g a1)], aa_H g) v h := r
  refine rn_if (iw_s v h) rfl decide_eq_true_iff.symm r (fun c4 l5n l5 r => ?_) (fun c4 l5n l5 r => ?_)
  · obtain ⟨n6, ln6, r⟩ := rn_steps 0 (36, [some (.ref 540), some (.int a1), some (.int a2), some (.int a3), some (.int a4), none, none], [.int (-1)], aa_H g) rfl r
    exact rn_ire rfl r
  · obtain ⟨n7, ln7, r⟩ := rn_steps 2 (12, [some (.ref 540), some (.int a1), some (.int a2), some (.int a3), some (.int a4), none, none], [.int 60, .int 1, .int a3], aa_H g) rfl r
    obtain ⟨_, n8, v1, h1, -, ln8, rc, r⟩ := rn_call (m2 := 154) (as := [.int a3, .int 1, .int 60]) (rest := []) rfl rfl r
    obtain ⟨rfl, rfl⟩ := dn_154 rc
    have r : rn_s _ 236 (15, [some (.ref 540), some (.int a1), some (.int a2), some (.int a3), some (.int a4), none, none], [.int (fn_154 a3 1 60)], aa_H g) v h := r
    refine rn_if (iw_s v h) rfl decide_eq_true_iff.symm r (fun c10 l11n l11 r => ?_) (fun c10 l11n l11 r => ?_)
    · obtain ⟨n12, ln12, r⟩ := rn_steps 0 (36, [some (.ref 540), some (.int a1), some (.int a2), some (.int a3), some (.int a4), none, none], [.int (-1)], aa_H g) rfl r
      exact rn_ire rfl r
    · obtain ⟨n13, ln13, r⟩ := rn_steps 0 (19, [some (.ref 540), some (.int a1), some (.int a2), some (.int a3), some (.int a4), none, none], [.int a2], aa_H g) rfl r
      obtain ⟨_, n14, v1, h1, -, ln14, rc, r⟩ := rn_call (m2 := 193) (as := [.int a2]) (rest := []) rfl rfl r
      obtain ⟨rfl, rfl⟩ := dn_193 rc
      have r : rn_s _ 236 (22, [some (.ref 540), some (.int a1), some (.int a2), some (.int a3), some (.int a4), none, none], [.int (fn_193 a2)], aa_H g) v h := r
      refine rn_if (iw_s v h) rfl decide_eq_true_iff.symm r (fun c16 l17n l17 r => ?_) (fun c16 l17n l17 r => ?_)
      · obtain ⟨n18, ln18, r⟩ := rn_steps 0 (36, [some (.ref 540), some (.int a1), some (.int a2), some (.int a3), some (.int a4), none, none], [.int (-1)], aa_H g) rfl r
        exact rn_ire rfl r
      · obtain ⟨n19, ln19, r⟩ := rn_steps 2 (29, [some (.ref 540), some (.int a1), some (.int a2), some (.int a3), some (.int a4), none, none], [.int 1, .int 0, .int a4], aa_H g) rfl r
        obtain ⟨_, n20, v1, h1, -, ln20, rc, r⟩ := rn_call (m2 := 154) (as := [.int a4, .int 0, .int 1]) (rest := []) rfl rfl r
        obtain ⟨rfl, rfl⟩ := dn_154 rc
        have r : rn_s _ 236 (32, [some (.ref 540), some (.int a1), some (.int a2), some (.int a3), some (.int a4), none, none], [.int (fn_154 a4 0 1)], aa_H g) v h := r
        refine rn_if (iw_s v h) rfl decide_eq_true_iff.symm r (fun c22 l23n l23 r => ?_) (fun c22 l23n l23 r => ?_)
        · obtain ⟨n24, ln24, r⟩ := rn_steps 1 (40, [some (.ref 540), some (.int a1), some (.int a2), some (.int a3), some (.int a4), some (.int 0), none], [], aa_H g) rfl r
          exact dn_236_40 none rn_jn r
        · obtain ⟨n25, ln25, r⟩ := rn_steps 0 (36, [some (.ref 540), some (.int a1), some (.int a2), some (.int a3), some (.int a4), none, none], [.int (-1)], aa_H g) rfl r
          exact rn_ire rfl r
-- 246: UnequalHoursModel total
noncomputable def fn_246_51b (g : aa_G) (b1 : Int32) (b2 : Int32) (b3 : Int32) (b4 : Int32) (b5 : Int32) (b6 : Int32) : (Int32 × Int32) ⊕ ((aa_G × Int32 × Int32) ⊕ (Int32 × aa_G)) := if (g 540 26) ≤ b6 then .inr (.inl (g, b4, b5 + 1)) else .inl (b4 + (fn_217 g b6), b6 + 1)
noncomputable def fn_246_51 (g : aa_G) (b1 : Int32) (b2 : Int32) (b3 : Int32) (b4 : Int32) (b5 : Int32) (b6 : Int32) : (aa_G × Int32 × Int32) ⊕ (Int32 × aa_G) := lp_f (.inr (0, g)) (fun z : (Int32 × Int32) => fn_246_51b g b1 b2 b3 z.1 b5 z.2) (b4, b6)
theorem dn_246_51l {v : Option Value} {h : zz_H} {N : Nat} {g : aa_G} {b1 : Int32} {b2 : Int32} {b3 : Int32} {b5 : Int32} (P : (aa_G × Int32 × Int32) ⊕ (Int32 × aa_G) → Prop) (hO0 : ∀ n2, n2 < N → ∀ (yg : aa_G) (yb4 : Int32) (yb5 : Int32) (yx6 : Option Value) (_ : rn_jk yx6), rn_s n2 246 (33, [some (.ref 540), some (.int b1), some (.int b2), some (.int b3), some (.int yb4), some (.int yb5), yx6], [], aa_H yg) v h → P (.inl (yg, yb4, yb5))) (hR : ∀ E, iw_s v h E → P (.inr E)) {d : (aa_G × Int32 × Int32) ⊕ (Int32 × aa_G)} : ∀ (n : Nat), n ≤ N → ∀ (b4 : Int32) (b6 : Int32), rn_s n 246 (51, [some (.ref 540), some (.int b1), some (.int b2), some (.int b3), some (.int b4), some (.int b5), some (.int b6)], [], aa_H g) v h → P (lp_f d (fun z : (Int32 × Int32) => fn_246_51b g b1 b2 b3 z.1 b5 z.2) (b4, b6)) := by
  generalize hf : (fun z : (Int32 × Int32) => fn_246_51b g b1 b2 b3 z.1 b5 z.2) = f
  intro n
  induction n using Nat.strongRecOn with
  | _ n ih =>
    intro hN b4 b6  r
    refine lp_go ?_
    rw [← congrFun hf (b4, b6)]
    show lp_q P d f (fn_246_51b g b1 b2 b3 b4 b5 b6)
    unfold fn_246_51b
    obtain ⟨n28, ln28, r⟩ := rn_steps 2 (57, [some (.ref 540), some (.int b1), some (.int b2), some (.int b3), some (.int b4), some (.int b5), some (.int b6)], [.int (g 540 26), .int b6], aa_H g) rfl r
    refine rn_ic (lp_q P d f) rfl decide_eq_true_iff.symm r (fun c29 l30n l30 r => ?_) (fun c29 l30n l30 r => ?_)
    · obtain ⟨n31, ln31, r⟩ := rn_steps 1 (33, [some (.ref 540), some (.int b1), some (.int b2), some (.int b3), some (.int b4), some (.int (b5 + 1)), some (.int b6)], [], aa_H g) rfl r
      exact hO0 _ (by omega) g b4 (b5 + 1) (some (.int b6)) rn_ji r
    · obtain ⟨n32, ln32, r⟩ := rn_steps 2 (65, [some (.ref 540), some (.int b1), some (.int b2), some (.int b3), some (.int b4), some (.int b5), some (.int b6)], [.int b6, .ref 540, .int b4], aa_H g) rfl r
      obtain ⟨_, n33, v1, h1, -, ln33, rc, r⟩ := rn_call (m2 := 217) (as := [.ref 540, .int b6]) (rest := [.int b4]) rfl rfl r
      obtain ⟨rfl, rfl⟩ := dn_217 rc
      have r : rn_s _ 246 (68, [some (.ref 540), some (.int b1), some (.int b2), some (.int b3), some (.int b4), some (.int b5), some (.int b6)], [.int (fn_217 g b6), .int b4], aa_H g) v h := r
      obtain ⟨n35, ln35, r⟩ := rn_steps 3 (51, [some (.ref 540), some (.int b1), some (.int b2), some (.int b3), some (.int (b4 + (fn_217 g b6))), some (.int b5), some (.int (b6 + 1))], [], aa_H g) rfl r
      exact ih _ (by omega) (by omega) (b4 + (fn_217 g b6)) (b6 + 1) r
theorem dn_246_51 {v : Option Value} {h : zz_H} {n : Nat} {g : aa_G} {b1 : Int32} {b2 : Int32} {b3 : Int32} {b4 : Int32} {b5 : Int32} {b6 : Int32} (P : (aa_G × Int32 × Int32) ⊕ (Int32 × aa_G) → Prop) (hO0 : ∀ n2, n2 < n → ∀ (yg : aa_G) (yb4 : Int32) (yb5 : Int32) (yx6 : Option Value) (_ : rn_jk yx6), rn_s n2 246 (33, [some (.ref 540), some (.int b1), some (.int b2), some (.int b3), some (.int yb4), some (.int yb5), yx6], [], aa_H yg) v h → P (.inl (yg, yb4, yb5))) (hR : ∀ E, iw_s v h E → P (.inr E))  (r : rn_s n 246 (51, [some (.ref 540), some (.int b1), some (.int b2), some (.int b3), some (.int b4), some (.int b5), some (.int b6)], [], aa_H g) v h) : P (fn_246_51 g b1 b2 b3 b4 b5 b6) := dn_246_51l P hO0 hR n (Nat.le_refl n) b4 b6 r
noncomputable def fn_246_48 (g : aa_G) (b1 : Int32) (b2 : Int32) (b3 : Int32) (b4 : Int32) (b5 : Int32) : (aa_G × Int32 × Int32) ⊕ (Int32 × aa_G) := fn_246_51 g b1 b2 b3 b4 b5 0
theorem dn_246_48 {v : Option Value} {h : zz_H} {n : Nat} {g : aa_G} {b1 : Int32} {b2 : Int32} {b3 : Int32} {b4 : Int32} {b5 : Int32} (P : (aa_G × Int32 × Int32) ⊕ (Int32 × aa_G) → Prop) (hO0 : ∀ n2, n2 < n → ∀ (yg : aa_G) (yb4 : Int32) (yb5 : Int32) (yx6 : Option Value) (_ : rn_jk yx6), rn_s n2 246 (33, [some (.ref 540), some (.int b1), some (.int b2), some (.int b3), some (.int yb4), some (.int yb5), yx6], [], aa_H yg) v h → P (.inl (yg, yb4, yb5))) (hR : ∀ E, iw_s v h E → P (.inr E))  (x6 : Option Value) (jx6 : rn_jk x6) (r : rn_s n 246 (48, [some (.ref 540), some (.int b1), some (.int b2), some (.int b3), some (.int b4), some (.int b5), x6], [], aa_H g) v h) : P (fn_246_48 g b1 b2 b3 b4 b5) := by
  unfold fn_246_48
  obtain ⟨n27, ln27, r⟩ := rn_steps 1 (51, [some (.ref 540), some (.int b1), some (.int b2), some (.int b3), some (.int b4), some (.int b5), some (.int 0)], [], aa_H g) rfl r
  exact dn_246_51 (P) (fun n2 l2 => hO0 n2 (by omega)) (fun z hz => hR _ hz) r
noncomputable def fn_246_33b (g : aa_G) (b1 : Int32) (b2 : Int32) (b3 : Int32) (b4 : Int32) (b5 : Int32) : (aa_G × Int32 × Int32) ⊕ (Int32 × aa_G) := if (b2 + b3) ≤ b5 then .inr (b4, g) else fn_246_48 (fn_212 g b1 b5) b1 b2 b3 b4 b5
noncomputable def fn_246_33 (g : aa_G) (b1 : Int32) (b2 : Int32) (b3 : Int32) (b4 : Int32) (b5 : Int32) : Int32 × aa_G := lp_f (0, g) (fun z : (aa_G × Int32 × Int32) => fn_246_33b z.1 b1 b2 b3 z.2.1 z.2.2) (g, b4, b5)
theorem dn_246_33l {v : Option Value} {h : zz_H} {N : Nat} {b1 : Int32} {b2 : Int32} {b3 : Int32} {d : Int32 × aa_G} : ∀ (n : Nat), n ≤ N → ∀ (g : aa_G) (b4 : Int32) (b5 : Int32) (x6 : Option Value) (jx6 : rn_jk x6), rn_s n 246 (33, [some (.ref 540), some (.int b1), some (.int b2), some (.int b3), some (.int b4), some (.int b5), x6], [], aa_H g) v h → (iw_s v h) (lp_f d (fun z : (aa_G × Int32 × Int32) => fn_246_33b z.1 b1 b2 b3 z.2.1 z.2.2) (g, b4, b5)) := by
  generalize hf : (fun z : (aa_G × Int32 × Int32) => fn_246_33b z.1 b1 b2 b3 z.2.1 z.2.2) = f
  intro n
  induction n using Nat.strongRecOn with
  | _ n ih =>
    intro hN g b4 b5 x6 jx6 r
    refine lp_go ?_
    rw [← congrFun hf (g, b4, b5)]
    show lp_q (iw_s v h) d f (fn_246_33b g b1 b2 b3 b4 b5)
    unfold fn_246_33b
    obtain ⟨n20, ln20, r⟩ := rn_steps 3 (38, [some (.ref 540), some (.int b1), some (.int b2), some (.int b3), some (.int b4), some (.int b5), x6], [.int (b2 + b3), .int b5], aa_H g) rfl r
    refine rn_ic (lp_q (iw_s v h) d f) rfl decide_eq_true_iff.symm r (fun c21 l22n l22 r => ?_) (fun c21 l22n l22 r => ?_)
    · obtain ⟨n23, ln23, r⟩ := rn_steps 0 (85, [some (.ref 540), some (.int b1), some (.int b2), some (.int b3), some (.int b4), some (.int b5), x6], [.int b4], aa_H g) rfl r
      exact rn_ire rfl r
    · obtain ⟨n24, ln24, r⟩ := rn_steps 2 (45, [some (.ref 540), some (.int b1), some (.int b2), some (.int b3), some (.int b4), some (.int b5), x6], [.int b5, .int b1, .ref 540], aa_H g) rfl r
      obtain ⟨_, n25, v1, h1, -, ln25, rc, r⟩ := rn_call (m2 := 212) (as := [.ref 540, .int b1, .int b5]) (rest := []) rfl rfl r
      obtain ⟨rfl, rfl⟩ := dn_212 rc
      have r : rn_s _ 246 (48, [some (.ref 540), some (.int b1), some (.int b2), some (.int b3), some (.int b4), some (.int b5), x6], [], aa_H (fn_212 g b1 b5)) v h := r
      exact dn_246_48 (lp_q (iw_s v h) d f) (fun n2 l2 => ih n2 (by omega) (by omega)) (fun z hz => hz) x6 jx6 r
theorem dn_246_33 {v : Option Value} {h : zz_H} {n : Nat} {g : aa_G} {b1 : Int32} {b2 : Int32} {b3 : Int32} {b4 : Int32} {b5 : Int32}  (x6 : Option Value) (jx6 : rn_jk x6) (r : rn_s n 246 (33, [some (.ref 540), some (.int b1), some (.int b2), some (.int b3), some (.int b4), some (.int b5), x6], [], aa_H g) v h) : (iw_s v h) (fn_246_33 g b1 b2 b3 b4 b5) := dn_246_33l  n (Nat.le_refl n) g b4 b5 x6 jx6 r
noncomputable def fn_246 (g : aa_G) (a1 : Int32) (a2 : Int32) (a3 : Int32) : Int32 × aa_G := if (fn_192 g a1) = 0 then (-1, g) else if (fn_193 a2) = 0 then (-1, g) else if (fn_154 a3 1 60) ≠ 0 then fn_246_33 g a1 a2 a3 0 a2 else (-1, g)
theorem dn_246 {v : Option Value} {h : zz_H} {n : Nat} {g : aa_G} {a1 : Int32} {a2 : Int32} {a3 : Int32}  (r : rn_s n 246 (0, zz_in [.ref 540, .int a1, .int a2, .int a3] (zz_nl 246), [], aa_H g) v h) : iw_s v h (fn_246 g a1 a2 a3) := by
  have r : rn_s n 246 (0, [some (.ref 540), some (.int a1), some (.int a2), some (.int a3), none, none, none], [], aa_H g) v h := r
  unfold fn_246
  obtain ⟨n1, ln1, r⟩ := rn_steps 1 (2, [some (.ref 540), some (.int a1), some (.int a2), some (.int a3), none, none, none], [.int a1, .ref 540], aa_H g) rfl r
  obtain ⟨_, n2, v1, h1, -, ln2, rc, r⟩ := rn_call (m2 := 192) (as := [.ref 540, .int a1]) (rest := []) rfl rfl r
  obtain ⟨rfl, rfl⟩ := dn_192 rc
  have r : rn_s _ 246 (5, [some (.ref 540), some (.int a1), some (.int a2), some (.int a3), none, none, none], [.int (fn_192 g a1)], aa_H g) v h := r
  refine rn_if (iw_s v h) rfl decide_eq_true_iff.symm r (fun c4 l5n l5 r => ?_) (fun c4 l5n l5 r => ?_)
  · obtain ⟨n6, ln6, r⟩ := rn_steps 0 (26, [some (.ref 540), some (.int a1), some (.int a2), some (.int a3), none, none, none], [.int (-1)], aa_H g) rfl r
    exact rn_ire rfl r
  · obtain ⟨n7, ln7, r⟩ := rn_steps 0 (9, [some (.ref 540), some (.int a1), some (.int a2), some (.int a3), none, none, none], [.int a2], aa_H g) rfl r
    obtain ⟨_, n8, v1, h1, -, ln8, rc, r⟩ := rn_call (m2 := 193) (as := [.int a2]) (rest := []) rfl rfl r
    obtain ⟨rfl, rfl⟩ := dn_193 rc
    have r : rn_s _ 246 (12, [some (.ref 540), some (.int a1), some (.int a2), some (.int a3), none, none, none], [.int (fn_193 a2)], aa_H g) v h := r
    refine rn_if (iw_s v h) rfl decide_eq_true_iff.symm r (fun c10 l11n l11 r => ?_) (fun c10 l11n l11 r => ?_)
    · obtain ⟨n12, ln12, r⟩ := rn_steps 0 (26, [some (.ref 540), some (.int a1), some (.int a2), some (.int a3), none, none, none], [.int (-1)], aa_H g) rfl r
      exact rn_ire rfl r
    · obtain ⟨n13, ln13, r⟩ := rn_steps 2 (19, [some (.ref 540), some (.int a1), some (.int a2), some (.int a3), none, none, none], [.int 60, .int 1, .int a3], aa_H g) rfl r
      obtain ⟨_, n14, v1, h1, -, ln14, rc, r⟩ := rn_call (m2 := 154) (as := [.int a3, .int 1, .int 60]) (rest := []) rfl rfl r
      obtain ⟨rfl, rfl⟩ := dn_154 rc
      have r : rn_s _ 246 (22, [some (.ref 540), some (.int a1), some (.int a2), some (.int a3), none, none, none], [.int (fn_154 a3 1 60)], aa_H g) v h := r
      refine rn_if (iw_s v h) rfl decide_eq_true_iff.symm r (fun c16 l17n l17 r => ?_) (fun c16 l17n l17 r => ?_)
      · obtain ⟨n18, ln18, r⟩ := rn_steps 3 (33, [some (.ref 540), some (.int a1), some (.int a2), some (.int a3), some (.int 0), some (.int a2), none], [], aa_H g) rfl r
        exact dn_246_33 none rn_jn r
      · obtain ⟨n19, ln19, r⟩ := rn_steps 0 (26, [some (.ref 540), some (.int a1), some (.int a2), some (.int a3), none, none, none], [.int (-1)], aa_H g) rfl r
        exact rn_ire rfl r
-- 247: UnequalHoursModel quiet
noncomputable def fn_247_108 (g : aa_G) (b3 : Int32) (b4 : Int32) (b5 : Int32) (b6 : Int32) : (Int32 × Int32 × Int32) ⊕ (Int32 × aa_G) := .inl (b4, b5, b6 + 1)
theorem dn_247_108 {v : Option Value} {h : zz_H} {n : Nat} {g : aa_G} {b3 : Int32} {b4 : Int32} {b5 : Int32} {b6 : Int32} (P : (Int32 × Int32 × Int32) ⊕ (Int32 × aa_G) → Prop) (hO0 : ∀ n2, n2 < n → ∀ (yb4 : Int32) (yb5 : Int32) (yb6 : Int32) (yx1 yx2 yx7 yx8 : Option Value) (_ : rn_jk yx1) (_ : rn_jk yx2) (_ : rn_jk yx7) (_ : rn_jk yx8), rn_s n2 247 (35, [some (.ref 540), yx1, yx2, some (.int b3), some (.int yb4), some (.int yb5), some (.int yb6), yx7, yx8], [], aa_H g) v h → P (.inl (yb4, yb5, yb6))) (hR : ∀ E, iw_s v h E → P (.inr E))  (x1 x2 x7 x8 : Option Value) (jx1 : rn_jk x1) (jx2 : rn_jk x2) (jx7 : rn_jk x7) (jx8 : rn_jk x8) (r : rn_s n 247 (108, [some (.ref 540), x1, x2, some (.int b3), some (.int b4), some (.int b5), some (.int b6), x7, x8], [], aa_H g) v h) : P (fn_247_108 g b3 b4 b5 b6) := by
  unfold fn_247_108
  obtain ⟨n44, ln44, r⟩ := rn_steps 1 (35, [some (.ref 540), x1, x2, some (.int b3), some (.int b4), some (.int b5), some (.int (b6 + 1)), x7, x8], [], aa_H g) rfl r
  exact hO0 _ (by omega) b4 b5 (b6 + 1) x1 x2 x7 x8 jx1 jx2 jx7 jx8 r
noncomputable def fn_247_85 (g : aa_G) (b3 : Int32) (b4 : Int32) (b5 : Int32) (b6 : Int32) (b7 : Int32) (s0 : Int32) : (Int32 × Int32 × Int32) ⊕ (Int32 × aa_G) := if b5 < (s0 - b7) then fn_247_108 g b3 b7 (s0 - b7) b6 else fn_247_108 g b3 b4 b5 b6
theorem dn_247_85 {v : Option Value} {h : zz_H} {n : Nat} {g : aa_G} {b3 : Int32} {b4 : Int32} {b5 : Int32} {b6 : Int32} {b7 : Int32} {s0 : Int32} (P : (Int32 × Int32 × Int32) ⊕ (Int32 × aa_G) → Prop) (hO0 : ∀ n2, n2 < n → ∀ (yb4 : Int32) (yb5 : Int32) (yb6 : Int32) (yx1 yx2 yx7 yx8 : Option Value) (_ : rn_jk yx1) (_ : rn_jk yx2) (_ : rn_jk yx7) (_ : rn_jk yx8), rn_s n2 247 (35, [some (.ref 540), yx1, yx2, some (.int b3), some (.int yb4), some (.int yb5), some (.int yb6), yx7, yx8], [], aa_H g) v h → P (.inl (yb4, yb5, yb6))) (hR : ∀ E, iw_s v h E → P (.inr E))  (x1 x2 x8 : Option Value) (jx1 : rn_jk x1) (jx2 : rn_jk x2) (jx8 : rn_jk x8) (r : rn_s n 247 (85, [some (.ref 540), x1, x2, some (.int b3), some (.int b4), some (.int b5), some (.int b6), some (.int b7), x8], [.int s0], aa_H g) v h) : P (fn_247_85 g b3 b4 b5 b6 b7 s0) := by
  unfold fn_247_85
  obtain ⟨n39, ln39, r⟩ := rn_steps 4 (94, [some (.ref 540), x1, x2, some (.int b3), some (.int b4), some (.int b5), some (.int b6), some (.int b7), some (.int (s0 - b7))], [.int b5, .int (s0 - b7)], aa_H g) rfl r
  refine rn_ic (P) rfl decide_eq_true_iff.symm r (fun c40 l41n l41 r => ?_) (fun c40 l41n l41 r => ?_)
  · obtain ⟨n42, ln42, r⟩ := rn_steps 3 (108, [some (.ref 540), x1, x2, some (.int b3), some (.int b7), some (.int (s0 - b7)), some (.int b6), some (.int b7), some (.int (s0 - b7))], [], aa_H g) rfl r
    exact dn_247_108 (P) (fun n2 l2 => hO0 n2 (by omega)) (fun z hz => hR _ hz) x1 x2 (some (.int b7)) (some (.int (s0 - b7))) jx1 jx2 rn_ji rn_ji r
  · obtain ⟨n43, ln43, r⟩ := rn_steps 0 (108, [some (.ref 540), x1, x2, some (.int b3), some (.int b4), some (.int b5), some (.int b6), some (.int b7), some (.int (s0 - b7))], [], aa_H g) rfl r
    exact dn_247_108 (P) (fun n2 l2 => hO0 n2 (by omega)) (fun z hz => hR _ hz) x1 x2 (some (.int b7)) (some (.int (s0 - b7))) jx1 jx2 rn_ji rn_ji r
noncomputable def fn_247_62 (g : aa_G) (b3 : Int32) (b4 : Int32) (b5 : Int32) (b6 : Int32) (s0 : Int32) : (Int32 × Int32 × Int32) ⊕ (Int32 × aa_G) := if b6 ≠ (g 540 26) then fn_247_85 g b3 b4 b5 b6 s0 (g 546 b6.toNatClampNeg) else fn_247_85 g b3 b4 b5 b6 s0 86400
theorem dn_247_62 {v : Option Value} {h : zz_H} {n : Nat} {g : aa_G} {b3 : Int32} {b4 : Int32} {b5 : Int32} {b6 : Int32} {s0 : Int32} (P : (Int32 × Int32 × Int32) ⊕ (Int32 × aa_G) → Prop) (hO0 : ∀ n2, n2 < n → ∀ (yb4 : Int32) (yb5 : Int32) (yb6 : Int32) (yx1 yx2 yx7 yx8 : Option Value) (_ : rn_jk yx1) (_ : rn_jk yx2) (_ : rn_jk yx7) (_ : rn_jk yx8), rn_s n2 247 (35, [some (.ref 540), yx1, yx2, some (.int b3), some (.int yb4), some (.int yb5), some (.int yb6), yx7, yx8], [], aa_H g) v h → P (.inl (yb4, yb5, yb6))) (hR : ∀ E, iw_s v h E → P (.inr E))  (x1 x2 x7 x8 : Option Value) (jx1 : rn_jk x1) (jx2 : rn_jk x2) (jx7 : rn_jk x7) (jx8 : rn_jk x8) (r : rn_s n 247 (62, [some (.ref 540), x1, x2, some (.int b3), some (.int b4), some (.int b5), some (.int b6), x7, x8], [.int s0], aa_H g) v h) : P (fn_247_62 g b3 b4 b5 b6 s0) := by
  unfold fn_247_62
  obtain ⟨n32, ln32, r⟩ := rn_steps 3 (70, [some (.ref 540), x1, x2, some (.int b3), some (.int b4), some (.int b5), some (.int b6), some (.int s0), x8], [.int (g 540 26), .int b6], aa_H g) rfl r
  refine rn_ic (P) rfl decide_eq_true_iff.symm r (fun c33 l34n l34 r => ?_) (fun c33 l34n l34 r => ?_)
  · obtain ⟨n35, ln35, r⟩ := rn_steps 2 (84, [some (.ref 540), x1, x2, some (.int b3), some (.int b4), some (.int b5), some (.int b6), some (.int s0), x8], [.int b6, .ref 546], aa_H g) rfl r
    obtain ⟨hb37, n36, ln36, r⟩ := rn_ial (k := 546) rfl ⟨by decide, by decide⟩ rfl r
    have r : rn_s _ 247 (85, [some (.ref 540), x1, x2, some (.int b3), some (.int b4), some (.int b5), some (.int b6), some (.int s0), x8], [.int (g 546 b6.toNatClampNeg)], aa_H g) v h := r
    exact dn_247_85 (P) (fun n2 l2 => hO0 n2 (by omega)) (fun z hz => hR _ hz) x1 x2 x8 jx1 jx2 jx8 r
  · obtain ⟨n38, ln38, r⟩ := rn_steps 1 (85, [some (.ref 540), x1, x2, some (.int b3), some (.int b4), some (.int b5), some (.int b6), some (.int s0), x8], [.int 86400], aa_H g) rfl r
    exact dn_247_85 (P) (fun n2 l2 => hO0 n2 (by omega)) (fun z hz => hR _ hz) x1 x2 x8 jx1 jx2 jx8 r
noncomputable def fn_247_35b (g : aa_G) (b3 : Int32) (b4 : Int32) (b5 : Int32) (b6 : Int32) : (Int32 × Int32 × Int32) ⊕ (Int32 × aa_G) := if (g 540 26) < b6 then if b3 ≠ 0 then .inr (b5, g) else .inr (b4, g) else if b6 ≠ 0 then fn_247_62 g b3 b4 b5 b6 (g 546 (b6 - 1).toNatClampNeg) else fn_247_62 g b3 b4 b5 b6 0
noncomputable def fn_247_35 (g : aa_G) (b3 : Int32) (b4 : Int32) (b5 : Int32) (b6 : Int32) : Int32 × aa_G := lp_f (0, g) (fun z : (Int32 × Int32 × Int32) => fn_247_35b g b3 z.1 z.2.1 z.2.2) (b4, b5, b6)
theorem dn_247_35l {v : Option Value} {h : zz_H} {N : Nat} {g : aa_G} {b3 : Int32} {d : Int32 × aa_G} : ∀ (n : Nat), n ≤ N → ∀ (b4 : Int32) (b5 : Int32) (b6 : Int32) (x1 x2 x7 x8 : Option Value) (jx1 : rn_jk x1) (jx2 : rn_jk x2) (jx7 : rn_jk x7) (jx8 : rn_jk x8), rn_s n 247 (35, [some (.ref 540), x1, x2, some (.int b3), some (.int b4), some (.int b5), some (.int b6), x7, x8], [], aa_H g) v h → (iw_s v h) (lp_f d (fun z : (Int32 × Int32 × Int32) => fn_247_35b g b3 z.1 z.2.1 z.2.2) (b4, b5, b6)) := by
  generalize hf : (fun z : (Int32 × Int32 × Int32) => fn_247_35b g b3 z.1 z.2.1 z.2.2) = f
  intro n
  induction n using Nat.strongRecOn with
  | _ n ih =>
    intro hN b4 b5 b6 x1 x2 x7 x8 jx1 jx2 jx7 jx8 r
    refine lp_go ?_
    rw [← congrFun hf (b4, b5, b6)]
    show lp_q (iw_s v h) d f (fn_247_35b g b3 b4 b5 b6)
    unfold fn_247_35b
    obtain ⟨n17, ln17, r⟩ := rn_steps 2 (41, [some (.ref 540), x1, x2, some (.int b3), some (.int b4), some (.int b5), some (.int b6), x7, x8], [.int (g 540 26), .int b6], aa_H g) rfl r
    refine rn_ic (lp_q (iw_s v h) d f) rfl decide_eq_true_iff.symm r (fun c18 l19n l19 r => ?_) (fun c18 l19n l19 r => ?_)
    · obtain ⟨n20, ln20, r⟩ := rn_steps 0 (115, [some (.ref 540), x1, x2, some (.int b3), some (.int b4), some (.int b5), some (.int b6), x7, x8], [.int b3], aa_H g) rfl r
      refine rn_if (lp_q (iw_s v h) d f) rfl decide_eq_true_iff.symm r (fun c21 l22n l22 r => ?_) (fun c21 l22n l22 r => ?_)
      · obtain ⟨n23, ln23, r⟩ := rn_steps 0 (125, [some (.ref 540), x1, x2, some (.int b3), some (.int b4), some (.int b5), some (.int b6), x7, x8], [.int b5], aa_H g) rfl r
        exact rn_ire rfl r
      · obtain ⟨n24, ln24, r⟩ := rn_steps 1 (125, [some (.ref 540), x1, x2, some (.int b3), some (.int b4), some (.int b5), some (.int b6), x7, x8], [.int b4], aa_H g) rfl r
        exact rn_ire rfl r
    · obtain ⟨n25, ln25, r⟩ := rn_steps 0 (46, [some (.ref 540), x1, x2, some (.int b3), some (.int b4), some (.int b5), some (.int b6), x7, x8], [.int b6], aa_H g) rfl r
      refine rn_if (lp_q (iw_s v h) d f) rfl decide_eq_true_iff.symm r (fun c26 l27n l27 r => ?_) (fun c26 l27n l27 r => ?_)
      · obtain ⟨n28, ln28, r⟩ := rn_steps 4 (61, [some (.ref 540), x1, x2, some (.int b3), some (.int b4), some (.int b5), some (.int b6), x7, x8], [.int (b6 - 1), .ref 546], aa_H g) rfl r
        obtain ⟨hb30, n29, ln29, r⟩ := rn_ial (k := 546) rfl ⟨by decide, by decide⟩ rfl r
        have r : rn_s _ 247 (62, [some (.ref 540), x1, x2, some (.int b3), some (.int b4), some (.int b5), some (.int b6), x7, x8], [.int (g 546 (b6 - 1).toNatClampNeg)], aa_H g) v h := r
        exact dn_247_62 (lp_q (iw_s v h) d f) (fun n2 l2 => ih n2 (by omega) (by omega)) (fun z hz => hz) x1 x2 x7 x8 jx1 jx2 jx7 jx8 r
      · obtain ⟨n31, ln31, r⟩ := rn_steps 1 (62, [some (.ref 540), x1, x2, some (.int b3), some (.int b4), some (.int b5), some (.int b6), x7, x8], [.int 0], aa_H g) rfl r
        exact dn_247_62 (lp_q (iw_s v h) d f) (fun n2 l2 => ih n2 (by omega) (by omega)) (fun z hz => hz) x1 x2 x7 x8 jx1 jx2 jx7 jx8 r
theorem dn_247_35 {v : Option Value} {h : zz_H} {n : Nat} {g : aa_G} {b3 : Int32} {b4 : Int32} {b5 : Int32} {b6 : Int32}  (x1 x2 x7 x8 : Option Value) (jx1 : rn_jk x1) (jx2 : rn_jk x2) (jx7 : rn_jk x7) (jx8 : rn_jk x8) (r : rn_s n 247 (35, [some (.ref 540), x1, x2, some (.int b3), some (.int b4), some (.int b5), some (.int b6), x7, x8], [], aa_H g) v h) : (iw_s v h) (fn_247_35 g b3 b4 b5 b6) := dn_247_35l  n (Nat.le_refl n) b4 b5 b6 x1 x2 x7 x8 jx1 jx2 jx7 jx8 r
noncomputable def fn_247_26 (g : aa_G) (b3 : Int32) : Int32 × aa_G := fn_247_35 g b3 0 (-1) 0
theorem dn_247_26 {v : Option Value} {h : zz_H} {n : Nat} {g : aa_G} {b3 : Int32}  (x1 x2 x4 x5 x6 x7 x8 : Option Value) (jx1 : rn_jk x1) (jx2 : rn_jk x2) (jx4 : rn_jk x4) (jx5 : rn_jk x5) (jx6 : rn_jk x6) (jx7 : rn_jk x7) (jx8 : rn_jk x8) (r : rn_s n 247 (26, [some (.ref 540), x1, x2, some (.int b3), x4, x5, x6, x7, x8], [], aa_H g) v h) : iw_s v h (fn_247_26 g b3) := by
  unfold fn_247_26
  obtain ⟨n16, ln16, r⟩ := rn_steps 5 (35, [some (.ref 540), x1, x2, some (.int b3), some (.int 0), some (.int (-1)), some (.int 0), x7, x8], [], aa_H g) rfl r
  exact dn_247_35 x1 x2 x7 x8 jx1 jx2 jx7 jx8 r
noncomputable def fn_247 (g : aa_G) (a1 : Int32) (a2 : Int32) (a3 : Int32) : Int32 × aa_G := if (fn_191 g a1 a2) = 0 then (-1, g) else if (fn_154 a3 0 1) ≠ 0 then fn_247_26 (fn_212 g a1 a2) a3 else (-1, g)
theorem dn_247 {v : Option Value} {h : zz_H} {n : Nat} {g : aa_G} {a1 : Int32} {a2 : Int32} {a3 : Int32}  (r : rn_s n 247 (0, zz_in [.ref 540, .int a1, .int a2, .int a3] (zz_nl 247), [], aa_H g) v h) : iw_s v h (fn_247 g a1 a2 a3) := by
  have r : rn_s n 247 (0, [some (.ref 540), some (.int a1), some (.int a2), some (.int a3), none, none, none, none, none], [], aa_H g) v h := r
  unfold fn_247
  obtain ⟨n1, ln1, r⟩ := rn_steps 2 (3, [some (.ref 540), some (.int a1), some (.int a2), some (.int a3), none, none, none, none, none], [.int a2, .int a1, .ref 540], aa_H g) rfl r
  obtain ⟨_, n2, v1, h1, -, ln2, rc, r⟩ := rn_call (m2 := 191) (as := [.ref 540, .int a1, .int a2]) (rest := []) rfl rfl r
  obtain ⟨rfl, rfl⟩ := dn_191 rc
  have r : rn_s _ 247 (6, [some (.ref 540), some (.int a1), some (.int a2), some (.int a3), none, none, none, none, none], [.int (fn_191 g a1 a2)], aa_H g) v h := r
  refine rn_if (iw_s v h) rfl decide_eq_true_iff.symm r (fun c4 l5n l5 r => ?_) (fun c4 l5n l5 r => ?_)
  · obtain ⟨n6, ln6, r⟩ := rn_steps 0 (19, [some (.ref 540), some (.int a1), some (.int a2), some (.int a3), none, none, none, none, none], [.int (-1)], aa_H g) rfl r
    exact rn_ire rfl r
  · obtain ⟨n7, ln7, r⟩ := rn_steps 2 (12, [some (.ref 540), some (.int a1), some (.int a2), some (.int a3), none, none, none, none, none], [.int 1, .int 0, .int a3], aa_H g) rfl r
    obtain ⟨_, n8, v1, h1, -, ln8, rc, r⟩ := rn_call (m2 := 154) (as := [.int a3, .int 0, .int 1]) (rest := []) rfl rfl r
    obtain ⟨rfl, rfl⟩ := dn_154 rc
    have r : rn_s _ 247 (15, [some (.ref 540), some (.int a1), some (.int a2), some (.int a3), none, none, none, none, none], [.int (fn_154 a3 0 1)], aa_H g) v h := r
    refine rn_if (iw_s v h) rfl decide_eq_true_iff.symm r (fun c10 l11n l11 r => ?_) (fun c10 l11n l11 r => ?_)
    · obtain ⟨n12, ln12, r⟩ := rn_steps 2 (23, [some (.ref 540), some (.int a1), some (.int a2), some (.int a3), none, none, none, none, none], [.int a2, .int a1, .ref 540], aa_H g) rfl r
      obtain ⟨_, n13, v1, h1, -, ln13, rc, r⟩ := rn_call (m2 := 212) (as := [.ref 540, .int a1, .int a2]) (rest := []) rfl rfl r
      obtain ⟨rfl, rfl⟩ := dn_212 rc
      have r : rn_s _ 247 (26, [some (.ref 540), some (.int a1), some (.int a2), some (.int a3), none, none, none, none, none], [], aa_H (fn_212 g a1 a2)) v h := r
      exact dn_247_26 (some (.int a1)) (some (.int a2)) none none none none none rn_ji rn_ji rn_jn rn_jn rn_jn rn_jn rn_jn r
    · obtain ⟨n15, ln15, r⟩ := rn_steps 0 (19, [some (.ref 540), some (.int a1), some (.int a2), some (.int a3), none, none, none, none, none], [.int (-1)], aa_H g) rfl r
      exact rn_ire rfl r
-- 249: UnequalHoursModel isRung
noncomputable def fn_249_18b (g : aa_G) (b3 : Int32) (b4 : Int32) : Int32 ⊕ (Int32 × aa_G) := if (g 540 26) ≤ b4 then .inr (0, g) else if (g 546 b4.toNatClampNeg) ≠ b3 then .inl (b4 + 1) else .inr (1, g)
noncomputable def fn_249_18 (g : aa_G) (b3 : Int32) (b4 : Int32) : Int32 × aa_G := lp_f (0, g) (fun z : Int32 => fn_249_18b g b3 z) b4
theorem dn_249_18l {v : Option Value} {h : zz_H} {N : Nat} {g : aa_G} {b3 : Int32} {d : Int32 × aa_G} : ∀ (n : Nat), n ≤ N → ∀ (b4 : Int32) (x1 x2 : Option Value) (jx1 : rn_jk x1) (jx2 : rn_jk x2), rn_s n 249 (18, [some (.ref 540), x1, x2, some (.int b3), some (.int b4)], [], aa_H g) v h → (iw_s v h) (lp_f d (fun z : Int32 => fn_249_18b g b3 z) b4) := by
  generalize hf : (fun z : Int32 => fn_249_18b g b3 z) = f
  intro n
  induction n using Nat.strongRecOn with
  | _ n ih =>
    intro hN b4 x1 x2 jx1 jx2 r
    refine lp_go ?_
    rw [← congrFun hf b4]
    show lp_q (iw_s v h) d f (fn_249_18b g b3 b4)
    unfold fn_249_18b
    obtain ⟨n11, ln11, r⟩ := rn_steps 2 (24, [some (.ref 540), x1, x2, some (.int b3), some (.int b4)], [.int (g 540 26), .int b4], aa_H g) rfl r
    refine rn_ic (lp_q (iw_s v h) d f) rfl decide_eq_true_iff.symm r (fun c12 l13n l13 r => ?_) (fun c12 l13n l13 r => ?_)
    · obtain ⟨n14, ln14, r⟩ := rn_steps 0 (47, [some (.ref 540), x1, x2, some (.int b3), some (.int b4)], [.int 0], aa_H g) rfl r
      exact rn_ire rfl r
    · obtain ⟨n15, ln15, r⟩ := rn_steps 2 (33, [some (.ref 540), x1, x2, some (.int b3), some (.int b4)], [.int b4, .ref 546], aa_H g) rfl r
      obtain ⟨hb17, n16, ln16, r⟩ := rn_ial (k := 546) rfl ⟨by decide, by decide⟩ rfl r
      have r : rn_s _ 249 (34, [some (.ref 540), x1, x2, some (.int b3), some (.int b4)], [.int (g 546 b4.toNatClampNeg)], aa_H g) v h := r
      obtain ⟨n18, ln18, r⟩ := rn_steps 0 (35, [some (.ref 540), x1, x2, some (.int b3), some (.int b4)], [.int b3, .int (g 546 b4.toNatClampNeg)], aa_H g) rfl r
      refine rn_ic (lp_q (iw_s v h) d f) rfl decide_eq_true_iff.symm r (fun c19 l20n l20 r => ?_) (fun c19 l20n l20 r => ?_)
      · obtain ⟨n21, ln21, r⟩ := rn_steps 1 (18, [some (.ref 540), x1, x2, some (.int b3), some (.int (b4 + 1))], [], aa_H g) rfl r
        exact ih _ (by omega) (by omega) (b4 + 1) x1 x2 jx1 jx2 r
      · obtain ⟨n22, ln22, r⟩ := rn_steps 0 (39, [some (.ref 540), x1, x2, some (.int b3), some (.int b4)], [.int 1], aa_H g) rfl r
        exact rn_ire rfl r
theorem dn_249_18 {v : Option Value} {h : zz_H} {n : Nat} {g : aa_G} {b3 : Int32} {b4 : Int32}  (x1 x2 : Option Value) (jx1 : rn_jk x1) (jx2 : rn_jk x2) (r : rn_s n 249 (18, [some (.ref 540), x1, x2, some (.int b3), some (.int b4)], [], aa_H g) v h) : (iw_s v h) (fn_249_18 g b3 b4) := dn_249_18l  n (Nat.le_refl n) b4 x1 x2 jx1 jx2 r
noncomputable def fn_249_15 (g : aa_G) (b3 : Int32) : Int32 × aa_G := fn_249_18 g b3 0
theorem dn_249_15 {v : Option Value} {h : zz_H} {n : Nat} {g : aa_G} {b3 : Int32}  (x1 x2 x4 : Option Value) (jx1 : rn_jk x1) (jx2 : rn_jk x2) (jx4 : rn_jk x4) (r : rn_s n 249 (15, [some (.ref 540), x1, x2, some (.int b3), x4], [], aa_H g) v h) : iw_s v h (fn_249_15 g b3) := by
  unfold fn_249_15
  obtain ⟨n10, ln10, r⟩ := rn_steps 1 (18, [some (.ref 540), x1, x2, some (.int b3), some (.int 0)], [], aa_H g) rfl r
  exact dn_249_18 x1 x2 jx1 jx2 r
noncomputable def fn_249 (g : aa_G) (a1 : Int32) (a2 : Int32) (a3 : Int32) : Int32 × aa_G := if (fn_193 a2) ≠ 0 then fn_249_15 (fn_212 g a1 a2) a3 else (0, g)
theorem dn_249 {v : Option Value} {h : zz_H} {n : Nat} {g : aa_G} {a1 : Int32} {a2 : Int32} {a3 : Int32}  (r : rn_s n 249 (0, zz_in [.ref 540, .int a1, .int a2, .int a3] (zz_nl 249), [], aa_H g) v h) : iw_s v h (fn_249 g a1 a2 a3) := by
  have r : rn_s n 249 (0, [some (.ref 540), some (.int a1), some (.int a2), some (.int a3), none], [], aa_H g) v h := r
  unfold fn_249
  obtain ⟨n1, ln1, r⟩ := rn_steps 0 (1, [some (.ref 540), some (.int a1), some (.int a2), some (.int a3), none], [.int a2], aa_H g) rfl r
  obtain ⟨_, n2, v1, h1, -, ln2, rc, r⟩ := rn_call (m2 := 193) (as := [.int a2]) (rest := []) rfl rfl r
  obtain ⟨rfl, rfl⟩ := dn_193 rc
  have r : rn_s _ 249 (4, [some (.ref 540), some (.int a1), some (.int a2), some (.int a3), none], [.int (fn_193 a2)], aa_H g) v h := r
  refine rn_if (iw_s v h) rfl decide_eq_true_iff.symm r (fun c4 l5n l5 r => ?_) (fun c4 l5n l5 r => ?_)
  · obtain ⟨n6, ln6, r⟩ := rn_steps 2 (12, [some (.ref 540), some (.int a1), some (.int a2), some (.int a3), none], [.int a2, .int a1, .ref 540], aa_H g) rfl r
    obtain ⟨_, n7, v1, h1, -, ln7, rc, r⟩ := rn_call (m2 := 212) (as := [.ref 540, .int a1, .int a2]) (rest := []) rfl rfl r
    obtain ⟨rfl, rfl⟩ := dn_212 rc
    have r : rn_s _ 249 (15, [some (.ref 540), some (.int a1), some (.int a2), some (.int a3), none], [], aa_H (fn_212 g a1 a2)) v h := r
    exact dn_249_15 (some (.int a1)) (some (.int a2)) none rn_ji rn_ji rn_jn r
  · obtain ⟨n9, ln9, r⟩ := rn_steps 0 (8, [some (.ref 540), some (.int a1), some (.int a2), some (.int a3), none], [.int 0], aa_H g) rfl r
    exact rn_ire rfl r
-- 248: UnequalHoursModel same
noncomputable def fn_248_116 (g : aa_G) (b1 : Int32) (b2 : Int32) (b3 : Int32) (b5 : Int32) (s0 : Int32) (s1 : Int32) : (aa_G × Int32 × Int32) ⊕ (Int32 × aa_G) := .inl (g, s1 + s0, b5 + 1)
theorem dn_248_116 {v : Option Value} {h : zz_H} {n : Nat} {g : aa_G} {b1 : Int32} {b2 : Int32} {b3 : Int32} {b5 : Int32} {s0 : Int32} {s1 : Int32} (P : (aa_G × Int32 × Int32) ⊕ (Int32 × aa_G) → Prop) (hO0 : ∀ n2, n2 < n → ∀ (yg : aa_G) (yb4 : Int32) (yb5 : Int32), rn_s n2 248 (65, [some (.ref 540), some (.int b1), some (.int b2), some (.int b3), some (.int yb4), some (.int yb5)], [], aa_H yg) v h → P (.inl (yg, yb4, yb5))) (hR : ∀ E, iw_s v h E → P (.inr E))  (x4 : Option Value) (jx4 : rn_jk x4) (r : rn_s n 248 (116, [some (.ref 540), some (.int b1), some (.int b2), some (.int b3), x4, some (.int b5)], [.int s0, .int s1], aa_H g) v h) : P (fn_248_116 g b1 b2 b3 b5 s0 s1) := by
  unfold fn_248_116
  obtain ⟨n44, ln44, r⟩ := rn_steps 3 (65, [some (.ref 540), some (.int b1), some (.int b2), some (.int b3), some (.int (s1 + s0)), some (.int (b5 + 1))], [], aa_H g) rfl r
  exact hO0 _ (by omega) g (s1 + s0) (b5 + 1) r
noncomputable def fn_248_108 (g : aa_G) (b1 : Int32) (b2 : Int32) (b3 : Int32) (b5 : Int32) (s0 : Int32) (s1 : Int32) : (aa_G × Int32 × Int32) ⊕ (Int32 × aa_G) := if s0 = 0 then fn_248_116 g b1 b2 b3 b5 0 s1 else fn_248_116 g b1 b2 b3 b5 1 s1
theorem dn_248_108 {v : Option Value} {h : zz_H} {n : Nat} {g : aa_G} {b1 : Int32} {b2 : Int32} {b3 : Int32} {b5 : Int32} {s0 : Int32} {s1 : Int32} (P : (aa_G × Int32 × Int32) ⊕ (Int32 × aa_G) → Prop) (hO0 : ∀ n2, n2 < n → ∀ (yg : aa_G) (yb4 : Int32) (yb5 : Int32), rn_s n2 248 (65, [some (.ref 540), some (.int b1), some (.int b2), some (.int b3), some (.int yb4), some (.int yb5)], [], aa_H yg) v h → P (.inl (yg, yb4, yb5))) (hR : ∀ E, iw_s v h E → P (.inr E))  (x4 : Option Value) (jx4 : rn_jk x4) (r : rn_s n 248 (108, [some (.ref 540), some (.int b1), some (.int b2), some (.int b3), x4, some (.int b5)], [.int s0, .int s1], aa_H g) v h) : P (fn_248_108 g b1 b2 b3 b5 s0 s1) := by
  unfold fn_248_108
  refine rn_if (P) rfl decide_eq_true_iff.symm r (fun c40 l41n l41 r => ?_) (fun c40 l41n l41 r => ?_)
  · obtain ⟨n42, ln42, r⟩ := rn_steps 0 (116, [some (.ref 540), some (.int b1), some (.int b2), some (.int b3), x4, some (.int b5)], [.int 0, .int s1], aa_H g) rfl r
    exact dn_248_116 (P) (fun n2 l2 => hO0 n2 (by omega)) (fun z hz => hR _ hz) x4 jx4 r
  · obtain ⟨n43, ln43, r⟩ := rn_steps 1 (116, [some (.ref 540), some (.int b1), some (.int b2), some (.int b3), x4, some (.int b5)], [.int 1, .int s1], aa_H g) rfl r
    exact dn_248_116 (P) (fun n2 l2 => hO0 n2 (by omega)) (fun z hz => hR _ hz) x4 jx4 r
noncomputable def fn_248_91 (g : aa_G) (b1 : Int32) (b2 : Int32) (b3 : Int32) (b4 : Int32) (b5 : Int32) : (aa_G × Int32 × Int32) ⊕ (Int32 × aa_G) := fn_248_108 ((fn_249 g (b1 - b1 / 4 * 4) (g 540 22) (g 540 23)).2) b1 b2 b3 b5 ((fn_249 g (b1 - b1 / 4 * 4) (g 540 22) (g 540 23)).1) b4
theorem dn_248_91 {v : Option Value} {h : zz_H} {n : Nat} {g : aa_G} {b1 : Int32} {b2 : Int32} {b3 : Int32} {b4 : Int32} {b5 : Int32} (P : (aa_G × Int32 × Int32) ⊕ (Int32 × aa_G) → Prop) (hO0 : ∀ n2, n2 < n → ∀ (yg : aa_G) (yb4 : Int32) (yb5 : Int32), rn_s n2 248 (65, [some (.ref 540), some (.int b1), some (.int b2), some (.int b3), some (.int yb4), some (.int yb5)], [], aa_H yg) v h → P (.inl (yg, yb4, yb5))) (hR : ∀ E, iw_s v h E → P (.inr E))  (r : rn_s n 248 (91, [some (.ref 540), some (.int b1), some (.int b2), some (.int b3), some (.int b4), some (.int b5)], [], aa_H g) v h) : P (fn_248_91 g b1 b2 b3 b4 b5) := by
  unfold fn_248_91
  obtain ⟨n37, ln37, r⟩ := rn_steps 8 (105, [some (.ref 540), some (.int b1), some (.int b2), some (.int b3), some (.int b4), some (.int b5)], [.int (g 540 23), .int (g 540 22), .int (b1 - b1 / 4 * 4), .ref 540, .int b4], aa_H g) rfl r
  obtain ⟨_, n38, v1, h1, -, ln38, rc, r⟩ := rn_call (m2 := 249) (as := [.ref 540, .int (b1 - b1 / 4 * 4), .int (g 540 22), .int (g 540 23)]) (rest := [.int b4]) rfl rfl r
  obtain ⟨rfl, rfl⟩ := dn_249 rc
  have r : rn_s _ 248 (108, [some (.ref 540), some (.int b1), some (.int b2), some (.int b3), some (.int b4), some (.int b5)], [.int ((fn_249 g (b1 - b1 / 4 * 4) (g 540 22) (g 540 23)).1), .int b4], aa_H ((fn_249 g (b1 - b1 / 4 * 4) (g 540 22) (g 540 23)).2)) v h := r
  exact dn_248_108 (P) (fun n2 l2 => hO0 n2 (by omega)) (fun z hz => hR _ hz) (some (.int b4)) rn_ji r
noncomputable def fn_248_65b (g : aa_G) (b1 : Int32) (b2 : Int32) (b3 : Int32) (b4 : Int32) (b5 : Int32) : (aa_G × Int32 × Int32) ⊕ (Int32 × aa_G) := if b3 ≤ b5 then .inr (b4, g) else fn_248_91 (fn_208 g (b1 / 4) b2.toInt64 ((g 551 b5.toNatClampNeg).toInt64) (b1 - b1 / 4 * 4)) b1 b2 b3 b4 b5
noncomputable def fn_248_65 (g : aa_G) (b1 : Int32) (b2 : Int32) (b3 : Int32) (b4 : Int32) (b5 : Int32) : Int32 × aa_G := lp_f (0, g) (fun z : (aa_G × Int32 × Int32) => fn_248_65b z.1 b1 b2 b3 z.2.1 z.2.2) (g, b4, b5)
theorem dn_248_65l {v : Option Value} {h : zz_H} {N : Nat} {b1 : Int32} {b2 : Int32} {b3 : Int32} {d : Int32 × aa_G} : ∀ (n : Nat), n ≤ N → ∀ (g : aa_G) (b4 : Int32) (b5 : Int32), rn_s n 248 (65, [some (.ref 540), some (.int b1), some (.int b2), some (.int b3), some (.int b4), some (.int b5)], [], aa_H g) v h → (iw_s v h) (lp_f d (fun z : (aa_G × Int32 × Int32) => fn_248_65b z.1 b1 b2 b3 z.2.1 z.2.2) (g, b4, b5)) := by
  generalize hf : (fun z : (aa_G × Int32 × Int32) => fn_248_65b z.1 b1 b2 b3 z.2.1 z.2.2) = f
  intro n
  induction n using Nat.strongRecOn with
  | _ n ih =>
    intro hN g b4 b5  r
    refine lp_go ?_
    rw [← congrFun hf (g, b4, b5)]
    show lp_q (iw_s v h) d f (fn_248_65b g b1 b2 b3 b4 b5)
    unfold fn_248_65b
    obtain ⟨n27, ln27, r⟩ := rn_steps 1 (68, [some (.ref 540), some (.int b1), some (.int b2), some (.int b3), some (.int b4), some (.int b5)], [.int b3, .int b5], aa_H g) rfl r
    refine rn_ic (lp_q (iw_s v h) d f) rfl decide_eq_true_iff.symm r (fun c28 l29n l29 r => ?_) (fun c28 l29n l29 r => ?_)
    · obtain ⟨n30, ln30, r⟩ := rn_steps 0 (127, [some (.ref 540), some (.int b1), some (.int b2), some (.int b3), some (.int b4), some (.int b5)], [.int b4], aa_H g) rfl r
      exact rn_ire rfl r
    · obtain ⟨n31, ln31, r⟩ := rn_steps 8 (83, [some (.ref 540), some (.int b1), some (.int b2), some (.int b3), some (.int b4), some (.int b5)], [.int b5, .ref 551, .long b2.toInt64, .int (b1 / 4), .ref 540], aa_H g) rfl r
      obtain ⟨hb33, n32, ln32, r⟩ := rn_ial (k := 551) rfl ⟨by decide, by decide⟩ rfl r
      have r : rn_s _ 248 (84, [some (.ref 540), some (.int b1), some (.int b2), some (.int b3), some (.int b4), some (.int b5)], [.int (g 551 b5.toNatClampNeg), .long b2.toInt64, .int (b1 / 4), .ref 540], aa_H g) v h := r
      obtain ⟨n34, ln34, r⟩ := rn_steps 3 (88, [some (.ref 540), some (.int b1), some (.int b2), some (.int b3), some (.int b4), some (.int b5)], [.int (b1 - b1 / 4 * 4), .long ((g 551 b5.toNatClampNeg).toInt64), .long b2.toInt64, .int (b1 / 4), .ref 540], aa_H g) rfl r
      obtain ⟨_, n35, v1, h1, -, ln35, rc, r⟩ := rn_call (m2 := 208) (as := [.ref 540, .int (b1 / 4), .long b2.toInt64, .long ((g 551 b5.toNatClampNeg).toInt64), .int (b1 - b1 / 4 * 4)]) (rest := []) rfl rfl r
      obtain ⟨rfl, rfl⟩ := dn_208 rc
      have r : rn_s _ 248 (91, [some (.ref 540), some (.int b1), some (.int b2), some (.int b3), some (.int b4), some (.int b5)], [], aa_H (fn_208 g (b1 / 4) b2.toInt64 ((g 551 b5.toNatClampNeg).toInt64) (b1 - b1 / 4 * 4))) v h := r
      exact dn_248_91 (lp_q (iw_s v h) d f) (fun n2 l2 => ih n2 (by omega) (by omega)) (fun z hz => hz) r
theorem dn_248_65 {v : Option Value} {h : zz_H} {n : Nat} {g : aa_G} {b1 : Int32} {b2 : Int32} {b3 : Int32} {b4 : Int32} {b5 : Int32}  (r : rn_s n 248 (65, [some (.ref 540), some (.int b1), some (.int b2), some (.int b3), some (.int b4), some (.int b5)], [], aa_H g) v h) : (iw_s v h) (fn_248_65 g b1 b2 b3 b4 b5) := dn_248_65l  n (Nat.le_refl n) g b4 b5 r
noncomputable def fn_248_33b (g : aa_G) (b1 : Int32) (b2 : Int32) (b3 : Int32) (b4 : Int32) : (aa_G × Int32) ⊕ (Int32 × aa_G) := if b3 ≤ b4 then .inr (fn_248_65 g b1 b2 b3 0 0) else .inl (zz_w g 551 b4.toNatClampNeg (g 546 b4.toNatClampNeg), b4 + 1)
noncomputable def fn_248_33 (g : aa_G) (b1 : Int32) (b2 : Int32) (b3 : Int32) (b4 : Int32) : Int32 × aa_G := lp_f (0, g) (fun z : (aa_G × Int32) => fn_248_33b z.1 b1 b2 b3 z.2) (g, b4)
theorem dn_248_33l {v : Option Value} {h : zz_H} {N : Nat} {b1 : Int32} {b2 : Int32} {b3 : Int32} {d : Int32 × aa_G} : ∀ (n : Nat), n ≤ N → ∀ (g : aa_G) (b4 : Int32) (x5 : Option Value) (jx5 : rn_jk x5), rn_s n 248 (33, [some (.ref 540), some (.int b1), some (.int b2), some (.int b3), some (.int b4), x5], [], aa_H g) v h → (iw_s v h) (lp_f d (fun z : (aa_G × Int32) => fn_248_33b z.1 b1 b2 b3 z.2) (g, b4)) := by
  generalize hf : (fun z : (aa_G × Int32) => fn_248_33b z.1 b1 b2 b3 z.2) = f
  intro n
  induction n using Nat.strongRecOn with
  | _ n ih =>
    intro hN g b4 x5 jx5 r
    refine lp_go ?_
    rw [← congrFun hf (g, b4)]
    show lp_q (iw_s v h) d f (fn_248_33b g b1 b2 b3 b4)
    unfold fn_248_33b
    obtain ⟨n17, ln17, r⟩ := rn_steps 1 (36, [some (.ref 540), some (.int b1), some (.int b2), some (.int b3), some (.int b4), x5], [.int b3, .int b4], aa_H g) rfl r
    refine rn_ic (lp_q (iw_s v h) d f) rfl decide_eq_true_iff.symm r (fun c18 l19n l19 r => ?_) (fun c18 l19n l19 r => ?_)
    · obtain ⟨n20, ln20, r⟩ := rn_steps 3 (65, [some (.ref 540), some (.int b1), some (.int b2), some (.int b3), some (.int 0), some (.int 0)], [], aa_H g) rfl r
      exact dn_248_65 r
    · obtain ⟨n21, ln21, r⟩ := rn_steps 5 (51, [some (.ref 540), some (.int b1), some (.int b2), some (.int b3), some (.int b4), x5], [.int b4, .ref 546, .int b4, .ref 551], aa_H g) rfl r
      obtain ⟨hb23, n22, ln22, r⟩ := rn_ial (k := 546) rfl ⟨by decide, by decide⟩ rfl r
      have r : rn_s _ 248 (52, [some (.ref 540), some (.int b1), some (.int b2), some (.int b3), some (.int b4), x5], [.int (g 546 b4.toNatClampNeg), .int b4, .ref 551], aa_H g) v h := r
      obtain ⟨hb25, n24, ln24, r⟩ := rn_ias (k := 551) rfl ⟨by decide, by decide⟩ rfl r
      have r : rn_s _ 248 (53, [some (.ref 540), some (.int b1), some (.int b2), some (.int b3), some (.int b4), x5], [], aa_H (zz_w g 551 b4.toNatClampNeg (g 546 b4.toNatClampNeg))) v h := r
      obtain ⟨n26, ln26, r⟩ := rn_steps 1 (33, [some (.ref 540), some (.int b1), some (.int b2), some (.int b3), some (.int (b4 + 1)), x5], [], aa_H (zz_w g 551 b4.toNatClampNeg (g 546 b4.toNatClampNeg))) rfl r
      exact ih _ (by omega) (by omega) (zz_w g 551 b4.toNatClampNeg (g 546 b4.toNatClampNeg)) (b4 + 1) x5 jx5 r
theorem dn_248_33 {v : Option Value} {h : zz_H} {n : Nat} {g : aa_G} {b1 : Int32} {b2 : Int32} {b3 : Int32} {b4 : Int32}  (x5 : Option Value) (jx5 : rn_jk x5) (r : rn_s n 248 (33, [some (.ref 540), some (.int b1), some (.int b2), some (.int b3), some (.int b4), x5], [], aa_H g) v h) : (iw_s v h) (fn_248_33 g b1 b2 b3 b4) := dn_248_33l  n (Nat.le_refl n) g b4 x5 jx5 r
noncomputable def fn_248_25 (g : aa_G) (b1 : Int32) (b2 : Int32) : Int32 × aa_G := fn_248_33 g b1 b2 (g 540 26) 0
theorem dn_248_25 {v : Option Value} {h : zz_H} {n : Nat} {g : aa_G} {b1 : Int32} {b2 : Int32}  (x3 x4 x5 : Option Value) (jx3 : rn_jk x3) (jx4 : rn_jk x4) (jx5 : rn_jk x5) (r : rn_s n 248 (25, [some (.ref 540), some (.int b1), some (.int b2), x3, x4, x5], [], aa_H g) v h) : iw_s v h (fn_248_25 g b1 b2) := by
  unfold fn_248_25
  obtain ⟨n16, ln16, r⟩ := rn_steps 4 (33, [some (.ref 540), some (.int b1), some (.int b2), some (.int (g 540 26)), some (.int 0), x5], [], aa_H g) rfl r
  exact dn_248_33 x5 jx5 r
noncomputable def fn_248 (g : aa_G) (a1 : Int32) (a2 : Int32) : Int32 × aa_G := if (fn_239 g a1) = 0 then (-1, g) else if (fn_193 a2) ≠ 0 then fn_248_25 (fn_212 g (a1 / 4) a2) a1 a2 else (-1, g)
theorem dn_248 {v : Option Value} {h : zz_H} {n : Nat} {g : aa_G} {a1 : Int32} {a2 : Int32}  (r : rn_s n 248 (0, zz_in [.ref 540, .int a1, .int a2] (zz_nl 248), [], aa_H g) v h) : iw_s v h (fn_248 g a1 a2) := by
  have r : rn_s n 248 (0, [some (.ref 540), some (.int a1), some (.int a2), none, none, none], [], aa_H g) v h := r
  unfold fn_248
  obtain ⟨n1, ln1, r⟩ := rn_steps 1 (2, [some (.ref 540), some (.int a1), some (.int a2), none, none, none], [.int a1, .ref 540], aa_H g) rfl r
  obtain ⟨_, n2, v1, h1, -, ln2, rc, r⟩ := rn_call (m2 := 239) (as := [.ref 540, .int a1]) (rest := []) rfl rfl r
  obtain ⟨rfl, rfl⟩ := dn_239 rc
  have r : rn_s _ 248 (5, [some (.ref 540), some (.int a1), some (.int a2), none, none, none], [.int (fn_239 g a1)], aa_H g) v h := r
  refine rn_if (iw_s v h) rfl decide_eq_true_iff.symm r (fun c4 l5n l5 r => ?_) (fun c4 l5n l5 r => ?_)
  · obtain ⟨n6, ln6, r⟩ := rn_steps 0 (16, [some (.ref 540), some (.int a1), some (.int a2), none, none, none], [.int (-1)], aa_H g) rfl r
    exact rn_ire rfl r
  · obtain ⟨n7, ln7, r⟩ := rn_steps 0 (9, [some (.ref 540), some (.int a1), some (.int a2), none, none, none], [.int a2], aa_H g) rfl r
    obtain ⟨_, n8, v1, h1, -, ln8, rc, r⟩ := rn_call (m2 := 193) (as := [.int a2]) (rest := []) rfl rfl r
    obtain ⟨rfl, rfl⟩ := dn_193 rc
    have r : rn_s _ 248 (12, [some (.ref 540), some (.int a1), some (.int a2), none, none, none], [.int (fn_193 a2)], aa_H g) v h := r
    refine rn_if (iw_s v h) rfl decide_eq_true_iff.symm r (fun c10 l11n l11 r => ?_) (fun c10 l11n l11 r => ?_)
    · obtain ⟨n12, ln12, r⟩ := rn_steps 4 (22, [some (.ref 540), some (.int a1), some (.int a2), none, none, none], [.int a2, .int (a1 / 4), .ref 540], aa_H g) rfl r
      obtain ⟨_, n13, v1, h1, -, ln13, rc, r⟩ := rn_call (m2 := 212) (as := [.ref 540, .int (a1 / 4), .int a2]) (rest := []) rfl rfl r
      obtain ⟨rfl, rfl⟩ := dn_212 rc
      have r : rn_s _ 248 (25, [some (.ref 540), some (.int a1), some (.int a2), none, none, none], [], aa_H (fn_212 g (a1 / 4) a2)) v h := r
      exact dn_248_25 none none none rn_jn rn_jn rn_jn r
    · obtain ⟨n15, ln15, r⟩ := rn_steps 0 (16, [some (.ref 540), some (.int a1), some (.int a2), none, none, none], [.int (-1)], aa_H g) rfl r
      exact rn_ire rfl r
-- 189: UnequalHoursModel bell
noncomputable def fn_189 (g : aa_G) (a1 : Int32) (a2 : Int32) : Int32 := if (fn_154 a1 0 ((g 541 (2 : Int32).toNatClampNeg) - 1)) = 0 then -1 else if (fn_154 a2 0 4) = 0 then -1 else g 541 ((203 + (7 * a1)) + a2).toNatClampNeg
theorem dn_189 {v : Option Value} {h : zz_H} {n : Nat} {g : aa_G} {a1 : Int32} {a2 : Int32}  (r : rn_s n 189 (0, zz_in [.ref 540, .int a1, .int a2] (zz_nl 189), [], aa_H g) v h) : ir_s g v h (fn_189 g a1 a2) := by
  have r : rn_s n 189 (0, [some (.ref 540), some (.int a1), some (.int a2)], [], aa_H g) v h := r
  unfold fn_189
  obtain ⟨n1, ln1, r⟩ := rn_steps 4 (7, [some (.ref 540), some (.int a1), some (.int a2)], [.int 2, .ref 541, .int 0, .int a1], aa_H g) rfl r
  obtain ⟨hb3, n2, ln2, r⟩ := rn_ial (k := 541) rfl ⟨by decide, by decide⟩ rfl r
  have r : rn_s _ 189 (8, [some (.ref 540), some (.int a1), some (.int a2)], [.int (g 541 (2 : Int32).toNatClampNeg), .int 0, .int a1], aa_H g) v h := r
  obtain ⟨n4, ln4, r⟩ := rn_steps 1 (10, [some (.ref 540), some (.int a1), some (.int a2)], [.int ((g 541 (2 : Int32).toNatClampNeg) - 1), .int 0, .int a1], aa_H g) rfl r
  obtain ⟨_, n5, v1, h1, -, ln5, rc, r⟩ := rn_call (m2 := 154) (as := [.int a1, .int 0, .int ((g 541 (2 : Int32).toNatClampNeg) - 1)]) (rest := []) rfl rfl r
  obtain ⟨rfl, rfl⟩ := dn_154 rc
  have r : rn_s _ 189 (13, [some (.ref 540), some (.int a1), some (.int a2)], [.int (fn_154 a1 0 ((g 541 (2 : Int32).toNatClampNeg) - 1))], aa_H g) v h := r
  refine rn_if (ir_s g v h) rfl decide_eq_true_iff.symm r (fun c7 l8n l8 r => ?_) (fun c7 l8n l8 r => ?_)
  · obtain ⟨n9, ln9, r⟩ := rn_steps 0 (44, [some (.ref 540), some (.int a1), some (.int a2)], [.int (-1)], aa_H g) rfl r
    exact rn_ire rfl r
  · obtain ⟨n10, ln10, r⟩ := rn_steps 2 (19, [some (.ref 540), some (.int a1), some (.int a2)], [.int 4, .int 0, .int a2], aa_H g) rfl r
    obtain ⟨_, n11, v1, h1, -, ln11, rc, r⟩ := rn_call (m2 := 154) (as := [.int a2, .int 0, .int 4]) (rest := []) rfl rfl r
    obtain ⟨rfl, rfl⟩ := dn_154 rc
    have r : rn_s _ 189 (22, [some (.ref 540), some (.int a1), some (.int a2)], [.int (fn_154 a2 0 4)], aa_H g) v h := r
    refine rn_if (ir_s g v h) rfl decide_eq_true_iff.symm r (fun c13 l14n l14 r => ?_) (fun c13 l14n l14 r => ?_)
    · obtain ⟨n15, ln15, r⟩ := rn_steps 0 (44, [some (.ref 540), some (.int a1), some (.int a2)], [.int (-1)], aa_H g) rfl r
      exact rn_ire rfl r
    · obtain ⟨n16, ln16, r⟩ := rn_steps 8 (39, [some (.ref 540), some (.int a1), some (.int a2)], [.int ((203 + (7 * a1)) + a2), .ref 541], aa_H g) rfl r
      obtain ⟨hb18, n17, ln17, r⟩ := rn_ial (k := 541) rfl ⟨by decide, by decide⟩ rfl r
      have r : rn_s _ 189 (40, [some (.ref 540), some (.int a1), some (.int a2)], [.int (g 541 ((203 + (7 * a1)) + a2).toNatClampNeg)], aa_H g) v h := r
      obtain ⟨n19, ln19, r⟩ := rn_steps 0 (44, [some (.ref 540), some (.int a1), some (.int a2)], [.int (g 541 ((203 + (7 * a1)) + a2).toNatClampNeg)], aa_H g) rfl r
      exact rn_ire rfl r
-- 163: UnequalHoursModel countPoints
noncomputable def fn_163_4b (g : aa_G) (b1 : Int32) (b2 : Int32) : (Int32 × Int32) ⊕ Int32 := if (g 541 (0 : Int32).toNatClampNeg) ≤ b2 then .inr b1 else .inl (b1 + (g 541 ((fn_164 b2) + 1).toNatClampNeg), b2 + 1)
noncomputable def fn_163_4 (g : aa_G) (b1 : Int32) (b2 : Int32) : Int32 := lp_f 0 (fun z : (Int32 × Int32) => fn_163_4b g z.1 z.2) (b1, b2)
theorem dn_163_4l {v : Option Value} {h : zz_H} {N : Nat} {g : aa_G}  {d : Int32} : ∀ (n : Nat), n ≤ N → ∀ (b1 : Int32) (b2 : Int32), rn_s n 163 (4, [some (.ref 540), some (.int b1), some (.int b2)], [], aa_H g) v h → (ir_s g v h) (lp_f d (fun z : (Int32 × Int32) => fn_163_4b g z.1 z.2) (b1, b2)) := by
  generalize hf : (fun z : (Int32 × Int32) => fn_163_4b g z.1 z.2) = f
  intro n
  induction n using Nat.strongRecOn with
  | _ n ih =>
    intro hN b1 b2  r
    refine lp_go ?_
    rw [← congrFun hf (b1, b2)]
    show lp_q (ir_s g v h) d f (fn_163_4b g b1 b2)
    unfold fn_163_4b
    obtain ⟨n2, ln2, r⟩ := rn_steps 3 (10, [some (.ref 540), some (.int b1), some (.int b2)], [.int 0, .ref 541, .int b2], aa_H g) rfl r
    obtain ⟨hb4, n3, ln3, r⟩ := rn_ial (k := 541) rfl ⟨by decide, by decide⟩ rfl r
    have r : rn_s _ 163 (11, [some (.ref 540), some (.int b1), some (.int b2)], [.int (g 541 (0 : Int32).toNatClampNeg), .int b2], aa_H g) v h := r
    refine rn_ic (lp_q (ir_s g v h) d f) rfl decide_eq_true_iff.symm r (fun c5 l6n l6 r => ?_) (fun c5 l6n l6 r => ?_)
    · obtain ⟨n7, ln7, r⟩ := rn_steps 0 (35, [some (.ref 540), some (.int b1), some (.int b2)], [.int b1], aa_H g) rfl r
      exact rn_ire rfl r
    · obtain ⟨n8, ln8, r⟩ := rn_steps 3 (20, [some (.ref 540), some (.int b1), some (.int b2)], [.int b2, .ref 541, .int b1], aa_H g) rfl r
      obtain ⟨_, n9, v1, h1, -, ln9, rc, r⟩ := rn_call (m2 := 164) (as := [.int b2]) (rest := [.ref 541, .int b1]) rfl rfl r
      obtain ⟨rfl, rfl⟩ := dn_164 rc
      have r : rn_s _ 163 (23, [some (.ref 540), some (.int b1), some (.int b2)], [.int (fn_164 b2), .ref 541, .int b1], aa_H g) v h := r
      obtain ⟨n11, ln11, r⟩ := rn_steps 1 (25, [some (.ref 540), some (.int b1), some (.int b2)], [.int ((fn_164 b2) + 1), .ref 541, .int b1], aa_H g) rfl r
      obtain ⟨hb13, n12, ln12, r⟩ := rn_ial (k := 541) rfl ⟨by decide, by decide⟩ rfl r
      have r : rn_s _ 163 (26, [some (.ref 540), some (.int b1), some (.int b2)], [.int (g 541 ((fn_164 b2) + 1).toNatClampNeg), .int b1], aa_H g) v h := r
      obtain ⟨n14, ln14, r⟩ := rn_steps 3 (4, [some (.ref 540), some (.int (b1 + (g 541 ((fn_164 b2) + 1).toNatClampNeg))), some (.int (b2 + 1))], [], aa_H g) rfl r
      exact ih _ (by omega) (by omega) (b1 + (g 541 ((fn_164 b2) + 1).toNatClampNeg)) (b2 + 1) r
theorem dn_163_4 {v : Option Value} {h : zz_H} {n : Nat} {g : aa_G} {b1 : Int32} {b2 : Int32}  (r : rn_s n 163 (4, [some (.ref 540), some (.int b1), some (.int b2)], [], aa_H g) v h) : (ir_s g v h) (fn_163_4 g b1 b2) := dn_163_4l  n (Nat.le_refl n) b1 b2 r
noncomputable def fn_163 (g : aa_G)  : Int32 := fn_163_4 g 0 0
theorem dn_163 {v : Option Value} {h : zz_H} {n : Nat} {g : aa_G}   (r : rn_s n 163 (0, zz_in [.ref 540] (zz_nl 163), [], aa_H g) v h) : ir_s g v h (fn_163 g) := by
  have r : rn_s n 163 (0, [some (.ref 540), none, none], [], aa_H g) v h := r
  unfold fn_163
  obtain ⟨n1, ln1, r⟩ := rn_steps 3 (4, [some (.ref 540), some (.int 0), some (.int 0)], [], aa_H g) rfl r
  exact dn_163_4 r
-- 252: UnequalHoursModel is
noncomputable def fn_252_56 (g : aa_G) (b1 : Int32) (b3 : Int32) (b4 : Int32) (s0 : Int32) (s1 : Int32) : (Int32 × Int32) ⊕ ((Int32 × Int32) ⊕ Int32) := .inl (s1 + s0, b4 + 1)
theorem dn_252_56 {v : Option Value} {h : zz_H} {n : Nat} {g : aa_G} {b1 : Int32} {b3 : Int32} {b4 : Int32} {s0 : Int32} {s1 : Int32} (P : (Int32 × Int32) ⊕ ((Int32 × Int32) ⊕ Int32) → Prop) (hO0 : ∀ n2, n2 < n → ∀ (yb2 : Int32) (yb3 : Int32) (yx4 : Option Value) (_ : rn_jk yx4), rn_s n2 252 (4, [some (.ref 540), some (.int b1), some (.int yb2), some (.int yb3), yx4], [], aa_H g) v h → P (.inr (.inl (yb2, yb3)))) (hO1 : ∀ n2, n2 < n → ∀ (yb2 : Int32) (yb4 : Int32), rn_s n2 252 (17, [some (.ref 540), some (.int b1), some (.int yb2), some (.int b3), some (.int yb4)], [], aa_H g) v h → P (.inl (yb2, yb4))) (hR : ∀ E, ir_s g v h E → P (.inr (.inr E)))  (x2 : Option Value) (jx2 : rn_jk x2) (r : rn_s n 252 (56, [some (.ref 540), some (.int b1), x2, some (.int b3), some (.int b4)], [.int s0, .int s1], aa_H g) v h) : P (fn_252_56 g b1 b3 b4 s0 s1) := by
  unfold fn_252_56
  obtain ⟨n53, ln53, r⟩ := rn_steps 3 (17, [some (.ref 540), some (.int b1), some (.int (s1 + s0)), some (.int b3), some (.int (b4 + 1))], [], aa_H g) rfl r
  exact hO1 _ (by omega) (s1 + s0) (b4 + 1) r
noncomputable def fn_252_17b (g : aa_G) (b1 : Int32) (b2 : Int32) (b3 : Int32) (b4 : Int32) : (Int32 × Int32) ⊕ ((Int32 × Int32) ⊕ Int32) := if (g 541 ((fn_164 b3) + 1).toNatClampNeg) ≤ b4 then .inr (.inl (b2, b3 + 1)) else if (g 541 ((fn_175 b3 b4) + 3).toNatClampNeg) = (-1) then fn_252_56 g b1 b3 b4 0 b2 else fn_252_56 g b1 b3 b4 1 b2
noncomputable def fn_252_17 (g : aa_G) (b1 : Int32) (b2 : Int32) (b3 : Int32) (b4 : Int32) : (Int32 × Int32) ⊕ Int32 := lp_f (.inr 0) (fun z : (Int32 × Int32) => fn_252_17b g b1 z.1 b3 z.2) (b2, b4)
theorem dn_252_17l {v : Option Value} {h : zz_H} {N : Nat} {g : aa_G} {b1 : Int32} {b3 : Int32} (P : (Int32 × Int32) ⊕ Int32 → Prop) (hO0 : ∀ n2, n2 < N → ∀ (yb2 : Int32) (yb3 : Int32) (yx4 : Option Value) (_ : rn_jk yx4), rn_s n2 252 (4, [some (.ref 540), some (.int b1), some (.int yb2), some (.int yb3), yx4], [], aa_H g) v h → P (.inl (yb2, yb3))) (hR : ∀ E, ir_s g v h E → P (.inr E)) {d : (Int32 × Int32) ⊕ Int32} : ∀ (n : Nat), n ≤ N → ∀ (b2 : Int32) (b4 : Int32), rn_s n 252 (17, [some (.ref 540), some (.int b1), some (.int b2), some (.int b3), some (.int b4)], [], aa_H g) v h → P (lp_f d (fun z : (Int32 × Int32) => fn_252_17b g b1 z.1 b3 z.2) (b2, b4)) := by
  generalize hf : (fun z : (Int32 × Int32) => fn_252_17b g b1 z.1 b3 z.2) = f
  intro n
  induction n using Nat.strongRecOn with
  | _ n ih =>
    intro hN b2 b4  r
    refine lp_go ?_
    rw [← congrFun hf (b2, b4)]
    show lp_q P d f (fn_252_17b g b1 b2 b3 b4)
    unfold fn_252_17b
    obtain ⟨n33, ln33, r⟩ := rn_steps 3 (24, [some (.ref 540), some (.int b1), some (.int b2), some (.int b3), some (.int b4)], [.int b3, .ref 541, .int b4], aa_H g) rfl r
    obtain ⟨_, n34, v1, h1, -, ln34, rc, r⟩ := rn_call (m2 := 164) (as := [.int b3]) (rest := [.ref 541, .int b4]) rfl rfl r
    obtain ⟨rfl, rfl⟩ := dn_164 rc
    have r : rn_s _ 252 (27, [some (.ref 540), some (.int b1), some (.int b2), some (.int b3), some (.int b4)], [.int (fn_164 b3), .ref 541, .int b4], aa_H g) v h := r
    obtain ⟨n36, ln36, r⟩ := rn_steps 1 (29, [some (.ref 540), some (.int b1), some (.int b2), some (.int b3), some (.int b4)], [.int ((fn_164 b3) + 1), .ref 541, .int b4], aa_H g) rfl r
    obtain ⟨hb38, n37, ln37, r⟩ := rn_ial (k := 541) rfl ⟨by decide, by decide⟩ rfl r
    have r : rn_s _ 252 (30, [some (.ref 540), some (.int b1), some (.int b2), some (.int b3), some (.int b4)], [.int (g 541 ((fn_164 b3) + 1).toNatClampNeg), .int b4], aa_H g) v h := r
    refine rn_ic (lp_q P d f) rfl decide_eq_true_iff.symm r (fun c39 l40n l40 r => ?_) (fun c39 l40n l40 r => ?_)
    · obtain ⟨n41, ln41, r⟩ := rn_steps 1 (4, [some (.ref 540), some (.int b1), some (.int b2), some (.int (b3 + 1)), some (.int b4)], [], aa_H g) rfl r
      exact hO0 _ (by omega) b2 (b3 + 1) (some (.int b4)) rn_ji r
    · obtain ⟨n42, ln42, r⟩ := rn_steps 4 (41, [some (.ref 540), some (.int b1), some (.int b2), some (.int b3), some (.int b4)], [.int b4, .int b3, .ref 541, .int b2], aa_H g) rfl r
      obtain ⟨_, n43, v1, h1, -, ln43, rc, r⟩ := rn_call (m2 := 175) (as := [.int b3, .int b4]) (rest := [.ref 541, .int b2]) rfl rfl r
      obtain ⟨rfl, rfl⟩ := dn_175 rc
      have r : rn_s _ 252 (44, [some (.ref 540), some (.int b1), some (.int b2), some (.int b3), some (.int b4)], [.int (fn_175 b3 b4), .ref 541, .int b2], aa_H g) v h := r
      obtain ⟨n45, ln45, r⟩ := rn_steps 1 (46, [some (.ref 540), some (.int b1), some (.int b2), some (.int b3), some (.int b4)], [.int ((fn_175 b3 b4) + 3), .ref 541, .int b2], aa_H g) rfl r
      obtain ⟨hb47, n46, ln46, r⟩ := rn_ial (k := 541) rfl ⟨by decide, by decide⟩ rfl r
      have r : rn_s _ 252 (47, [some (.ref 540), some (.int b1), some (.int b2), some (.int b3), some (.int b4)], [.int (g 541 ((fn_175 b3 b4) + 3).toNatClampNeg), .int b2], aa_H g) v h := r
      obtain ⟨n48, ln48, r⟩ := rn_steps 0 (48, [some (.ref 540), some (.int b1), some (.int b2), some (.int b3), some (.int b4)], [.int (-1), .int (g 541 ((fn_175 b3 b4) + 3).toNatClampNeg), .int b2], aa_H g) rfl r
      refine rn_ic (lp_q P d f) rfl decide_eq_true_iff.symm r (fun c49 l50n l50 r => ?_) (fun c49 l50n l50 r => ?_)
      · obtain ⟨n51, ln51, r⟩ := rn_steps 0 (56, [some (.ref 540), some (.int b1), some (.int b2), some (.int b3), some (.int b4)], [.int 0, .int b2], aa_H g) rfl r
        exact dn_252_56 (lp_q P d f) (fun n2 l2 => hO0 n2 (by omega)) (fun n2 l2 => ih n2 (by omega) (by omega)) (fun z hz => hR _ hz) (some (.int b2)) rn_ji r
      · obtain ⟨n52, ln52, r⟩ := rn_steps 1 (56, [some (.ref 540), some (.int b1), some (.int b2), some (.int b3), some (.int b4)], [.int 1, .int b2], aa_H g) rfl r
        exact dn_252_56 (lp_q P d f) (fun n2 l2 => hO0 n2 (by omega)) (fun n2 l2 => ih n2 (by omega) (by omega)) (fun z hz => hR _ hz) (some (.int b2)) rn_ji r
theorem dn_252_17 {v : Option Value} {h : zz_H} {n : Nat} {g : aa_G} {b1 : Int32} {b2 : Int32} {b3 : Int32} {b4 : Int32} (P : (Int32 × Int32) ⊕ Int32 → Prop) (hO0 : ∀ n2, n2 < n → ∀ (yb2 : Int32) (yb3 : Int32) (yx4 : Option Value) (_ : rn_jk yx4), rn_s n2 252 (4, [some (.ref 540), some (.int b1), some (.int yb2), some (.int yb3), yx4], [], aa_H g) v h → P (.inl (yb2, yb3))) (hR : ∀ E, ir_s g v h E → P (.inr E))  (r : rn_s n 252 (17, [some (.ref 540), some (.int b1), some (.int b2), some (.int b3), some (.int b4)], [], aa_H g) v h) : P (fn_252_17 g b1 b2 b3 b4) := dn_252_17l P hO0 hR n (Nat.le_refl n) b2 b4 r
noncomputable def fn_252_4b (g : aa_G) (b1 : Int32) (b2 : Int32) (b3 : Int32) : (Int32 × Int32) ⊕ Int32 := if (g 541 (0 : Int32).toNatClampNeg) ≤ b3 then if b1.toInt = 0 then .inr (g 541 b1.toNatClampNeg) else if b1.toInt = 1 then .inr (g 541 b1.toNatClampNeg) else if b1.toInt = 2 then .inr (g 541 b1.toNatClampNeg) else if b1.toInt = 3 then .inr (g 540 1) else if b1.toInt = 4 then .inr (g 540 4) else if b1.toInt = 5 then .inr (fn_163 g) else if b1.toInt = 6 then .inr b2 else .inr (-1) else fn_252_17 g b1 b2 b3 0
noncomputable def fn_252_4 (g : aa_G) (b1 : Int32) (b2 : Int32) (b3 : Int32) : Int32 := lp_f 0 (fun z : (Int32 × Int32) => fn_252_4b g b1 z.1 z.2) (b2, b3)
theorem dn_252_4l {v : Option Value} {h : zz_H} {N : Nat} {g : aa_G} {b1 : Int32} {d : Int32} : ∀ (n : Nat), n ≤ N → ∀ (b2 : Int32) (b3 : Int32) (x4 : Option Value) (jx4 : rn_jk x4), rn_s n 252 (4, [some (.ref 540), some (.int b1), some (.int b2), some (.int b3), x4], [], aa_H g) v h → (ir_s g v h) (lp_f d (fun z : (Int32 × Int32) => fn_252_4b g b1 z.1 z.2) (b2, b3)) := by
  generalize hf : (fun z : (Int32 × Int32) => fn_252_4b g b1 z.1 z.2) = f
  intro n
  induction n using Nat.strongRecOn with
  | _ n ih =>
    intro hN b2 b3 x4 jx4 r
    refine lp_go ?_
    rw [← congrFun hf (b2, b3)]
    show lp_q (ir_s g v h) d f (fn_252_4b g b1 b2 b3)
    unfold fn_252_4b
    obtain ⟨n2, ln2, r⟩ := rn_steps 3 (10, [some (.ref 540), some (.int b1), some (.int b2), some (.int b3), x4], [.int 0, .ref 541, .int b3], aa_H g) rfl r
    obtain ⟨hb4, n3, ln3, r⟩ := rn_ial (k := 541) rfl ⟨by decide, by decide⟩ rfl r
    have r : rn_s _ 252 (11, [some (.ref 540), some (.int b1), some (.int b2), some (.int b3), x4], [.int (g 541 (0 : Int32).toNatClampNeg), .int b3], aa_H g) v h := r
    refine rn_ic (lp_q (ir_s g v h) d f) rfl decide_eq_true_iff.symm r (fun c5 l6n l6 r => ?_) (fun c5 l6n l6 r => ?_)
    · obtain ⟨n7, ln7, r⟩ := rn_steps 0 (71, [some (.ref 540), some (.int b1), some (.int b2), some (.int b3), x4], [.int b1], aa_H g) rfl r
      obtain ⟨n8, ln8, r⟩ := rn_swi rfl r
      refine rn_sw1 (lp_q (ir_s g v h) d f) r (fun c9 r => ?_) (fun c9 r => ?_)
      · have r : rn_s _ 252 (112, [some (.ref 540), some (.int b1), some (.int b2), some (.int b3), x4], [], aa_H g) v h := r
        obtain ⟨n10, ln10, r⟩ := rn_steps 2 (117, [some (.ref 540), some (.int b1), some (.int b2), some (.int b3), x4], [.int b1, .ref 541], aa_H g) rfl r
        obtain ⟨hb12, n11, ln11, r⟩ := rn_ial (k := 541) rfl ⟨by decide, by decide⟩ rfl r
        have r : rn_s _ 252 (118, [some (.ref 540), some (.int b1), some (.int b2), some (.int b3), x4], [.int (g 541 b1.toNatClampNeg)], aa_H g) v h := r
        exact rn_ire rfl r
      · refine rn_sw1 (lp_q (ir_s g v h) d f) r (fun c13 r => ?_) (fun c13 r => ?_)
        · have r : rn_s _ 252 (112, [some (.ref 540), some (.int b1), some (.int b2), some (.int b3), x4], [], aa_H g) v h := r
          obtain ⟨n14, ln14, r⟩ := rn_steps 2 (117, [some (.ref 540), some (.int b1), some (.int b2), some (.int b3), x4], [.int b1, .ref 541], aa_H g) rfl r
          obtain ⟨hb16, n15, ln15, r⟩ := rn_ial (k := 541) rfl ⟨by decide, by decide⟩ rfl r
          have r : rn_s _ 252 (118, [some (.ref 540), some (.int b1), some (.int b2), some (.int b3), x4], [.int (g 541 b1.toNatClampNeg)], aa_H g) v h := r
          exact rn_ire rfl r
        · refine rn_sw1 (lp_q (ir_s g v h) d f) r (fun c17 r => ?_) (fun c17 r => ?_)
          · have r : rn_s _ 252 (112, [some (.ref 540), some (.int b1), some (.int b2), some (.int b3), x4], [], aa_H g) v h := r
            obtain ⟨n18, ln18, r⟩ := rn_steps 2 (117, [some (.ref 540), some (.int b1), some (.int b2), some (.int b3), x4], [.int b1, .ref 541], aa_H g) rfl r
            obtain ⟨hb20, n19, ln19, r⟩ := rn_ial (k := 541) rfl ⟨by decide, by decide⟩ rfl r
            have r : rn_s _ 252 (118, [some (.ref 540), some (.int b1), some (.int b2), some (.int b3), x4], [.int (g 541 b1.toNatClampNeg)], aa_H g) v h := r
            exact rn_ire rfl r
          · refine rn_sw1 (lp_q (ir_s g v h) d f) r (fun c21 r => ?_) (fun c21 r => ?_)
            · have r : rn_s _ 252 (119, [some (.ref 540), some (.int b1), some (.int b2), some (.int b3), x4], [], aa_H g) v h := r
              obtain ⟨n22, ln22, r⟩ := rn_steps 1 (123, [some (.ref 540), some (.int b1), some (.int b2), some (.int b3), x4], [.int (g 540 1)], aa_H g) rfl r
              exact rn_ire rfl r
            · refine rn_sw1 (lp_q (ir_s g v h) d f) r (fun c23 r => ?_) (fun c23 r => ?_)
              · have r : rn_s _ 252 (124, [some (.ref 540), some (.int b1), some (.int b2), some (.int b3), x4], [], aa_H g) v h := r
                obtain ⟨n24, ln24, r⟩ := rn_steps 1 (128, [some (.ref 540), some (.int b1), some (.int b2), some (.int b3), x4], [.int (g 540 4)], aa_H g) rfl r
                exact rn_ire rfl r
              · refine rn_sw1 (lp_q (ir_s g v h) d f) r (fun c25 r => ?_) (fun c25 r => ?_)
                · have r : rn_s _ 252 (129, [some (.ref 540), some (.int b1), some (.int b2), some (.int b3), x4], [], aa_H g) v h := r
                  obtain ⟨n26, ln26, r⟩ := rn_steps 0 (130, [some (.ref 540), some (.int b1), some (.int b2), some (.int b3), x4], [.ref 540], aa_H g) rfl r
                  obtain ⟨_, n27, v1, h1, -, ln27, rc, r⟩ := rn_call (m2 := 163) (as := [.ref 540]) (rest := []) rfl rfl r
                  obtain ⟨rfl, rfl⟩ := dn_163 rc
                  have r : rn_s _ 252 (133, [some (.ref 540), some (.int b1), some (.int b2), some (.int b3), x4], [.int (fn_163 g)], aa_H g) v h := r
                  exact rn_ire rfl r
                · refine rn_sw1 (lp_q (ir_s g v h) d f) r (fun c29 r => ?_) (fun c29 r => ?_)
                  · have r : rn_s _ 252 (134, [some (.ref 540), some (.int b1), some (.int b2), some (.int b3), x4], [], aa_H g) v h := r
                    obtain ⟨n30, ln30, r⟩ := rn_steps 0 (135, [some (.ref 540), some (.int b1), some (.int b2), some (.int b3), x4], [.int b2], aa_H g) rfl r
                    exact rn_ire rfl r
                  · have r : rn_s _ 252 (136, [some (.ref 540), some (.int b1), some (.int b2), some (.int b3), x4], [], aa_H g) v h := r
                    obtain ⟨n31, ln31, r⟩ := rn_steps 0 (137, [some (.ref 540), some (.int b1), some (.int b2), some (.int b3), x4], [.int (-1)], aa_H g) rfl r
                    exact rn_ire rfl r
    · obtain ⟨n32, ln32, r⟩ := rn_steps 1 (17, [some (.ref 540), some (.int b1), some (.int b2), some (.int b3), some (.int 0)], [], aa_H g) rfl r
      exact dn_252_17 (lp_q (ir_s g v h) d f) (fun n2 l2 => ih n2 (by omega) (by omega)) (fun z hz => hz) r
theorem dn_252_4 {v : Option Value} {h : zz_H} {n : Nat} {g : aa_G} {b1 : Int32} {b2 : Int32} {b3 : Int32}  (x4 : Option Value) (jx4 : rn_jk x4) (r : rn_s n 252 (4, [some (.ref 540), some (.int b1), some (.int b2), some (.int b3), x4], [], aa_H g) v h) : (ir_s g v h) (fn_252_4 g b1 b2 b3) := dn_252_4l  n (Nat.le_refl n) b2 b3 x4 jx4 r
noncomputable def fn_252 (g : aa_G) (a1 : Int32) : Int32 := fn_252_4 g a1 0 0
theorem dn_252 {v : Option Value} {h : zz_H} {n : Nat} {g : aa_G} {a1 : Int32}  (r : rn_s n 252 (0, zz_in [.ref 540, .int a1] (zz_nl 252), [], aa_H g) v h) : ir_s g v h (fn_252 g a1) := by
  have r : rn_s n 252 (0, [some (.ref 540), some (.int a1), none, none, none], [], aa_H g) v h := r
  unfold fn_252
  obtain ⟨n1, ln1, r⟩ := rn_steps 3 (4, [some (.ref 540), some (.int a1), some (.int 0), some (.int 0), none], [], aa_H g) rfl r
  exact dn_252_4 none rn_jn r
-- 253: UnequalHoursModel town
noncomputable def fn_253 (g : aa_G) (a1 : Int32) (a2 : Int32) : Int32 := if (fn_192 g a1) ≠ 0 then if (fn_154 a2 0 1) = 0 then if (fn_154 a2 10 (9 + (4 * (g 541 ((fn_164 a1) + 1).toNatClampNeg)))) = 0 then -1000000 else g 541 ((((fn_164 a1) + 2) + a2) - 10).toNatClampNeg else g 541 ((fn_164 a1) + a2).toNatClampNeg else -1000000
theorem dn_253 {v : Option Value} {h : zz_H} {n : Nat} {g : aa_G} {a1 : Int32} {a2 : Int32}  (r : rn_s n 253 (0, zz_in [.ref 540, .int a1, .int a2] (zz_nl 253), [], aa_H g) v h) : ir_s g v h (fn_253 g a1 a2) := by
  have r : rn_s n 253 (0, [some (.ref 540), some (.int a1), some (.int a2), none], [], aa_H g) v h := r
  unfold fn_253
  obtain ⟨n1, ln1, r⟩ := rn_steps 1 (2, [some (.ref 540), some (.int a1), some (.int a2), none], [.int a1, .ref 540], aa_H g) rfl r
  obtain ⟨_, n2, v1, h1, -, ln2, rc, r⟩ := rn_call (m2 := 192) (as := [.ref 540, .int a1]) (rest := []) rfl rfl r
  obtain ⟨rfl, rfl⟩ := dn_192 rc
  have r : rn_s _ 253 (5, [some (.ref 540), some (.int a1), some (.int a2), none], [.int (fn_192 g a1)], aa_H g) v h := r
  refine rn_if (ir_s g v h) rfl decide_eq_true_iff.symm r (fun c4 l5n l5 r => ?_) (fun c4 l5n l5 r => ?_)
  · obtain ⟨n6, ln6, r⟩ := rn_steps 0 (13, [some (.ref 540), some (.int a1), some (.int a2), none], [.int a1], aa_H g) rfl r
    obtain ⟨_, n7, v1, h1, -, ln7, rc, r⟩ := rn_call (m2 := 164) (as := [.int a1]) (rest := []) rfl rfl r
    obtain ⟨rfl, rfl⟩ := dn_164 rc
    have r : rn_s _ 253 (16, [some (.ref 540), some (.int a1), some (.int a2), none], [.int (fn_164 a1)], aa_H g) v h := r
    obtain ⟨n9, ln9, r⟩ := rn_steps 3 (20, [some (.ref 540), some (.int a1), some (.int a2), some (.int (fn_164 a1))], [.int 1, .int 0, .int a2], aa_H g) rfl r
    obtain ⟨_, n10, v1, h1, -, ln10, rc, r⟩ := rn_call (m2 := 154) (as := [.int a2, .int 0, .int 1]) (rest := []) rfl rfl r
    obtain ⟨rfl, rfl⟩ := dn_154 rc
    have r : rn_s _ 253 (23, [some (.ref 540), some (.int a1), some (.int a2), some (.int (fn_164 a1))], [.int (fn_154 a2 0 1)], aa_H g) v h := r
    refine rn_if (ir_s g v h) rfl decide_eq_true_iff.symm r (fun c12 l13n l13 r => ?_) (fun c12 l13n l13 r => ?_)
    · obtain ⟨n14, ln14, r⟩ := rn_steps 8 (50, [some (.ref 540), some (.int a1), some (.int a2), some (.int (fn_164 a1))], [.int ((fn_164 a1) + 1), .ref 541, .int 4, .int 9, .int 10, .int a2], aa_H g) rfl r
      obtain ⟨hb16, n15, ln15, r⟩ := rn_ial (k := 541) rfl ⟨by decide, by decide⟩ rfl r
      have r : rn_s _ 253 (51, [some (.ref 540), some (.int a1), some (.int a2), some (.int (fn_164 a1))], [.int (g 541 ((fn_164 a1) + 1).toNatClampNeg), .int 4, .int 9, .int 10, .int a2], aa_H g) v h := r
      obtain ⟨n17, ln17, r⟩ := rn_steps 1 (53, [some (.ref 540), some (.int a1), some (.int a2), some (.int (fn_164 a1))], [.int (9 + (4 * (g 541 ((fn_164 a1) + 1).toNatClampNeg))), .int 10, .int a2], aa_H g) rfl r
      obtain ⟨_, n18, v1, h1, -, ln18, rc, r⟩ := rn_call (m2 := 154) (as := [.int a2, .int 10, .int (9 + (4 * (g 541 ((fn_164 a1) + 1).toNatClampNeg)))]) (rest := []) rfl rfl r
      obtain ⟨rfl, rfl⟩ := dn_154 rc
      have r : rn_s _ 253 (56, [some (.ref 540), some (.int a1), some (.int a2), some (.int (fn_164 a1))], [.int (fn_154 a2 10 (9 + (4 * (g 541 ((fn_164 a1) + 1).toNatClampNeg))))], aa_H g) v h := r
      refine rn_if (ir_s g v h) rfl decide_eq_true_iff.symm r (fun c20 l21n l21 r => ?_) (fun c20 l21n l21 r => ?_)
      · obtain ⟨n22, ln22, r⟩ := rn_steps 0 (78, [some (.ref 540), some (.int a1), some (.int a2), some (.int (fn_164 a1))], [.int (-1000000)], aa_H g) rfl r
        exact rn_ire rfl r
      · obtain ⟨n23, ln23, r⟩ := rn_steps 8 (71, [some (.ref 540), some (.int a1), some (.int a2), some (.int (fn_164 a1))], [.int ((((fn_164 a1) + 2) + a2) - 10), .ref 541], aa_H g) rfl r
        obtain ⟨hb25, n24, ln24, r⟩ := rn_ial (k := 541) rfl ⟨by decide, by decide⟩ rfl r
        have r : rn_s _ 253 (72, [some (.ref 540), some (.int a1), some (.int a2), some (.int (fn_164 a1))], [.int (g 541 ((((fn_164 a1) + 2) + a2) - 10).toNatClampNeg)], aa_H g) v h := r
        obtain ⟨n26, ln26, r⟩ := rn_steps 0 (78, [some (.ref 540), some (.int a1), some (.int a2), some (.int (fn_164 a1))], [.int (g 541 ((((fn_164 a1) + 2) + a2) - 10).toNatClampNeg)], aa_H g) rfl r
        exact rn_ire rfl r
    · obtain ⟨n27, ln27, r⟩ := rn_steps 4 (33, [some (.ref 540), some (.int a1), some (.int a2), some (.int (fn_164 a1))], [.int ((fn_164 a1) + a2), .ref 541], aa_H g) rfl r
      obtain ⟨hb29, n28, ln28, r⟩ := rn_ial (k := 541) rfl ⟨by decide, by decide⟩ rfl r
      have r : rn_s _ 253 (34, [some (.ref 540), some (.int a1), some (.int a2), some (.int (fn_164 a1))], [.int (g 541 ((fn_164 a1) + a2).toNatClampNeg)], aa_H g) v h := r
      obtain ⟨n30, ln30, r⟩ := rn_steps 0 (78, [some (.ref 540), some (.int a1), some (.int a2), some (.int (fn_164 a1))], [.int (g 541 ((fn_164 a1) + a2).toNatClampNeg)], aa_H g) rfl r
      exact rn_ire rfl r
  · obtain ⟨n31, ln31, r⟩ := rn_steps 0 (11, [some (.ref 540), some (.int a1), some (.int a2), none], [.int (-1000000)], aa_H g) rfl r
    exact rn_ire rfl r
end
section
/-! NUMBERS: what Int32 does, in Int -/
theorem ti_mul {a b : Int32} (h1 : -2147483648 ≤ a.toInt * b.toInt) (h2 : a.toInt * b.toInt ≤ 2147483647) : (a * b).toInt = a.toInt * b.toInt := by
  rw [Int32.toInt_mul]
  exact Int.bmod_eq_of_le (by omega) (by omega)
theorem ti_neg {a : Int32} (h : -2147483647 ≤ a.toInt) : (-a).toInt = -a.toInt := by
  have h2 := a.toInt_lt
  rw [Int32.toInt_neg]
  exact Int.bmod_eq_of_le (by omega) (by omega)
theorem ti_div {a b : Int32} (h1 : 0 ≤ a.toInt) (h2 : 0 < b.toInt) : (a / b).toInt = a.toInt / b.toInt := by
  have h3 := a.toInt_lt
  rw [Int32.toInt_div, Int.tdiv_eq_ediv_of_nonneg h1]
  have q1 : 0 ≤ a.toInt / b.toInt := Int.ediv_nonneg h1 (by omega)
  have q2 : a.toInt / b.toInt ≤ a.toInt := Int.ediv_le_self _ h1
  exact Int.bmod_eq_of_le (by omega) (by omega)
theorem ti_rem {a b : Int32} (h1 : 0 ≤ a.toInt) (h2 : 0 < b.toInt) : (a - a / b * b).toInt = a.toInt % b.toInt := by
  have h3 := a.toInt_lt
  have e1 := ti_div h1 h2
  have q1 : 0 ≤ a.toInt / b.toInt := Int.ediv_nonneg h1 (by omega)
  have q3 : a.toInt / b.toInt * b.toInt ≤ a.toInt := Int.ediv_mul_le _ (by omega)
  have q4 : 0 ≤ a.toInt / b.toInt * b.toInt := Int.mul_nonneg q1 (by omega)
  have e2 : (a / b * b).toInt = a.toInt / b.toInt * b.toInt := by
    rw [ti_mul (by rw [e1]; omega) (by rw [e1]; omega), e1]
  rw [aa_sub32 (by rw [e2]; omega) (by rw [e2]; omega), e2, Int.emod_def, Int.mul_comm b.toInt]
theorem ti_eq {a b : Int32} : a = b ↔ a.toInt = b.toInt := Int32.toInt_inj.symm
theorem ti_ne {a b : Int32} : a ≠ b ↔ a.toInt ≠ b.toInt := not_congr ti_eq
theorem ti_lit (n : Nat) (h : n < 2147483648) : (OfNat.ofNat n : Int32).toInt = n := zz_ofN h
theorem ti_m1 : (-1 : Int32).toInt = -1 := rfl
theorem ti_n {a : Int32} : a.toNatClampNeg = a.toInt.toNat := rfl
/-- a number that is not below 0 is told by a Nat -/
theorem ti_nat {a : Int32} (h : 0 ≤ a.toInt) : ∃ n : Nat, n < 2147483648 ∧ a = Int32.ofNat n ∧ (n : Int) = a.toInt := by
  have h2 := a.toInt_lt
  exact ⟨a.toInt.toNat, by omega, aa_eqN (by omega) (by omega), by omega⟩
/-- two ways of a test of bounds -/
def ti_in (x a b : Int) : Bool := decide (a ≤ x) && decide (x ≤ b)
theorem ti_14 {a b c : Int32} : fn_14 a b c = if b.toInt ≤ a.toInt ∧ a.toInt ≤ c.toInt then 1 else 0 := by
  unfold fn_14
  by_cases h1 : a < b
  · rw [if_pos h1, if_neg fun z => by have := aa_lt32.mp h1; omega]
  · have h1' : b.toInt ≤ a.toInt := by
      have := mt aa_lt32.mpr h1
      omega
    rw [if_neg h1]
    by_cases h2 : c < a
    · rw [if_pos h2, if_neg fun z => by have := aa_lt32.mp h2; omega]
    · have h2' : a.toInt ≤ c.toInt := by
        have := mt aa_lt32.mpr h2
        omega
      rw [if_neg h2, if_pos ⟨h1', h2'⟩]
theorem ti_b0 {p : Prop} {ip : Decidable p} : (@ite Int32 p ip 1 0 = 0) ↔ ¬ p := by
  by_cases h : p
  · rw [if_pos h]
    exact ⟨fun z => absurd z (by decide), fun z => absurd h z⟩
  · rw [if_neg h]
    exact ⟨fun _ => h, fun _ => rfl⟩
theorem ti_14z {a b c : Int32} : fn_14 a b c = 0 ↔ ¬ (b.toInt ≤ a.toInt ∧ a.toInt ≤ c.toInt) := by rw [ti_14]; exact ti_b0
theorem ti_14n {a b c : Int32} : fn_14 a b c ≠ 0 ↔ (b.toInt ≤ a.toInt ∧ a.toInt ≤ c.toInt) := by
  rw [Ne, ti_14z, Decidable.not_not]
theorem ti_77z {a : Int32} : fn_77 a = 0 ↔ ¬ (0 ≤ a.toInt ∧ a.toInt ≤ 35999) := ti_14z
theorem ti_77n {a : Int32} : fn_77 a ≠ 0 ↔ (0 ≤ a.toInt ∧ a.toInt ≤ 35999) := ti_14n
/-- floorMod, floorDiv by a number above 0 -/
theorem ti_xor {a b : Int32} (hb : 0 < b.toInt) : 0 ≤ (a ^^^ b) ↔ 0 ≤ a.toInt := by
  rw [aa_le32]
  have e : (a ^^^ b).toInt = (a.toBitVec ^^^ b.toBitVec).toInt := rfl
  have ea : a.toInt = a.toBitVec.toInt := rfl
  have eb : b.toInt = b.toBitVec.toInt := rfl
  rw [show (0 : Int32).toInt = 0 from rfl, e, ea]
  rw [eb] at hb
  have mb : b.toBitVec.msb = false := by
    cases h : b.toBitVec.msb with
    | false => rfl
    | true =>
      have := BitVec.toInt_neg_of_msb_true h
      omega
  have hm : (a.toBitVec ^^^ b.toBitVec).msb = a.toBitVec.msb := by
    rw [BitVec.msb_xor, mb]
    cases a.toBitVec.msb <;> rfl
  constructor
  · intro z
    cases h : a.toBitVec.msb with
    | false => exact BitVec.toInt_nonneg_of_msb_false h
    | true =>
      have := BitVec.toInt_neg_of_msb_true (hm.trans h)
      omega
  · intro z
    cases h : a.toBitVec.msb with
    | false => exact BitVec.toInt_nonneg_of_msb_false (hm.trans h)
    | true =>
      have := BitVec.toInt_neg_of_msb_true h
      omega
theorem ti_dneg {a b : Int32} (ha : a.toInt < 0) (h0 : -2147483647 ≤ a.toInt) (hb : 0 < b.toInt) : (a / b).toInt = -((-a.toInt) / b.toInt) := by
  rw [Int32.toInt_div]
  have e : a.toInt.tdiv b.toInt = -((-a.toInt) / b.toInt) := by
    rw [← Int.tdiv_eq_ediv_of_nonneg (by omega), Int.neg_tdiv, Int.neg_neg]
  rw [e]
  have q1 : 0 ≤ (-a.toInt) / b.toInt := Int.ediv_nonneg (by omega) (by omega)
  have q2 : (-a.toInt) / b.toInt ≤ -a.toInt := Int.ediv_le_self _ (by omega)
  exact Int.bmod_eq_of_le (by omega) (by omega)
theorem ti_fl {x y : Int} (hy : 0 < y) : x / y = if (-x) / y * y = -x then -((-x) / y) else -((-x) / y) - 1 := by
  have k1 := Int.emod_add_mul_ediv (-x) y
  have k2 := Int.emod_nonneg (-x) (show y ≠ 0 by omega)
  have k3 := Int.emod_lt_of_pos (-x) hy
  have c1 : y * ((-x) / y) = (-x) / y * y := Int.mul_comm _ _
  split
  · rename_i e
    have e2 : x = -((-x) / y) * y := by rw [Int.neg_mul]; omega
    rw [Int.ediv_eq_iff_of_pos hy]
    constructor
    · omega
    · have : (-((-x) / y) + 1) * y = -((-x) / y) * y + y := by rw [Int.add_mul, Int.one_mul]
      omega
  · rename_i e
    rw [Int.ediv_eq_iff_of_pos hy]
    have e3 : (-((-x) / y) - 1) * y = -((-x) / y * y) - y := by rw [Int.sub_mul, Int.neg_mul, Int.one_mul]
    have e4 : (-((-x) / y) - 1 + 1) * y = -((-x) / y * y) := by rw [Int.sub_add_cancel, Int.neg_mul]
    constructor
    · omega
    · omega
theorem ti_82 {a b : Int32} (h0 : -2147483647 ≤ a.toInt) (hb : 0 < b.toInt) : (fn_82 a b).toInt = a.toInt / b.toInt := by
  have ha2 := a.toInt_lt
  unfold fn_82
  by_cases h : 0 ≤ a.toInt
  · rw [if_pos ((ti_xor hb).mpr h), ti_div h hb]
  · rw [if_neg fun z => h ((ti_xor hb).mp z)]
    have e := ti_dneg (by omega) h0 hb
    have q1 : 0 ≤ (-a.toInt) / b.toInt := Int.ediv_nonneg (by omega) (by omega)
    have q3 : (-a.toInt) / b.toInt * b.toInt ≤ -a.toInt := Int.ediv_mul_le _ (by omega)
    have q4 : 0 ≤ (-a.toInt) / b.toInt * b.toInt := Int.mul_nonneg q1 (by omega)
    have q2 : (-a.toInt) / b.toInt ≤ -a.toInt := Int.ediv_le_self _ (by omega)
    have e2 : (a / b * b).toInt = -((-a.toInt) / b.toInt * b.toInt) := by
      rw [ti_mul (by rw [e, Int.neg_mul]; omega) (by rw [e, Int.neg_mul]; omega), e, Int.neg_mul]
    rw [ti_fl hb]
    by_cases h5 : a / b * b = a
    · have h6 := ti_eq.mp h5
      rw [e2] at h6
      rw [if_pos h5, if_pos (by omega), e]
    · have h6 := mt ti_eq.mpr h5
      rw [e2] at h6
      rw [if_neg h5, if_neg (by omega), aa_sub32 (by rw [e, show (1 : Int32).toInt = 1 from rfl]; omega) (by rw [e, show (1 : Int32).toInt = 1 from rfl]; omega), e]
      rfl
theorem ti_81 {a b : Int32} (h0 : -2147483647 ≤ a.toInt) (hb : 0 < b.toInt) : (fn_81 a b).toInt = a.toInt % b.toInt := by
  have ha2 := a.toInt_lt
  have hb2 := b.toInt_lt
  unfold fn_81
  by_cases h : 0 ≤ a.toInt
  · rw [if_pos ((ti_xor hb).mpr h), ti_rem h hb]
  · rw [if_neg fun z => h ((ti_xor hb).mp z)]
    have e := ti_dneg (by omega) h0 hb
    have q1 : 0 ≤ (-a.toInt) / b.toInt := Int.ediv_nonneg (by omega) (by omega)
    have q3 : (-a.toInt) / b.toInt * b.toInt ≤ -a.toInt := Int.ediv_mul_le _ (by omega)
    have q4 : 0 ≤ (-a.toInt) / b.toInt * b.toInt := Int.mul_nonneg q1 (by omega)
    have k1 := Int.emod_add_mul_ediv (-a.toInt) b.toInt
    have k2 := Int.emod_nonneg (-a.toInt) (show b.toInt ≠ 0 by omega)
    have k3 := Int.emod_lt_of_pos (-a.toInt) hb
    have c1 : b.toInt * ((-a.toInt) / b.toInt) = (-a.toInt) / b.toInt * b.toInt := Int.mul_comm _ _
    have e2 : (a / b * b).toInt = -((-a.toInt) / b.toInt * b.toInt) := by
      rw [ti_mul (by rw [e, Int.neg_mul]; omega) (by rw [e, Int.neg_mul]; omega), e, Int.neg_mul]
    have e3 : (a - a / b * b).toInt = a.toInt + (-a.toInt) / b.toInt * b.toInt := by
      rw [aa_sub32 (by rw [e2]; omega) (by rw [e2]; omega), e2]
      omega
    have ef : a.toInt % b.toInt = a.toInt - (a.toInt / b.toInt) * b.toInt := by rw [Int.emod_def, Int.mul_comm]
    rw [ef, ti_fl hb]
    by_cases h5 : (a - a / b * b) = 0
    · have h6 := ti_eq.mp h5
      rw [e3, show (0 : Int32).toInt = 0 from rfl] at h6
      rw [if_pos h5, if_pos (by omega), e3, Int.neg_mul]
      omega
    · have h6 := mt ti_eq.mpr h5
      rw [e3, show (0 : Int32).toInt = 0 from rfl] at h6
      rw [if_neg h5, if_neg (by omega), aa_add32 (by rw [e3]; omega) (by rw [e3]; omega), e3, Int.sub_mul, Int.neg_mul, Int.one_mul]
      omega
end
section
/-! TABLE: what the class and the model reckon -/
/-- a town's points: w 1 their YDAYS, w 2 DAWN, w 3 DUSK, w 4 POLAR; how many from the first on are not behind a YDAY -/
def tw_k (w : Nat → Nat → Int) (v : Int) : Nat → Nat
  | 0 => 0
  | n + 1 => if tw_k w v n = n ∧ w 1 n ≤ v then n + 1 else tw_k w v n
theorem tw_k_le (w : Nat → Nat → Int) (v : Int) : ∀ c, tw_k w v c ≤ c
  | 0 => Nat.le_refl 0
  | n + 1 => by
    unfold tw_k
    split
    · exact Nat.le_refl _
    · exact Nat.le_succ_of_le (tw_k_le w v n)
theorem tw_k_lo (w : Nat → Nat → Int) (v : Int) : ∀ c i, i < tw_k w v c → w 1 i ≤ v
  | 0, i, h => absurd h (Nat.not_lt_zero i)
  | n + 1, i, h => by
    unfold tw_k at h
    split at h
    · rename_i e
      by_cases hi : i < n
      · exact tw_k_lo w v n i (by omega)
      · rw [show i = n by omega]
        exact e.2
    · exact tw_k_lo w v n i h
theorem tw_k_hi (w : Nat → Nat → Int) (v : Int) : ∀ c, tw_k w v c < c → v < w 1 (tw_k w v c)
  | 0, h => absurd h (Nat.not_lt_zero _)
  | n + 1, h => by
    by_cases e : tw_k w v n = n ∧ w 1 n ≤ v
    · rw [show tw_k w v (n + 1) = n + 1 from if_pos e] at h
      omega
    · have e2 : tw_k w v (n + 1) = tw_k w v n := if_neg e
      rw [e2] at h ⊢
      have hl := tw_k_le w v n
      by_cases hn : tw_k w v n = n
      · rw [hn]
        have := fun z => e ⟨hn, z⟩
        omega
      · exact tw_k_hi w v n (by omega)
def tw_A (w : Nat → Nat → Int) (v : Int) (c : Nat) : Nat := if tw_k w v c = 0 then c - 1 else tw_k w v c - 1
def tw_B (w : Nat → Nat → Int) (v : Int) (c : Nat) : Nat := if w 1 (tw_A w v c) = v then tw_A w v c else if tw_A w v c + 1 < c then tw_A w v c + 1 else 0
def tw_P (w : Nat → Nat → Int) (v : Int) (c : Nat) : Int := if c = 0 then 0 else if w 4 (tw_A w v c) ≠ -1 then w 4 (tw_A w v c) else w 4 (tw_B w v c)
def tw_D (w : Nat → Nat → Int) (v : Int) (c o : Nat) : Int := w o (tw_A w v c) + (w o (tw_B w v c) - w o (tw_A w v c)) * ((v - w 1 (tw_A w v c)) % 360) / ((w 1 (tw_B w v c) - w 1 (tw_A w v c)) % 360)
/-- points as they should be -/
def tw_ok (w : Nat → Nat → Int) (c : Nat) : Prop := c ≤ 12 ∧ (∀ i, i < c → 0 ≤ w 1 i ∧ w 1 i ≤ 359) ∧ (∀ i, i + 1 < c → w 1 i < w 1 (i + 1)) ∧ ∀ i, i < c → (-1 ≤ w 2 i ∧ w 2 i ≤ 86399) ∧ (-1 ≤ w 3 i ∧ w 3 i ≤ 86399) ∧ (-1 ≤ w 4 i ∧ w 4 i ≤ 1) ∧ (w 4 i = -1 → 0 ≤ w 2 i ∧ w 2 i < w 3 i)
theorem tw_A_lt {w : Nat → Nat → Int} {v : Int} {c : Nat} (hc : 0 < c) : tw_A w v c < c := by
  have := tw_k_le w v c
  unfold tw_A
  split <;> omega
theorem tw_B_lt {w : Nat → Nat → Int} {v : Int} {c : Nat} (hc : 0 < c) : tw_B w v c < c := by
  have := tw_A_lt (w := w) (v := v) hc
  unfold tw_B
  split
  · exact this
  · split <;> omega
theorem tw_k_cg {w w' : Nat → Nat → Int} {v : Int} : ∀ c, (∀ i, i < c → w' 1 i = w 1 i) → tw_k w' v c = tw_k w v c
  | 0, _ => rfl
  | n + 1, h => by
    unfold tw_k
    rw [tw_k_cg n fun i hi => h i (by omega), h n (by omega)]
theorem tw_A_cg {w w' : Nat → Nat → Int} {v : Int} {c : Nat} (h : ∀ i, i < c → w' 1 i = w 1 i) : tw_A w' v c = tw_A w v c := by
  unfold tw_A
  rw [tw_k_cg c h]
theorem tw_B_cg {w w' : Nat → Nat → Int} {v : Int} {c : Nat} (hc : 0 < c) (h : ∀ i, i < c → w' 1 i = w 1 i) : tw_B w' v c = tw_B w v c := by
  unfold tw_B
  rw [tw_A_cg h, h _ (tw_A_lt hc)]
theorem tw_P_cg {w w' : Nat → Nat → Int} {v : Int} {c : Nat} (h : ∀ o i, 1 ≤ o → o ≤ 4 → i < c → w' o i = w o i) : tw_P w' v c = tw_P w v c := by
  unfold tw_P
  by_cases hc : c = 0
  · rw [if_pos hc, if_pos hc]
  · have h1 : ∀ i, i < c → w' 1 i = w 1 i := fun i hi => h 1 i (by omega) (by omega) hi
    rw [if_neg hc, if_neg hc, tw_A_cg h1, tw_B_cg (by omega) h1, h 4 _ (by omega) (by omega) (tw_A_lt (by omega)), h 4 _ (by omega) (by omega) (tw_B_lt (by omega))]
theorem tw_D_cg {w w' : Nat → Nat → Int} {v : Int} {c o : Nat} (hc : 0 < c) (ho : o = 2 ∨ o = 3) (h : ∀ o i, 1 ≤ o → o ≤ 4 → i < c → w' o i = w o i) : tw_D w' v c o = tw_D w v c o := by
  have h1 : ∀ i, i < c → w' 1 i = w 1 i := fun i hi => h 1 i (by omega) (by omega) hi
  unfold tw_D
  rw [tw_A_cg h1, tw_B_cg hc h1, h o _ (by omega) (by omega) (tw_A_lt hc), h o _ (by omega) (by omega) (tw_B_lt hc), h1 _ (tw_A_lt hc), h1 _ (tw_B_lt hc)]
theorem tw_mono {w : Nat → Nat → Int} {c : Nat} (h : ∀ i, i + 1 < c → w 1 i < w 1 (i + 1)) : ∀ (d i : Nat), i + d < c → w 1 i + d ≤ w 1 (i + d)
  | 0, i, _ => by simp
  | d + 1, i, hi => by
    have h1 := tw_mono h d i (by omega)
    have h2 := h (i + d) (by omega)
    have e : i + (d + 1) = i + d + 1 := by omega
    rw [e]
    omega
/-- of the two points that a YDAY lies between: how far it is from them -/
theorem tw_since {w : Nat → Nat → Int} {v : Int} {c : Nat} (h : tw_ok w c) (hc : 0 < c) (hv : 0 ≤ v ∧ v ≤ 359) : (w 1 (tw_B w v c) - w 1 (tw_A w v c)) % 360 = 0 ∨ (v - w 1 (tw_A w v c)) % 360 ≤ (w 1 (tw_B w v c) - w 1 (tw_A w v c)) % 360 := by
  obtain ⟨-, hy, hm, -⟩ := h
  by_cases e1 : w 1 (tw_A w v c) = v
  · rw [show tw_B w v c = tw_A w v c from if_pos e1, Int.sub_self]
    left
    rfl
  · have eB : tw_B w v c = if tw_A w v c + 1 < c then tw_A w v c + 1 else 0 := if_neg e1
    have hk := tw_k_le w v c
    have Y0 := hy 0 (by omega)
    have YL := hy (c - 1) (by omega)
    by_cases hk0 : tw_k w v c = 0
    · have eA : tw_A w v c = c - 1 := if_pos hk0
      have eB0 : tw_B w v c = 0 := by rw [eB, eA, if_neg (by omega)]
      have h0 := tw_k_hi w v c (by omega)
      rw [hk0] at h0
      rw [eB0, eA]
      by_cases hc1 : c - 1 = 0
      · rw [hc1, Int.sub_self]
        left
        rfl
      · have := tw_mono hm (c - 1) 0 (by omega)
        rw [Nat.zero_add] at this
        right
        omega
    · have eA : tw_A w v c = tw_k w v c - 1 := if_neg hk0
      have h0 := tw_k_lo w v c (tw_k w v c - 1) (by omega)
      rw [eA] at e1
      by_cases hkc : tw_k w v c < c
      · have eB1 : tw_B w v c = tw_k w v c := by rw [eB, eA, if_pos (by omega)]; omega
        have h1 := tw_k_hi w v c hkc
        have YK := hy (tw_k w v c) hkc
        have YK1 := hy (tw_k w v c - 1) (by omega)
        rw [eB1, eA]
        right
        omega
      · have eB1 : tw_B w v c = 0 := by rw [eB, eA, if_neg (by omega)]
        have hkc : tw_k w v c = c := by omega
        rw [hkc] at e1 h0
        rw [eB1, eA, hkc]
        by_cases hc1 : c - 1 = 0
        · rw [hc1, Int.sub_self]
          left
          rfl
        · have := tw_mono hm (c - 1) 0 (by omega)
          rw [Nat.zero_add] at this
          right
          omega
theorem tw_D_b {w : Nat → Nat → Int} {v : Int} {c : Nat} (h : tw_ok w c) (hc : 0 < c) (hv : 0 ≤ v ∧ v ≤ 359) (hP : tw_P w v c = -1) : 0 ≤ tw_D w v c 2 ∧ tw_D w v c 2 < tw_D w v c 3 ∧ tw_D w v c 3 ≤ 86399 := by
  have hs := tw_since h hc hv
  have hA := tw_A_lt (w := w) (v := v) hc
  have hB := tw_B_lt (w := w) (v := v) hc
  obtain ⟨-, hy, -, hd⟩ := h
  obtain ⟨a1, a2, a3, a4⟩ := hd _ hA
  obtain ⟨b1, b2, b3, b4⟩ := hd _ hB
  unfold tw_P at hP
  rw [if_neg (by omega)] at hP
  have hPA : w 4 (tw_A w v c) = -1 := by
    by_cases z : w 4 (tw_A w v c) = -1
    · exact z
    · rw [if_pos z] at hP
      exact absurd hP z
  rw [if_neg fun z => z hPA] at hP
  have qa := a4 hPA
  have qb := b4 hP
  unfold tw_D
  have m1 := Int.emod_nonneg (v - w 1 (tw_A w v c)) (show (360 : Int) ≠ 0 by decide)
  have m2 := Int.emod_nonneg (w 1 (tw_B w v c) - w 1 (tw_A w v c)) (show (360 : Int) ≠ 0 by decide)
  generalize (v - w 1 (tw_A w v c)) % 360 = s at hs m1 ⊢
  generalize (w 1 (tw_B w v c) - w 1 (tw_A w v c)) % 360 = D at hs m2 ⊢
  generalize w 2 (tw_A w v c) = p2 at *
  generalize w 3 (tw_A w v c) = p3 at *
  generalize w 2 (tw_B w v c) = r2 at *
  generalize w 3 (tw_B w v c) = r3 at *
  rcases hs with hs | hs
  · rw [hs, Int.ediv_zero, Int.ediv_zero]
    omega
  · have k := aa_mid (a1 := p2) (a2 := p3) (b1 := r2) (b2 := r3) (p := s) (q := D - s) (by omega) (by omega) (by omega) (by omega) (by omega) (by omega) (by omega) (by omega)
    rwa [show s + (D - s) = D by omega] at k
/-! the class's readBetween, readTable, look -/
def cw_t (g : aa_G) (T : Nat) : Nat → Nat → Int := fun o i => (g (T + o) i).toInt
theorem ti_ofN {n : Nat} (h : n < 12) : (Int32.ofNat n).toNatClampNeg = n := zz_toN (by omega)
theorem rb_mul {x s : Int} (hx : -86400 ≤ x ∧ x ≤ 86400) (hs : 0 ≤ s ∧ s ≤ 359) : -31017600 ≤ x * s ∧ x * s ≤ 31017600 := by
  have e1 : x * s ≤ 86400 * s := Int.mul_le_mul_of_nonneg_right hx.2 hs.1
  have e2 : -86400 * s ≤ x * s := Int.mul_le_mul_of_nonneg_right hx.1 hs.1
  omega
/-- a step of the reckoning between two points -/
theorem rb_step {p q s D : Int32} (hp : -1 ≤ p.toInt ∧ p.toInt ≤ 86399) (hq : -1 ≤ q.toInt ∧ q.toInt ≤ 86399) (hs : 0 ≤ s.toInt ∧ s.toInt ≤ 359) (hD : 0 < D.toInt ∧ D.toInt ≤ 359) : (p + fn_82 ((q - p) * s) D).toInt = p.toInt + (q.toInt - p.toInt) * s.toInt / D.toInt := by
  have e1 : (q - p).toInt = q.toInt - p.toInt := aa_sub32 (by omega) (by omega)
  have m := rb_mul (x := q.toInt - p.toInt) (by omega) hs
  have e2 : ((q - p) * s).toInt = (q.toInt - p.toInt) * s.toInt := by rw [ti_mul (by rw [e1]; omega) (by rw [e1]; omega), e1]
  have e3 : (fn_82 ((q - p) * s) D).toInt = (q.toInt - p.toInt) * s.toInt / D.toInt := by rw [ti_82 (by rw [e2]; omega) hD.1, e2]
  generalize (q.toInt - p.toInt) * s.toInt = z at *
  have b1 : z / D.toInt ≤ 31017600 := Int.ediv_le_of_le_mul hD.1 (by have : 31017600 * 1 ≤ 31017600 * D.toInt := Int.mul_le_mul_of_nonneg_left (by omega) (by omega); omega)
  have b2 : -31017600 ≤ z / D.toInt := Int.le_ediv_of_mul_le hD.1 (by have : 31017600 * 1 ≤ 31017600 * D.toInt := Int.mul_le_mul_of_nonneg_left (by omega) (by omega); omega)
  rw [aa_add32 (by rw [e3]; omega) (by rw [e3]; omega), e3]
theorem rb_m {y a : Int32} (h1 : 0 ≤ y.toInt ∧ y.toInt ≤ 359) (h2 : 0 ≤ a.toInt ∧ a.toInt ≤ 359) : (fn_81 (y - a) 360).toInt = (y.toInt - a.toInt) % 360 := by
  have e : (y - a).toInt = y.toInt - a.toInt := aa_sub32 (by omega) (by omega)
  rw [ti_81 (by rw [e]; omega) (by decide), e]
  rfl
theorem rb_all {g : aa_G} {P T a b : Nat} {y : Int32} (hd : P < T ∨ T + 4 < P) (ha : a < 12) (hb : b < 12) (ya : 0 ≤ cw_t g T 1 a ∧ cw_t g T 1 a ≤ 359) (yb : 0 ≤ cw_t g T 1 b ∧ cw_t g T 1 b ≤ 359) (hy : 0 ≤ y.toInt ∧ y.toInt ≤ 359) (a2 : -1 ≤ cw_t g T 2 a ∧ cw_t g T 2 a ≤ 86399) (a3 : -1 ≤ cw_t g T 3 a ∧ cw_t g T 3 a ≤ 86399) (b2 : -1 ≤ cw_t g T 2 b ∧ cw_t g T 2 b ≤ 86399) (b3 : -1 ≤ cw_t g T 3 b ∧ cw_t g T 3 b ≤ 86399) {g' : aa_G} (hg : fn_80 g P T (Int32.ofNat a) (Int32.ofNat b) y = g') :
    (g' P 5).toInt = (if cw_t g T 4 a ≠ -1 then cw_t g T 4 a else cw_t g T 4 b) ∧ (∀ k j, ¬ (k = P ∧ 5 ≤ j ∧ j ≤ 7) → g' k j = g k j) ∧
      ((g' P 5).toInt = -1 → (g' P 6).toInt = cw_t g T 2 a + (cw_t g T 2 b - cw_t g T 2 a) * ((y.toInt - cw_t g T 1 a) % 360) / ((cw_t g T 1 b - cw_t g T 1 a) % 360) ∧ (g' P 7).toInt = cw_t g T 3 a + (cw_t g T 3 b - cw_t g T 3 a) * ((y.toInt - cw_t g T 1 a) % 360) / ((cw_t g T 1 b - cw_t g T 1 a) % 360)) := by
  have e0 : fn_80 g P T (Int32.ofNat a) (Int32.ofNat b) y = fn_80_26 g P T (Int32.ofNat a) (Int32.ofNat b) y (if g (T + 4) a = -1 then g (T + 4) b else g (T + 4) a) := by
    unfold fn_80
    rw [ti_ofN ha, ti_ofN hb]
    by_cases h : g (T + 4) a = -1
    · rw [if_pos h, if_pos h]
    · rw [if_neg h, if_neg h]
  rw [e0] at hg
  have hs0 : (if g (T + 4) a = -1 then g (T + 4) b else g (T + 4) a).toInt = (if cw_t g T 4 a ≠ -1 then cw_t g T 4 a else cw_t g T 4 b) := by
    by_cases h : g (T + 4) a = -1
    · have h2 : cw_t g T 4 a = -1 := by unfold cw_t; rw [h]; rfl
      rw [if_pos h, if_neg (fun z => z h2)]
      rfl
    · have h2 : cw_t g T 4 a ≠ -1 := fun z => h (ti_eq.mpr z)
      rw [if_neg h, if_pos h2]
      rfl
  generalize (if g (T + 4) a = -1 then g (T + 4) b else g (T + 4) a) = s0 at hg hs0
  unfold fn_80_26 fn_80_35 fn_80_45 at hg
  rw [ti_ofN ha, aa_w_ne g s0 (by omega : ¬ (T + 2 = P ∧ a = 5))] at hg
  generalize h1 : zz_w g P 5 s0 = g1 at hg
  rw [show zz_w g1 P 6 (g (T + 2) a) (T + 3) a = g (T + 3) a from by rw [aa_w_ne _ _ (by omega), ← h1, aa_w_ne _ _ (by omega)]] at hg
  generalize h3 : zz_w (zz_w g1 P 6 (g (T + 2) a)) P 7 (g (T + 3) a) = g3 at hg
  have f3 : ∀ k j, ¬ (k = P ∧ 5 ≤ j ∧ j ≤ 7) → g3 k j = g k j := fun k j z => by
    rw [← h3, aa_w_ne _ _ (by omega), aa_w_ne _ _ (by omega), ← h1, aa_w_ne _ _ (by omega)]
  have p5 : g3 P 5 = s0 := by rw [← h3, aa_w_ne _ _ (by omega), aa_w_ne _ _ (by omega), ← h1, aa_w_at]
  have p6 : g3 P 6 = g (T + 2) a := by rw [← h3, aa_w_ne _ _ (by omega), aa_w_at]
  have p7 : g3 P 7 = g (T + 3) a := by rw [← h3, aa_w_at]
  have ft : ∀ o i, 1 ≤ o → o ≤ 4 → g3 (T + o) i = g (T + o) i := fun o i o1 o2 => f3 _ _ (by omega)
  unfold fn_80_54 at hg
  rw [ti_ofN ha, ti_ofN hb, p5, p6, ft 1 a (by omega) (by omega), ft 1 b (by omega) (by omega), ft 2 b (by omega) (by omega)] at hg
  have eD : (fn_81 (g (T + 1) b - g (T + 1) a) 360).toInt = (cw_t g T 1 b - cw_t g T 1 a) % 360 := rb_m yb ya
  have eS : (fn_81 (y - g (T + 1) a) 360).toInt = (y.toInt - cw_t g T 1 a) % 360 := rb_m hy ya
  have mD := Int.emod_nonneg (cw_t g T 1 b - cw_t g T 1 a) (show (360 : Int) ≠ 0 by decide)
  have mD2 := Int.emod_lt_of_pos (cw_t g T 1 b - cw_t g T 1 a) (show (0 : Int) < 360 by decide)
  have mS := Int.emod_nonneg (y.toInt - cw_t g T 1 a) (show (360 : Int) ≠ 0 by decide)
  have mS2 := Int.emod_lt_of_pos (y.toInt - cw_t g T 1 a) (show (0 : Int) < 360 by decide)
  by_cases hp : s0 = -1
  · rw [if_neg (fun z => z hp)] at hg
    by_cases hz : fn_81 (g (T + 1) b - g (T + 1) a) 360 ≤ 0
    · have hz2 := aa_le32.mp hz
      rw [eD, show (0 : Int32).toInt = 0 from rfl] at hz2
      have hz3 : (cw_t g T 1 b - cw_t g T 1 a) % 360 = 0 := by omega
      rw [if_pos hz] at hg
      subst hg
      refine ⟨by rw [p5]; exact hs0, f3, fun _ => ?_⟩
      rw [p6, p7, hz3, Int.ediv_zero, Int.ediv_zero]
      exact ⟨(Int.add_zero _).symm, (Int.add_zero _).symm⟩
    · have hz2 := mt aa_le32.mpr hz
      rw [eD, show (0 : Int32).toInt = 0 from rfl] at hz2
      rw [if_neg hz] at hg
      unfold fn_80_130 at hg
      rw [ti_ofN hb] at hg
      have hD : 0 < (fn_81 (g (T + 1) b - g (T + 1) a) 360).toInt ∧ (fn_81 (g (T + 1) b - g (T + 1) a) 360).toInt ≤ 359 := by rw [eD]; omega
      have hS : 0 ≤ (fn_81 (y - g (T + 1) a) 360).toInt ∧ (fn_81 (y - g (T + 1) a) 360).toInt ≤ 359 := by rw [eS]; omega
      have v6 := rb_step (p := g (T + 2) a) (q := g (T + 2) b) a2 b2 hS hD
      have v7 := rb_step (p := g (T + 3) a) (q := g (T + 3) b) a3 b3 hS hD
      rw [eD, eS] at v6 v7
      generalize fn_81 (g (T + 1) b - g (T + 1) a) 360 = D at *
      generalize fn_81 (y - g (T + 1) a) 360 = S at *
      generalize h4 : zz_w g3 P 6 (g (T + 2) a + fn_82 ((g (T + 2) b - g (T + 2) a) * S) D) = g4 at hg
      have q7 : g4 P 7 = g (T + 3) a := by rw [← h4, aa_w_ne _ _ (by omega), p7]
      have q3 : g4 (T + 3) b = g (T + 3) b := by rw [← h4, aa_w_ne _ _ (by omega), ft 3 b (by omega) (by omega)]
      rw [q7, q3] at hg
      subst hg
      refine ⟨?_, fun k j z => ?_, fun _ => ⟨?_, ?_⟩⟩
      · rw [aa_w_ne _ _ (by omega), ← h4, aa_w_ne _ _ (by omega), p5]
        exact hs0
      · rw [aa_w_ne _ _ (by omega), ← h4, aa_w_ne _ _ (by omega)]
        exact f3 k j z
      · rw [aa_w_ne _ _ (by omega), ← h4, aa_w_at]
        exact v6
      · rw [aa_w_at]
        exact v7
  · rw [if_pos hp] at hg
    subst hg
    refine ⟨by rw [p5]; exact hs0, f3, fun z => ?_⟩
    rw [p5] at z
    exact absurd (ti_eq.mpr z) hp
theorem rt_loop {g : aa_G} {P T c : Nat} {y : Int32} (hc : c ≤ 12) (h1 : g T 1 = Int32.ofNat c) (k : Nat) (hk : k ≤ c) (hlo : ∀ i, i < k → cw_t g T 1 i ≤ y.toInt) (hhi : k < c → y.toInt < cw_t g T 1 k) : ∀ (m i : Nat) (la : Int32), i + m = k → fn_79_15 g P T y la (Int32.ofNat i) = fn_79_51 g P T y (if m = 0 then la else Int32.ofNat (k - 1))
  | 0, i, la, hi => by
    have hi : i = k := by omega
    subst hi
    unfold fn_79_15
    rw [if_pos rfl]
    refine lp_r ?_
    show fn_79_15b g P T y la (Int32.ofNat i) = _
    unfold fn_79_15b
    by_cases e1 : g T 1 ≤ Int32.ofNat i
    · rw [if_pos e1]
    · rw [if_neg e1]
      by_cases e2 : (12 : Int32) ≤ Int32.ofNat i
      · rw [if_pos e2]
      · have e1 := mt aa_le32.mpr e1
        rw [h1, zz_ofN (by omega), zz_ofN (by omega)] at e1
        rw [if_neg e2, if_pos]
        rw [ti_ofN (by omega)]
        exact aa_lt32.mpr (hhi (by omega))
  | m + 1, i, la, hi => by
    have e : fn_79_15 g P T y la (Int32.ofNat i) = fn_79_15 g P T y (Int32.ofNat i) (Int32.ofNat (i + 1)) := by
      unfold fn_79_15
      refine lp_l ?_
      show fn_79_15b g P T y la (Int32.ofNat i) = _
      unfold fn_79_15b
      rw [if_neg, if_neg, if_neg, aa_succ]
      · rw [ti_ofN (by omega)]
        intro z
        have := aa_lt32.mp z
        have := hlo i (by omega)
        unfold cw_t at this
        omega
      · intro z
        have := aa_le32.mp z
        rw [zz_ofN (by omega), show (12 : Int32).toInt = 12 from rfl] at this
        omega
      · intro z
        have := aa_le32.mp z
        rw [h1, zz_ofN (by omega), zz_ofN (by omega)] at this
        omega
    rw [e, rt_loop hc h1 k hk hlo hhi m (i + 1) _ (by omega), if_neg (Nat.succ_ne_zero m)]
    by_cases hm : m = 0
    · rw [if_pos hm, show i = k - 1 by omega]
    · rw [if_neg hm]
theorem rt_sub {c : Nat} (h : 0 < c ∧ c ≤ 12) : Int32.ofNat c - 1 = Int32.ofNat (c - 1) := by
  have e : (Int32.ofNat c - 1).toInt = c - 1 := by
    rw [aa_sub32 (by rw [zz_ofN (by omega), show (1 : Int32).toInt = 1 from rfl]; omega) (by rw [zz_ofN (by omega), show (1 : Int32).toInt = 1 from rfl]; omega), zz_ofN (by omega)]
    rfl
  exact ti_eq.mpr (by rw [e, zz_ofN (by omega)]; omega)
theorem rt_all {g : aa_G} {P T c : Nat} {y : Int32} (hd : P < T ∨ T + 4 < P) (h1 : g T 1 = Int32.ofNat c) (hw : tw_ok (cw_t g T) c) (hy : 0 ≤ y.toInt ∧ y.toInt ≤ 359) {g' : aa_G} (hg : fn_79 g P T y = g') :
    (g' P 5).toInt = tw_P (cw_t g T) y.toInt c ∧ (∀ k j, ¬ (k = P ∧ 5 ≤ j ∧ j ≤ 7) → g' k j = g k j) ∧ ((g' P 5).toInt = -1 → (g' P 6).toInt = tw_D (cw_t g T) y.toInt c 2 ∧ (g' P 7).toInt = tw_D (cw_t g T) y.toInt c 3) := by
  obtain ⟨hc, hyy, -, hdd⟩ := hw
  unfold fn_79 at hg
  generalize h0 : zz_w g P 5 0 = g0 at hg
  have f0 : ∀ k j, ¬ (k = P ∧ j = 5) → g0 k j = g k j := fun k j z => by rw [← h0, aa_w_ne _ _ z]
  have cw0 : ∀ o, 1 ≤ o → o ≤ 4 → cw_t g0 T o = cw_t g T o := fun o o1 o2 => by
    funext i
    unfold cw_t
    rw [f0 _ _ (by omega)]
  have c1 := cw0 1 (by omega) (by omega)
  have c2 := cw0 2 (by omega) (by omega)
  have c3 := cw0 3 (by omega) (by omega)
  have c4 := cw0 4 (by omega) (by omega)
  have h01 : g0 T 1 = Int32.ofNat c := (f0 _ _ (by omega)).trans h1
  unfold fn_79_6 at hg
  have hl := rt_loop (g := g0) (P := P) (T := T) (y := y) hc h01 (tw_k (cw_t g T) y.toInt c) (tw_k_le _ _ c) (fun i hi => by rw [c1]; exact tw_k_lo _ _ c i hi) (fun h => by rw [c1]; exact tw_k_hi _ _ c h) (tw_k (cw_t g T) y.toInt c) 0 (g0 T 1 - 1) (by omega)
  rw [show (Int32.ofNat 0 : Int32) = 0 from rfl] at hl
  rw [hl] at hg
  by_cases hc0 : c = 0
  · have hk0 : tw_k (cw_t g T) y.toInt c = 0 := by have := tw_k_le (cw_t g T) y.toInt c; omega
    rw [hk0, if_pos rfl, h01, hc0] at hg
    unfold fn_79_51 at hg
    rw [show (Int32.ofNat 0 - 1 : Int32) = -1 from rfl, if_pos (by decide)] at hg
    subst hg
    have e5 : (g0 P 5).toInt = 0 := by rw [← h0, aa_w_at]; rfl
    refine ⟨?_, fun k j z => f0 k j (by omega), fun z => ?_⟩
    · rw [e5]
      unfold tw_P
      rw [if_pos hc0]
    · rw [e5] at z
      exact absurd z (by decide)
  · have hA := tw_A_lt (w := cw_t g T) (v := y.toInt) (show 0 < c by omega)
    have hB := tw_B_lt (w := cw_t g T) (v := y.toInt) (show 0 < c by omega)
    have eA : (if tw_k (cw_t g T) y.toInt c = 0 then g0 T 1 - 1 else Int32.ofNat (tw_k (cw_t g T) y.toInt c - 1)) = Int32.ofNat (tw_A (cw_t g T) y.toInt c) := by
      unfold tw_A
      split
      · rw [h01, rt_sub (by omega)]
      · rfl
    rw [eA] at hg
    have e2 : fn_79_51 g0 P T y (Int32.ofNat (tw_A (cw_t g T) y.toInt c)) = fn_80 g0 P T (Int32.ofNat (tw_A (cw_t g T) y.toInt c)) (Int32.ofNat (tw_B (cw_t g T) y.toInt c)) y := by
      unfold fn_79_51
      rw [if_neg (ti_14n.mpr (by rw [zz_ofN (by omega)]; exact ⟨by show (0 : Int) ≤ _; omega, by show _ ≤ (11 : Int); omega⟩))]
      have hcw : cw_t g T 1 (tw_A (cw_t g T) y.toInt c) = (g0 (T + 1) (tw_A (cw_t g T) y.toInt c)).toInt := by rw [← c1]; rfl
      have hnx : ∀ s, (if tw_A (cw_t g T) y.toInt c + 1 < c then Int32.ofNat (tw_A (cw_t g T) y.toInt c + 1) else 0) = s → fn_79_78 g0 P T y (Int32.ofNat (tw_A (cw_t g T) y.toInt c)) s = fn_80 g0 P T (Int32.ofNat (tw_A (cw_t g T) y.toInt c)) (Int32.ofNat (tw_B (cw_t g T) y.toInt c)) y := by
        intro s hs
        unfold fn_79_78 fn_79_99
        rw [ti_ofN (by omega)]
        unfold tw_B
        by_cases hz : g0 (T + 1) (tw_A (cw_t g T) y.toInt c) = y
        · rw [if_neg (fun z => z hz), if_pos (by rw [hcw, hz])]
        · rw [if_pos hz, if_neg (by rw [hcw]; exact fun z => hz (ti_eq.mpr z)), ← hs]
          split <;> rfl
      rw [h01, rt_sub (by omega), aa_succ]
      by_cases hn : tw_A (cw_t g T) y.toInt c + 1 < c
      · rw [if_neg]
        · exact hnx _ (if_pos hn)
        · intro z
          have := aa_le32.mp z
          rw [zz_ofN (by omega), zz_ofN (by omega)] at this
          omega
      · rw [if_pos]
        · exact hnx _ (if_neg hn)
        · refine aa_le32.mpr ?_
          rw [zz_ofN (by omega), zz_ofN (by omega)]
          omega
    rw [e2] at hg
    obtain ⟨dA2, dA3, -, -⟩ := hdd _ hA
    obtain ⟨dB2, dB3, -, -⟩ := hdd _ hB
    have hr := rb_all (g := g0) (y := y) hd (show tw_A (cw_t g T) y.toInt c < 12 by omega) (show tw_B (cw_t g T) y.toInt c < 12 by omega) (by rw [c1]; exact hyy _ hA) (by rw [c1]; exact hyy _ hB) hy (by rw [c2]; exact dA2) (by rw [c3]; exact dA3) (by rw [c2]; exact dB2) (by rw [c3]; exact dB3) hg
    obtain ⟨r1, r2, r3⟩ := hr
    rw [c4] at r1
    rw [c1, c2, c3] at r3
    refine ⟨?_, fun k j z => (r2 k j z).trans (f0 k j (by omega)), r3⟩
    rw [r1]
    unfold tw_P
    rw [if_neg hc0]
end
section
/-! a LIGHT, a NIGHT of a DAY: what look lays down -/
/-- where it begins and how long it is, if it is there -/
def tw_H (w : Nat → Nat → Int) (c : Nat) (day half : Int) : Option (Int × Int) :=
  if ¬ (0 ≤ day ∧ day ≤ 35999) then none else if half = 1 ∧ day = 35999 then none else if tw_P w (day % 360) c ≠ -1 then none else
    if half = 1 then (if tw_P w ((day + 1) % 360) c ≠ -1 then none else some (tw_D w (day % 360) c 3, 86400 + tw_D w ((day + 1) % 360) c 2 - tw_D w (day % 360) c 3))
    else some (tw_D w (day % 360) c 2, tw_D w (day % 360) c 3 - tw_D w (day % 360) c 2)
theorem tw_P0 {w : Nat → Nat → Int} {v : Int} {c : Nat} (h : tw_P w v c = -1) : 0 < c := by
  rcases Nat.eq_zero_or_pos c with z | z
  · unfold tw_P at h
    rw [if_pos z] at h
    exact absurd h (by decide)
  · exact z
theorem tw_H_b {w : Nat → Nat → Int} {c : Nat} (h : tw_ok w c) {day half b l : Int} (e : tw_H w c day half = some (b, l)) : 0 ≤ b ∧ b ≤ 86399 ∧ 1 ≤ l ∧ (half ≠ 1 → b + l ≤ 86399) ∧ (half = 1 → 1 ≤ b ∧ 86400 ≤ b + l ∧ b + l ≤ 172798) := by
  unfold tw_H at e
  split at e
  · cases e
  · split at e
    · cases e
    · split at e
      · cases e
      · rename_i e1 e2 e3
        have e3 : tw_P w (day % 360) c = -1 := Decidable.not_not.mp e3
        have q := tw_D_b h (tw_P0 e3) (v := day % 360) ⟨by omega, by omega⟩ e3
        split at e
        · rename_i hh
          split at e
          · cases e
          · rename_i e4
            have e4 : tw_P w ((day + 1) % 360) c = -1 := Decidable.not_not.mp e4
            have q2 := tw_D_b h (tw_P0 e3) (v := (day + 1) % 360) ⟨by omega, by omega⟩ e4
            have e := Option.some.inj e
            have e5 := congrArg Prod.fst e
            have e6 := congrArg Prod.snd e
            dsimp only at e5 e6
            exact ⟨by omega, by omega, by omega, fun z => absurd hh z, fun _ => ⟨by omega, by omega, by omega⟩⟩
        · rename_i hh
          have e := Option.some.inj e
          have e5 := congrArg Prod.fst e
          have e6 := congrArg Prod.snd e
          dsimp only at e5 e6
          exact ⟨by omega, by omega, by omega, fun _ => by omega, fun z => absurd z hh⟩
theorem tw_H_cg {w w' : Nat → Nat → Int} {c : Nat} (h : ∀ o i, 1 ≤ o → o ≤ 4 → i < c → w' o i = w o i) {day half : Int} : tw_H w' c day half = tw_H w c day half := by
  unfold tw_H
  rw [tw_P_cg h, tw_P_cg h]
  by_cases e : tw_P w (day % 360) c = -1
  · have hc := tw_P0 e
    rw [tw_D_cg hc (.inl rfl) h, tw_D_cg hc (.inr rfl) h, tw_D_cg hc (.inl rfl) h]
  · rw [if_pos e, if_pos e]
/-- what look has laid down in a span -/
def lk_ok (g g' : aa_G) (P : Nat) (d h : Int32) (r : Option (Int × Int)) : Prop := (∀ k j, ¬ (k = P ∧ j ≤ 7) → g' k j = g k j) ∧ g' P 1 = d ∧ g' P 2 = h ∧
  (match r with
    | none => g' P 0 = 0 ∧ g' P 3 = 0 ∧ g' P 4 = 0
    | some (b, l) => g' P 0 = 1 ∧ (g' P 3).toInt = b ∧ (g' P 4).toInt = l)
theorem lk_none {g : aa_G} {P : Nat} {d h : Int32} : lk_ok g (fn_78 g P none d h) P d h none := by
  unfold fn_78
  dsimp only
  refine ⟨fun k j z => ?_, ?_, ?_, ?_, ?_, ?_⟩
  · rw [aa_w_ne _ _ (by omega), aa_w_ne _ _ (by omega), aa_w_ne _ _ (by omega), aa_w_ne _ _ (by omega), aa_w_ne _ _ (by omega)]
  · rw [aa_w_ne _ _ (by omega), aa_w_ne _ _ (by omega), aa_w_ne _ _ (by omega), aa_w_at]
  · rw [aa_w_ne _ _ (by omega), aa_w_ne _ _ (by omega), aa_w_at]
  · rw [aa_w_ne _ _ (by omega), aa_w_ne _ _ (by omega), aa_w_ne _ _ (by omega), aa_w_ne _ _ (by omega), aa_w_at]
  · rw [aa_w_ne _ _ (by omega), aa_w_at]
  · rw [aa_w_at]
theorem lk_e360 : (360 : Int32).toInt = 360 := rfl
theorem lk_rem {d : Int32} (h : 0 ≤ d.toInt) : (d - d / 360 * 360).toInt = d.toInt % 360 := ti_rem h (by decide)
theorem lk_all {g : aa_G} {P T c : Nat} {d h : Int32} (hd : P < T ∨ T + 4 < P) (h1 : g T 1 = Int32.ofNat c) (hw : tw_ok (cw_t g T) c) (hh : h = 0 ∨ h = 1) : lk_ok g (fn_78 g P (some T) d h) P d h (tw_H (cw_t g T) c d.toInt h.toInt) ∧ (0 ≤ d.toInt → d.toInt ≤ 35999 → h = 0 → (fn_78 g P (some T) d h P 5).toInt = tw_P (cw_t g T) (d.toInt % 360) c) := by
  have hh1 : h.toInt = 1 ↔ h = 1 := ⟨fun z => ti_eq.mpr z, fun z => by rw [z]; rfl⟩
  unfold fn_78
  dsimp only
  generalize hg0 : zz_w (zz_w (zz_w (zz_w (zz_w g P 0 0) P 1 d) P 2 h) P 3 0) P 4 0 = g0
  have f0 : ∀ k j, ¬ (k = P ∧ j ≤ 4) → g0 k j = g k j := fun k j z => by
    rw [← hg0, aa_w_ne _ _ (by omega), aa_w_ne _ _ (by omega), aa_w_ne _ _ (by omega), aa_w_ne _ _ (by omega), aa_w_ne _ _ (by omega)]
  have p0 : g0 P 0 = 0 := by rw [← hg0, aa_w_ne _ _ (by omega), aa_w_ne _ _ (by omega), aa_w_ne _ _ (by omega), aa_w_ne _ _ (by omega), aa_w_at]
  have p1 : g0 P 1 = d := by rw [← hg0, aa_w_ne _ _ (by omega), aa_w_ne _ _ (by omega), aa_w_ne _ _ (by omega), aa_w_at]
  have p2 : g0 P 2 = h := by rw [← hg0, aa_w_ne _ _ (by omega), aa_w_ne _ _ (by omega), aa_w_at]
  have p3 : g0 P 3 = 0 := by rw [← hg0, aa_w_ne _ _ (by omega), aa_w_at]
  have p4 : g0 P 4 = 0 := by rw [← hg0, aa_w_at]
  have cwe : ∀ g1 : aa_G, (∀ k j, ¬ (k = P ∧ j ≤ 7) → g1 k j = g k j) → (g1 T 1 = Int32.ofNat c ∧ ∀ o, 1 ≤ o → o ≤ 4 → cw_t g1 T o = cw_t g T o) := fun g1 f => ⟨(f _ _ (by omega)).trans h1, fun o o1 o2 => by
    funext i
    unfold cw_t
    rw [f _ _ (by omega)]⟩
  have okc : ∀ g1 : aa_G, (∀ k j, ¬ (k = P ∧ j ≤ 7) → g1 k j = g k j) → tw_ok (cw_t g1 T) c := fun g1 f => by
    obtain ⟨-, q⟩ := cwe g1 f
    unfold tw_ok
    rw [q 1 (by omega) (by omega), q 2 (by omega) (by omega), q 3 (by omega) (by omega), q 4 (by omega) (by omega)]
    exact hw
  have Pc : ∀ g1 : aa_G, (∀ k j, ¬ (k = P ∧ j ≤ 7) → g1 k j = g k j) → ∀ v, tw_P (cw_t g1 T) v c = tw_P (cw_t g T) v c := fun g1 f v => tw_P_cg fun o i o1 o2 _ => congrFun ((cwe g1 f).2 o o1 o2) i
  have Dc : ∀ g1 : aa_G, (∀ k j, ¬ (k = P ∧ j ≤ 7) → g1 k j = g k j) → 0 < c → ∀ v o, (o = 2 ∨ o = 3) → tw_D (cw_t g1 T) v c o = tw_D (cw_t g T) v c o := fun g1 f hc v o ho => tw_D_cg hc ho fun o i o1 o2 _ => congrFun ((cwe g1 f).2 o o1 o2) i
  have f07 : ∀ k j, ¬ (k = P ∧ j ≤ 7) → g0 k j = g k j := fun k j z => f0 k j (by omega)
  have none0 : lk_ok g g0 P d h none := ⟨f07, p1, p2, p0, p3, p4⟩
  unfold fn_78_30
  rw [p1, p2]
  by_cases hday : 0 ≤ d.toInt ∧ d.toInt ≤ 35999
  · rw [if_neg (ti_77n.mpr hday)]
    have hdd : (d + 1).toInt = d.toInt + 1 := aa_add32 (by rw [show (1 : Int32).toInt = 1 from rfl]; omega) (by rw [show (1 : Int32).toInt = 1 from rfl]; omega)
    have hb : (¬ (h.toInt = 1 ∧ d.toInt = 35999)) → (if h ≠ 1 then fn_78_60 g0 P T else if fn_77 (d + 1) ≠ 0 then fn_78_60 g0 P T else g0) = fn_78_60 g0 P T := by
      intro z
      by_cases e : h = 1
      · rw [if_neg (fun z => z e), if_pos (ti_77n.mpr (by rw [hdd]; have q2 : d.toInt ≠ 35999 := fun q => z ⟨hh1.mpr e, q⟩; omega))]
      · rw [if_pos e]
    have main : lk_ok g (fn_78_60 g0 P T) P d h (if tw_P (cw_t g T) (d.toInt % 360) c ≠ -1 then none else
    if h.toInt = 1 then (if tw_P (cw_t g T) ((d.toInt + 1) % 360) c ≠ -1 then none else some (tw_D (cw_t g T) (d.toInt % 360) c 3, 86400 + tw_D (cw_t g T) ((d.toInt + 1) % 360) c 2 - tw_D (cw_t g T) (d.toInt % 360) c 3))
    else some (tw_D (cw_t g T) (d.toInt % 360) c 2, tw_D (cw_t g T) (d.toInt % 360) c 3 - tw_D (cw_t g T) (d.toInt % 360) c 2)) ∧ (h = 0 → (fn_78_60 g0 P T P 5).toInt = tw_P (cw_t g T) (d.toInt % 360) c) := by
      unfold fn_78_60
      rw [p1]
      have er : (d - d / 360 * 360).toInt = d.toInt % 360 := lk_rem hday.1
      have hr := rt_all (P := P) (y := d - d / 360 * 360) hd (cwe g0 f07).1 (okc g0 f07) (by rw [er]; omega) rfl
      rw [er, Pc g0 f07] at hr
      generalize fn_79 g0 P T (d - d / 360 * 360) = g1 at hr ⊢
      obtain ⟨r1, r2, r3⟩ := hr
      have f1 : ∀ k j, ¬ (k = P ∧ j ≤ 7) → g1 k j = g k j := fun k j z => (r2 k j (by omega)).trans (f07 k j z)
      have k0 : ∀ j, j ≤ 4 → g1 P j = g0 P j := fun j hj => r2 P j (by omega)
      unfold fn_78_73
      by_cases hP : tw_P (cw_t g T) (d.toInt % 360) c = -1
      · have hP5 : g1 P 5 = -1 := ti_eq.mpr (by rw [r1, hP]; rfl)
        have hc := tw_P0 hP
        obtain ⟨d6, d7⟩ := r3 (by rw [r1, hP])
        rw [Dc g0 f07 hc _ _ (.inl rfl)] at d6
        rw [Dc g0 f07 hc _ _ (.inr rfl)] at d7
        have bnd := tw_D_b hw hc (v := d.toInt % 360) ⟨by omega, by omega⟩ hP
        rw [if_pos hP5, k0 2 (by omega), p2, if_neg (c := tw_P (cw_t g T) (d.toInt % 360) c ≠ -1) (fun z => z hP)]
        rcases hh with rfl | rfl
        · rw [if_neg (c := (0 : Int32) ≠ 0) (fun z => z rfl), if_neg (c := (0 : Int32).toInt = 1) (by decide)]
          unfold fn_78_100
          rw [k0 2 (by omega), p2, if_pos (c := (0 : Int32) ≠ 1) (by decide)]
          unfold fn_78_149
          refine ⟨⟨fun k j z => ?_, ?_, ?_, ?_, ?_, ?_⟩, fun _ => ?_⟩
          · rw [aa_w_ne _ _ (by omega), aa_w_ne _ _ (by omega), aa_w_ne _ _ (by omega)]
            exact f1 k j z
          · rw [aa_w_ne _ _ (by omega), aa_w_ne _ _ (by omega), aa_w_ne _ _ (by omega), k0 1 (by omega), p1]
          · rw [aa_w_ne _ _ (by omega), aa_w_ne _ _ (by omega), aa_w_ne _ _ (by omega), k0 2 (by omega), p2]
          · rw [aa_w_ne _ _ (by omega), aa_w_ne _ _ (by omega), aa_w_at]
          · rw [aa_w_ne _ _ (by omega), aa_w_at, d6]
          · rw [aa_w_at, aa_sub32 (by omega) (by omega), d6, d7]
          · rw [aa_w_ne _ _ (by omega), aa_w_ne _ _ (by omega), aa_w_ne _ _ (by omega), r1]
        · rw [if_pos (c := (1 : Int32) ≠ 0) (by decide), if_pos (c := (1 : Int32).toInt = 1) rfl]
          unfold fn_78_100
          rw [k0 2 (by omega), p2, if_neg (c := (1 : Int32) ≠ 1) (fun z => z rfl), k0 1 (by omega), p1]
          have er2 : ((d + 1) - (d + 1) / 360 * 360).toInt = (d.toInt + 1) % 360 := by rw [lk_rem (by rw [hdd]; omega), hdd]
          have hr2 := rt_all (P := P) (y := (d + 1) - (d + 1) / 360 * 360) hd (cwe g1 f1).1 (okc g1 f1) (by rw [er2]; omega) rfl
          rw [er2, Pc g1 f1] at hr2
          generalize fn_79 g1 P T ((d + 1) - (d + 1) / 360 * 360) = g2 at hr2 ⊢
          obtain ⟨s1, s2, s3⟩ := hr2
          have f2 : ∀ k j, ¬ (k = P ∧ j ≤ 7) → g2 k j = g k j := fun k j z => (s2 k j (by omega)).trans (f1 k j z)
          have k2 : ∀ j, j ≤ 4 → g2 P j = g0 P j := fun j hj => (s2 P j (by omega)).trans (k0 j hj)
          unfold fn_78_131
          by_cases hP2 : tw_P (cw_t g T) ((d.toInt + 1) % 360) c = -1
          · have hP52 : g2 P 5 = -1 := ti_eq.mpr (by rw [s1, hP2]; rfl)
            obtain ⟨d6', -⟩ := s3 (by rw [s1, hP2])
            rw [Dc g1 f1 hc _ _ (.inl rfl)] at d6'
            have bnd2 := tw_D_b hw hc (v := (d.toInt + 1) % 360) ⟨by omega, by omega⟩ hP2
            rw [if_pos hP52, if_neg (c := tw_P (cw_t g T) ((d.toInt + 1) % 360) c ≠ -1) (fun z => z hP2)]
            unfold fn_78_149
            have e86 : (86400 + g2 P 6).toInt = 86400 + (g2 P 6).toInt := aa_add32 (by rw [show (86400 : Int32).toInt = 86400 from rfl]; omega) (by rw [show (86400 : Int32).toInt = 86400 from rfl]; omega)
            refine ⟨⟨fun k j z => ?_, ?_, ?_, ?_, ?_, ?_⟩, fun z => absurd z (by decide)⟩
            · rw [aa_w_ne _ _ (by omega), aa_w_ne _ _ (by omega), aa_w_ne _ _ (by omega)]
              exact f2 k j z
            · rw [aa_w_ne _ _ (by omega), aa_w_ne _ _ (by omega), aa_w_ne _ _ (by omega), k2 1 (by omega), p1]
            · rw [aa_w_ne _ _ (by omega), aa_w_ne _ _ (by omega), aa_w_ne _ _ (by omega), k2 2 (by omega), p2]
            · rw [aa_w_ne _ _ (by omega), aa_w_ne _ _ (by omega), aa_w_at]
            · rw [aa_w_ne _ _ (by omega), aa_w_at, d7]
            · rw [aa_w_at, aa_sub32 (by omega) (by omega), e86, d6', d7]
          · have hP52 : g2 P 5 ≠ -1 := fun z => hP2 (by rw [← s1, z]; rfl)
            rw [if_neg hP52, if_pos (c := tw_P (cw_t g T) ((d.toInt + 1) % 360) c ≠ -1) hP2]
            exact ⟨⟨f2, (k2 1 (by omega)).trans p1, (k2 2 (by omega)).trans p2, (k2 0 (by omega)).trans p0, (k2 3 (by omega)).trans p3, (k2 4 (by omega)).trans p4⟩, fun z => absurd z (by decide)⟩
      · have hP5 : g1 P 5 ≠ -1 := fun z => hP (by rw [← r1, z]; rfl)
        rw [if_neg hP5, if_pos (c := tw_P (cw_t g T) (d.toInt % 360) c ≠ -1) hP]
        exact ⟨⟨f1, (k0 1 (by omega)).trans p1, (k0 2 (by omega)).trans p2, (k0 0 (by omega)).trans p0, (k0 3 (by omega)).trans p3, (k0 4 (by omega)).trans p4⟩, fun _ => r1⟩
    unfold tw_H
    rw [if_neg (c := ¬ (0 ≤ d.toInt ∧ d.toInt ≤ 35999)) (fun z => z hday)]
    by_cases hl : h.toInt = 1 ∧ d.toInt = 35999
    · rw [if_pos hl, if_neg (c := h ≠ 1) (fun z => z (hh1.mp hl.1)), if_neg (c := fn_77 (d + 1) ≠ 0) (fun z => by have := ti_77n.mp z; rw [hdd] at this; omega)]
      exact ⟨none0, fun _ _ z => by rw [z] at hl; exact absurd hl.1 (show ¬ ((0 : Int32).toInt = 1) by decide)⟩
    · rw [if_neg (c := h.toInt = 1 ∧ d.toInt = 35999) hl, hb hl]
      exact ⟨main.1, fun _ _ => main.2⟩
  · rw [if_pos (ti_77z.mpr hday)]
    unfold tw_H
    rw [if_pos (c := ¬ (0 ≤ d.toInt ∧ d.toInt ≤ 35999)) hday]
    exact ⟨none0, fun z1 z2 _ => absurd ⟨z1, z2⟩ hday⟩
end
section
/-! the model's lay -/
def mw_t (g : aa_G) (t : Nat) : Nat → Nat → Int := fun o i => (g 541 (50 * t + 4 * i + 4 + o)).toInt
theorem ti_154 {a b c : Int32} : fn_154 a b c = if b.toInt ≤ a.toInt ∧ a.toInt ≤ c.toInt then 1 else 0 := ti_14
theorem ti_154z {a b c : Int32} : fn_154 a b c = 0 ↔ ¬ (b.toInt ≤ a.toInt ∧ a.toInt ≤ c.toInt) := ti_14z
theorem ti_154n {a b c : Int32} : fn_154 a b c ≠ 0 ↔ (b.toInt ≤ a.toInt ∧ a.toInt ≤ c.toInt) := ti_14n
theorem ti_193z {a : Int32} : fn_193 a = 0 ↔ ¬ (0 ≤ a.toInt ∧ a.toInt ≤ 35999) := ti_154z
theorem ti_193n {a : Int32} : fn_193 a ≠ 0 ↔ (0 ≤ a.toInt ∧ a.toInt ≤ 35999) := ti_154n
theorem ml_pa (t i : Nat) : fn_175 (Int32.ofNat t) (Int32.ofNat i) = Int32.ofNat (50 * t + 4 * i + 5) := by
  unfold fn_175
  rw [show (50 : Int32) * Int32.ofNat t = Int32.ofNat (50 * t) from (Int32.ofNat_mul 50 t).symm, show (4 : Int32) * Int32.ofNat i = Int32.ofNat (4 * i) from (Int32.ofNat_mul 4 i).symm,
    show (3 : Int32) + Int32.ofNat (50 * t) = Int32.ofNat (3 + 50 * t) from (Int32.ofNat_add 3 _).symm, show Int32.ofNat (3 + 50 * t) + 2 = Int32.ofNat (3 + 50 * t + 2) from (Int32.ofNat_add _ 2).symm, show Int32.ofNat (3 + 50 * t + 2) + Int32.ofNat (4 * i) = Int32.ofNat (3 + 50 * t + 2 + 4 * i) from (Int32.ofNat_add _ _).symm]
  congr 1
  omega
theorem ml_ta (t : Nat) : fn_164 (Int32.ofNat t) = Int32.ofNat (50 * t + 3) := by
  unfold fn_164
  rw [show (50 : Int32) * Int32.ofNat t = Int32.ofNat (50 * t) from (Int32.ofNat_mul 50 t).symm, show (3 : Int32) + Int32.ofNat (50 * t) = Int32.ofNat (3 + 50 * t) from (Int32.ofNat_add 3 _).symm]
  congr 1
  omega
theorem ml_add (a b : Nat) : Int32.ofNat a + Int32.ofNat b = Int32.ofNat (a + b) := (Int32.ofNat_add a b).symm
/-- the first point that is not ahead of a YDAY -/
def tw_q (w : Nat → Nat → Int) (v : Int) (c : Nat) : Nat := if 0 < tw_k w v c ∧ w 1 (tw_k w v c - 1) = v then tw_k w v c - 1 else tw_k w v c
theorem tw_k_iff {w : Nat → Nat → Int} {v : Int} {c : Nat} (h : tw_ok w c) {i : Nat} (hi : i < c) : w 1 i ≤ v ↔ i < tw_k w v c := by
  constructor
  · intro z
    apply Classical.byContradiction
    intro n
    have h1 := tw_k_hi w v c (by omega)
    have h2 := tw_mono h.2.2.1 (i - tw_k w v c) (tw_k w v c) (by omega)
    rw [show tw_k w v c + (i - tw_k w v c) = i by omega] at h2
    omega
  · exact tw_k_lo w v c i
theorem tw_q_iff {w : Nat → Nat → Int} {v : Int} {c : Nat} (h : tw_ok w c) {i : Nat} (hi : i < c) : v ≤ w 1 i ↔ tw_q w v c ≤ i := by
  have hk := tw_k_iff h (v := v) hi
  have hl := tw_k_le w v c
  unfold tw_q
  split
  · rename_i e
    constructor
    · intro z
      apply Classical.byContradiction
      intro n
      have h2 := tw_mono h.2.2.1 (tw_k w v c - 1 - i) i (by omega)
      rw [show i + (tw_k w v c - 1 - i) = tw_k w v c - 1 by omega] at h2
      omega
    · intro z
      by_cases e2 : i = tw_k w v c - 1
      · rw [e2]; omega
      · have := mt hk.mp (by omega)
        omega
  · rename_i e
    constructor
    · intro z
      apply Classical.byContradiction
      intro n
      have h1 : w 1 i ≤ v := hk.mpr (by omega)
      by_cases e2 : i = tw_k w v c - 1
      · exact e ⟨by omega, by rw [← e2]; omega⟩
      · have h2 := tw_mono h.2.2.1 (tw_k w v c - 1 - i) i (by omega)
        rw [show i + (tw_k w v c - 1 - i) = tw_k w v c - 1 by omega] at h2
        have h3 := tw_k_lo w v c (tw_k w v c - 1) (by omega)
        omega
    · intro z
      have := mt hk.mp (by omega)
      omega
/-- the two points, as the model looks for them -/
theorem tw_A_m {w : Nat → Nat → Int} {v : Int} {c : Nat} : tw_A w v c = if tw_k w v c = 0 then c - 1 else tw_k w v c - 1 := rfl
theorem tw_B_m {w : Nat → Nat → Int} {v : Int} {c : Nat} (h : tw_ok w c) (hc : 0 < c) : tw_B w v c = if tw_q w v c < c then tw_q w v c else 0 := by
  have hl := tw_k_le w v c
  by_cases hk : tw_k w v c = 0
  · have eA : tw_A w v c = c - 1 := if_pos hk
    have eq : tw_q w v c = 0 := by
      unfold tw_q
      rw [if_neg (by omega), hk]
    have h1 := tw_k_hi w v c (by omega)
    rw [hk] at h1
    have h2 := tw_mono h.2.2.1 (c - 1) 0 (by omega)
    rw [Nat.zero_add] at h2
    unfold tw_B
    rw [eA, eq, if_neg (by omega), if_neg (by omega), if_pos hc]
  · have eA : tw_A w v c = tw_k w v c - 1 := if_neg hk
    unfold tw_B
    rw [eA]
    by_cases e : w 1 (tw_k w v c - 1) = v
    · have eq : tw_q w v c = tw_k w v c - 1 := if_pos ⟨by omega, e⟩
      rw [eq, if_pos e, if_pos (by omega)]
    · have eq : tw_q w v c = tw_k w v c := if_neg fun z => e z.2
      rw [eq, if_neg e, show tw_k w v c - 1 + 1 = tw_k w v c by omega]
def ml_st (w : Nat → Nat → Int) (v : Int) (c j : Nat) : Int32 × Int32 × Int32 × Int32 × Int32 := (if min (tw_k w v c) j = 0 then -1 else Int32.ofNat (min (tw_k w v c) j - 1), if tw_q w v c < j then Int32.ofNat (tw_q w v c) else -1, if j = 0 then -1 else 0, if j = 0 then -1 else Int32.ofNat (j - 1), Int32.ofNat j)
theorem ml_n1 {n : Nat} (h : n < 2147483648) : Int32.ofNat n ≠ -1 := fun z => by
  have := congrArg Int32.toInt z
  rw [zz_ofN h, ti_m1] at this
  omega
theorem ml_step {g : aa_G} {t c j : Nat} {y : Int32} (ht : t < 4) (hw : tw_ok (mw_t g t) c) (h1 : g 541 (50 * t + 4) = Int32.ofNat c) (hl : g 540 16 = -1) (hj : j < c) :
    fn_195_21b g (Int32.ofNat t) y (ml_st (mw_t g t) y.toInt c j).1 (ml_st (mw_t g t) y.toInt c j).2.1 (ml_st (mw_t g t) y.toInt c j).2.2.1 (ml_st (mw_t g t) y.toInt c j).2.2.2.1 (ml_st (mw_t g t) y.toInt c j).2.2.2.2 = .inl (ml_st (mw_t g t) y.toInt c (j + 1)) := by
  have hc := hw.1
  have hp : (g 541 (50 * t + 4 * j + 5)).toInt = mw_t g t 1 j := rfl
  have hkk := tw_k_iff hw (v := y.toInt) hj
  have hq := tw_q_iff hw (v := y.toInt) hj
  have hkl := tw_k_le (mw_t g t) y.toInt c
  unfold ml_st fn_195_21b
  dsimp only
  rw [ml_ta, show Int32.ofNat (50 * t + 3) + 1 = Int32.ofNat (50 * t + 4) from ml_add _ 1, zz_toN (by omega), h1, if_neg (fun z => by
    have := aa_le32.mp z
    rw [zz_ofN (by omega), zz_ofN (by omega)] at this
    omega), hl, if_pos (ml_n1 (by omega)), ml_pa, zz_toN (by omega)]
  generalize hP : g 541 (50 * t + 4 * j + 5) = p at hp ⊢
  generalize mw_t g t = w at *
  have e94 : ∀ (b5 bf : Int32), b5 = (if tw_q w y.toInt c < j then Int32.ofNat (tw_q w y.toInt c) else -1) → fn_195_94 g (Int32.ofNat t) y b5 0 (Int32.ofNat j) (Int32.ofNat j) p bf = .inl (bf, (if tw_q w y.toInt c < j + 1 then Int32.ofNat (tw_q w y.toInt c) else -1), 0, Int32.ofNat j, Int32.ofNat (j + 1)) := by
    intro b5 bf hb
    unfold fn_195_94 fn_195_113 fn_195_115 fn_195_117
    by_cases h5 : p < y
    · have h6 := aa_lt32.mp h5
      rw [if_pos h5, aa_succ, hb, if_neg (by omega), if_neg (by omega)]
    · have h6 := mt aa_lt32.mpr h5
      rw [if_neg h5, aa_succ, hb]
      by_cases h7 : tw_q w y.toInt c < j
      · rw [if_pos h7, if_pos (ml_n1 (by omega)), if_pos (by omega)]
      · rw [if_neg h7, if_neg (fun z => z rfl), if_pos (by omega), show tw_q w y.toInt c = j by omega]
  have e75 : fn_195_75 g (Int32.ofNat t) y (if min (tw_k w y.toInt c) j = 0 then -1 else Int32.ofNat (min (tw_k w y.toInt c) j - 1)) (if tw_q w y.toInt c < j then Int32.ofNat (tw_q w y.toInt c) else -1) (Int32.ofNat j) p 0 = .inl ((if min (tw_k w y.toInt c) (j + 1) = 0 then -1 else Int32.ofNat (min (tw_k w y.toInt c) (j + 1) - 1)), (if tw_q w y.toInt c < j + 1 then Int32.ofNat (tw_q w y.toInt c) else -1), 0, Int32.ofNat j, Int32.ofNat (j + 1)) := by
    unfold fn_195_75
    by_cases h5 : y < p
    · have h6 := aa_lt32.mp h5
      rw [if_pos h5, e94 _ _ rfl]
      have h8 : min (tw_k w y.toInt c) (j + 1) = min (tw_k w y.toInt c) j := by omega
      rw [h8]
    · have h6 := mt aa_lt32.mpr h5
      rw [if_neg h5, e94 _ _ rfl]
      have h8 : min (tw_k w y.toInt c) (j + 1) = j + 1 := by omega
      rw [h8, if_neg (Nat.succ_ne_zero j), Nat.add_sub_cancel]
  rw [if_neg (Nat.succ_ne_zero j), if_neg (Nat.succ_ne_zero j), Nat.add_sub_cancel]
  by_cases hj0 : j = 0
  · subst hj0
    rw [if_pos (c := 0 = 0) rfl] at *
    rw [if_neg (fun z => z rfl)]
    exact e75
  · rw [if_neg (c := j = 0) hj0, if_pos (by decide)]
    exact e75
theorem ml_lop {g : aa_G} {t c : Nat} {y : Int32} (ht : t < 4) (hw : tw_ok (mw_t g t) c) (h1 : g 541 (50 * t + 4) = Int32.ofNat c) (hl : g 540 16 = -1) (f : Int32 × Int32 × Int32 × Int32 × Int32 → (Int32 × Int32 × Int32 × Int32 × Int32) ⊕ (Int32 × aa_G)) (hf : ∀ z, f z = fn_195_21b g (Int32.ofNat t) y z.1 z.2.1 z.2.2.1 z.2.2.2.1 z.2.2.2.2) (d : Int32 × aa_G) : ∀ (m j : Nat), j + m = c → lp_f d f (ml_st (mw_t g t) y.toInt c j) = lp_f d f (ml_st (mw_t g t) y.toInt c c)
  | 0, j, hj => by rw [show j = c by omega]
  | m + 1, j, hj => by
    rw [← ml_lop ht hw h1 hl f hf d m (j + 1) (by omega)]
    refine lp_l ?_
    rw [hf]
    exact ml_step ht hw h1 hl (by omega)
theorem fn_197_v {a b p w : Int32} (ha0 : 0 ≤ a.toInt) (ha1 : a.toInt ≤ 86399) (hb0 : 0 ≤ b.toInt) (hb1 : b.toInt ≤ 86399) (hp0 : 0 ≤ p.toInt) (hp1 : p.toInt ≤ 359) (hw0 : 0 ≤ w.toInt) (hw1 : w.toInt ≤ 718) : (fn_197 a b p w).toInt = a.toInt + (b.toInt - a.toInt) * p.toInt / w.toInt := by
  obtain ⟨n, v, h, r, ⟨z, e1, e2⟩, -⟩ := rn_of (between_all (h := aa_H fun _ _ => 0) ha0 ha1 hb0 hb1 hp0 hp1 hw0 hw1)
  have := (dn_197 r).1
  rw [e1] at this
  have := Option.some.inj this
  injection this with this
  rw [← this]
  exact e2
/-- how far the two points are apart -/
theorem tw_apart {w : Nat → Nat → Int} {v : Int} {c : Nat} (h : tw_ok w c) (hc : 0 < c) (hv : 0 ≤ v ∧ v ≤ 359) (o : Nat) : w o (tw_A w v c) + (w o (tw_B w v c) - w o (tw_A w v c)) * ((v - w 1 (tw_A w v c)) % 360) / ((v - w 1 (tw_A w v c)) % 360 + (w 1 (tw_B w v c) - v) % 360) = tw_D w v c o := by
  have hs := tw_since h hc hv
  have yA := h.2.1 _ (tw_A_lt (w := w) (v := v) hc)
  have yB := h.2.1 _ (tw_B_lt (w := w) (v := v) hc)
  unfold tw_D
  rcases hs with hs | hs
  · have e : w 1 (tw_B w v c) = w 1 (tw_A w v c) := by omega
    have hab : tw_B w v c = tw_A w v c := by
      have hA := tw_A_lt (w := w) (v := v) hc
      have hB := tw_B_lt (w := w) (v := v) hc
      rcases Nat.lt_trichotomy (tw_A w v c) (tw_B w v c) with z | z | z
      · have := tw_mono h.2.2.1 (tw_B w v c - tw_A w v c) (tw_A w v c) (by omega)
        rw [show tw_A w v c + (tw_B w v c - tw_A w v c) = tw_B w v c by omega] at this
        omega
      · exact z.symm
      · have := tw_mono h.2.2.1 (tw_A w v c - tw_B w v c) (tw_B w v c) (by omega)
        rw [show tw_B w v c + (tw_A w v c - tw_B w v c) = tw_A w v c by omega] at this
        omega
    rw [hab, Int.sub_self, Int.zero_mul, Int.zero_ediv, Int.zero_ediv]
  · by_cases z : (w 1 (tw_B w v c) - w 1 (tw_A w v c)) % 360 = 0
    · have e : w 1 (tw_B w v c) = w 1 (tw_A w v c) := by omega
      have e2 : (v - w 1 (tw_A w v c)) % 360 = 0 := by omega
      rw [e2, Int.mul_zero, Int.zero_ediv, Int.zero_ediv]
    · rw [show (v - w 1 (tw_A w v c)) % 360 + (w 1 (tw_B w v c) - v) % 360 = (w 1 (tw_B w v c) - w 1 (tw_A w v c)) % 360 by omega]
theorem w5_41 (g : aa_G) (j : Nat) (v : Int32) (b : Nat) : zz_w g 540 j v 541 b = g 541 b := aa_w_ne _ _ (fun z => absurd z.1 (by decide))
def w4_ok (w : Nat → Nat → Int) (A B : Nat) : Prop := ((-1 ≤ w 2 A ∧ w 2 A ≤ 86399) ∧ (-1 ≤ w 3 A ∧ w 3 A ≤ 86399) ∧ (-1 ≤ w 4 A ∧ w 4 A ≤ 1) ∧ (w 4 A = -1 → 0 ≤ w 2 A ∧ w 2 A < w 3 A)) ∧ ((-1 ≤ w 2 B ∧ w 2 B ≤ 86399) ∧ (-1 ≤ w 3 B ∧ w 3 B ≤ 86399) ∧ (-1 ≤ w 4 B ∧ w 4 B ≤ 1) ∧ (w 4 B = -1 → 0 ≤ w 2 B ∧ w 2 B < w 3 B))
/-- what lay lays down -/
theorem ml_all {g : aa_G} {t c : Nat} {d : Int32} (ht : t < 4) (hw : tw_ok (mw_t g t) c) (h1 : g 541 (50 * t + 4) = Int32.ofNat c) (hl : g 540 16 = -1) (hd : 0 ≤ d.toInt) {v : Int32} {g' : aa_G} (hg : fn_195 g (Int32.ofNat t) d = (v, g')) :
    (∀ k j, ¬ (k = 540 ∧ 13 ≤ j ∧ j ≤ 15) → g' k j = g k j) ∧ (g' 540 13).toInt = tw_P (mw_t g t) (d.toInt % 360) c ∧ v = (if c ≠ 0 ∧ tw_P (mw_t g t) (d.toInt % 360) c = -1 then 1 else 0) ∧ (tw_P (mw_t g t) (d.toInt % 360) c = -1 → (g' 540 14).toInt = tw_D (mw_t g t) (d.toInt % 360) c 2 ∧ (g' 540 15).toInt = tw_D (mw_t g t) (d.toInt % 360) c 3) := by
  have er : (d - d / 360 * 360).toInt = d.toInt % 360 := ti_rem hd (by decide)
  unfold fn_195 fn_195_21 at hg
  generalize d - d / 360 * 360 = y at hg er
  rw [← er]
  have hy : 0 ≤ y.toInt ∧ y.toInt ≤ 359 := by rw [er]; omega
  have hc := hw.1
  have h0 : ml_st (mw_t g t) y.toInt c 0 = (-1, -1, -1, -1, 0) := by
    unfold ml_st
    rw [if_pos (Nat.min_zero _), if_neg (Nat.not_lt_zero _), if_pos rfl, if_pos rfl]
    rfl
  have hlp := ml_lop (y := y) ht hw h1 hl _ (fun z => rfl) (0, g) c 0 (by omega)
  rw [h0] at hlp
  rw [hlp] at hg
  rw [lp_eq] at hg
  have hkl := tw_k_le (mw_t g t) y.toInt c
  unfold ml_st fn_195_21b at hg
  dsimp only at hg
  rw [ml_ta, show Int32.ofNat (50 * t + 3) + 1 = Int32.ofNat (50 * t + 4) from ml_add _ 1, zz_toN (by omega), h1, if_pos (show Int32.ofNat c ≤ Int32.ofNat c from aa_le32.mpr (Int.le_refl _))] at hg
  by_cases hc0 : c = 0
  · rw [if_neg (c := (if c = 0 then (-1 : Int32) else 0) ≠ -1) (by rw [if_pos hc0]; exact fun z => z rfl)] at hg
    dsimp only at hg
    have hv := congrArg Prod.fst hg
    have hg2 := congrArg Prod.snd hg
    dsimp only at hv hg2
    have hP : tw_P (mw_t g t) y.toInt c = 0 := by unfold tw_P; rw [if_pos hc0]
    rw [hP, ← hg2, ← hv]
    refine ⟨fun k j z => aa_w_ne _ _ (by omega), by rw [aa_w_at]; rfl, ?_, fun z => absurd z (by decide)⟩
    rw [if_neg fun z => absurd z.2 (by decide)]
  · have hcp : 0 < c := by omega
    have hA := tw_A_lt (w := mw_t g t) (v := y.toInt) hcp
    have hB := tw_B_lt (w := mw_t g t) (v := y.toInt) hcp
    have eA : ∀ x : Int32, (if min (tw_k (mw_t g t) y.toInt c) c = 0 then (-1 : Int32) else Int32.ofNat (min (tw_k (mw_t g t) y.toInt c) c - 1)) = x → (if x ≠ -1 then x else Int32.ofNat (c - 1)) = Int32.ofNat (tw_A (mw_t g t) y.toInt c) := by
      intro x hx
      rw [← hx, Nat.min_eq_left hkl]
      unfold tw_A
      by_cases hk : tw_k (mw_t g t) y.toInt c = 0
      · rw [if_pos hk, if_pos hk, if_neg (fun z => z rfl)]
      · rw [if_neg hk, if_neg hk, if_pos (ml_n1 (by omega))]
    have eB : ∀ x : Int32, (if tw_q (mw_t g t) y.toInt c < c then Int32.ofNat (tw_q (mw_t g t) y.toInt c) else (-1 : Int32)) = x → (if x ≠ -1 then x else 0) = Int32.ofNat (tw_B (mw_t g t) y.toInt c) := by
      intro x hx
      rw [← hx, tw_B_m hw hcp]
      by_cases hk : tw_q (mw_t g t) y.toInt c < c
      · rw [if_pos hk, if_pos hk, if_pos (ml_n1 (by omega))]
      · rw [if_neg hk, if_neg hk, if_neg (fun z => z rfl)]
        rfl
    rw [if_neg (c := c = 0) hc0, if_neg (c := c = 0) hc0, if_pos (c := (0 : Int32) ≠ -1) (by decide)] at hg
    have eA := eA _ rfl
    have eB := eB _ rfl
    generalize (if min (tw_k (mw_t g t) y.toInt c) c = 0 then (-1 : Int32) else Int32.ofNat (min (tw_k (mw_t g t) y.toInt c) c - 1)) = xA at hg eA
    generalize (if tw_q (mw_t g t) y.toInt c < c then Int32.ofNat (tw_q (mw_t g t) y.toInt c) else (-1 : Int32)) = xB at hg eB
    have hfin : fn_195_155 (zz_w g 540 13 0) (Int32.ofNat t) y xA xB 0 (Int32.ofNat (c - 1)) (if xA ≠ -1 then xA else Int32.ofNat (c - 1)) (Int32.ofNat t) y = (v, g') := by
      by_cases hx : xA = -1
      · rw [if_neg (c := xA ≠ -1) (fun z => z hx)] at hg ⊢
        exact hg
      · rw [if_pos (c := xA ≠ -1) hx] at hg ⊢
        exact hg
    clear hg
    generalize hg0 : zz_w g 540 13 0 = g0 at hfin
    have f0 : ∀ k j, ¬ (k = 540 ∧ j = 13) → g0 k j = g k j := fun k j z => by rw [← hg0, aa_w_ne _ _ z]
    have fA : ∀ o i, i < 12 → (g0 541 (50 * t + 4 * i + 4 + o)).toInt = mw_t g t o i := fun o i _ => by rw [f0 _ _ (by omega)]; rfl
    rw [eA] at hfin
    have e175 : ∀ (b8 : Int32), (if xA ≠ -1 then fn_195_175 g0 (Int32.ofNat t) y xB 0 b8 xA else fn_195_175 g0 (Int32.ofNat t) y xB 0 b8 (Int32.ofNat (c - 1))) = fn_195_175 g0 (Int32.ofNat t) y xB 0 b8 (Int32.ofNat (tw_A (mw_t g t) y.toInt c)) := by
      intro b8
      rw [← eA]
      by_cases hx : xA = -1
      · rw [if_neg (c := xA ≠ -1) (fun z => z hx), if_neg (c := xA ≠ -1) (fun z => z hx)]
      · rw [if_pos (c := xA ≠ -1) hx, if_pos (c := xA ≠ -1) hx]
    unfold fn_195_155 at hfin
    rw [e175] at hfin
    have e195 : ∀ (b4 b8 : Int32), fn_195_175 g0 (Int32.ofNat t) y xB 0 b8 b4 = fn_195_216 g0 (Int32.ofNat t) b4 b8 (g0 541 (fn_175 (Int32.ofNat t) (Int32.ofNat (tw_B (mw_t g t) y.toInt c))).toNatClampNeg - y) (Int32.ofNat (tw_B (mw_t g t) y.toInt c)) := by
      intro b4 b8
      unfold fn_195_175 fn_195_195
      rw [← eB]
      by_cases hx : xB = -1
      · rw [if_neg (c := xB ≠ -1) (fun z => z hx), if_neg (c := xB ≠ -1) (fun z => z hx), if_neg (c := xB ≠ -1) (fun z => z hx)]
      · rw [if_pos (c := xB ≠ -1) hx, if_pos (c := xB ≠ -1) hx, if_pos (c := xB ≠ -1) hx]
    rw [e195] at hfin
    generalize hAi : tw_A (mw_t g t) y.toInt c = A at *
    generalize hBi : tw_B (mw_t g t) y.toInt c = B at *
    rw [ml_pa, ml_pa, zz_toN (by omega), zz_toN (by omega)] at hfin
    have yA := hw.2.1 A hA
    have yB := hw.2.1 B hB
    have vA : (g0 541 (50 * t + 4 * A + 5)).toInt = mw_t g t 1 A := fA 1 A (by omega)
    have vB : (g0 541 (50 * t + 4 * B + 5)).toInt = mw_t g t 1 B := fA 1 B (by omega)
    have s1 : (y - g0 541 (50 * t + 4 * A + 5)).toInt = y.toInt - mw_t g t 1 A := by rw [aa_sub32 (by omega) (by omega), vA]
    have s2 : (g0 541 (50 * t + 4 * B + 5) - y).toInt = mw_t g t 1 B - y.toInt := by rw [aa_sub32 (by omega) (by omega), vB]
    have norm : ∀ (x : Int32) (z : Int), x.toInt = z → -359 ≤ z → z ≤ 359 → (if 0 ≤ x then x else x + 360).toInt = z % 360 := by
      intro x z e1 e2 e3
      by_cases hx : 0 ≤ x
      · have := aa_le32.mp hx
        rw [e1, show (0 : Int32).toInt = 0 from rfl] at this
        rw [if_pos hx, e1]
        omega
      · have := mt aa_le32.mpr hx
        rw [e1, show (0 : Int32).toInt = 0 from rfl] at this
        rw [if_neg hx, aa_add32 (by rw [e1, show (360 : Int32).toInt = 360 from rfl]; omega) (by rw [e1, show (360 : Int32).toInt = 360 from rfl]; omega), e1, show (360 : Int32).toInt = 360 from rfl]
        omega
    have n1 := norm _ _ s1 (by omega) (by omega)
    have n2 := norm _ _ s2 (by omega) (by omega)
    have e216 : fn_195_216 g0 (Int32.ofNat t) (Int32.ofNat A) (y - g0 541 (50 * t + 4 * A + 5)) (g0 541 (50 * t + 4 * B + 5) - y) (Int32.ofNat B) = fn_196 g0 (Int32.ofNat (50 * t + 4 * A + 5)) (Int32.ofNat (50 * t + 4 * B + 5)) (if 0 ≤ y - g0 541 (50 * t + 4 * A + 5) then y - g0 541 (50 * t + 4 * A + 5) else y - g0 541 (50 * t + 4 * A + 5) + 360) (if 0 ≤ g0 541 (50 * t + 4 * B + 5) - y then g0 541 (50 * t + 4 * B + 5) - y else g0 541 (50 * t + 4 * B + 5) - y + 360) := by
      unfold fn_195_216 fn_195_247 fn_195_263
      rw [ml_pa, ml_pa]
      by_cases q1 : 0 ≤ y - g0 541 (50 * t + 4 * A + 5)
      · by_cases q2 : 0 ≤ g0 541 (50 * t + 4 * B + 5) - y
        · rw [if_pos q1, if_pos q2, if_pos q1, if_pos q2]
        · rw [if_pos q1, if_neg q2, if_pos q1, if_neg q2]
      · by_cases q2 : 0 ≤ g0 541 (50 * t + 4 * B + 5) - y
        · rw [if_neg q1, if_pos q2, if_neg q1, if_pos q2]
        · rw [if_neg q1, if_neg q2, if_neg q1, if_neg q2]
    rw [e216] at hfin
    generalize (if 0 ≤ y - g0 541 (50 * t + 4 * A + 5) then y - g0 541 (50 * t + 4 * A + 5) else y - g0 541 (50 * t + 4 * A + 5) + 360) = S at hfin n1
    generalize (if 0 ≤ g0 541 (50 * t + 4 * B + 5) - y then g0 541 (50 * t + 4 * B + 5) - y else g0 541 (50 * t + 4 * B + 5) - y + 360) = U at hfin n2
    have e196 : fn_196 g0 (Int32.ofNat (50 * t + 4 * A + 5)) (Int32.ofNat (50 * t + 4 * B + 5)) S U = fn_196_32 g0 (Int32.ofNat (50 * t + 4 * A + 5)) (Int32.ofNat (50 * t + 4 * B + 5)) S U (if g0 541 (50 * t + 4 * A + 8) = -1 then g0 541 (50 * t + 4 * B + 8) else g0 541 (50 * t + 4 * A + 8)) := by
      unfold fn_196
      rw [show Int32.ofNat (50 * t + 4 * A + 5) + 3 = Int32.ofNat (50 * t + 4 * A + 8) from ml_add _ 3, show Int32.ofNat (50 * t + 4 * B + 5) + 3 = Int32.ofNat (50 * t + 4 * B + 8) from ml_add _ 3, zz_toN (by omega), zz_toN (by omega)]
      by_cases q : g0 541 (50 * t + 4 * A + 8) = -1
      · rw [if_pos q, if_pos q]
      · rw [if_neg q, if_neg q]
    rw [e196] at hfin
    have hpol : (if g0 541 (50 * t + 4 * A + 8) = -1 then g0 541 (50 * t + 4 * B + 8) else g0 541 (50 * t + 4 * A + 8)).toInt = tw_P (mw_t g t) y.toInt c := by
      unfold tw_P
      rw [if_neg hc0, hAi, hBi]
      have w4A : (g0 541 (50 * t + 4 * A + 8)).toInt = mw_t g t 4 A := fA 4 A (by omega)
      have w4B : (g0 541 (50 * t + 4 * B + 8)).toInt = mw_t g t 4 B := fA 4 B (by omega)
      by_cases q : g0 541 (50 * t + 4 * A + 8) = -1
      · rw [if_pos q, w4B, if_neg (c := mw_t g t 4 A ≠ -1) (fun z => z (by rw [← w4A, q]; rfl))]
      · rw [if_neg q, w4A, if_pos (c := mw_t g t 4 A ≠ -1) (fun z => q (ti_eq.mpr (by rw [w4A, z]; rfl)))]
    generalize (if g0 541 (50 * t + 4 * A + 8) = -1 then g0 541 (50 * t + 4 * B + 8) else g0 541 (50 * t + 4 * A + 8)) = p at hfin hpol
    unfold fn_196_32 at hfin
    by_cases hp : p = -1
    · have hP : tw_P (mw_t g t) y.toInt c = -1 := by rw [← hpol, hp]; rfl
      rw [if_pos hp] at hfin
      unfold fn_196_53 fn_196_81 at hfin
      rw [show Int32.ofNat (50 * t + 4 * A + 5) + 1 = Int32.ofNat (50 * t + 4 * A + 6) from ml_add _ 1, show Int32.ofNat (50 * t + 4 * B + 5) + 1 = Int32.ofNat (50 * t + 4 * B + 6) from ml_add _ 1, show Int32.ofNat (50 * t + 4 * A + 5) + 2 = Int32.ofNat (50 * t + 4 * A + 7) from ml_add _ 2, show Int32.ofNat (50 * t + 4 * B + 5) + 2 = Int32.ofNat (50 * t + 4 * B + 7) from ml_add _ 2, zz_toN (by omega), zz_toN (by omega), zz_toN (by omega), zz_toN (by omega)] at hfin
      have hv := congrArg Prod.fst hfin
      have hg2 := congrArg Prod.snd hfin
      dsimp only at hv hg2
      simp only [w5_41] at hg2
      have bnd : w4_ok (mw_t g t) A B := ⟨hw.2.2.2 A hA, hw.2.2.2 B hB⟩
      have hPAB : mw_t g t 4 A = -1 ∧ mw_t g t 4 B = -1 := by
        unfold tw_P at hP
        rw [if_neg hc0, hAi, hBi] at hP
        by_cases q : mw_t g t 4 A = -1
        · rw [if_neg (c := mw_t g t 4 A ≠ -1) (fun z => z q)] at hP
          exact ⟨q, hP⟩
        · rw [if_pos (c := mw_t g t 4 A ≠ -1) q] at hP
          exact ⟨hP, absurd hP q⟩
      have bA := bnd.1.2.2.2 hPAB.1
      have bB := bnd.2.2.2.2 hPAB.2
      have bA3 := bnd.1.2.1
      have bB3 := bnd.2.2.1
      have m1 := Int.emod_nonneg (y.toInt - mw_t g t 1 A) (show (360 : Int) ≠ 0 by decide)
      have m2 := Int.emod_lt_of_pos (y.toInt - mw_t g t 1 A) (show (0 : Int) < 360 by decide)
      have m3 := Int.emod_nonneg (mw_t g t 1 B - y.toInt) (show (360 : Int) ≠ 0 by decide)
      have m4 := Int.emod_lt_of_pos (mw_t g t 1 B - y.toInt) (show (0 : Int) < 360 by decide)
      have hSU : (S + U).toInt = (y.toInt - mw_t g t 1 A) % 360 + (mw_t g t 1 B - y.toInt) % 360 := by rw [aa_add32 (by omega) (by omega), n1, n2]
      have q2 : (g0 541 (50 * t + 4 * A + 6)).toInt = mw_t g t 2 A := fA 2 A (by omega)
      have q3 : (g0 541 (50 * t + 4 * B + 6)).toInt = mw_t g t 2 B := fA 2 B (by omega)
      have q4 : (g0 541 (50 * t + 4 * A + 7)).toInt = mw_t g t 3 A := fA 3 A (by omega)
      have q5 : (g0 541 (50 * t + 4 * B + 7)).toInt = mw_t g t 3 B := fA 3 B (by omega)
      have r2 : (fn_197 (g0 541 (50 * t + 4 * A + 6)) (g0 541 (50 * t + 4 * B + 6)) S (S + U)).toInt = tw_D (mw_t g t) y.toInt c 2 := by
        rw [fn_197_v (by omega) (by omega) (by omega) (by omega) (by omega) (by omega) (by omega) (by omega), hSU, q2, q3, n1, ← tw_apart hw hcp hy 2, hAi, hBi]
      have r3 : (fn_197 (g0 541 (50 * t + 4 * A + 7)) (g0 541 (50 * t + 4 * B + 7)) S (S + U)).toInt = tw_D (mw_t g t) y.toInt c 3 := by
        rw [fn_197_v (by omega) (by omega) (by omega) (by omega) (by omega) (by omega) (by omega) (by omega), hSU, q4, q5, n1, ← tw_apart hw hcp hy 3, hAi, hBi]
      rw [← hg2, ← hv, hP]
      refine ⟨fun k j z => ?_, ?_, ?_, fun _ => ⟨?_, ?_⟩⟩
      · rw [aa_w_ne _ _ (by omega), aa_w_ne _ _ (by omega), aa_w_ne _ _ (by omega)]
        exact f0 k j (by omega)
      · rw [aa_w_ne _ _ (by omega), aa_w_ne _ _ (by omega), aa_w_at, hp]
        rfl
      · rw [if_pos ⟨hc0, rfl⟩]
      · rw [aa_w_ne _ _ (by omega), aa_w_at]
        exact r2
      · rw [aa_w_at]
        exact r3
    · have hP : tw_P (mw_t g t) y.toInt c ≠ -1 := fun z => hp (ti_eq.mpr (by rw [hpol, z]; rfl))
      rw [if_neg hp] at hfin
      have hv := congrArg Prod.fst hfin
      have hg2 := congrArg Prod.snd hfin
      dsimp only at hv hg2
      rw [← hg2, ← hv]
      refine ⟨fun k j z => ?_, ?_, ?_, fun z => absurd z hP⟩
      · rw [aa_w_ne _ _ (by omega)]
        exact f0 k j (by omega)
      · rw [aa_w_at]
        exact hpol
      · rw [if_neg fun z => hP z.2]
end
section
/-! the model's LIGHT, NIGHT; the world of both sides -/
/-- a town's points in the model's row -/
def av_t (a : Nat → Int32) (t : Nat) : Nat → Nat → Int := fun o i => (a (50 * t + 4 * i + 4 + o)).toInt
def av_c (a : Nat → Int32) (t : Nat) : Nat := (a (50 * t + 4)).toInt.toNat
/-- a LIGHT (0), NIGHT (1) of a DAY of a town: where it begins, how long it is -/
def hv_t (a : Nat → Int32) (t : Nat) (d h : Int) : Option (Int × Int) := tw_H (av_t a t) (av_c a t) d h
def pv_t (a : Nat → Int32) (t : Nat) (v : Int) : Int := tw_P (av_t a t) v (av_c a t)
theorem hl_all {g : aa_G} {t c : Nat} {d h : Int32} (ht : t < 4) (hw : tw_ok (mw_t g t) c) (h1 : g 541 (50 * t + 4) = Int32.ofNat c) (hl : g 540 16 = -1) (hh : h = 0 ∨ h = 1) {v : Int32} {g' : aa_G} (hg : fn_194 g (Int32.ofNat t) d h = (v, g')) :
    (∀ k j, ¬ (k = 540 ∧ 13 ≤ j ∧ j ≤ 18 ∧ j ≠ 16) → g' k j = g k j) ∧ (match tw_H (mw_t g t) c d.toInt h.toInt with
      | none => v = 0
      | some (b, l) => v = 1 ∧ (g' 540 17).toInt = b ∧ (g' 540 18).toInt = l) := by
  have hh1 : h.toInt = 1 ↔ h = 1 := ⟨fun z => ti_eq.mpr z, fun z => by rw [z]; rfl⟩
  have hfst : ∀ {x y : Int32} {a b : aa_G}, (x, a) = (y, b) → x = y ∧ a = b := fun e => by cases e; exact ⟨rfl, rfl⟩
  unfold fn_194 at hg
  unfold tw_H
  by_cases hday : 0 ≤ d.toInt ∧ d.toInt ≤ 35999
  · rw [if_neg (ti_193n.mpr hday)] at hg
    rw [if_neg (c := ¬ (0 ≤ d.toInt ∧ d.toInt ≤ 35999)) (fun z => z hday)]
    have hdd : (d + 1).toInt = d.toInt + 1 := aa_add32 (by rw [show (1 : Int32).toInt = 1 from rfl]; omega) (by rw [show (1 : Int32).toInt = 1 from rfl]; omega)
    by_cases hll : h.toInt = 1 ∧ d.toInt = 35999
    · have hd : d = 35999 := ti_eq.mpr (by rw [hll.2]; rfl)
      rw [if_pos hll]
      rw [if_neg (c := h ≠ 1) (fun z => z (hh1.mp hll.1)), if_neg (c := d ≠ 35999) (fun z => z hd)] at hg
      obtain ⟨rfl, rfl⟩ := hfst hg
      exact ⟨fun _ _ _ => rfl, rfl⟩
    · rw [if_neg (c := h.toInt = 1 ∧ d.toInt = 35999) hll]
      have e20 : fn_194_20 g (Int32.ofNat t) d h = (v, g') := by
        by_cases e : h = 1
        · rw [if_neg (c := h ≠ 1) (fun z => z e), if_pos (c := d ≠ 35999) (fun z => hll ⟨hh1.mpr e, by rw [z]; rfl⟩)] at hg
          exact hg
        · rw [if_pos (c := h ≠ 1) e] at hg
          exact hg
      clear hg
      -- behind the first laying: the day itself
      have tail : ∀ (g1 : aa_G) (x : Int32), (∀ k j, ¬ (k = 540 ∧ 13 ≤ j ∧ j ≤ 15) → g1 k j = g k j) → fn_194_50 g1 (Int32.ofNat t) d h x = (v, g') → (h = 1 → ∃ z : Int, x.toInt = 86400 + z ∧ 0 ≤ z ∧ z ≤ 86399) →
          (∀ k j, ¬ (k = 540 ∧ 13 ≤ j ∧ j ≤ 18 ∧ j ≠ 16) → g' k j = g k j) ∧ (match (if tw_P (mw_t g t) (d.toInt % 360) c ≠ -1 then none else some (if h = 1 then (tw_D (mw_t g t) (d.toInt % 360) c 3, x.toInt - tw_D (mw_t g t) (d.toInt % 360) c 3) else (tw_D (mw_t g t) (d.toInt % 360) c 2, tw_D (mw_t g t) (d.toInt % 360) c 3 - tw_D (mw_t g t) (d.toInt % 360) c 2)) : Option (Int × Int)) with
            | none => v = 0
            | some (b, l) => v = 1 ∧ (g' 540 17).toInt = b ∧ (g' 540 18).toInt = l) := by
        intro g1 x f1 e50 hx
        have mwe : mw_t g1 t = mw_t g t := by
          funext o i
          unfold mw_t
          rw [f1 _ _ (by omega)]
        unfold fn_194_50 at e50
        obtain ⟨w2, g2, hlay⟩ : ∃ w2 g2, fn_195 g1 (Int32.ofNat t) d = (w2, g2) := ⟨_, _, rfl⟩
        rw [hlay] at e50
        obtain ⟨m1, m2, m3, m4⟩ := ml_all ht (by rw [mwe]; exact hw) ((f1 _ _ (by omega)).trans h1) ((f1 _ _ (by omega)).trans hl) hday.1 hlay
        rw [mwe] at m2 m3 m4
        dsimp only at e50
        unfold fn_194_56 at e50
        have f2 : ∀ k j, ¬ (k = 540 ∧ 13 ≤ j ∧ j ≤ 15) → g2 k j = g k j := fun k j z => (m1 k j z).trans (f1 k j z)
        by_cases hP : tw_P (mw_t g t) (d.toInt % 360) c = -1
        · have hc := tw_P0 hP
          obtain ⟨d2, d3⟩ := m4 hP
          have bnd := tw_D_b hw hc (v := d.toInt % 360) ⟨by omega, by omega⟩ hP
          rw [if_pos ⟨by omega, hP⟩] at m3
          rw [m3, if_pos (c := (1 : Int32) ≠ 0) (by decide)] at e50
          rw [if_neg (c := tw_P (mw_t g t) (d.toInt % 360) c ≠ -1) (fun z => z hP)]
          unfold fn_194_77 at e50
          rcases hh with rfl | rfl
          · rw [if_neg (c := (0 : Int32) ≠ 0) (fun z => z rfl), if_neg (c := (0 : Int32) ≠ 0) (fun z => z rfl)] at e50
            obtain ⟨rfl, rfl⟩ := hfst e50
            refine ⟨fun k j z => ?_, rfl, ?_, ?_⟩
            · rw [aa_w_ne _ _ (by omega), aa_w_ne _ _ (by omega)]
              exact f2 k j (by omega)
            · rw [aa_w_ne _ _ (by omega), aa_w_at]
              exact d2
            · rw [aa_w_at]
              show (g2 540 15 - g2 540 14).toInt = tw_D (mw_t g t) (d.toInt % 360) c 3 - tw_D (mw_t g t) (d.toInt % 360) c 2
              rw [aa_sub32 (by omega) (by omega), d2, d3]
          · obtain ⟨z, hz1, hz2, hz3⟩ := hx rfl
            rw [if_pos (c := (1 : Int32) ≠ 0) (by decide), if_pos (c := (1 : Int32) ≠ 0) (by decide)] at e50
            obtain ⟨rfl, rfl⟩ := hfst e50
            refine ⟨fun k j z => ?_, rfl, ?_, ?_⟩
            · rw [aa_w_ne _ _ (by omega), aa_w_ne _ _ (by omega)]
              exact f2 k j (by omega)
            · rw [aa_w_ne _ _ (by omega), aa_w_at]
              exact d3
            · rw [aa_w_at]
              show (x - g2 540 15).toInt = x.toInt - tw_D (mw_t g t) (d.toInt % 360) c 3
              rw [aa_sub32 (by omega) (by omega), d3]
        · rw [if_neg (fun z => hP z.2)] at m3
          rw [m3, if_neg (c := (0 : Int32) ≠ 0) (fun z => z rfl)] at e50
          obtain ⟨rfl, rfl⟩ := hfst e50
          rw [if_pos (c := tw_P (mw_t g t) (d.toInt % 360) c ≠ -1) hP]
          exact ⟨fun k j z => f2 k j (by omega), rfl⟩
      unfold fn_194_20 at e20
      rcases hh with rfl | rfl
      · rw [if_pos (c := (0 : Int32) ≠ 1) (by decide)] at e20
        have k := tail g 0 (fun _ _ _ => rfl) e20 (fun z => absurd z (by decide))
        rw [if_neg (c := (0 : Int32) = 1) (by decide)] at k
        rw [if_neg (c := (0 : Int32).toInt = 1) (by decide)]
        exact k
      · rw [if_neg (c := (1 : Int32) ≠ 1) (fun z => z rfl)] at e20
        rw [if_pos (c := (1 : Int32).toInt = 1) rfl]
        obtain ⟨w2, g2, hlay⟩ : ∃ w2 g2, fn_195 g (Int32.ofNat t) (d + 1) = (w2, g2) := ⟨_, _, rfl⟩
        rw [hlay] at e20
        obtain ⟨m1, m2, m3, m4⟩ := ml_all ht hw h1 hl (by rw [hdd]; omega) hlay
        rw [hdd] at m2 m3 m4
        dsimp only at e20
        unfold fn_194_36 at e20
        by_cases hP : tw_P (mw_t g t) ((d.toInt + 1) % 360) c = -1
        · have hc := tw_P0 hP
          obtain ⟨d2, d3⟩ := m4 hP
          have bnd := tw_D_b hw hc (v := (d.toInt + 1) % 360) ⟨by omega, by omega⟩ hP
          rw [if_pos ⟨by omega, hP⟩] at m3
          rw [m3, if_pos (c := (1 : Int32) ≠ 0) (by decide)] at e20
          have e86 : (86400 + g2 540 14).toInt = 86400 + (g2 540 14).toInt := aa_add32 (by rw [show (86400 : Int32).toInt = 86400 from rfl]; omega) (by rw [show (86400 : Int32).toInt = 86400 from rfl]; omega)
          have k := tail g2 _ m1 e20 (fun _ => ⟨(g2 540 14).toInt, e86, by omega, by omega⟩)
          rw [if_pos (c := (1 : Int32) = 1) rfl, e86, d2] at k
          rw [if_neg (c := tw_P (mw_t g t) ((d.toInt + 1) % 360) c ≠ -1) (fun z => z hP)]
          exact k
        · rw [if_neg (fun z => hP z.2)] at m3
          rw [m3, if_neg (c := (0 : Int32) ≠ 0) (fun z => z rfl)] at e20
          obtain ⟨rfl, rfl⟩ := hfst e20
          rw [if_pos (c := tw_P (mw_t g t) ((d.toInt + 1) % 360) c ≠ -1) hP]
          refine ⟨fun k j z => m1 k j (by omega), ?_⟩
          split
          · rfl
          · rename_i e
            split at e <;> cases e
  · rw [if_pos (ti_193z.mpr hday)] at hg
    obtain ⟨rfl, rfl⟩ := hfst hg
    rw [if_pos (c := ¬ (0 ≤ d.toInt ∧ d.toInt ≤ 35999)) hday]
    exact ⟨fun _ _ _ => rfl, rfl⟩
/-- a town of both sides, as it is asked -/
def wd_t (g : aa_G) (t : Nat) : Prop := g (5 * t + 14) 0 = g 541 (50 * t + 3) ∧ g (5 * t + 14) 1 = g 541 (50 * t + 4) ∧ (-43200 ≤ (g 541 (50 * t + 3)).toInt ∧ (g 541 (50 * t + 3)).toInt ≤ 43200) ∧ 0 ≤ (g 541 (50 * t + 4)).toInt ∧ tw_ok (av_t (g 541) t) (av_c (g 541) t) ∧ ∀ o i, 1 ≤ o → o ≤ 4 → i < av_c (g 541) t → g (5 * t + 14 + o) i = g 541 (50 * t + 4 * i + 4 + o)
/-- what the asking methods stand on -/
def wd_g (g : aa_G) : Prop := (0 ≤ (g 541 0).toInt ∧ (g 541 0).toInt ≤ 4) ∧ (1 ≤ (g 541 1).toInt ∧ (g 541 1).toInt ≤ 3600) ∧ g 2 0 = g 541 0 ∧ g 2 1 = g 541 1 ∧ g 540 16 = -1 ∧ ∀ t : Nat, (t : Int) < (g 541 0).toInt → wd_t g t
theorem wd_of {g g' : aa_G} (h : wd_g g) (f : ∀ k j, k ≤ 33 ∨ k = 541 ∨ (k = 540 ∧ j = 16) → g' k j = g k j) : wd_g g' := by
  obtain ⟨a1, a2, a3, a4, a5, a6⟩ := h
  have e541 : g' 541 = g 541 := funext fun j => f 541 j (.inr (.inl rfl))
  unfold wd_g
  rw [e541, f 2 0 (by omega), f 2 1 (by omega), f 540 16 (by omega)]
  refine ⟨a1, a2, a3, a4, a5, fun t ht => ?_⟩
  have b := a6 t ht
  unfold wd_t at b ⊢
  rw [e541, f _ 0 (by omega), f _ 1 (by omega)]
  refine ⟨b.1, b.2.1, b.2.2.1, b.2.2.2.1, b.2.2.2.2.1, fun o i o1 o2 hi => ?_⟩
  rw [f _ i (by omega)]
  exact b.2.2.2.2.2 o i o1 o2 hi
theorem wd_c {g : aa_G} {t : Nat} (h : wd_t g t) : av_c (g 541) t ≤ 12 ∧ g 541 (50 * t + 4) = Int32.ofNat (av_c (g 541) t) ∧ g (5 * t + 14) 1 = Int32.ofNat (av_c (g 541) t) := by
  obtain ⟨b1, b2, b3, b4, b5, b6⟩ := h
  have hc := b5.1
  have e : g 541 (50 * t + 4) = Int32.ofNat (av_c (g 541) t) := by
    refine ti_eq.mpr ?_
    rw [zz_ofN (by omega)]
    unfold av_c
    omega
  exact ⟨hc, e, b2.trans e⟩
theorem wd_cw {g : aa_G} {t : Nat} (h : wd_t g t) : ∀ o i, 1 ≤ o → o ≤ 4 → i < av_c (g 541) t → cw_t g (5 * t + 14) o i = av_t (g 541) t o i := fun o i o1 o2 hi => by
  unfold cw_t av_t
  rw [h.2.2.2.2.2 o i o1 o2 hi]
theorem tw_ok_cg {w w' : Nat → Nat → Int} {c : Nat} (h : ∀ o i, 1 ≤ o → o ≤ 4 → i < c → w' o i = w o i) (k : tw_ok w c) : tw_ok w' c := by
  obtain ⟨k1, k2, k3, k4⟩ := k
  refine ⟨k1, fun i hi => ?_, fun i hi => ?_, fun i hi => ?_⟩
  · rw [h 1 i (by omega) (by omega) hi]; exact k2 i hi
  · rw [h 1 i (by omega) (by omega) (by omega), h 1 (i + 1) (by omega) (by omega) hi]; exact k3 i hi
  · rw [h 2 i (by omega) (by omega) hi, h 3 i (by omega) (by omega) hi, h 4 i (by omega) (by omega) hi]; exact k4 i hi
/-- look of a town -/
theorem ck_look {g : aa_G} {P t : Nat} {d h : Int32} (W : wd_g g) (ht : (t : Int) < (g 541 0).toInt) (hP : 461 ≤ P) (hh : h = 0 ∨ h = 1) : lk_ok g (fn_78 g P (some (5 * t + 14)) d h) P d h (hv_t (g 541) t d.toInt h.toInt) ∧ (0 ≤ d.toInt → d.toInt ≤ 35999 → h = 0 → (fn_78 g P (some (5 * t + 14)) d h P 5).toInt = pv_t (g 541) t (d.toInt % 360)) := by
  have w := W.2.2.2.2.2 t ht
  have n4 := W.1
  obtain ⟨hc, e1, e2⟩ := wd_c w
  have k := lk_all (g := g) (P := P) (T := 5 * t + 14) (d := d) (h := h) (.inr (by omega)) e2 (tw_ok_cg (wd_cw w) w.2.2.2.2.1) hh
  unfold hv_t pv_t
  rw [← tw_H_cg (wd_cw w), ← tw_P_cg (wd_cw w)]
  exact k
theorem mk_half {g : aa_G} {t : Nat} {d h : Int32} (W : wd_g g) (ht : (t : Int) < (g 541 0).toInt) (hh : h = 0 ∨ h = 1) {v : Int32} {g' : aa_G} (hg : fn_194 g (Int32.ofNat t) d h = (v, g')) : (∀ k j, ¬ (k = 540 ∧ 13 ≤ j ∧ j ≤ 18 ∧ j ≠ 16) → g' k j = g k j) ∧ (match hv_t (g 541) t d.toInt h.toInt with
      | none => v = 0
      | some (b, l) => v = 1 ∧ (g' 540 17).toInt = b ∧ (g' 540 18).toInt = l) := by
  have w := W.2.2.2.2.2 t ht
  have n4 := W.1
  obtain ⟨hc, e1, e2⟩ := wd_c w
  exact hl_all (by omega) w.2.2.2.2.1 e1 W.2.2.2.2.1 hh hg
theorem mk_lay {g : aa_G} {t : Nat} {d : Int32} (W : wd_g g) (ht : (t : Int) < (g 541 0).toInt) (hd : 0 ≤ d.toInt ∧ d.toInt ≤ 35999) {v : Int32} {g' : aa_G} (hg : fn_195 g (Int32.ofNat t) d = (v, g')) : (∀ k j, ¬ (k = 540 ∧ 13 ≤ j ∧ j ≤ 15) → g' k j = g k j) ∧ (g' 540 13).toInt = pv_t (g 541) t (d.toInt % 360) ∧ (match hv_t (g 541) t d.toInt 0 with
      | none => v = 0
      | some (b, l) => v = 1 ∧ (g' 540 14).toInt = b ∧ (g' 540 15).toInt = b + l) := by
  have w := W.2.2.2.2.2 t ht
  have n4 := W.1
  obtain ⟨hc, e1, e2⟩ := wd_c w
  obtain ⟨m1, m2, m3, m4⟩ := ml_all (by omega) w.2.2.2.2.1 e1 W.2.2.2.2.1 hd.1 hg
  refine ⟨m1, m2, ?_⟩
  unfold hv_t tw_H
  rw [if_neg (c := ¬ (0 ≤ d.toInt ∧ d.toInt ≤ 35999)) (fun z => z hd), if_neg (c := (0 : Int) = 1 ∧ d.toInt = 35999) (fun z => absurd z.1 (by decide)), if_neg (c := (0 : Int) = 1) (by decide)]
  by_cases hP : tw_P (av_t (g 541) t) (d.toInt % 360) (av_c (g 541) t) = -1
  · have hcp := tw_P0 hP
    obtain ⟨d2, d3⟩ := m4 hP
    rw [if_neg (c := tw_P (av_t (g 541) t) (d.toInt % 360) (av_c (g 541) t) ≠ -1) (fun z => z hP)]
    refine ⟨m3.trans (if_pos ⟨by omega, hP⟩), d2, ?_⟩
    rw [d3]
    show _ = tw_D (av_t (g 541) t) (d.toInt % 360) (av_c (g 541) t) 2 + (tw_D (av_t (g 541) t) (d.toInt % 360) (av_c (g 541) t) 3 - tw_D (av_t (g 541) t) (d.toInt % 360) (av_c (g 541) t) 2)
    have e : tw_D (mw_t g t) (d.toInt % 360) (av_c (g 541) t) 3 = tw_D (av_t (g 541) t) (d.toInt % 360) (av_c (g 541) t) 3 := rfl
    omega
  · rw [if_pos (c := tw_P (av_t (g 541) t) (d.toInt % 360) (av_c (g 541) t) ≠ -1) hP]
    exact m3.trans (if_neg fun z => hP z.2)
/-- the bounds of a LIGHT, NIGHT -/
theorem hv_b {g : aa_G} {t : Nat} (W : wd_g g) (ht : (t : Int) < (g 541 0).toInt) {d h b l : Int} (e : hv_t (g 541) t d h = some (b, l)) : 0 ≤ b ∧ b ≤ 86399 ∧ 1 ≤ l ∧ (h ≠ 1 → b + l ≤ 86399) ∧ (h = 1 → 1 ≤ b ∧ 86400 ≤ b + l ∧ b + l ≤ 172798) := tw_H_b (W.2.2.2.2.2 t ht).2.2.2.2.1 e
/-- which town is asked of -/
theorem ct_at {g : aa_G} (W : wd_g g) (a : Int32) : (∃ t : Nat, t < 4 ∧ a = Int32.ofNat t ∧ (t : Int) < (g 541 0).toInt ∧ fn_31 g a = some (5 * t + 14) ∧ fn_192 g a = 1) ∨ (¬ (0 ≤ a.toInt ∧ a.toInt < (g 541 0).toInt) ∧ fn_31 g a = none ∧ fn_192 g a = 0) := by
  obtain ⟨n4, -, e0, -⟩ := W
  have es : (g 541 0 - 1).toInt = (g 541 0).toInt - 1 := aa_sub32 (by rw [show (1 : Int32).toInt = 1 from rfl]; omega) (by rw [show (1 : Int32).toInt = 1 from rfl]; omega)
  have e192 : fn_192 g a = fn_154 a 0 (g 541 0 - 1) := rfl
  unfold fn_31
  rw [e192, e0]
  by_cases h : 0 ≤ a.toInt ∧ a.toInt < (g 541 0).toInt
  · left
    obtain ⟨t, t1, rfl, t3⟩ := ti_nat h.1
    refine ⟨t, by omega, rfl, by omega, ?_, ?_⟩
    · rw [if_neg (ti_14n.mpr (by rw [es]; exact ⟨h.1, by omega⟩)), zz_toN t1]
    · rw [ti_154, if_pos (by rw [es]; exact ⟨h.1, by omega⟩)]
  · right
    refine ⟨h, ?_, ?_⟩
    · rw [if_pos (ti_14z.mpr (by rw [es]; exact fun z => h ⟨z.1, by omega⟩))]
    · rw [ti_154, if_neg (by rw [es]; exact fun z => h ⟨z.1, by omega⟩)]
end
section
/-! EQUAL STATES: the class's cells (of one heap) and the model's (of another) tell the same; Q says it of one state and one row -/
abbrev rq_Q : Type := aa_G → aa_G → Nat → Nat → Prop
/-- what is copied on both sides stays alike -/
def rq_cp (Q : rq_Q) : Prop := ∀ (gc gc' gm gm' : aa_G) (S S' r r' : Nat), aa_inv gm → r < 16 → cp_st gc gc' S' S → (∀ q, q < 399 → gm' 541 (399 * r' + q) = gm 541 (399 * r + q)) → Q gc gm S r → Q gc' gm' S' r'
theorem cp_same {g g' : aa_G} {S : Nat} (h : ∀ k j, S ≤ k → k ≤ S + 31 → g' k j = g k j) : cp_st g g' S S := by
  refine ⟨fun j _ => h S j (by omega) (by omega), ⟨fun j _ => h _ j (by omega) (by omega), fun o j o1 o2 _ => h _ j (by omega) (by omega)⟩, fun t ht => ⟨fun j _ => h _ j (by omega) (by omega), fun o j o1 o2 _ => h _ j (by omega) (by omega)⟩⟩
theorem cp_via {g g1 g' : aa_G} {S S' : Nat} (k : cp_st g g1 S' S) (h : ∀ k j, S' ≤ k → k ≤ S' + 31 → g' k j = g1 k j) : cp_st g g' S' S := by
  obtain ⟨k1, ⟨k2, k3⟩, k4⟩ := k
  refine ⟨fun j hj => (h _ j (by omega) (by omega)).trans (k1 j hj), ⟨fun j hj => (h _ j (by omega) (by omega)).trans (k2 j hj), fun o j o1 o2 hj => (h _ j (by omega) (by omega)).trans (k3 o j o1 o2 hj)⟩, fun t ht => ⟨fun j hj => (h _ j (by omega) (by omega)).trans ((k4 t ht).1 j hj), fun o j o1 o2 hj => (h _ j (by omega) (by omega)).trans ((k4 t ht).2 o j o1 o2 hj)⟩⟩
theorem rq_same {Q : rq_Q} (hQ : rq_cp Q) {gc gc' gm gm' : aa_G} {S r : Nat} (hi : aa_inv gm) (hr : r < 16) (hc : ∀ k j, S ≤ k → k ≤ S + 31 → gc' k j = gc k j) (hm : ∀ q, q < 399 → gm' 541 (399 * r + q) = gm 541 (399 * r + q)) (h : Q gc gm S r) : Q gc' gm' S r := hQ gc gc' gm gm' S S r r hi hr (cp_same hc) hm h
/-- the numbers beside the states -/
def rs_g (gc gm : aa_G) : Prop := gc 454 0 = gm 540 4 ∧ (∀ k, k < 500 → gm 543 k &&& 255 = gc 455 k) ∧ gc 1 13 = gm 540 6 ∧ (gc 1 14 = gm 540 35 ∨ gc 1 14 = -1) ∧ gm 540 16 = -1 ∧ gc 459 0 = gm 540 37 ∧ ∀ j : Nat, (j : Int) < (gm 540 37).toInt → gc 460 j = gm 553 j
def rd_g (Q : rq_Q) (gc gm : aa_G) (c e : Nat) : Prop := (c ≤ 12 ∧ e < 12) ∧ (gc 66 0 = Int32.ofNat c ∧ gm 540 1 = Int32.ofNat c ∧ gc 66 1 = Int32.ofNat e) ∧ ∀ i, i < c → Q gc gm (32 * ((e + 12 - c + i) % 12) + 68) (3 + i)
def rk_g (Q : rq_Q) (gc gm : aa_G) : Prop := ∀ k, k < 2 → gc 453 k = gm 542 k ∧ (gm 542 k ≠ 0 → Q gc gm (32 * k + 476) (1 + k))
def rr_g (Q : rq_Q) (gc gm : aa_G) : Prop := Q gc gm 2 0 ∧ rk_g Q gc gm ∧ (∃ c e, rd_g Q gc gm c e) ∧ rs_g gc gm
theorem rr_c {Q : rq_Q} (hQ : rq_cp Q) {gc gc' gm : aa_G} (hi : aa_inv gm) (h : rr_g Q gc gm) (f : ∀ k j, k < 540 → (2 ≤ k ∧ k ≤ 33) ∨ (k = 66 ∧ j ≤ 1) ∨ (68 ≤ k ∧ k ≤ 451) ∨ k = 453 ∨ (476 ≤ k) ∨ (k = 454 ∧ j = 0) ∨ k = 455 ∨ (k = 1 ∧ 13 ≤ j) ∨ (k = 459 ∧ j = 0) ∨ k = 460 → gc' k j = gc k j) : rr_g Q gc' gm := by
  obtain ⟨h1, h2, ⟨c, e, h3, h4, h5⟩, s1, s2, s3, s4, s5, s6, s7⟩ := h
  refine ⟨rq_same hQ hi (by omega) (fun k j a b => f k j (by omega) (by omega)) (fun _ _ => rfl) h1, fun k hk => ⟨(f 453 k (by omega) (by omega)).trans (h2 k hk).1, fun z => rq_same hQ hi (by omega) (fun k' j a b => f k' j (by omega) (by omega)) (fun _ _ => rfl) ((h2 k hk).2 z)⟩, ⟨c, e, h3, ⟨(f 66 0 (by omega) (by omega)).trans h4.1, h4.2.1, (f 66 1 (by omega) (by omega)).trans h4.2.2⟩, fun i hi' => rq_same hQ hi (by omega) (fun k j a b => f k j (by omega) (by omega)) (fun _ _ => rfl) (h5 i hi')⟩, ?_⟩
  refine ⟨(f 454 0 (by omega) (by omega)).trans s1, fun k hk => (s2 k hk).trans (f 455 k (by omega) (by omega)).symm, (f 1 13 (by omega) (by omega)).trans s3, (by rw [f 1 14 (by omega) (by omega)]; exact s4), s5, (f 459 0 (by omega) (by omega)).trans s6, fun j hj => (f 460 j (by omega) (by omega)).trans (s7 j hj)⟩
theorem rr_m {Q : rq_Q} (hQ : rq_cp Q) {gc gm gm' : aa_G} (hi : aa_inv gm) (h : rr_g Q gc gm) (f : ∀ k j, 540 ≤ k → (k = 541 ∧ j < 5985) ∨ k = 542 ∨ k = 543 ∨ k = 553 ∨ (k = 540 ∧ (j = 1 ∨ j = 4 ∨ j = 6 ∨ j = 16 ∨ j = 35 ∨ j = 37)) → gm' k j = gm k j) : rr_g Q gc gm' := by
  obtain ⟨h1, h2, ⟨c, e, h3, h4, h5⟩, s1, s2, s3, s4, s5, s6, s7⟩ := h
  refine ⟨rq_same hQ hi (by omega) (fun _ _ _ _ => rfl) (fun q hq => f 541 _ (by omega) (by omega)) h1, fun k hk => ⟨(h2 k hk).1.trans (f 542 k (by omega) (by omega)).symm, fun z => rq_same hQ hi (by omega) (fun _ _ _ _ => rfl) (fun q hq => f 541 _ (by omega) (by omega)) ((h2 k hk).2 (by rw [f 542 k (by omega) (by omega)] at z; exact z))⟩, ⟨c, e, h3, ⟨h4.1, (f 540 1 (by omega) (by omega)).trans h4.2.1, h4.2.2⟩, fun i hi' => rq_same hQ hi (by omega) (fun _ _ _ _ => rfl) (fun q hq => f 541 _ (by omega) (by omega)) (h5 i hi')⟩, ?_⟩
  refine ⟨s1.trans (f 540 4 (by omega) (by omega)).symm, fun k hk => by rw [f 543 k (by omega) (by omega)]; exact s2 k hk, s3.trans (f 540 6 (by omega) (by omega)).symm, (by rw [f 540 35 (by omega) (by omega)]; exact s4), (f 540 16 (by omega) (by omega)).trans s5, s6.trans (f 540 37 (by omega) (by omega)).symm, fun j hj => ?_⟩
  rw [f 540 37 (by omega) (by omega)] at hj
  rw [f 553 j (by omega) (by omega)]
  exact s7 j hj
/-- a deed comes -/
theorem rd_push {Q : rq_Q} (hQ : rq_cp Q) {gc gm gc' gm' : aa_G} {c e : Nat} (hi : aa_inv gm) (h0 : Q gc gm 2 0) (h : rd_g Q gc gm c e) (p1 : cp_st gc gc' (32 * e + 68) 2) (p2 : gc' 66 0 = Int32.ofNat (min (c + 1) 12)) (p3 : gc' 66 1 = Int32.ofNat ((e + 1) % 12)) (p4 : ∀ k j, 68 ≤ k → k ≤ 451 → ¬ (32 * e + 68 ≤ k ∧ k ≤ 32 * e + 99) → gc' k j = gc k j) (m1 : gm' 540 1 = Int32.ofNat (min (c + 1) 12)) (m2 : ∀ q, q < 399 → gm' 541 (399 * (3 + min c 11) + q) = gm 541 (399 * 0 + q)) (m3 : ∀ i q, q < 399 → i < min c 11 → gm' 541 (399 * (3 + i) + q) = gm 541 (399 * (3 + i + (if c = 12 then 1 else 0)) + q)) : rd_g Q gc' gm' (min (c + 1) 12) ((e + 1) % 12) := by
  obtain ⟨⟨b1, b2⟩, ⟨a1, a2, a3⟩, k⟩ := h
  refine ⟨⟨by omega, by omega⟩, ⟨p2, m1, p3⟩, fun i hi' => ?_⟩
  by_cases h12 : c = 12
  · subst h12
    by_cases hl : i = 11
    · subst hl
      rw [show ((e + 1) % 12 + 12 - min (12 + 1) 12 + 11) % 12 = e by omega]
      exact hQ gc gc' gm gm' 2 _ 0 _ hi (by omega) p1 (fun q hq => by
        have := m2 q hq
        rwa [show 399 * (3 + min 12 11) + q = 399 * (3 + 11) + q by omega] at this) h0
    · have k1 := k (i + 1) (by omega)
      rw [show ((e + 1) % 12 + 12 - min (12 + 1) 12 + i) % 12 = (e + 12 - 12 + (i + 1)) % 12 by omega]
      refine hQ gc gc' gm gm' _ _ (3 + (i + 1)) _ hi (by omega) (cp_same fun k j q1 q2 => p4 k j (by omega) (by omega) (by omega)) (fun q hq => ?_) k1
      have := m3 i q hq (by omega)
      rwa [if_pos rfl, show 399 * (3 + i + 1) + q = 399 * (3 + (i + 1)) + q by omega] at this
  · by_cases hl : i = c
    · subst hl
      rw [show ((e + 1) % 12 + 12 - min (i + 1) 12 + i) % 12 = e by omega]
      exact hQ gc gc' gm gm' 2 _ 0 _ hi (by omega) p1 (fun q hq => by
        have := m2 q hq
        rwa [show min i 11 = i by omega] at this) h0
    · have k1 := k i (by omega)
      rw [show ((e + 1) % 12 + 12 - min (c + 1) 12 + i) % 12 = (e + 12 - c + i) % 12 by omega]
      refine hQ gc gc' gm gm' _ _ (3 + i) _ hi (by omega) (cp_same fun k j q1 q2 => p4 k j (by omega) (by omega) (by omega)) (fun q hq => ?_) k1
      have := m3 i q hq (by omega)
      rwa [if_neg h12, Nat.add_zero] at this
theorem rd_pop {Q : rq_Q} (hQ : rq_cp Q) {gc gm gc' gm' : aa_G} {c e : Nat} (hi : aa_inv gm) (h : rd_g Q gc gm c e) (h0 : c ≠ 0) (hc : cd_pop gc gc' e c) (m1 : gm' 540 1 = Int32.ofNat (c - 1)) (m2 : ∀ q, q < 399 → gm' 541 q = gm 541 (399 * (3 + (c - 1)) + q)) (m3 : ∀ j, 1197 ≤ j → gm' 541 j = gm 541 j) : rd_g Q gc' gm' (c - 1) ((e + 11) % 12) ∧ Q gc' gm' 2 0 := by
  obtain ⟨⟨b1, b2⟩, ⟨a1, a2, a3⟩, k⟩ := h
  obtain ⟨p1, p2, p3, p4⟩ := hc
  refine ⟨⟨⟨by omega, by omega⟩, ⟨p2, m1, p3⟩, fun i hi' => ?_⟩, ?_⟩
  · have k1 := k i (by omega)
    rw [show ((e + 11) % 12 + 12 - (c - 1) + i) % 12 = (e + 12 - c + i) % 12 by omega]
    exact hQ gc gc' gm gm' _ _ (3 + i) _ hi (by omega) (cp_same fun k j q1 q2 => p4 k j (by omega) (by omega)) (fun q hq => m3 _ (by omega)) k1
  · have k1 := k (c - 1) (by omega)
    rw [show (e + 12 - c + (c - 1)) % 12 = (e + 11) % 12 by omega] at k1
    refine hQ gc gc' gm gm' _ _ (3 + (c - 1)) _ hi (by omega) p1 (fun q hq => ?_) k1
    rw [Nat.mul_zero, Nat.zero_add]
    exact m2 q hq
/-- a state's towns, PARTS and how many BELLS -/
def tq_t (gc gm : aa_G) (T p : Nat) : Prop := gc T 0 = gm 541 p ∧ gc T 1 = gm 541 (p + 1) ∧ (∀ i : Nat, (i : Int) < (gm 541 (p + 1)).toInt → ∀ o, 1 ≤ o → o ≤ 4 → gc (T + o) i = gm 541 (p + 1 + 4 * i + o)) ∧ ∀ i : Nat, (i : Int) + 1 < (gm 541 (p + 1)).toInt → (gm 541 (p + 1 + 4 * i + 1)).toInt < (gm 541 (p + 1 + 4 * (i + 1) + 1)).toInt
def q1_s : rq_Q := fun gc gm S r => gc S 0 = gm 541 (399 * r) ∧ gc S 1 = gm 541 (399 * r + 1) ∧ gc (S + 2) 0 = gm 541 (399 * r + 2) ∧ ∀ t : Nat, (t : Int) < (gm 541 (399 * r)).toInt → tq_t gc gm (5 * t + (S + 12)) (399 * r + 50 * t + 3)
theorem iv_r {g : aa_G} (h : aa_inv g) {r q : Nat} (hq : q < 399) : (aa_place r q).1 ≤ (g 541 (399 * r + q)).toInt ∧ (g 541 (399 * r + q)).toInt ≤ (aa_place r q).2 := by
  have c := h 541 (399 * r + q)
  have c : (aa_iv 36 (399 * r + q)).1 ≤ (g 541 (399 * r + q)).toInt ∧ (g 541 (399 * r + q)).toInt ≤ (aa_iv 36 (399 * r + q)).2 := c
  rwa [aa_iv36, show (399 * r + q) / 399 = r by omega, show (399 * r + q) % 399 = q by omega] at c
theorem iv_n {g : aa_G} (h : aa_inv g) {r : Nat} : 0 ≤ (g 541 (399 * r)).toInt ∧ (g 541 (399 * r)).toInt ≤ 4 := iv_r h (r := r) (q := 0) (by omega)
theorem iv_t {g : aa_G} (h : aa_inv g) {r t o : Nat} (ht : t < 4) (ho : o < 50) : (aa_town o).1 ≤ (g 541 (399 * r + 50 * t + 3 + o)).toInt ∧ (g 541 (399 * r + 50 * t + 3 + o)).toInt ≤ (aa_town o).2 := by
  have c := iv_r h (r := r) (q := 50 * t + 3 + o) (by omega)
  rw [← Nat.add_assoc, ← Nat.add_assoc] at c
  unfold aa_place at c
  rwa [if_neg fun e => by have := Nat.le_of_ble_eq_true e; omega, if_neg fun e => by have := Nat.le_of_ble_eq_true e; omega, if_pos (Nat.ble_eq_true_of_le (by omega)), show (50 * t + 3 + o - 3) % 50 = o by omega] at c
theorem iv_c {g : aa_G} (h : aa_inv g) {r t : Nat} (ht : t < 4) : 0 ≤ (g 541 (399 * r + 50 * t + 3 + 1)).toInt ∧ (g 541 (399 * r + 50 * t + 3 + 1)).toInt ≤ 12 := iv_t h (o := 1) ht (by omega)
theorem q1_cp : rq_cp q1_s := by
  intro gc gc' gm gm' S S' r r' hi hr ⟨k1, ⟨k2, k3⟩, k4⟩ hm ⟨h1, h2, h3, h4⟩
  have m0 := hm 0 (by omega)
  rw [Nat.add_zero, Nat.add_zero] at m0
  refine ⟨(k1 0 (by omega)).trans (h1.trans m0.symm), (k1 1 (by omega)).trans (h2.trans (hm 1 (by omega)).symm), (k2 0 (by omega)).trans (h3.trans (hm 2 (by omega)).symm), fun t ht => ?_⟩
  rw [m0] at ht
  have n4 := iv_n hi (r := r)
  have ht4 : t < 4 := by omega
  obtain ⟨a1, a2, a3, a4⟩ := h4 t ht
  have cc := iv_c hi (r := r) ht4
  have em : ∀ q, q < 50 → gm' 541 (399 * r' + 50 * t + 3 + q) = gm 541 (399 * r + 50 * t + 3 + q) := fun q hq => by
    have := hm (50 * t + 3 + q) (by omega)
    rwa [← Nat.add_assoc, ← Nat.add_assoc, ← Nat.add_assoc, ← Nat.add_assoc] at this
  have em0 := em 0 (by omega)
  rw [Nat.add_zero, Nat.add_zero] at em0
  obtain ⟨t1, t2⟩ := k4 t ht4
  refine ⟨(t1 0 (by omega)).trans (a1.trans em0.symm), (t1 1 (by omega)).trans (a2.trans (em 1 (by omega)).symm), fun i hi' o o1 o2 => ?_, fun i hi' => ?_⟩
  · rw [em 1 (by omega)] at hi'
    have e := em (1 + 4 * i + o) (by omega)
    rw [show 399 * r' + 50 * t + 3 + (1 + 4 * i + o) = 399 * r' + 50 * t + 3 + 1 + 4 * i + o by omega, show 399 * r + 50 * t + 3 + (1 + 4 * i + o) = 399 * r + 50 * t + 3 + 1 + 4 * i + o by omega] at e
    rw [t2 o i o1 o2 (by omega), e]
    exact a3 i hi' o o1 o2
  · rw [em 1 (by omega)] at hi'
    have e := em (1 + 4 * i + 1) (by omega)
    have e2 := em (1 + 4 * (i + 1) + 1) (by omega)
    rw [show 399 * r' + 50 * t + 3 + (1 + 4 * i + 1) = 399 * r' + 50 * t + 3 + 1 + 4 * i + 1 by omega, show 399 * r + 50 * t + 3 + (1 + 4 * i + 1) = 399 * r + 50 * t + 3 + 1 + 4 * i + 1 by omega] at e
    rw [show 399 * r' + 50 * t + 3 + (1 + 4 * (i + 1) + 1) = 399 * r' + 50 * t + 3 + 1 + 4 * (i + 1) + 1 by omega, show 399 * r + 50 * t + 3 + (1 + 4 * (i + 1) + 1) = 399 * r + 50 * t + 3 + 1 + 4 * (i + 1) + 1 by omega] at e2
    rw [e, e2]
    exact a4 i hi'
/-- what asking stands on -/
theorem wd_mk {g : aa_G} (hi : aa_inv g) (hφ : aa_Phi g) (h0 : q1_s g g 2 0) (hl : g 540 16 = -1) : wd_g g := by
  obtain ⟨h1, h2, -, h4⟩ := h0
  have n4 : 0 ≤ (g 541 0).toInt ∧ (g 541 0).toInt ≤ 4 := iv_n hi (r := 0)
  have hp : 1 ≤ (g 541 1).toInt ∧ (g 541 1).toInt ≤ 3600 := iv_r hi (r := 0) (q := 1) (by omega)
  refine ⟨n4, hp, h1, h2, hl, fun t ht => ?_⟩
  have ht4 : t < 4 := by omega
  have b := h4 t ht
  rw [show 399 * 0 + 50 * t + 3 = 50 * t + 3 by omega, show 5 * t + (2 + 12) = 5 * t + 14 by omega] at b
  obtain ⟨b1, b2, b3, b4⟩ := b
  have cc := iv_c hi (r := 0) ht4
  have co := iv_t hi (r := 0) (o := 0) ht4 (by omega)
  rw [show 399 * 0 + 50 * t + 3 + 1 = 50 * t + 4 by omega] at cc
  rw [show 399 * 0 + 50 * t + 3 + 0 = 50 * t + 3 by omega] at co
  rw [show 50 * t + 3 + 1 = 50 * t + 4 by omega] at b2 b3 b4
  have hc : (av_c (g 541) t : Int) = (g 541 (50 * t + 4)).toInt := by
    unfold av_c
    omega
  refine ⟨b1, b2, co, cc.1, ⟨by omega, fun i hi' => ?_, fun i hi' => ?_, fun i hi' => ?_⟩, fun o i o1 o2 hi' => ?_⟩
  · have := iv_t hi (r := 0) (t := t) (o := 2 + 4 * i) ht4 (by omega)
    rw [show 399 * 0 + 50 * t + 3 + (2 + 4 * i) = 50 * t + 4 * i + 4 + 1 by omega] at this
    have e : aa_town (2 + 4 * i) = (0, 359) := by
      unfold aa_town
      rw [if_neg (fun z => by have := Nat.eq_of_beq_eq_true z; omega), if_neg (fun z => by have := Nat.eq_of_beq_eq_true z; omega), show (2 + 4 * i - 2) % 4 = 0 by omega]
      rfl
    rw [e] at this
    exact this
  · have := b4 i (by omega)
    rw [show 50 * t + 4 + 4 * i + 1 = 50 * t + 4 * i + 4 + 1 by omega, show 50 * t + 4 + 4 * (i + 1) + 1 = 50 * t + 4 * (i + 1) + 4 + 1 by omega] at this
    exact this
  · have g2 := iv_t hi (r := 0) (t := t) (o := 4 * i + 1 + 2) ht4 (by omega)
    have g3 := iv_t hi (r := 0) (t := t) (o := 4 * i + 2 + 2) ht4 (by omega)
    have g4 := iv_t hi (r := 0) (t := t) (o := 4 * i + 3 + 2) ht4 (by omega)
    rw [aa_town1, show 399 * 0 + 50 * t + 3 + (4 * i + 1 + 2) = 50 * t + 4 * i + 4 + 2 by omega] at g2
    rw [aa_town2, show 399 * 0 + 50 * t + 3 + (4 * i + 2 + 2) = 50 * t + 4 * i + 4 + 3 by omega] at g3
    rw [aa_town3, show 399 * 0 + 50 * t + 3 + (4 * i + 3 + 2) = 50 * t + 4 * i + 4 + 4 by omega] at g4
    have gd := (hφ.1 0 (by omega)).1 t i ht4 (by omega) (by rw [show 399 * 0 + 50 * t + 4 = 50 * t + 4 by omega]; omega)
    unfold aa_gd at gd
    rw [show 399 * 0 + 50 * t + 4 * i + 5 + 3 = 50 * t + 4 * i + 4 + 4 by omega, show 399 * 0 + 50 * t + 4 * i + 5 + 1 = 50 * t + 4 * i + 4 + 2 by omega, show 399 * 0 + 50 * t + 4 * i + 5 + 2 = 50 * t + 4 * i + 4 + 3 by omega] at gd
    exact ⟨g2, g3, g4, gd⟩
  · have := b3 i (by omega) o o1 o2
    rw [show 50 * t + 4 + 4 * i + o = 50 * t + 4 * i + 4 + o by omega] at this
    exact this
end
