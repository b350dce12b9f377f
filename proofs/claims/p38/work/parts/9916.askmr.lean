/-! METHODS READ (printed by wip/dc/dc.py) -/
-- 236: UnequalHoursModel busiest
noncomputable def fn_236_82b (g : aa_G) (b1 : Int32) (b2 : Int32) (b3 : Int32) (b4 : Int32) (b5 : Int32) (b6 : Int32) : (aa_G × Int32) ⊕ ((aa_G × Int32) ⊕ (Int32 × aa_G)) := if (g 540 26) ≤ b6 then .inr (.inl (g, b5 + 1)) else .inl (zz_w g 550 (g 547 b6.toNatClampNeg).toNatClampNeg ((g 550 (g 547 b6.toNatClampNeg).toNatClampNeg) + 1), b6 + 1)
noncomputable def fn_236_82 (g : aa_G) (b1 : Int32) (b2 : Int32) (b3 : Int32) (b4 : Int32) (b5 : Int32) (b6 : Int32) : (aa_G × Int32) ⊕ (Int32 × aa_G) := lp_f (.inr (0, g)) (fun z : (aa_G × Int32) => fn_236_82b z.1 b1 b2 b3 b4 b5 z.2) (g, b6)
theorem dn_236_82l {v : Option Value} {h : zz_H} {N : Nat} {b1 : Int32} {b2 : Int32} {b3 : Int32} {b4 : Int32} {b5 : Int32} (P : (aa_G × Int32) ⊕ (Int32 × aa_G) → Prop) (hO0 : ∀ n2, n2 < N → ∀ (yg : aa_G) (yb5 : Int32) (yx6 : Option Value) (_ : rn_jk yx6), rn_s n2 236 (64, [some (.ref 540), some (.int b1), some (.int b2), some (.int b3), some (.int b4), some (.int yb5), yx6], [], aa_H yg) v h → P (.inl (yg, yb5))) (hR : ∀ E, iw_s v h E → P (.inr E)) {d : (aa_G × Int32) ⊕ (Int32 × aa_G)} : ∀ (n : Nat), n ≤ N → ∀ (g : aa_G) (b6 : Int32), rn_s n 236 (82, [some (.ref 540), some (.int b1), some (.int b2), some (.int b3), some (.int b4), some (.int b5), some (.int b6)], [], aa_H g) v h → P (lp_f d (fun z : (aa_G × Int32) => fn_236_82b z.1 b1 b2 b3 b4 b5 z.2) (g, b6)) := by
  generalize hf : (fun z : (aa_G × Int32) => fn_236_82b z.1 b1 b2 b3 b4 b5 z.2) = f
  intro n
  induction n using Nat.strongRecOn with
  | _ n ih =>
    intro hN g b6  r
    refine lp_go ?_
    rw [← congrFun hf (g, b6)]
    show lp_q P d f (fn_236_82b g b1 b2 b3 b4 b5 b6)
    unfold fn_236_82b
    obtain ⟨n70, ln70, r⟩ := rn_steps 2 (88, [some (.ref 540), some (.int b1), some (.int b2), some (.int b3), some (.int b4), some (.int b5), some (.int b6)], [.int (g 540 26), .int b6], aa_H g) rfl r
    refine rn_ic (lp_q P d f) rfl decide_eq_true_iff.symm r (fun c71 l72n l72 r => ?_) (fun c71 l72n l72 r => ?_)
    · obtain ⟨n73, ln73, r⟩ := rn_steps 1 (64, [some (.ref 540), some (.int b1), some (.int b2), some (.int b3), some (.int b4), some (.int (b5 + 1)), some (.int b6)], [], aa_H g) rfl r
      exact hO0 _ (by omega) g (b5 + 1) (some (.int b6)) rn_ji r
    · obtain ⟨n74, ln74, r⟩ := rn_steps 4 (101, [some (.ref 540), some (.int b1), some (.int b2), some (.int b3), some (.int b4), some (.int b5), some (.int b6)], [.int b6, .ref 547, .ref 550], aa_H g) rfl r
      obtain ⟨hb76, n75, ln75, r⟩ := rn_ial (k := 547) rfl ⟨by decide, by decide⟩ rfl r
      have r : rn_s _ 236 (102, [some (.ref 540), some (.int b1), some (.int b2), some (.int b3), some (.int b4), some (.int b5), some (.int b6)], [.int (g 547 b6.toNatClampNeg), .ref 550], aa_H g) v h := r
      obtain ⟨n77, ln77, r⟩ := rn_steps 0 (103, [some (.ref 540), some (.int b1), some (.int b2), some (.int b3), some (.int b4), some (.int b5), some (.int b6)], [.int (g 547 b6.toNatClampNeg), .ref 550, .int (g 547 b6.toNatClampNeg), .ref 550], aa_H g) rfl r
      obtain ⟨hb79, n78, ln78, r⟩ := rn_ial (k := 550) rfl ⟨by decide, by decide⟩ rfl r
      have r : rn_s _ 236 (104, [some (.ref 540), some (.int b1), some (.int b2), some (.int b3), some (.int b4), some (.int b5), some (.int b6)], [.int (g 550 (g 547 b6.toNatClampNeg).toNatClampNeg), .int (g 547 b6.toNatClampNeg), .ref 550], aa_H g) v h := r
      obtain ⟨n80, ln80, r⟩ := rn_steps 1 (106, [some (.ref 540), some (.int b1), some (.int b2), some (.int b3), some (.int b4), some (.int b5), some (.int b6)], [.int ((g 550 (g 547 b6.toNatClampNeg).toNatClampNeg) + 1), .int (g 547 b6.toNatClampNeg), .ref 550], aa_H g) rfl r
      obtain ⟨hb82, n81, ln81, r⟩ := rn_ias (k := 550) rfl ⟨by decide, by decide⟩ rfl r
      have r : rn_s _ 236 (107, [some (.ref 540), some (.int b1), some (.int b2), some (.int b3), some (.int b4), some (.int b5), some (.int b6)], [], aa_H (zz_w g 550 (g 547 b6.toNatClampNeg).toNatClampNeg ((g 550 (g 547 b6.toNatClampNeg).toNatClampNeg) + 1))) v h := r
      obtain ⟨n83, ln83, r⟩ := rn_steps 1 (82, [some (.ref 540), some (.int b1), some (.int b2), some (.int b3), some (.int b4), some (.int b5), some (.int (b6 + 1))], [], aa_H (zz_w g 550 (g 547 b6.toNatClampNeg).toNatClampNeg ((g 550 (g 547 b6.toNatClampNeg).toNatClampNeg) + 1))) rfl r
      exact ih _ (by omega) (by omega) (zz_w g 550 (g 547 b6.toNatClampNeg).toNatClampNeg ((g 550 (g 547 b6.toNatClampNeg).toNatClampNeg) + 1)) (b6 + 1) r
theorem dn_236_82 {v : Option Value} {h : zz_H} {n : Nat} {g : aa_G} {b1 : Int32} {b2 : Int32} {b3 : Int32} {b4 : Int32} {b5 : Int32} {b6 : Int32} (P : (aa_G × Int32) ⊕ (Int32 × aa_G) → Prop) (hO0 : ∀ n2, n2 < n → ∀ (yg : aa_G) (yb5 : Int32) (yx6 : Option Value) (_ : rn_jk yx6), rn_s n2 236 (64, [some (.ref 540), some (.int b1), some (.int b2), some (.int b3), some (.int b4), some (.int yb5), yx6], [], aa_H yg) v h → P (.inl (yg, yb5))) (hR : ∀ E, iw_s v h E → P (.inr E))  (r : rn_s n 236 (82, [some (.ref 540), some (.int b1), some (.int b2), some (.int b3), some (.int b4), some (.int b5), some (.int b6)], [], aa_H g) v h) : P (fn_236_82 g b1 b2 b3 b4 b5 b6) := dn_236_82l P hO0 hR n (Nat.le_refl n) g b6 r
noncomputable def fn_236_79 (g : aa_G) (b1 : Int32) (b2 : Int32) (b3 : Int32) (b4 : Int32) (b5 : Int32) : (aa_G × Int32) ⊕ (Int32 × aa_G) := fn_236_82 g b1 b2 b3 b4 b5 0
theorem dn_236_79 {v : Option Value} {h : zz_H} {n : Nat} {g : aa_G} {b1 : Int32} {b2 : Int32} {b3 : Int32} {b4 : Int32} {b5 : Int32} (P : (aa_G × Int32) ⊕ (Int32 × aa_G) → Prop) (hO0 : ∀ n2, n2 < n → ∀ (yg : aa_G) (yb5 : Int32) (yx6 : Option Value) (_ : rn_jk yx6), rn_s n2 236 (64, [some (.ref 540), some (.int b1), some (.int b2), some (.int b3), some (.int b4), some (.int yb5), yx6], [], aa_H yg) v h → P (.inl (yg, yb5))) (hR : ∀ E, iw_s v h E → P (.inr E))  (x6 : Option Value) (jx6 : rn_jk x6) (r : rn_s n 236 (79, [some (.ref 540), some (.int b1), some (.int b2), some (.int b3), some (.int b4), some (.int b5), x6], [], aa_H g) v h) : P (fn_236_79 g b1 b2 b3 b4 b5) := by
  unfold fn_236_79
  obtain ⟨n68, ln68, r⟩ := rn_steps 1 (82, [some (.ref 540), some (.int b1), some (.int b2), some (.int b3), some (.int b4), some (.int b5), some (.int 0)], [], aa_H g) rfl r
  exact dn_236_82 (P) (fun n2 l2 => hO0 n2 (by omega)) (fun z hz => hR _ hz) r
noncomputable def fn_236_156 (g : aa_G) (b4 : Int32) (b6 : Int32) (s0 : Int32) : (Int32 × Int32) ⊕ (Int32 × aa_G) := .inl (s0, b6 + 1)
theorem dn_236_156 {v : Option Value} {h : zz_H} {n : Nat} {g : aa_G} {b4 : Int32} {b6 : Int32} {s0 : Int32} (P : (Int32 × Int32) ⊕ (Int32 × aa_G) → Prop) (hO0 : ∀ n2, n2 < n → ∀ (yb5 : Int32) (yb6 : Int32) (yx1 yx2 yx3 : Option Value) (_ : rn_jk yx1) (_ : rn_jk yx2) (_ : rn_jk yx3), rn_s n2 236 (125, [some (.ref 540), yx1, yx2, yx3, some (.int b4), some (.int yb5), some (.int yb6)], [], aa_H g) v h → P (.inl (yb5, yb6))) (hR : ∀ E, iw_s v h E → P (.inr E))  (x1 x2 x3 x5 : Option Value) (jx1 : rn_jk x1) (jx2 : rn_jk x2) (jx3 : rn_jk x3) (jx5 : rn_jk x5) (r : rn_s n 236 (156, [some (.ref 540), x1, x2, x3, some (.int b4), x5, some (.int b6)], [.int s0], aa_H g) v h) : P (fn_236_156 g b4 b6 s0) := by
  unfold fn_236_156
  obtain ⟨n69, ln69, r⟩ := rn_steps 2 (125, [some (.ref 540), x1, x2, x3, some (.int b4), some (.int s0), some (.int (b6 + 1))], [], aa_H g) rfl r
  exact hO0 _ (by omega) s0 (b6 + 1) x1 x2 x3 jx1 jx2 jx3 r
noncomputable def fn_236_125b (g : aa_G) (b4 : Int32) (b5 : Int32) (b6 : Int32) : (Int32 × Int32) ⊕ (Int32 × aa_G) := if 8 ≤ b6 then if b4 ≠ 1 then if (g 550 b5.toNatClampNeg) ≠ 0 then .inr (b5, g) else .inr (-1, g) else .inr (g 550 b5.toNatClampNeg, g) else if (g 550 b6.toNatClampNeg) ≤ (g 550 b5.toNatClampNeg) then fn_236_156 g b4 b6 b5 else fn_236_156 g b4 b6 b6
noncomputable def fn_236_125 (g : aa_G) (b4 : Int32) (b5 : Int32) (b6 : Int32) : Int32 × aa_G := lp_f (0, g) (fun z : (Int32 × Int32) => fn_236_125b g b4 z.1 z.2) (b5, b6)
theorem dn_236_125l {v : Option Value} {h : zz_H} {N : Nat} {g : aa_G} {b4 : Int32} {d : Int32 × aa_G} : ∀ (n : Nat), n ≤ N → ∀ (b5 : Int32) (b6 : Int32) (x1 x2 x3 : Option Value) (jx1 : rn_jk x1) (jx2 : rn_jk x2) (jx3 : rn_jk x3), rn_s n 236 (125, [some (.ref 540), x1, x2, x3, some (.int b4), some (.int b5), some (.int b6)], [], aa_H g) v h → (iw_s v h) (lp_f d (fun z : (Int32 × Int32) => fn_236_125b g b4 z.1 z.2) (b5, b6)) := by
  generalize hf : (fun z : (Int32 × Int32) => fn_236_125b g b4 z.1 z.2) = f
  intro n
  induction n using Nat.strongRecOn with
  | _ n ih =>
    intro hN b5 b6 x1 x2 x3 jx1 jx2 jx3 r
    refine lp_go ?_
    rw [← congrFun hf (b5, b6)]
    show lp_q (iw_s v h) d f (fn_236_125b g b4 b5 b6)
    unfold fn_236_125b
    obtain ⟨n41, ln41, r⟩ := rn_steps 1 (129, [some (.ref 540), x1, x2, x3, some (.int b4), some (.int b5), some (.int b6)], [.int 8, .int b6], aa_H g) rfl r
    refine rn_ic (lp_q (iw_s v h) d f) rfl decide_eq_true_iff.symm r (fun c42 l43n l43 r => ?_) (fun c42 l43n l43 r => ?_)
    · obtain ⟨n44, ln44, r⟩ := rn_steps 1 (167, [some (.ref 540), x1, x2, x3, some (.int b4), some (.int b5), some (.int b6)], [.int 1, .int b4], aa_H g) rfl r
      refine rn_ic (lp_q (iw_s v h) d f) rfl decide_eq_true_iff.symm r (fun c45 l46n l46 r => ?_) (fun c45 l46n l46 r => ?_)
      · obtain ⟨n47, ln47, r⟩ := rn_steps 2 (186, [some (.ref 540), x1, x2, x3, some (.int b4), some (.int b5), some (.int b6)], [.int b5, .ref 550], aa_H g) rfl r
        obtain ⟨hb49, n48, ln48, r⟩ := rn_ial (k := 550) rfl ⟨by decide, by decide⟩ rfl r
        have r : rn_s _ 236 (187, [some (.ref 540), x1, x2, x3, some (.int b4), some (.int b5), some (.int b6)], [.int (g 550 b5.toNatClampNeg)], aa_H g) v h := r
        refine rn_if (lp_q (iw_s v h) d f) rfl decide_eq_true_iff.symm r (fun c50 l51n l51 r => ?_) (fun c50 l51n l51 r => ?_)
        · obtain ⟨n52, ln52, r⟩ := rn_steps 0 (196, [some (.ref 540), x1, x2, x3, some (.int b4), some (.int b5), some (.int b6)], [.int b5], aa_H g) rfl r
          exact rn_ire rfl r
        · obtain ⟨n53, ln53, r⟩ := rn_steps 1 (196, [some (.ref 540), x1, x2, x3, some (.int b4), some (.int b5), some (.int b6)], [.int (-1)], aa_H g) rfl r
          exact rn_ire rfl r
      · obtain ⟨n54, ln54, r⟩ := rn_steps 2 (176, [some (.ref 540), x1, x2, x3, some (.int b4), some (.int b5), some (.int b6)], [.int b5, .ref 550], aa_H g) rfl r
        obtain ⟨hb56, n55, ln55, r⟩ := rn_ial (k := 550) rfl ⟨by decide, by decide⟩ rfl r
        have r : rn_s _ 236 (177, [some (.ref 540), x1, x2, x3, some (.int b4), some (.int b5), some (.int b6)], [.int (g 550 b5.toNatClampNeg)], aa_H g) v h := r
        obtain ⟨n57, ln57, r⟩ := rn_steps 0 (196, [some (.ref 540), x1, x2, x3, some (.int b4), some (.int b5), some (.int b6)], [.int (g 550 b5.toNatClampNeg)], aa_H g) rfl r
        exact rn_ire rfl r
    · obtain ⟨n58, ln58, r⟩ := rn_steps 2 (138, [some (.ref 540), x1, x2, x3, some (.int b4), some (.int b5), some (.int b6)], [.int b6, .ref 550], aa_H g) rfl r
      obtain ⟨hb60, n59, ln59, r⟩ := rn_ial (k := 550) rfl ⟨by decide, by decide⟩ rfl r
      have r : rn_s _ 236 (139, [some (.ref 540), x1, x2, x3, some (.int b4), some (.int b5), some (.int b6)], [.int (g 550 b6.toNatClampNeg)], aa_H g) v h := r
      obtain ⟨n61, ln61, r⟩ := rn_steps 2 (145, [some (.ref 540), x1, x2, x3, some (.int b4), some (.int b5), some (.int b6)], [.int b5, .ref 550, .int (g 550 b6.toNatClampNeg)], aa_H g) rfl r
      obtain ⟨hb63, n62, ln62, r⟩ := rn_ial (k := 550) rfl ⟨by decide, by decide⟩ rfl r
      have r : rn_s _ 236 (146, [some (.ref 540), x1, x2, x3, some (.int b4), some (.int b5), some (.int b6)], [.int (g 550 b5.toNatClampNeg), .int (g 550 b6.toNatClampNeg)], aa_H g) v h := r
      refine rn_ic (lp_q (iw_s v h) d f) rfl decide_eq_true_iff.symm r (fun c64 l65n l65 r => ?_) (fun c64 l65n l65 r => ?_)
      · obtain ⟨n66, ln66, r⟩ := rn_steps 0 (156, [some (.ref 540), x1, x2, x3, some (.int b4), some (.int b5), some (.int b6)], [.int b5], aa_H g) rfl r
        exact dn_236_156 (lp_q (iw_s v h) d f) (fun n2 l2 => ih n2 (by omega) (by omega)) (fun z hz => hz) x1 x2 x3 (some (.int b5)) jx1 jx2 jx3 rn_ji r
      · obtain ⟨n67, ln67, r⟩ := rn_steps 1 (156, [some (.ref 540), x1, x2, x3, some (.int b4), some (.int b5), some (.int b6)], [.int b6], aa_H g) rfl r
        exact dn_236_156 (lp_q (iw_s v h) d f) (fun n2 l2 => ih n2 (by omega) (by omega)) (fun z hz => hz) x1 x2 x3 (some (.int b5)) jx1 jx2 jx3 rn_ji r
theorem dn_236_125 {v : Option Value} {h : zz_H} {n : Nat} {g : aa_G} {b4 : Int32} {b5 : Int32} {b6 : Int32}  (x1 x2 x3 : Option Value) (jx1 : rn_jk x1) (jx2 : rn_jk x2) (jx3 : rn_jk x3) (r : rn_s n 236 (125, [some (.ref 540), x1, x2, x3, some (.int b4), some (.int b5), some (.int b6)], [], aa_H g) v h) : (iw_s v h) (fn_236_125 g b4 b5 b6) := dn_236_125l  n (Nat.le_refl n) b5 b6 x1 x2 x3 jx1 jx2 jx3 r
noncomputable def fn_236_64b (g : aa_G) (b1 : Int32) (b2 : Int32) (b3 : Int32) (b4 : Int32) (b5 : Int32) : (aa_G × Int32) ⊕ (Int32 × aa_G) := if (b2 + b3) ≤ b5 then .inr (fn_236_125 g b4 0 1) else fn_236_79 (fn_212 g b1 b5) b1 b2 b3 b4 b5
noncomputable def fn_236_64 (g : aa_G) (b1 : Int32) (b2 : Int32) (b3 : Int32) (b4 : Int32) (b5 : Int32) : Int32 × aa_G := lp_f (0, g) (fun z : (aa_G × Int32) => fn_236_64b z.1 b1 b2 b3 b4 z.2) (g, b5)
theorem dn_236_64l {v : Option Value} {h : zz_H} {N : Nat} {b1 : Int32} {b2 : Int32} {b3 : Int32} {b4 : Int32} {d : Int32 × aa_G} : ∀ (n : Nat), n ≤ N → ∀ (g : aa_G) (b5 : Int32) (x6 : Option Value) (jx6 : rn_jk x6), rn_s n 236 (64, [some (.ref 540), some (.int b1), some (.int b2), some (.int b3), some (.int b4), some (.int b5), x6], [], aa_H g) v h → (iw_s v h) (lp_f d (fun z : (aa_G × Int32) => fn_236_64b z.1 b1 b2 b3 b4 z.2) (g, b5)) := by
  generalize hf : (fun z : (aa_G × Int32) => fn_236_64b z.1 b1 b2 b3 b4 z.2) = f
  intro n
  induction n using Nat.strongRecOn with
  | _ n ih =>
    intro hN g b5 x6 jx6 r
    refine lp_go ?_
    rw [← congrFun hf (g, b5)]
    show lp_q (iw_s v h) d f (fn_236_64b g b1 b2 b3 b4 b5)
    unfold fn_236_64b
    obtain ⟨n34, ln34, r⟩ := rn_steps 3 (69, [some (.ref 540), some (.int b1), some (.int b2), some (.int b3), some (.int b4), some (.int b5), x6], [.int (b2 + b3), .int b5], aa_H g) rfl r
    refine rn_ic (lp_q (iw_s v h) d f) rfl decide_eq_true_iff.symm r (fun c35 l36n l36 r => ?_) (fun c35 l36n l36 r => ?_)
    · obtain ⟨n37, ln37, r⟩ := rn_steps 3 (125, [some (.ref 540), some (.int b1), some (.int b2), some (.int b3), some (.int b4), some (.int 0), some (.int 1)], [], aa_H g) rfl r
      exact dn_236_125 (some (.int b1)) (some (.int b2)) (some (.int b3)) rn_ji rn_ji rn_ji r
    · obtain ⟨n38, ln38, r⟩ := rn_steps 2 (76, [some (.ref 540), some (.int b1), some (.int b2), some (.int b3), some (.int b4), some (.int b5), x6], [.int b5, .int b1, .ref 540], aa_H g) rfl r
      obtain ⟨_, n39, v1, h1, -, ln39, rc, r⟩ := rn_call (m2 := 212) (as := [.ref 540, .int b1, .int b5]) (rest := []) rfl rfl r
      obtain ⟨rfl, rfl⟩ := dn_212 rc
      have r : rn_s _ 236 (79, [some (.ref 540), some (.int b1), some (.int b2), some (.int b3), some (.int b4), some (.int b5), x6], [], aa_H (fn_212 g b1 b5)) v h := r
      exact dn_236_79 (lp_q (iw_s v h) d f) (fun n2 l2 => ih n2 (by omega) (by omega)) (fun z hz => hz) x6 jx6 r
theorem dn_236_64 {v : Option Value} {h : zz_H} {n : Nat} {g : aa_G} {b1 : Int32} {b2 : Int32} {b3 : Int32} {b4 : Int32} {b5 : Int32}  (x6 : Option Value) (jx6 : rn_jk x6) (r : rn_s n 236 (64, [some (.ref 540), some (.int b1), some (.int b2), some (.int b3), some (.int b4), some (.int b5), x6], [], aa_H g) v h) : (iw_s v h) (fn_236_64 g b1 b2 b3 b4 b5) := dn_236_64l  n (Nat.le_refl n) g b5 x6 jx6 r
noncomputable def fn_236_40b (g : aa_G) (b1 : Int32) (b2 : Int32) (b3 : Int32) (b4 : Int32) (b5 : Int32) : (aa_G × Int32) ⊕ (Int32 × aa_G) := if 8 ≤ b5 then .inr (fn_236_64 g b1 b2 b3 b4 b2) else .inl (zz_w g 550 b5.toNatClampNeg 0, b5 + 1)
noncomputable def fn_236_40 (g : aa_G) (b1 : Int32) (b2 : Int32) (b3 : Int32) (b4 : Int32) (b5 : Int32) : Int32 × aa_G := lp_f (0, g) (fun z : (aa_G × Int32) => fn_236_40b z.1 b1 b2 b3 b4 z.2) (g, b5)
theorem dn_236_40l {v : Option Value} {h : zz_H} {N : Nat} {b1 : Int32} {b2 : Int32} {b3 : Int32} {b4 : Int32} {d : Int32 × aa_G} : ∀ (n : Nat), n ≤ N → ∀ (g : aa_G) (b5 : Int32) (x6 : Option Value) (jx6 : rn_jk x6), rn_s n 236 (40, [some (.ref 540), some (.int b1), some (.int b2), some (.int b3), some (.int b4), some (.int b5), x6], [], aa_H g) v h → (iw_s v h) (lp_f d (fun z : (aa_G × Int32) => fn_236_40b z.1 b1 b2 b3 b4 z.2) (g, b5)) := by
  generalize hf : (fun z : (aa_G × Int32) => fn_236_40b z.1 b1 b2 b3 b4 z.2) = f
  intro n
  induction n using Nat.strongRecOn with
  | _ n ih =>
    intro hN g b5 x6 jx6 r
    refine lp_go ?_
    rw [← congrFun hf (g, b5)]
    show lp_q (iw_s v h) d f (fn_236_40b g b1 b2 b3 b4 b5)
    unfold fn_236_40b
    obtain ⟨n26, ln26, r⟩ := rn_steps 1 (44, [some (.ref 540), some (.int b1), some (.int b2), some (.int b3), some (.int b4), some (.int b5), x6], [.int 8, .int b5], aa_H g) rfl r
    refine rn_ic (lp_q (iw_s v h) d f) rfl decide_eq_true_iff.symm r (fun c27 l28n l28 r => ?_) (fun c27 l28n l28 r => ?_)
    · obtain ⟨n29, ln29, r⟩ := rn_steps 1 (64, [some (.ref 540), some (.int b1), some (.int b2), some (.int b3), some (.int b4), some (.int b2), x6], [], aa_H g) rfl r
      exact dn_236_64 x6 jx6 r
    · obtain ⟨n30, ln30, r⟩ := rn_steps 3 (54, [some (.ref 540), some (.int b1), some (.int b2), some (.int b3), some (.int b4), some (.int b5), x6], [.int 0, .int b5, .ref 550], aa_H g) rfl r
      obtain ⟨hb32, n31, ln31, r⟩ := rn_ias (k := 550) rfl ⟨by decide, by decide⟩ rfl r
      have r : rn_s _ 236 (55, [some (.ref 540), some (.int b1), some (.int b2), some (.int b3), some (.int b4), some (.int b5), x6], [], aa_H (zz_w g 550 b5.toNatClampNeg 0)) v h := r
      obtain ⟨n33, ln33, r⟩ := rn_steps 1 (40, [some (.ref 540), some (.int b1), some (.int b2), some (.int b3), some (.int b4), some (.int (b5 + 1)), x6], [], aa_H (zz_w g 550 b5.toNatClampNeg 0)) rfl r
      exact ih _ (by omega) (by omega) (zz_w g 550 b5.toNatClampNeg 0) (b5 + 1) x6 jx6 r
theorem dn_236_40 {v : Option Value} {h : zz_H} {n : Nat} {g : aa_G} {b1 : Int32} {b2 : Int32} {b3 : Int32} {b4 : Int32} {b5 : Int32}  (x6 : Option Value) (jx6 : rn_jk x6) (r : rn_s n 236 (40, [some (.ref 540), some (.int b1), some (.int b2), some (.int b3), some (.int b4), some (.int b5), x6], [], aa_H g) v h) : (iw_s v h) (fn_236_40 g b1 b2 b3 b4 b5) := dn_236_40l  n (Nat.le_refl n) g b5 x6 jx6 r
noncomputable def fn_236 (g : aa_G) (a1 : Int32) (a2 : Int32) (a3 : Int32) (a4 : Int32) : Int32 × aa_G := if (fn_192 g a1) = 0 then (-1, g) else if (fn_154 a3 1 60) = 0 then (-1, g) else if (fn_193 a2) = 0 then (-1, g) else if (fn_154 a4 0 1) ≠ 0 then fn_236_40 g a1 a2 a3 a4 0 else (-1, g)
theorem dn_236 {v : Option Value} {h : zz_H} {n : Nat} {g : aa_G} {a1 : Int32} {a2 : Int32} {a3 : Int32} {a4 : Int32}  (r : rn_s n 236 (0, zz_in [.ref 540, .int a1, .int a2, .int a3, .int a4] (zz_nl 236), [], aa_H g) v h) : iw_s v h (fn_236 g a1 a2 a3 a4) := by
  have r : rn_s n 236 (0, [some (.ref 540), some (.int a1), some (.int a2), some (.int a3), some (.int a4), none, none], [], aa_H g) v h := r
  unfold fn_236
  obtain ⟨n1, ln1, r⟩ := rn_steps 1 (2, [some (.ref 540), some (.int a1), some (.int a2), some (.int a3), some (.int a4), none, none], [.int a1, .ref 540], aa_H g) rfl r
  obtain ⟨_, n2, v1, h1, -, ln2, rc, r⟩ := rn_call (m2 := 192) (as := [.ref 540, .int a1]) (rest := []) rfl rfl r
  obtain ⟨rfl, rfl⟩ := dn_192 rc
  have r : rn_s _ 236 (5, [some (.ref 540), some (.int a1), some (.int a2), some (.int a3), some (.int a4), none, none], [.int (fn_192 g a1)], aa_H g) v h := r
  refine rn_if (iw_s v h) rfl decide_eq_true_iff.symm r (fun c4 l5n l5 r => ?_) (fun c4 l5n l5 r => ?_)
  · obtain ⟨n6, ln6, r⟩ := rn_steps 0 (36, [some (.ref 540), some (.int a1), some (.int a2), some (.int a3), some (.int a4), none, none], [.int (-1)], aa_H g) rfl r
    exact rn_ire rfl r
  · obtain ⟨n7, ln7, r⟩ := rn_steps 2 (12, [some (.ref 540), some (.int a1), some (.int a2), some (.int a3), some (.int a4), none, none], [.int 60, .int 1, .int a3], aa_H g) rfl r
    obtain ⟨_, n8, v1, h1, -, ln8, rc, r⟩ := rn_call (m2 := 154) (as := [.int a3, .int 1, .int 60]) (rest := []) rfl rfl r
    obtain ⟨rfl, rfl⟩ := dn_154 rc
    have r : rn_s _ 236 (15, [some (.ref 540), some (.int a1), some (.int a2), some (.int a3), some (.int a4), none, none], [.int (fn_154 a3 1 60)], aa_H g) v h := r
    refine rn_if (iw_s v h) rfl decide_eq_true_iff.symm r (fun c10 l11n l11 r => ?_) (fun c10 l11n l11 r => ?_)
    · obtain ⟨n12, ln12, r⟩ := rn_steps 0 (36, [some (.ref 540), some (.int a1), some (.int a2), some (.int a3), some (.int a4), none, none], [.int (-1)], aa_H g) rfl r
      exact rn_ire rfl r
    · obtain ⟨n13, ln13, r⟩ := rn_steps 0 (19, [some (.ref 540), some (.int a1), some (.int a2), some (.int a3), some (.int a4), none, none], [.int a2], aa_H g) rfl r
      obtain ⟨_, n14, v1, h1, -, ln14, rc, r⟩ := rn_call (m2 := 193) (as := [.int a2]) (rest := []) rfl rfl r
      obtain ⟨rfl, rfl⟩ := dn_193 rc
      have r : rn_s _ 236 (22, [some (.ref 540), some (.int a1), some (.int a2), some (.int a3), some (.int a4), none, none], [.int (fn_193 a2)], aa_H g) v h := r
      refine rn_if (iw_s v h) rfl decide_eq_true_iff.symm r (fun c16 l17n l17 r => ?_) (fun c16 l17n l17 r => ?_)
      · obtain ⟨n18, ln18, r⟩ := rn_steps 0 (36, [some (.ref 540), some (.int a1), some (.int a2), some (.int a3), some (.int a4), none, none], [.int (-1)], aa_H g) rfl r
        exact rn_ire rfl r
      · obtain ⟨n19, ln19, r⟩ := rn_steps 2 (29, [some (.ref 540), some (.int a1), some (.int a2), some (.int a3), some (.int a4), none, none], [.int 1, .int 0, .int a4], aa_H g) rfl r
        obtain ⟨_, n20, v1, h1, -, ln20, rc, r⟩ := rn_call (m2 := 154) (as := [.int a4, .int 0, .int 1]) (rest := []) rfl rfl r
        obtain ⟨rfl, rfl⟩ := dn_154 rc
        have r : rn_s _ 236 (32, [some (.ref 540), some (.int a1), some (.int a2), some (.int a3), some (.int a4), none, none], [.int (fn_154 a4 0 1)], aa_H g) v h := r
        refine rn_if (iw_s v h) rfl decide_eq_true_iff.symm r (fun c22 l23n l23 r => ?_) (fun c22 l23n l23 r => ?_)
        · obtain ⟨n24, ln24, r⟩ := rn_steps 1 (40, [some (.ref 540), some (.int a1), some (.int a2), some (.int a3), some (.int a4), some (.int 0), none], [], aa_H g) rfl r
          exact dn_236_40 none rn_jn r
        · obtain ⟨n25, ln25, r⟩ := rn_steps 0 (36, [some (.ref 540), some (.int a1), some (.int a2), some (.int a3), some (.int a4), none, none], [.int (-1)], aa_H g) rfl r
          exact rn_ire rfl r
-- 246: UnequalHoursModel total
noncomputable def fn_246_51b (g : aa_G) (b1 : Int32) (b2 : Int32) (b3 : Int32) (b4 : Int32) (b5 : Int32) (b6 : Int32) : (Int32 × Int32) ⊕ ((aa_G × Int32 × Int32) ⊕ (Int32 × aa_G)) := if (g 540 26) ≤ b6 then .inr (.inl (g, b4, b5 + 1)) else .inl (b4 + (fn_217 g b6), b6 + 1)
noncomputable def fn_246_51 (g : aa_G) (b1 : Int32) (b2 : Int32) (b3 : Int32) (b4 : Int32) (b5 : Int32) (b6 : Int32) : (aa_G × Int32 × Int32) ⊕ (Int32 × aa_G) := lp_f (.inr (0, g)) (fun z : (Int32 × Int32) => fn_246_51b g b1 b2 b3 z.1 b5 z.2) (b4, b6)
theorem dn_246_51l {v : Option Value} {h : zz_H} {N : Nat} {g : aa_G} {b1 : Int32} {b2 : Int32} {b3 : Int32} {b5 : Int32} (P : (aa_G × Int32 × Int32) ⊕ (Int32 × aa_G) → Prop) (hO0 : ∀ n2, n2 < N → ∀ (yg : aa_G) (yb4 : Int32) (yb5 : Int32) (yx6 : Option Value) (_ : rn_jk yx6), rn_s n2 246 (33, [some (.ref 540), some (.int b1), some (.int b2), some (.int b3), some (.int yb4), some (.int yb5), yx6], [], aa_H yg) v h → P (.inl (yg, yb4, yb5))) (hR : ∀ E, iw_s v h E → P (.inr E)) {d : (aa_G × Int32 × Int32) ⊕ (Int32 × aa_G)} : ∀ (n : Nat), n ≤ N → ∀ (b4 : Int32) (b6 : Int32), rn_s n 246 (51, [some (.ref 540), some (.int b1), some (.int b2), some (.int b3), some (.int b4), some (.int b5), some (.int b6)], [], aa_H g) v h → P (lp_f d (fun z : (Int32 × Int32) => fn_246_51b g b1 b2 b3 z.1 b5 z.2) (b4, b6)) := by
  generalize hf : (fun z : (Int32 × Int32) => fn_246_51b g b1 b2 b3 z.1 b5 z.2) = f
  intro n
  induction n using Nat.strongRecOn with
  | _ n ih =>
    intro hN b4 b6  r
    refine lp_go ?_
    rw [← congrFun hf (b4, b6)]
    show lp_q P d f (fn_246_51b g b1 b2 b3 b4 b5 b6)
    unfold fn_246_51b
    obtain ⟨n28, ln28, r⟩ := rn_steps 2 (57, [some (.ref 540), some (.int b1), some (.int b2), some (.int b3), some (.int b4), some (.int b5), some (.int b6)], [.int (g 540 26), .int b6], aa_H g) rfl r
    refine rn_ic (lp_q P d f) rfl decide_eq_true_iff.symm r (fun c29 l30n l30 r => ?_) (fun c29 l30n l30 r => ?_)
    · obtain ⟨n31, ln31, r⟩ := rn_steps 1 (33, [some (.ref 540), some (.int b1), some (.int b2), some (.int b3), some (.int b4), some (.int (b5 + 1)), some (.int b6)], [], aa_H g) rfl r
      exact hO0 _ (by omega) g b4 (b5 + 1) (some (.int b6)) rn_ji r
    · obtain ⟨n32, ln32, r⟩ := rn_steps 2 (65, [some (.ref 540), some (.int b1), some (.int b2), some (.int b3), some (.int b4), some (.int b5), some (.int b6)], [.int b6, .ref 540, .int b4], aa_H g) rfl r
      obtain ⟨_, n33, v1, h1, -, ln33, rc, r⟩ := rn_call (m2 := 217) (as := [.ref 540, .int b6]) (rest := [.int b4]) rfl rfl r
      obtain ⟨rfl, rfl⟩ := dn_217 rc
      have r : rn_s _ 246 (68, [some (.ref 540), some (.int b1), some (.int b2), some (.int b3), some (.int b4), some (.int b5), some (.int b6)], [.int (fn_217 g b6), .int b4], aa_H g) v h := r
      obtain ⟨n35, ln35, r⟩ := rn_steps 3 (51, [some (.ref 540), some (.int b1), some (.int b2), some (.int b3), some (.int (b4 + (fn_217 g b6))), some (.int b5), some (.int (b6 + 1))], [], aa_H g) rfl r
      exact ih _ (by omega) (by omega) (b4 + (fn_217 g b6)) (b6 + 1) r
theorem dn_246_51 {v : Option Value} {h : zz_H} {n : Nat} {g : aa_G} {b1 : Int32} {b2 : Int32} {b3 : Int32} {b4 : Int32} {b5 : Int32} {b6 : Int32} (P : (aa_G × Int32 × Int32) ⊕ (Int32 × aa_G) → Prop) (hO0 : ∀ n2, n2 < n → ∀ (yg : aa_G) (yb4 : Int32) (yb5 : Int32) (yx6 : Option Value) (_ : rn_jk yx6), rn_s n2 246 (33, [some (.ref 540), some (.int b1), some (.int b2), some (.int b3), some (.int yb4), some (.int yb5), yx6], [], aa_H yg) v h → P (.inl (yg, yb4, yb5))) (hR : ∀ E, iw_s v h E → P (.inr E))  (r : rn_s n 246 (51, [some (.ref 540), some (.int b1), some (.int b2), some (.int b3), some (.int b4), some (.int b5), some (.int b6)], [], aa_H g) v h) : P (fn_246_51 g b1 b2 b3 b4 b5 b6) := dn_246_51l P hO0 hR n (Nat.le_refl n) b4 b6 r
noncomputable def fn_246_48 (g : aa_G) (b1 : Int32) (b2 : Int32) (b3 : Int32) (b4 : Int32) (b5 : Int32) : (aa_G × Int32 × Int32) ⊕ (Int32 × aa_G) := fn_246_51 g b1 b2 b3 b4 b5 0
theorem dn_246_48 {v : Option Value} {h : zz_H} {n : Nat} {g : aa_G} {b1 : Int32} {b2 : Int32} {b3 : Int32} {b4 : Int32} {b5 : Int32} (P : (aa_G × Int32 × Int32) ⊕ (Int32 × aa_G) → Prop) (hO0 : ∀ n2, n2 < n → ∀ (yg : aa_G) (yb4 : Int32) (yb5 : Int32) (yx6 : Option Value) (_ : rn_jk yx6), rn_s n2 246 (33, [some (.ref 540), some (.int b1), some (.int b2), some (.int b3), some (.int yb4), some (.int yb5), yx6], [], aa_H yg) v h → P (.inl (yg, yb4, yb5))) (hR : ∀ E, iw_s v h E → P (.inr E))  (x6 : Option Value) (jx6 : rn_jk x6) (r : rn_s n 246 (48, [some (.ref 540), some (.int b1), some (.int b2), some (.int b3), some (.int b4), some (.int b5), x6], [], aa_H g) v h) : P (fn_246_48 g b1 b2 b3 b4 b5) := by
  unfold fn_246_48
  obtain ⟨n27, ln27, r⟩ := rn_steps 1 (51, [some (.ref 540), some (.int b1), some (.int b2), some (.int b3), some (.int b4), some (.int b5), some (.int 0)], [], aa_H g) rfl r
  exact dn_246_51 (P) (fun n2 l2 => hO0 n2 (by omega)) (fun z hz => hR _ hz) r
noncomputable def fn_246_33b (g : aa_G) (b1 : Int32) (b2 : Int32) (b3 : Int32) (b4 : Int32) (b5 : Int32) : (aa_G × Int32 × Int32) ⊕ (Int32 × aa_G) := if (b2 + b3) ≤ b5 then .inr (b4, g) else fn_246_48 (fn_212 g b1 b5) b1 b2 b3 b4 b5
noncomputable def fn_246_33 (g : aa_G) (b1 : Int32) (b2 : Int32) (b3 : Int32) (b4 : Int32) (b5 : Int32) : Int32 × aa_G := lp_f (0, g) (fun z : (aa_G × Int32 × Int32) => fn_246_33b z.1 b1 b2 b3 z.2.1 z.2.2) (g, b4, b5)
theorem dn_246_33l {v : Option Value} {h : zz_H} {N : Nat} {b1 : Int32} {b2 : Int32} {b3 : Int32} {d : Int32 × aa_G} : ∀ (n : Nat), n ≤ N → ∀ (g : aa_G) (b4 : Int32) (b5 : Int32) (x6 : Option Value) (jx6 : rn_jk x6), rn_s n 246 (33, [some (.ref 540), some (.int b1), some (.int b2), some (.int b3), some (.int b4), some (.int b5), x6], [], aa_H g) v h → (iw_s v h) (lp_f d (fun z : (aa_G × Int32 × Int32) => fn_246_33b z.1 b1 b2 b3 z.2.1 z.2.2) (g, b4, b5)) := by
  generalize hf : (fun z : (aa_G × Int32 × Int32) => fn_246_33b z.1 b1 b2 b3 z.2.1 z.2.2) = f
  intro n
  induction n using Nat.strongRecOn with
  | _ n ih =>
    intro hN g b4 b5 x6 jx6 r
    refine lp_go ?_
    rw [← congrFun hf (g, b4, b5)]
    show lp_q (iw_s v h) d f (fn_246_33b g b1 b2 b3 b4 b5)
    unfold fn_246_33b
    obtain ⟨n20, ln20, r⟩ := rn_steps 3 (38, [some (.ref 540), some (.int b1), some (.int b2), some (.int b3), some (.int b4), some (.int b5), x6], [.int (b2 + b3), .int b5], aa_H g) rfl r
    refine rn_ic (lp_q (iw_s v h) d f) rfl decide_eq_true_iff.symm r (fun c21 l22n l22 r => ?_) (fun c21 l22n l22 r => ?_)
    · obtain ⟨n23, ln23, r⟩ := rn_steps 0 (85, [some (.ref 540), some (.int b1), some (.int b2), some (.int b3), some (.int b4), some (.int b5), x6], [.int b4], aa_H g) rfl r
      exact rn_ire rfl r
    · obtain ⟨n24, ln24, r⟩ := rn_steps 2 (45, [some (.ref 540), some (.int b1), some (.int b2), some (.int b3), some (.int b4), some (.int b5), x6], [.int b5, .int b1, .ref 540], aa_H g) rfl r
      obtain ⟨_, n25, v1, h1, -, ln25, rc, r⟩ := rn_call (m2 := 212) (as := [.ref 540, .int b1, .int b5]) (rest := []) rfl rfl r
      obtain ⟨rfl, rfl⟩ := dn_212 rc
      have r : rn_s _ 246 (48, [some (.ref 540), some (.int b1), some (.int b2), some (.int b3), some (.int b4), some (.int b5), x6], [], aa_H (fn_212 g b1 b5)) v h := r
      exact dn_246_48 (lp_q (iw_s v h) d f) (fun n2 l2 => ih n2 (by omega) (by omega)) (fun z hz => hz) x6 jx6 r
theorem dn_246_33 {v : Option Value} {h : zz_H} {n : Nat} {g : aa_G} {b1 : Int32} {b2 : Int32} {b3 : Int32} {b4 : Int32} {b5 : Int32}  (x6 : Option Value) (jx6 : rn_jk x6) (r : rn_s n 246 (33, [some (.ref 540), some (.int b1), some (.int b2), some (.int b3), some (.int b4), some (.int b5), x6], [], aa_H g) v h) : (iw_s v h) (fn_246_33 g b1 b2 b3 b4 b5) := dn_246_33l  n (Nat.le_refl n) g b4 b5 x6 jx6 r
noncomputable def fn_246 (g : aa_G) (a1 : Int32) (a2 : Int32) (a3 : Int32) : Int32 × aa_G := if (fn_192 g a1) = 0 then (-1, g) else if (fn_193 a2) = 0 then (-1, g) else if (fn_154 a3 1 60) ≠ 0 then fn_246_33 g a1 a2 a3 0 a2 else (-1, g)
theorem dn_246 {v : Option Value} {h : zz_H} {n : Nat} {g : aa_G} {a1 : Int32} {a2 : Int32} {a3 : Int32}  (r : rn_s n 246 (0, zz_in [.ref 540, .int a1, .int a2, .int a3] (zz_nl 246), [], aa_H g) v h) : iw_s v h (fn_246 g a1 a2 a3) := by
  have r : rn_s n 246 (0, [some (.ref 540), some (.int a1), some (.int a2), some (.int a3), none, none, none], [], aa_H g) v h := r
  unfold fn_246
  obtain ⟨n1, ln1, r⟩ := rn_steps 1 (2, [some (.ref 540), some (.int a1), some (.int a2), some (.int a3), none, none, none], [.int a1, .ref 540], aa_H g) rfl r
  obtain ⟨_, n2, v1, h1, -, ln2, rc, r⟩ := rn_call (m2 := 192) (as := [.ref 540, .int a1]) (rest := []) rfl rfl r
  obtain ⟨rfl, rfl⟩ := dn_192 rc
  have r : rn_s _ 246 (5, [some (.ref 540), some (.int a1), some (.int a2), some (.int a3), none, none, none], [.int (fn_192 g a1)], aa_H g) v h := r
  refine rn_if (iw_s v h) rfl decide_eq_true_iff.symm r (fun c4 l5n l5 r => ?_) (fun c4 l5n l5 r => ?_)
  · obtain ⟨n6, ln6, r⟩ := rn_steps 0 (26, [some (.ref 540), some (.int a1), some (.int a2), some (.int a3), none, none, none], [.int (-1)], aa_H g) rfl r
    exact rn_ire rfl r
  · obtain ⟨n7, ln7, r⟩ := rn_steps 0 (9, [some (.ref 540), some (.int a1), some (.int a2), some (.int a3), none, none, none], [.int a2], aa_H g) rfl r
    obtain ⟨_, n8, v1, h1, -, ln8, rc, r⟩ := rn_call (m2 := 193) (as := [.int a2]) (rest := []) rfl rfl r
    obtain ⟨rfl, rfl⟩ := dn_193 rc
    have r : rn_s _ 246 (12, [some (.ref 540), some (.int a1), some (.int a2), some (.int a3), none, none, none], [.int (fn_193 a2)], aa_H g) v h := r
    refine rn_if (iw_s v h) rfl decide_eq_true_iff.symm r (fun c10 l11n l11 r => ?_) (fun c10 l11n l11 r => ?_)
    · obtain ⟨n12, ln12, r⟩ := rn_steps 0 (26, [some (.ref 540), some (.int a1), some (.int a2), some (.int a3), none, none, none], [.int (-1)], aa_H g) rfl r
      exact rn_ire rfl r
    · obtain ⟨n13, ln13, r⟩ := rn_steps 2 (19, [some (.ref 540), some (.int a1), some (.int a2), some (.int a3), none, none, none], [.int 60, .int 1, .int a3], aa_H g) rfl r
      obtain ⟨_, n14, v1, h1, -, ln14, rc, r⟩ := rn_call (m2 := 154) (as := [.int a3, .int 1, .int 60]) (rest := []) rfl rfl r
      obtain ⟨rfl, rfl⟩ := dn_154 rc
      have r : rn_s _ 246 (22, [some (.ref 540), some (.int a1), some (.int a2), some (.int a3), none, none, none], [.int (fn_154 a3 1 60)], aa_H g) v h := r
      refine rn_if (iw_s v h) rfl decide_eq_true_iff.symm r (fun c16 l17n l17 r => ?_) (fun c16 l17n l17 r => ?_)
      · obtain ⟨n18, ln18, r⟩ := rn_steps 3 (33, [some (.ref 540), some (.int a1), some (.int a2), some (.int a3), some (.int 0), some (.int a2), none], [], aa_H g) rfl r
        exact dn_246_33 none rn_jn r
      · obtain ⟨n19, ln19, r⟩ := rn_steps 0 (26, [some (.ref 540), some (.int a1), some (.int a2), some (.int a3), none, none, none], [.int (-1)], aa_H g) rfl r
        exact rn_ire rfl r
-- 247: UnequalHoursModel quiet
noncomputable def fn_247_108 (g : aa_G) (b3 : Int32) (b4 : Int32) (b5 : Int32) (b6 : Int32) : (Int32 × Int32 × Int32) ⊕ (Int32 × aa_G) := .inl (b4, b5, b6 + 1)
theorem dn_247_108 {v : Option Value} {h : zz_H} {n : Nat} {g : aa_G} {b3 : Int32} {b4 : Int32} {b5 : Int32} {b6 : Int32} (P : (Int32 × Int32 × Int32) ⊕ (Int32 × aa_G) → Prop) (hO0 : ∀ n2, n2 < n → ∀ (yb4 : Int32) (yb5 : Int32) (yb6 : Int32) (yx1 yx2 yx7 yx8 : Option Value) (_ : rn_jk yx1) (_ : rn_jk yx2) (_ : rn_jk yx7) (_ : rn_jk yx8), rn_s n2 247 (35, [some (.ref 540), yx1, yx2, some (.int b3), some (.int yb4), some (.int yb5), some (.int yb6), yx7, yx8], [], aa_H g) v h → P (.inl (yb4, yb5, yb6))) (hR : ∀ E, iw_s v h E → P (.inr E))  (x1 x2 x7 x8 : Option Value) (jx1 : rn_jk x1) (jx2 : rn_jk x2) (jx7 : rn_jk x7) (jx8 : rn_jk x8) (r : rn_s n 247 (108, [some (.ref 540), x1, x2, some (.int b3), some (.int b4), some (.int b5), some (.int b6), x7, x8], [], aa_H g) v h) : P (fn_247_108 g b3 b4 b5 b6) := by
  unfold fn_247_108
  obtain ⟨n44, ln44, r⟩ := rn_steps 1 (35, [some (.ref 540), x1, x2, some (.int b3), some (.int b4), some (.int b5), some (.int (b6 + 1)), x7, x8], [], aa_H g) rfl r
  exact hO0 _ (by omega) b4 b5 (b6 + 1) x1 x2 x7 x8 jx1 jx2 jx7 jx8 r
noncomputable def fn_247_85 (g : aa_G) (b3 : Int32) (b4 : Int32) (b5 : Int32) (b6 : Int32) (b7 : Int32) (s0 : Int32) : (Int32 × Int32 × Int32) ⊕ (Int32 × aa_G) := if b5 < (s0 - b7) then fn_247_108 g b3 b7 (s0 - b7) b6 else fn_247_108 g b3 b4 b5 b6
theorem dn_247_85 {v : Option Value} {h : zz_H} {n : Nat} {g : aa_G} {b3 : Int32} {b4 : Int32} {b5 : Int32} {b6 : Int32} {b7 : Int32} {s0 : Int32} (P : (Int32 × Int32 × Int32) ⊕ (Int32 × aa_G) → Prop) (hO0 : ∀ n2, n2 < n → ∀ (yb4 : Int32) (yb5 : Int32) (yb6 : Int32) (yx1 yx2 yx7 yx8 : Option Value) (_ : rn_jk yx1) (_ : rn_jk yx2) (_ : rn_jk yx7) (_ : rn_jk yx8), rn_s n2 247 (35, [some (.ref 540), yx1, yx2, some (.int b3), some (.int yb4), some (.int yb5), some (.int yb6), yx7, yx8], [], aa_H g) v h → P (.inl (yb4, yb5, yb6))) (hR : ∀ E, iw_s v h E → P (.inr E))  (x1 x2 x8 : Option Value) (jx1 : rn_jk x1) (jx2 : rn_jk x2) (jx8 : rn_jk x8) (r : rn_s n 247 (85, [some (.ref 540), x1, x2, some (.int b3), some (.int b4), some (.int b5), some (.int b6), some (.int b7), x8], [.int s0], aa_H g) v h) : P (fn_247_85 g b3 b4 b5 b6 b7 s0) := by
  unfold fn_247_85
  obtain ⟨n39, ln39, r⟩ := rn_steps 4 (94, [some (.ref 540), x1, x2, some (.int b3), some (.int b4), some (.int b5), some (.int b6), some (.int b7), some (.int (s0 - b7))], [.int b5, .int (s0 - b7)], aa_H g) rfl r
  refine rn_ic (P) rfl decide_eq_true_iff.symm r (fun c40 l41n l41 r => ?_) (fun c40 l41n l41 r => ?_)
  · obtain ⟨n42, ln42, r⟩ := rn_steps 3 (108, [some (.ref 540), x1, x2, some (.int b3), some (.int b7), some (.int (s0 - b7)), some (.int b6), some (.int b7), some (.int (s0 - b7))], [], aa_H g) rfl r
    exact dn_247_108 (P) (fun n2 l2 => hO0 n2 (by omega)) (fun z hz => hR _ hz) x1 x2 (some (.int b7)) (some (.int (s0 - b7))) jx1 jx2 rn_ji rn_ji r
  · obtain ⟨n43, ln43, r⟩ := rn_steps 0 (108, [some (.ref 540), x1, x2, some (.int b3), some (.int b4), some (.int b5), some (.int b6), some (.int b7), some (.int (s0 - b7))], [], aa_H g) rfl r
    exact dn_247_108 (P) (fun n2 l2 => hO0 n2 (by omega)) (fun z hz => hR _ hz) x1 x2 (some (.int b7)) (some (.int (s0 - b7))) jx1 jx2 rn_ji rn_ji r
noncomputable def fn_247_62 (g : aa_G) (b3 : Int32) (b4 : Int32) (b5 : Int32) (b6 : Int32) (s0 : Int32) : (Int32 × Int32 × Int32) ⊕ (Int32 × aa_G) := if b6 ≠ (g 540 26) then fn_247_85 g b3 b4 b5 b6 s0 (g 546 b6.toNatClampNeg) else fn_247_85 g b3 b4 b5 b6 s0 86400
theorem dn_247_62 {v : Option Value} {h : zz_H} {n : Nat} {g : aa_G} {b3 : Int32} {b4 : Int32} {b5 : Int32} {b6 : Int32} {s0 : Int32} (P : (Int32 × Int32 × Int32) ⊕ (Int32 × aa_G) → Prop) (hO0 : ∀ n2, n2 < n → ∀ (yb4 : Int32) (yb5 : Int32) (yb6 : Int32) (yx1 yx2 yx7 yx8 : Option Value) (_ : rn_jk yx1) (_ : rn_jk yx2) (_ : rn_jk yx7) (_ : rn_jk yx8), rn_s n2 247 (35, [some (.ref 540), yx1, yx2, some (.int b3), some (.int yb4), some (.int yb5), some (.int yb6), yx7, yx8], [], aa_H g) v h → P (.inl (yb4, yb5, yb6))) (hR : ∀ E, iw_s v h E → P (.inr E))  (x1 x2 x7 x8 : Option Value) (jx1 : rn_jk x1) (jx2 : rn_jk x2) (jx7 : rn_jk x7) (jx8 : rn_jk x8) (r : rn_s n 247 (62, [some (.ref 540), x1, x2, some (.int b3), some (.int b4), some (.int b5), some (.int b6), x7, x8], [.int s0], aa_H g) v h) : P (fn_247_62 g b3 b4 b5 b6 s0) := by
  unfold fn_247_62
  obtain ⟨n32, ln32, r⟩ := rn_steps 3 (70, [some (.ref 540), x1, x2, some (.int b3), some (.int b4), some (.int b5), some (.int b6), some (.int s0), x8], [.int (g 540 26), .int b6], aa_H g) rfl r
  refine rn_ic (P) rfl decide_eq_true_iff.symm r (fun c33 l34n l34 r => ?_) (fun c33 l34n l34 r => ?_)
  · obtain ⟨n35, ln35, r⟩ := rn_steps 2 (84, [some (.ref 540), x1, x2, some (.int b3), some (.int b4), some (.int b5), some (.int b6), some (.int s0), x8], [.int b6, .ref 546], aa_H g) rfl r
    obtain ⟨hb37, n36, ln36, r⟩ := rn_ial (k := 546) rfl ⟨by decide, by decide⟩ rfl r
    have r : rn_s _ 247 (85, [some (.ref 540), x1, x2, some (.int b3), some (.int b4), some (.int b5), some (.int b6), some (.int s0), x8], [.int (g 546 b6.toNatClampNeg)], aa_H g) v h := r
    exact dn_247_85 (P) (fun n2 l2 => hO0 n2 (by omega)) (fun z hz => hR _ hz) x1 x2 x8 jx1 jx2 jx8 r
  · obtain ⟨n38, ln38, r⟩ := rn_steps 1 (85, [some (.ref 540), x1, x2, some (.int b3), some (.int b4), some (.int b5), some (.int b6), some (.int s0), x8], [.int 86400], aa_H g) rfl r
    exact dn_247_85 (P) (fun n2 l2 => hO0 n2 (by omega)) (fun z hz => hR _ hz) x1 x2 x8 jx1 jx2 jx8 r
noncomputable def fn_247_35b (g : aa_G) (b3 : Int32) (b4 : Int32) (b5 : Int32) (b6 : Int32) : (Int32 × Int32 × Int32) ⊕ (Int32 × aa_G) := if (g 540 26) < b6 then if b3 ≠ 0 then .inr (b5, g) else .inr (b4, g) else if b6 ≠ 0 then fn_247_62 g b3 b4 b5 b6 (g 546 (b6 - 1).toNatClampNeg) else fn_247_62 g b3 b4 b5 b6 0
noncomputable def fn_247_35 (g : aa_G) (b3 : Int32) (b4 : Int32) (b5 : Int32) (b6 : Int32) : Int32 × aa_G := lp_f (0, g) (fun z : (Int32 × Int32 × Int32) => fn_247_35b g b3 z.1 z.2.1 z.2.2) (b4, b5, b6)
theorem dn_247_35l {v : Option Value} {h : zz_H} {N : Nat} {g : aa_G} {b3 : Int32} {d : Int32 × aa_G} : ∀ (n : Nat), n ≤ N → ∀ (b4 : Int32) (b5 : Int32) (b6 : Int32) (x1 x2 x7 x8 : Option Value) (jx1 : rn_jk x1) (jx2 : rn_jk x2) (jx7 : rn_jk x7) (jx8 : rn_jk x8), rn_s n 247 (35, [some (.ref 540), x1, x2, some (.int b3), some (.int b4), some (.int b5), some (.int b6), x7, x8], [], aa_H g) v h → (iw_s v h) (lp_f d (fun z : (Int32 × Int32 × Int32) => fn_247_35b g b3 z.1 z.2.1 z.2.2) (b4, b5, b6)) := by
  generalize hf : (fun z : (Int32 × Int32 × Int32) => fn_247_35b g b3 z.1 z.2.1 z.2.2) = f
  intro n
  induction n using Nat.strongRecOn with
  | _ n ih =>
    intro hN b4 b5 b6 x1 x2 x7 x8 jx1 jx2 jx7 jx8 r
    refine lp_go ?_
    rw [← congrFun hf (b4, b5, b6)]
    show lp_q (iw_s v h) d f (fn_247_35b g b3 b4 b5 b6)
    unfold fn_247_35b
    obtain ⟨n17, ln17, r⟩ := rn_steps 2 (41, [some (.ref 540), x1, x2, some (.int b3), some (.int b4), some (.int b5), some (.int b6), x7, x8], [.int (g 540 26), .int b6], aa_H g) rfl r
    refine rn_ic (lp_q (iw_s v h) d f) rfl decide_eq_true_iff.symm r (fun c18 l19n l19 r => ?_) (fun c18 l19n l19 r => ?_)
    · obtain ⟨n20, ln20, r⟩ := rn_steps 0 (115, [some (.ref 540), x1, x2, some (.int b3), some (.int b4), some (.int b5), some (.int b6), x7, x8], [.int b3], aa_H g) rfl r
      refine rn_if (lp_q (iw_s v h) d f) rfl decide_eq_true_iff.symm r (fun c21 l22n l22 r => ?_) (fun c21 l22n l22 r => ?_)
      · obtain ⟨n23, ln23, r⟩ := rn_steps 0 (125, [some (.ref 540), x1, x2, some (.int b3), some (.int b4), some (.int b5), some (.int b6), x7, x8], [.int b5], aa_H g) rfl r
        exact rn_ire rfl r
      · obtain ⟨n24, ln24, r⟩ := rn_steps 1 (125, [some (.ref 540), x1, x2, some (.int b3), some (.int b4), some (.int b5), some (.int b6), x7, x8], [.int b4], aa_H g) rfl r
        exact rn_ire rfl r
    · obtain ⟨n25, ln25, r⟩ := rn_steps 0 (46, [some (.ref 540), x1, x2, some (.int b3), some (.int b4), some (.int b5), some (.int b6), x7, x8], [.int b6], aa_H g) rfl r
      refine rn_if (lp_q (iw_s v h) d f) rfl decide_eq_true_iff.symm r (fun c26 l27n l27 r => ?_) (fun c26 l27n l27 r => ?_)
      · obtain ⟨n28, ln28, r⟩ := rn_steps 4 (61, [some (.ref 540), x1, x2, some (.int b3), some (.int b4), some (.int b5), some (.int b6), x7, x8], [.int (b6 - 1), .ref 546], aa_H g) rfl r
        obtain ⟨hb30, n29, ln29, r⟩ := rn_ial (k := 546) rfl ⟨by decide, by decide⟩ rfl r
        have r : rn_s _ 247 (62, [some (.ref 540), x1, x2, some (.int b3), some (.int b4), some (.int b5), some (.int b6), x7, x8], [.int (g 546 (b6 - 1).toNatClampNeg)], aa_H g) v h := r
        exact dn_247_62 (lp_q (iw_s v h) d f) (fun n2 l2 => ih n2 (by omega) (by omega)) (fun z hz => hz) x1 x2 x7 x8 jx1 jx2 jx7 jx8 r
      · obtain ⟨n31, ln31, r⟩ := rn_steps 1 (62, [some (.ref 540), x1, x2, some (.int b3), some (.int b4), some (.int b5), some (.int b6), x7, x8], [.int 0], aa_H g) rfl r
        exact dn_247_62 (lp_q (iw_s v h) d f) (fun n2 l2 => ih n2 (by omega) (by omega)) (fun z hz => hz) x1 x2 x7 x8 jx1 jx2 jx7 jx8 r
theorem dn_247_35 {v : Option Value} {h : zz_H} {n : Nat} {g : aa_G} {b3 : Int32} {b4 : Int32} {b5 : Int32} {b6 : Int32}  (x1 x2 x7 x8 : Option Value) (jx1 : rn_jk x1) (jx2 : rn_jk x2) (jx7 : rn_jk x7) (jx8 : rn_jk x8) (r : rn_s n 247 (35, [some (.ref 540), x1, x2, some (.int b3), some (.int b4), some (.int b5), some (.int b6), x7, x8], [], aa_H g) v h) : (iw_s v h) (fn_247_35 g b3 b4 b5 b6) := dn_247_35l  n (Nat.le_refl n) b4 b5 b6 x1 x2 x7 x8 jx1 jx2 jx7 jx8 r
noncomputable def fn_247_26 (g : aa_G) (b3 : Int32) : Int32 × aa_G := fn_247_35 g b3 0 (-1) 0
theorem dn_247_26 {v : Option Value} {h : zz_H} {n : Nat} {g : aa_G} {b3 : Int32}  (x1 x2 x4 x5 x6 x7 x8 : Option Value) (jx1 : rn_jk x1) (jx2 : rn_jk x2) (jx4 : rn_jk x4) (jx5 : rn_jk x5) (jx6 : rn_jk x6) (jx7 : rn_jk x7) (jx8 : rn_jk x8) (r : rn_s n 247 (26, [some (.ref 540), x1, x2, some (.int b3), x4, x5, x6, x7, x8], [], aa_H g) v h) : iw_s v h (fn_247_26 g b3) := by
  unfold fn_247_26
  obtain ⟨n16, ln16, r⟩ := rn_steps 5 (35, [some (.ref 540), x1, x2, some (.int b3), some (.int 0), some (.int (-1)), some (.int 0), x7, x8], [], aa_H g) rfl r
  exact dn_247_35 x1 x2 x7 x8 jx1 jx2 jx7 jx8 r
noncomputable def fn_247 (g : aa_G) (a1 : Int32) (a2 : Int32) (a3 : Int32) : Int32 × aa_G := if (fn_191 g a1 a2) = 0 then (-1, g) else if (fn_154 a3 0 1) ≠ 0 then fn_247_26 (fn_212 g a1 a2) a3 else (-1, g)
theorem dn_247 {v : Option Value} {h : zz_H} {n : Nat} {g : aa_G} {a1 : Int32} {a2 : Int32} {a3 : Int32}  (r : rn_s n 247 (0, zz_in [.ref 540, .int a1, .int a2, .int a3] (zz_nl 247), [], aa_H g) v h) : iw_s v h (fn_247 g a1 a2 a3) := by
  have r : rn_s n 247 (0, [some (.ref 540), some (.int a1), some (.int a2), some (.int a3), none, none, none, none, none], [], aa_H g) v h := r
  unfold fn_247
  obtain ⟨n1, ln1, r⟩ := rn_steps 2 (3, [some (.ref 540), some (.int a1), some (.int a2), some (.int a3), none, none, none, none, none], [.int a2, .int a1, .ref 540], aa_H g) rfl r
  obtain ⟨_, n2, v1, h1, -, ln2, rc, r⟩ := rn_call (m2 := 191) (as := [.ref 540, .int a1, .int a2]) (rest := []) rfl rfl r
  obtain ⟨rfl, rfl⟩ := dn_191 rc
  have r : rn_s _ 247 (6, [some (.ref 540), some (.int a1), some (.int a2), some (.int a3), none, none, none, none, none], [.int (fn_191 g a1 a2)], aa_H g) v h := r
  refine rn_if (iw_s v h) rfl decide_eq_true_iff.symm r (fun c4 l5n l5 r => ?_) (fun c4 l5n l5 r => ?_)
  · obtain ⟨n6, ln6, r⟩ := rn_steps 0 (19, [some (.ref 540), some (.int a1), some (.int a2), some (.int a3), none, none, none, none, none], [.int (-1)], aa_H g) rfl r
    exact rn_ire rfl r
  · obtain ⟨n7, ln7, r⟩ := rn_steps 2 (12, [some (.ref 540), some (.int a1), some (.int a2), some (.int a3), none, none, none, none, none], [.int 1, .int 0, .int a3], aa_H g) rfl r
    obtain ⟨_, n8, v1, h1, -, ln8, rc, r⟩ := rn_call (m2 := 154) (as := [.int a3, .int 0, .int 1]) (rest := []) rfl rfl r
    obtain ⟨rfl, rfl⟩ := dn_154 rc
    have r : rn_s _ 247 (15, [some (.ref 540), some (.int a1), some (.int a2), some (.int a3), none, none, none, none, none], [.int (fn_154 a3 0 1)], aa_H g) v h := r
    refine rn_if (iw_s v h) rfl decide_eq_true_iff.symm r (fun c10 l11n l11 r => ?_) (fun c10 l11n l11 r => ?_)
    · obtain ⟨n12, ln12, r⟩ := rn_steps 2 (23, [some (.ref 540), some (.int a1), some (.int a2), some (.int a3), none, none, none, none, none], [.int a2, .int a1, .ref 540], aa_H g) rfl r
      obtain ⟨_, n13, v1, h1, -, ln13, rc, r⟩ := rn_call (m2 := 212) (as := [.ref 540, .int a1, .int a2]) (rest := []) rfl rfl r
      obtain ⟨rfl, rfl⟩ := dn_212 rc
      have r : rn_s _ 247 (26, [some (.ref 540), some (.int a1), some (.int a2), some (.int a3), none, none, none, none, none], [], aa_H (fn_212 g a1 a2)) v h := r
      exact dn_247_26 (some (.int a1)) (some (.int a2)) none none none none none rn_ji rn_ji rn_jn rn_jn rn_jn rn_jn rn_jn r
    · obtain ⟨n15, ln15, r⟩ := rn_steps 0 (19, [some (.ref 540), some (.int a1), some (.int a2), some (.int a3), none, none, none, none, none], [.int (-1)], aa_H g) rfl r
      exact rn_ire rfl r
-- 249: UnequalHoursModel isRung
noncomputable def fn_249_18b (g : aa_G) (b3 : Int32) (b4 : Int32) : Int32 ⊕ (Int32 × aa_G) := if (g 540 26) ≤ b4 then .inr (0, g) else if (g 546 b4.toNatClampNeg) ≠ b3 then .inl (b4 + 1) else .inr (1, g)
noncomputable def fn_249_18 (g : aa_G) (b3 : Int32) (b4 : Int32) : Int32 × aa_G := lp_f (0, g) (fun z : Int32 => fn_249_18b g b3 z) b4
theorem dn_249_18l {v : Option Value} {h : zz_H} {N : Nat} {g : aa_G} {b3 : Int32} {d : Int32 × aa_G} : ∀ (n : Nat), n ≤ N → ∀ (b4 : Int32) (x1 x2 : Option Value) (jx1 : rn_jk x1) (jx2 : rn_jk x2), rn_s n 249 (18, [some (.ref 540), x1, x2, some (.int b3), some (.int b4)], [], aa_H g) v h → (iw_s v h) (lp_f d (fun z : Int32 => fn_249_18b g b3 z) b4) := by
  generalize hf : (fun z : Int32 => fn_249_18b g b3 z) = f
  intro n
  induction n using Nat.strongRecOn with
  | _ n ih =>
    intro hN b4 x1 x2 jx1 jx2 r
    refine lp_go ?_
    rw [← congrFun hf b4]
    show lp_q (iw_s v h) d f (fn_249_18b g b3 b4)
    unfold fn_249_18b
    obtain ⟨n11, ln11, r⟩ := rn_steps 2 (24, [some (.ref 540), x1, x2, some (.int b3), some (.int b4)], [.int (g 540 26), .int b4], aa_H g) rfl r
    refine rn_ic (lp_q (iw_s v h) d f) rfl decide_eq_true_iff.symm r (fun c12 l13n l13 r => ?_) (fun c12 l13n l13 r => ?_)
    · obtain ⟨n14, ln14, r⟩ := rn_steps 0 (47, [some (.ref 540), x1, x2, some (.int b3), some (.int b4)], [.int 0], aa_H g) rfl r
      exact rn_ire rfl r
    · obtain ⟨n15, ln15, r⟩ := rn_steps 2 (33, [some (.ref 540), x1, x2, some (.int b3), some (.int b4)], [.int b4, .ref 546], aa_H g) rfl r
      obtain ⟨hb17, n16, ln16, r⟩ := rn_ial (k := 546) rfl ⟨by decide, by decide⟩ rfl r
      have r : rn_s _ 249 (34, [some (.ref 540), x1, x2, some (.int b3), some (.int b4)], [.int (g 546 b4.toNatClampNeg)], aa_H g) v h := r
      obtain ⟨n18, ln18, r⟩ := rn_steps 0 (35, [some (.ref 540), x1, x2, some (.int b3), some (.int b4)], [.int b3, .int (g 546 b4.toNatClampNeg)], aa_H g) rfl r
      refine rn_ic (lp_q (iw_s v h) d f) rfl decide_eq_true_iff.symm r (fun c19 l20n l20 r => ?_) (fun c19 l20n l20 r => ?_)
      · obtain ⟨n21, ln21, r⟩ := rn_steps 1 (18, [some (.ref 540), x1, x2, some (.int b3), some (.int (b4 + 1))], [], aa_H g) rfl r
        exact ih _ (by omega) (by omega) (b4 + 1) x1 x2 jx1 jx2 r
      · obtain ⟨n22, ln22, r⟩ := rn_steps 0 (39, [some (.ref 540), x1, x2, some (.int b3), some (.int b4)], [.int 1], aa_H g) rfl r
        exact rn_ire rfl r
theorem dn_249_18 {v : Option Value} {h : zz_H} {n : Nat} {g : aa_G} {b3 : Int32} {b4 : Int32}  (x1 x2 : Option Value) (jx1 : rn_jk x1) (jx2 : rn_jk x2) (r : rn_s n 249 (18, [some (.ref 540), x1, x2, some (.int b3), some (.int b4)], [], aa_H g) v h) : (iw_s v h) (fn_249_18 g b3 b4) := dn_249_18l  n (Nat.le_refl n) b4 x1 x2 jx1 jx2 r
noncomputable def fn_249_15 (g : aa_G) (b3 : Int32) : Int32 × aa_G := fn_249_18 g b3 0
theorem dn_249_15 {v : Option Value} {h : zz_H} {n : Nat} {g : aa_G} {b3 : Int32}  (x1 x2 x4 : Option Value) (jx1 : rn_jk x1) (jx2 : rn_jk x2) (jx4 : rn_jk x4) (r : rn_s n 249 (15, [some (.ref 540), x1, x2, some (.int b3), x4], [], aa_H g) v h) : iw_s v h (fn_249_15 g b3) := by
  unfold fn_249_15
  obtain ⟨n10, ln10, r⟩ := rn_steps 1 (18, [some (.ref 540), x1, x2, some (.int b3), some (.int 0)], [], aa_H g) rfl r
  exact dn_249_18 x1 x2 jx1 jx2 r
noncomputable def fn_249 (g : aa_G) (a1 : Int32) (a2 : Int32) (a3 : Int32) : Int32 × aa_G := if (fn_193 a2) ≠ 0 then fn_249_15 (fn_212 g a1 a2) a3 else (0, g)
theorem dn_249 {v : Option Value} {h : zz_H} {n : Nat} {g : aa_G} {a1 : Int32} {a2 : Int32} {a3 : Int32}  (r : rn_s n 249 (0, zz_in [.ref 540, .int a1, .int a2, .int a3] (zz_nl 249), [], aa_H g) v h) : iw_s v h (fn_249 g a1 a2 a3) := by
  have r : rn_s n 249 (0, [some (.ref 540), some (.int a1), some (.int a2), some (.int a3), none], [], aa_H g) v h := r
  unfold fn_249
  obtain ⟨n1, ln1, r⟩ := rn_steps 0 (1, [some (.ref 540), some (.int a1), some (.int a2), some (.int a3), none], [.int a2], aa_H g) rfl r
  obtain ⟨_, n2, v1, h1, -, ln2, rc, r⟩ := rn_call (m2 := 193) (as := [.int a2]) (rest := []) rfl rfl r
  obtain ⟨rfl, rfl⟩ := dn_193 rc
  have r : rn_s _ 249 (4, [some (.ref 540), some (.int a1), some (.int a2), some (.int a3), none], [.int (fn_193 a2)], aa_H g) v h := r
  refine rn_if (iw_s v h) rfl decide_eq_true_iff.symm r (fun c4 l5n l5 r => ?_) (fun c4 l5n l5 r => ?_)
  · obtain ⟨n6, ln6, r⟩ := rn_steps 2 (12, [some (.ref 540), some (.int a1), some (.int a2), some (.int a3), none], [.int a2, .int a1, .ref 540], aa_H g) rfl r
    obtain ⟨_, n7, v1, h1, -, ln7, rc, r⟩ := rn_call (m2 := 212) (as := [.ref 540, .int a1, .int a2]) (rest := []) rfl rfl r
    obtain ⟨rfl, rfl⟩ := dn_212 rc
    have r : rn_s _ 249 (15, [some (.ref 540), some (.int a1), some (.int a2), some (.int a3), none], [], aa_H (fn_212 g a1 a2)) v h := r
    exact dn_249_15 (some (.int a1)) (some (.int a2)) none rn_ji rn_ji rn_jn r
  · obtain ⟨n9, ln9, r⟩ := rn_steps 0 (8, [some (.ref 540), some (.int a1), some (.int a2), some (.int a3), none], [.int 0], aa_H g) rfl r
    exact rn_ire rfl r
-- 248: UnequalHoursModel same
noncomputable def fn_248_116 (g : aa_G) (b1 : Int32) (b2 : Int32) (b3 : Int32) (b5 : Int32) (s0 : Int32) (s1 : Int32) : (aa_G × Int32 × Int32) ⊕ (Int32 × aa_G) := .inl (g, s1 + s0, b5 + 1)
theorem dn_248_116 {v : Option Value} {h : zz_H} {n : Nat} {g : aa_G} {b1 : Int32} {b2 : Int32} {b3 : Int32} {b5 : Int32} {s0 : Int32} {s1 : Int32} (P : (aa_G × Int32 × Int32) ⊕ (Int32 × aa_G) → Prop) (hO0 : ∀ n2, n2 < n → ∀ (yg : aa_G) (yb4 : Int32) (yb5 : Int32), rn_s n2 248 (65, [some (.ref 540), some (.int b1), some (.int b2), some (.int b3), some (.int yb4), some (.int yb5)], [], aa_H yg) v h → P (.inl (yg, yb4, yb5))) (hR : ∀ E, iw_s v h E → P (.inr E))  (x4 : Option Value) (jx4 : rn_jk x4) (r : rn_s n 248 (116, [some (.ref 540), some (.int b1), some (.int b2), some (.int b3), x4, some (.int b5)], [.int s0, .int s1], aa_H g) v h) : P (fn_248_116 g b1 b2 b3 b5 s0 s1) := by
  unfold fn_248_116
  obtain ⟨n44, ln44, r⟩ := rn_steps 3 (65, [some (.ref 540), some (.int b1), some (.int b2), some (.int b3), some (.int (s1 + s0)), some (.int (b5 + 1))], [], aa_H g) rfl r
  exact hO0 _ (by omega) g (s1 + s0) (b5 + 1) r
noncomputable def fn_248_108 (g : aa_G) (b1 : Int32) (b2 : Int32) (b3 : Int32) (b5 : Int32) (s0 : Int32) (s1 : Int32) : (aa_G × Int32 × Int32) ⊕ (Int32 × aa_G) := if s0 = 0 then fn_248_116 g b1 b2 b3 b5 0 s1 else fn_248_116 g b1 b2 b3 b5 1 s1
theorem dn_248_108 {v : Option Value} {h : zz_H} {n : Nat} {g : aa_G} {b1 : Int32} {b2 : Int32} {b3 : Int32} {b5 : Int32} {s0 : Int32} {s1 : Int32} (P : (aa_G × Int32 × Int32) ⊕ (Int32 × aa_G) → Prop) (hO0 : ∀ n2, n2 < n → ∀ (yg : aa_G) (yb4 : Int32) (yb5 : Int32), rn_s n2 248 (65, [some (.ref 540), some (.int b1), some (.int b2), some (.int b3), some (.int yb4), some (.int yb5)], [], aa_H yg) v h → P (.inl (yg, yb4, yb5))) (hR : ∀ E, iw_s v h E → P (.inr E))  (x4 : Option Value) (jx4 : rn_jk x4) (r : rn_s n 248 (108, [some (.ref 540), some (.int b1), some (.int b2), some (.int b3), x4, some (.int b5)], [.int s0, .int s1], aa_H g) v h) : P (fn_248_108 g b1 b2 b3 b5 s0 s1) := by
  unfold fn_248_108
  refine rn_if (P) rfl decide_eq_true_iff.symm r (fun c40 l41n l41 r => ?_) (fun c40 l41n l41 r => ?_)
  · obtain ⟨n42, ln42, r⟩ := rn_steps 0 (116, [some (.ref 540), some (.int b1), some (.int b2), some (.int b3), x4, some (.int b5)], [.int 0, .int s1], aa_H g) rfl r
    exact dn_248_116 (P) (fun n2 l2 => hO0 n2 (by omega)) (fun z hz => hR _ hz) x4 jx4 r
  · obtain ⟨n43, ln43, r⟩ := rn_steps 1 (116, [some (.ref 540), some (.int b1), some (.int b2), some (.int b3), x4, some (.int b5)], [.int 1, .int s1], aa_H g) rfl r
    exact dn_248_116 (P) (fun n2 l2 => hO0 n2 (by omega)) (fun z hz => hR _ hz) x4 jx4 r
noncomputable def fn_248_91 (g : aa_G) (b1 : Int32) (b2 : Int32) (b3 : Int32) (b4 : Int32) (b5 : Int32) : (aa_G × Int32 × Int32) ⊕ (Int32 × aa_G) := fn_248_108 ((fn_249 g (b1 - b1 / 4 * 4) (g 540 22) (g 540 23)).2) b1 b2 b3 b5 ((fn_249 g (b1 - b1 / 4 * 4) (g 540 22) (g 540 23)).1) b4
theorem dn_248_91 {v : Option Value} {h : zz_H} {n : Nat} {g : aa_G} {b1 : Int32} {b2 : Int32} {b3 : Int32} {b4 : Int32} {b5 : Int32} (P : (aa_G × Int32 × Int32) ⊕ (Int32 × aa_G) → Prop) (hO0 : ∀ n2, n2 < n → ∀ (yg : aa_G) (yb4 : Int32) (yb5 : Int32), rn_s n2 248 (65, [some (.ref 540), some (.int b1), some (.int b2), some (.int b3), some (.int yb4), some (.int yb5)], [], aa_H yg) v h → P (.inl (yg, yb4, yb5))) (hR : ∀ E, iw_s v h E → P (.inr E))  (r : rn_s n 248 (91, [some (.ref 540), some (.int b1), some (.int b2), some (.int b3), some (.int b4), some (.int b5)], [], aa_H g) v h) : P (fn_248_91 g b1 b2 b3 b4 b5) := by
  unfold fn_248_91
  obtain ⟨n37, ln37, r⟩ := rn_steps 8 (105, [some (.ref 540), some (.int b1), some (.int b2), some (.int b3), some (.int b4), some (.int b5)], [.int (g 540 23), .int (g 540 22), .int (b1 - b1 / 4 * 4), .ref 540, .int b4], aa_H g) rfl r
  obtain ⟨_, n38, v1, h1, -, ln38, rc, r⟩ := rn_call (m2 := 249) (as := [.ref 540, .int (b1 - b1 / 4 * 4), .int (g 540 22), .int (g 540 23)]) (rest := [.int b4]) rfl rfl r
  obtain ⟨rfl, rfl⟩ := dn_249 rc
  have r : rn_s _ 248 (108, [some (.ref 540), some (.int b1), some (.int b2), some (.int b3), some (.int b4), some (.int b5)], [.int ((fn_249 g (b1 - b1 / 4 * 4) (g 540 22) (g 540 23)).1), .int b4], aa_H ((fn_249 g (b1 - b1 / 4 * 4) (g 540 22) (g 540 23)).2)) v h := r
  exact dn_248_108 (P) (fun n2 l2 => hO0 n2 (by omega)) (fun z hz => hR _ hz) (some (.int b4)) rn_ji r
noncomputable def fn_248_65b (g : aa_G) (b1 : Int32) (b2 : Int32) (b3 : Int32) (b4 : Int32) (b5 : Int32) : (aa_G × Int32 × Int32) ⊕ (Int32 × aa_G) := if b3 ≤ b5 then .inr (b4, g) else fn_248_91 (fn_208 g (b1 / 4) b2.toInt64 ((g 551 b5.toNatClampNeg).toInt64) (b1 - b1 / 4 * 4)) b1 b2 b3 b4 b5
noncomputable def fn_248_65 (g : aa_G) (b1 : Int32) (b2 : Int32) (b3 : Int32) (b4 : Int32) (b5 : Int32) : Int32 × aa_G := lp_f (0, g) (fun z : (aa_G × Int32 × Int32) => fn_248_65b z.1 b1 b2 b3 z.2.1 z.2.2) (g, b4, b5)
theorem dn_248_65l {v : Option Value} {h : zz_H} {N : Nat} {b1 : Int32} {b2 : Int32} {b3 : Int32} {d : Int32 × aa_G} : ∀ (n : Nat), n ≤ N → ∀ (g : aa_G) (b4 : Int32) (b5 : Int32), rn_s n 248 (65, [some (.ref 540), some (.int b1), some (.int b2), some (.int b3), some (.int b4), some (.int b5)], [], aa_H g) v h → (iw_s v h) (lp_f d (fun z : (aa_G × Int32 × Int32) => fn_248_65b z.1 b1 b2 b3 z.2.1 z.2.2) (g, b4, b5)) := by
  generalize hf : (fun z : (aa_G × Int32 × Int32) => fn_248_65b z.1 b1 b2 b3 z.2.1 z.2.2) = f
  intro n
  induction n using Nat.strongRecOn with
  | _ n ih =>
    intro hN g b4 b5  r
    refine lp_go ?_
    rw [← congrFun hf (g, b4, b5)]
    show lp_q (iw_s v h) d f (fn_248_65b g b1 b2 b3 b4 b5)
    unfold fn_248_65b
    obtain ⟨n27, ln27, r⟩ := rn_steps 1 (68, [some (.ref 540), some (.int b1), some (.int b2), some (.int b3), some (.int b4), some (.int b5)], [.int b3, .int b5], aa_H g) rfl r
    refine rn_ic (lp_q (iw_s v h) d f) rfl decide_eq_true_iff.symm r (fun c28 l29n l29 r => ?_) (fun c28 l29n l29 r => ?_)
    · obtain ⟨n30, ln30, r⟩ := rn_steps 0 (127, [some (.ref 540), some (.int b1), some (.int b2), some (.int b3), some (.int b4), some (.int b5)], [.int b4], aa_H g) rfl r
      exact rn_ire rfl r
    · obtain ⟨n31, ln31, r⟩ := rn_steps 8 (83, [some (.ref 540), some (.int b1), some (.int b2), some (.int b3), some (.int b4), some (.int b5)], [.int b5, .ref 551, .long b2.toInt64, .int (b1 / 4), .ref 540], aa_H g) rfl r
      obtain ⟨hb33, n32, ln32, r⟩ := rn_ial (k := 551) rfl ⟨by decide, by decide⟩ rfl r
      have r : rn_s _ 248 (84, [some (.ref 540), some (.int b1), some (.int b2), some (.int b3), some (.int b4), some (.int b5)], [.int (g 551 b5.toNatClampNeg), .long b2.toInt64, .int (b1 / 4), .ref 540], aa_H g) v h := r
      obtain ⟨n34, ln34, r⟩ := rn_steps 3 (88, [some (.ref 540), some (.int b1), some (.int b2), some (.int b3), some (.int b4), some (.int b5)], [.int (b1 - b1 / 4 * 4), .long ((g 551 b5.toNatClampNeg).toInt64), .long b2.toInt64, .int (b1 / 4), .ref 540], aa_H g) rfl r
      obtain ⟨_, n35, v1, h1, -, ln35, rc, r⟩ := rn_call (m2 := 208) (as := [.ref 540, .int (b1 / 4), .long b2.toInt64, .long ((g 551 b5.toNatClampNeg).toInt64), .int (b1 - b1 / 4 * 4)]) (rest := []) rfl rfl r
      obtain ⟨rfl, rfl⟩ := dn_208 rc
      have r : rn_s _ 248 (91, [some (.ref 540), some (.int b1), some (.int b2), some (.int b3), some (.int b4), some (.int b5)], [], aa_H (fn_208 g (b1 / 4) b2.toInt64 ((g 551 b5.toNatClampNeg).toInt64) (b1 - b1 / 4 * 4))) v h := r
      exact dn_248_91 (lp_q (iw_s v h) d f) (fun n2 l2 => ih n2 (by omega) (by omega)) (fun z hz => hz) r
theorem dn_248_65 {v : Option Value} {h : zz_H} {n : Nat} {g : aa_G} {b1 : Int32} {b2 : Int32} {b3 : Int32} {b4 : Int32} {b5 : Int32}  (r : rn_s n 248 (65, [some (.ref 540), some (.int b1), some (.int b2), some (.int b3), some (.int b4), some (.int b5)], [], aa_H g) v h) : (iw_s v h) (fn_248_65 g b1 b2 b3 b4 b5) := dn_248_65l  n (Nat.le_refl n) g b4 b5 r
noncomputable def fn_248_33b (g : aa_G) (b1 : Int32) (b2 : Int32) (b3 : Int32) (b4 : Int32) : (aa_G × Int32) ⊕ (Int32 × aa_G) := if b3 ≤ b4 then .inr (fn_248_65 g b1 b2 b3 0 0) else .inl (zz_w g 551 b4.toNatClampNeg (g 546 b4.toNatClampNeg), b4 + 1)
noncomputable def fn_248_33 (g : aa_G) (b1 : Int32) (b2 : Int32) (b3 : Int32) (b4 : Int32) : Int32 × aa_G := lp_f (0, g) (fun z : (aa_G × Int32) => fn_248_33b z.1 b1 b2 b3 z.2) (g, b4)
theorem dn_248_33l {v : Option Value} {h : zz_H} {N : Nat} {b1 : Int32} {b2 : Int32} {b3 : Int32} {d : Int32 × aa_G} : ∀ (n : Nat), n ≤ N → ∀ (g : aa_G) (b4 : Int32) (x5 : Option Value) (jx5 : rn_jk x5), rn_s n 248 (33, [some (.ref 540), some (.int b1), some (.int b2), some (.int b3), some (.int b4), x5], [], aa_H g) v h → (iw_s v h) (lp_f d (fun z : (aa_G × Int32) => fn_248_33b z.1 b1 b2 b3 z.2) (g, b4)) := by
  generalize hf : (fun z : (aa_G × Int32) => fn_248_33b z.1 b1 b2 b3 z.2) = f
  intro n
  induction n using Nat.strongRecOn with
  | _ n ih =>
    intro hN g b4 x5 jx5 r
    refine lp_go ?_
    rw [← congrFun hf (g, b4)]
    show lp_q (iw_s v h) d f (fn_248_33b g b1 b2 b3 b4)
    unfold fn_248_33b
    obtain ⟨n17, ln17, r⟩ := rn_steps 1 (36, [some (.ref 540), some (.int b1), some (.int b2), some (.int b3), some (.int b4), x5], [.int b3, .int b4], aa_H g) rfl r
    refine rn_ic (lp_q (iw_s v h) d f) rfl decide_eq_true_iff.symm r (fun c18 l19n l19 r => ?_) (fun c18 l19n l19 r => ?_)
    · obtain ⟨n20, ln20, r⟩ := rn_steps 3 (65, [some (.ref 540), some (.int b1), some (.int b2), some (.int b3), some (.int 0), some (.int 0)], [], aa_H g) rfl r
      exact dn_248_65 r
    · obtain ⟨n21, ln21, r⟩ := rn_steps 5 (51, [some (.ref 540), some (.int b1), some (.int b2), some (.int b3), some (.int b4), x5], [.int b4, .ref 546, .int b4, .ref 551], aa_H g) rfl r
      obtain ⟨hb23, n22, ln22, r⟩ := rn_ial (k := 546) rfl ⟨by decide, by decide⟩ rfl r
      have r : rn_s _ 248 (52, [some (.ref 540), some (.int b1), some (.int b2), some (.int b3), some (.int b4), x5], [.int (g 546 b4.toNatClampNeg), .int b4, .ref 551], aa_H g) v h := r
      obtain ⟨hb25, n24, ln24, r⟩ := rn_ias (k := 551) rfl ⟨by decide, by decide⟩ rfl r
      have r : rn_s _ 248 (53, [some (.ref 540), some (.int b1), some (.int b2), some (.int b3), some (.int b4), x5], [], aa_H (zz_w g 551 b4.toNatClampNeg (g 546 b4.toNatClampNeg))) v h := r
      obtain ⟨n26, ln26, r⟩ := rn_steps 1 (33, [some (.ref 540), some (.int b1), some (.int b2), some (.int b3), some (.int (b4 + 1)), x5], [], aa_H (zz_w g 551 b4.toNatClampNeg (g 546 b4.toNatClampNeg))) rfl r
      exact ih _ (by omega) (by omega) (zz_w g 551 b4.toNatClampNeg (g 546 b4.toNatClampNeg)) (b4 + 1) x5 jx5 r
theorem dn_248_33 {v : Option Value} {h : zz_H} {n : Nat} {g : aa_G} {b1 : Int32} {b2 : Int32} {b3 : Int32} {b4 : Int32}  (x5 : Option Value) (jx5 : rn_jk x5) (r : rn_s n 248 (33, [some (.ref 540), some (.int b1), some (.int b2), some (.int b3), some (.int b4), x5], [], aa_H g) v h) : (iw_s v h) (fn_248_33 g b1 b2 b3 b4) := dn_248_33l  n (Nat.le_refl n) g b4 x5 jx5 r
noncomputable def fn_248_25 (g : aa_G) (b1 : Int32) (b2 : Int32) : Int32 × aa_G := fn_248_33 g b1 b2 (g 540 26) 0
theorem dn_248_25 {v : Option Value} {h : zz_H} {n : Nat} {g : aa_G} {b1 : Int32} {b2 : Int32}  (x3 x4 x5 : Option Value) (jx3 : rn_jk x3) (jx4 : rn_jk x4) (jx5 : rn_jk x5) (r : rn_s n 248 (25, [some (.ref 540), some (.int b1), some (.int b2), x3, x4, x5], [], aa_H g) v h) : iw_s v h (fn_248_25 g b1 b2) := by
  unfold fn_248_25
  obtain ⟨n16, ln16, r⟩ := rn_steps 4 (33, [some (.ref 540), some (.int b1), some (.int b2), some (.int (g 540 26)), some (.int 0), x5], [], aa_H g) rfl r
  exact dn_248_33 x5 jx5 r
noncomputable def fn_248 (g : aa_G) (a1 : Int32) (a2 : Int32) : Int32 × aa_G := if (fn_239 g a1) = 0 then (-1, g) else if (fn_193 a2) ≠ 0 then fn_248_25 (fn_212 g (a1 / 4) a2) a1 a2 else (-1, g)
theorem dn_248 {v : Option Value} {h : zz_H} {n : Nat} {g : aa_G} {a1 : Int32} {a2 : Int32}  (r : rn_s n 248 (0, zz_in [.ref 540, .int a1, .int a2] (zz_nl 248), [], aa_H g) v h) : iw_s v h (fn_248 g a1 a2) := by
  have r : rn_s n 248 (0, [some (.ref 540), some (.int a1), some (.int a2), none, none, none], [], aa_H g) v h := r
  unfold fn_248
  obtain ⟨n1, ln1, r⟩ := rn_steps 1 (2, [some (.ref 540), some (.int a1), some (.int a2), none, none, none], [.int a1, .ref 540], aa_H g) rfl r
  obtain ⟨_, n2, v1, h1, -, ln2, rc, r⟩ := rn_call (m2 := 239) (as := [.ref 540, .int a1]) (rest := []) rfl rfl r
  obtain ⟨rfl, rfl⟩ := dn_239 rc
  have r : rn_s _ 248 (5, [some (.ref 540), some (.int a1), some (.int a2), none, none, none], [.int (fn_239 g a1)], aa_H g) v h := r
  refine rn_if (iw_s v h) rfl decide_eq_true_iff.symm r (fun c4 l5n l5 r => ?_) (fun c4 l5n l5 r => ?_)
  · obtain ⟨n6, ln6, r⟩ := rn_steps 0 (16, [some (.ref 540), some (.int a1), some (.int a2), none, none, none], [.int (-1)], aa_H g) rfl r
    exact rn_ire rfl r
  · obtain ⟨n7, ln7, r⟩ := rn_steps 0 (9, [some (.ref 540), some (.int a1), some (.int a2), none, none, none], [.int a2], aa_H g) rfl r
    obtain ⟨_, n8, v1, h1, -, ln8, rc, r⟩ := rn_call (m2 := 193) (as := [.int a2]) (rest := []) rfl rfl r
    obtain ⟨rfl, rfl⟩ := dn_193 rc
    have r : rn_s _ 248 (12, [some (.ref 540), some (.int a1), some (.int a2), none, none, none], [.int (fn_193 a2)], aa_H g) v h := r
    refine rn_if (iw_s v h) rfl decide_eq_true_iff.symm r (fun c10 l11n l11 r => ?_) (fun c10 l11n l11 r => ?_)
    · obtain ⟨n12, ln12, r⟩ := rn_steps 4 (22, [some (.ref 540), some (.int a1), some (.int a2), none, none, none], [.int a2, .int (a1 / 4), .ref 540], aa_H g) rfl r
      obtain ⟨_, n13, v1, h1, -, ln13, rc, r⟩ := rn_call (m2 := 212) (as := [.ref 540, .int (a1 / 4), .int a2]) (rest := []) rfl rfl r
      obtain ⟨rfl, rfl⟩ := dn_212 rc
      have r : rn_s _ 248 (25, [some (.ref 540), some (.int a1), some (.int a2), none, none, none], [], aa_H (fn_212 g (a1 / 4) a2)) v h := r
      exact dn_248_25 none none none rn_jn rn_jn rn_jn r
    · obtain ⟨n15, ln15, r⟩ := rn_steps 0 (16, [some (.ref 540), some (.int a1), some (.int a2), none, none, none], [.int (-1)], aa_H g) rfl r
      exact rn_ire rfl r
-- 189: UnequalHoursModel bell
noncomputable def fn_189 (g : aa_G) (a1 : Int32) (a2 : Int32) : Int32 := if (fn_154 a1 0 ((g 541 (2 : Int32).toNatClampNeg) - 1)) = 0 then -1 else if (fn_154 a2 0 4) = 0 then -1 else g 541 ((203 + (7 * a1)) + a2).toNatClampNeg
theorem dn_189 {v : Option Value} {h : zz_H} {n : Nat} {g : aa_G} {a1 : Int32} {a2 : Int32}  (r : rn_s n 189 (0, zz_in [.ref 540, .int a1, .int a2] (zz_nl 189), [], aa_H g) v h) : ir_s g v h (fn_189 g a1 a2) := by
  have r : rn_s n 189 (0, [some (.ref 540), some (.int a1), some (.int a2)], [], aa_H g) v h := r
  unfold fn_189
  obtain ⟨n1, ln1, r⟩ := rn_steps 4 (7, [some (.ref 540), some (.int a1), some (.int a2)], [.int 2, .ref 541, .int 0, .int a1], aa_H g) rfl r
  obtain ⟨hb3, n2, ln2, r⟩ := rn_ial (k := 541) rfl ⟨by decide, by decide⟩ rfl r
  have r : rn_s _ 189 (8, [some (.ref 540), some (.int a1), some (.int a2)], [.int (g 541 (2 : Int32).toNatClampNeg), .int 0, .int a1], aa_H g) v h := r
  obtain ⟨n4, ln4, r⟩ := rn_steps 1 (10, [some (.ref 540), some (.int a1), some (.int a2)], [.int ((g 541 (2 : Int32).toNatClampNeg) - 1), .int 0, .int a1], aa_H g) rfl r
  obtain ⟨_, n5, v1, h1, -, ln5, rc, r⟩ := rn_call (m2 := 154) (as := [.int a1, .int 0, .int ((g 541 (2 : Int32).toNatClampNeg) - 1)]) (rest := []) rfl rfl r
  obtain ⟨rfl, rfl⟩ := dn_154 rc
  have r : rn_s _ 189 (13, [some (.ref 540), some (.int a1), some (.int a2)], [.int (fn_154 a1 0 ((g 541 (2 : Int32).toNatClampNeg) - 1))], aa_H g) v h := r
  refine rn_if (ir_s g v h) rfl decide_eq_true_iff.symm r (fun c7 l8n l8 r => ?_) (fun c7 l8n l8 r => ?_)
  · obtain ⟨n9, ln9, r⟩ := rn_steps 0 (44, [some (.ref 540), some (.int a1), some (.int a2)], [.int (-1)], aa_H g) rfl r
    exact rn_ire rfl r
  · obtain ⟨n10, ln10, r⟩ := rn_steps 2 (19, [some (.ref 540), some (.int a1), some (.int a2)], [.int 4, .int 0, .int a2], aa_H g) rfl r
    obtain ⟨_, n11, v1, h1, -, ln11, rc, r⟩ := rn_call (m2 := 154) (as := [.int a2, .int 0, .int 4]) (rest := []) rfl rfl r
    obtain ⟨rfl, rfl⟩ := dn_154 rc
    have r : rn_s _ 189 (22, [some (.ref 540), some (.int a1), some (.int a2)], [.int (fn_154 a2 0 4)], aa_H g) v h := r
    refine rn_if (ir_s g v h) rfl decide_eq_true_iff.symm r (fun c13 l14n l14 r => ?_) (fun c13 l14n l14 r => ?_)
    · obtain ⟨n15, ln15, r⟩ := rn_steps 0 (44, [some (.ref 540), some (.int a1), some (.int a2)], [.int (-1)], aa_H g) rfl r
      exact rn_ire rfl r
    · obtain ⟨n16, ln16, r⟩ := rn_steps 8 (39, [some (.ref 540), some (.int a1), some (.int a2)], [.int ((203 + (7 * a1)) + a2), .ref 541], aa_H g) rfl r
      obtain ⟨hb18, n17, ln17, r⟩ := rn_ial (k := 541) rfl ⟨by decide, by decide⟩ rfl r
      have r : rn_s _ 189 (40, [some (.ref 540), some (.int a1), some (.int a2)], [.int (g 541 ((203 + (7 * a1)) + a2).toNatClampNeg)], aa_H g) v h := r
      obtain ⟨n19, ln19, r⟩ := rn_steps 0 (44, [some (.ref 540), some (.int a1), some (.int a2)], [.int (g 541 ((203 + (7 * a1)) + a2).toNatClampNeg)], aa_H g) rfl r
      exact rn_ire rfl r
-- 163: UnequalHoursModel countPoints
noncomputable def fn_163_4b (g : aa_G) (b1 : Int32) (b2 : Int32) : (Int32 × Int32) ⊕ Int32 := if (g 541 (0 : Int32).toNatClampNeg) ≤ b2 then .inr b1 else .inl (b1 + (g 541 ((fn_164 b2) + 1).toNatClampNeg), b2 + 1)
noncomputable def fn_163_4 (g : aa_G) (b1 : Int32) (b2 : Int32) : Int32 := lp_f 0 (fun z : (Int32 × Int32) => fn_163_4b g z.1 z.2) (b1, b2)
theorem dn_163_4l {v : Option Value} {h : zz_H} {N : Nat} {g : aa_G}  {d : Int32} : ∀ (n : Nat), n ≤ N → ∀ (b1 : Int32) (b2 : Int32), rn_s n 163 (4, [some (.ref 540), some (.int b1), some (.int b2)], [], aa_H g) v h → (ir_s g v h) (lp_f d (fun z : (Int32 × Int32) => fn_163_4b g z.1 z.2) (b1, b2)) := by
  generalize hf : (fun z : (Int32 × Int32) => fn_163_4b g z.1 z.2) = f
  intro n
  induction n using Nat.strongRecOn with
  | _ n ih =>
    intro hN b1 b2  r
    refine lp_go ?_
    rw [← congrFun hf (b1, b2)]
    show lp_q (ir_s g v h) d f (fn_163_4b g b1 b2)
    unfold fn_163_4b
    obtain ⟨n2, ln2, r⟩ := rn_steps 3 (10, [some (.ref 540), some (.int b1), some (.int b2)], [.int 0, .ref 541, .int b2], aa_H g) rfl r
    obtain ⟨hb4, n3, ln3, r⟩ := rn_ial (k := 541) rfl ⟨by decide, by decide⟩ rfl r
    have r : rn_s _ 163 (11, [some (.ref 540), some (.int b1), some (.int b2)], [.int (g 541 (0 : Int32).toNatClampNeg), .int b2], aa_H g) v h := r
    refine rn_ic (lp_q (ir_s g v h) d f) rfl decide_eq_true_iff.symm r (fun c5 l6n l6 r => ?_) (fun c5 l6n l6 r => ?_)
    · obtain ⟨n7, ln7, r⟩ := rn_steps 0 (35, [some (.ref 540), some (.int b1), some (.int b2)], [.int b1], aa_H g) rfl r
      exact rn_ire rfl r
    · obtain ⟨n8, ln8, r⟩ := rn_steps 3 (20, [some (.ref 540), some (.int b1), some (.int b2)], [.int b2, .ref 541, .int b1], aa_H g) rfl r
      obtain ⟨_, n9, v1, h1, -, ln9, rc, r⟩ := rn_call (m2 := 164) (as := [.int b2]) (rest := [.ref 541, .int b1]) rfl rfl r
      obtain ⟨rfl, rfl⟩ := dn_164 rc
      have r : rn_s _ 163 (23, [some (.ref 540), some (.int b1), some (.int b2)], [.int (fn_164 b2), .ref 541, .int b1], aa_H g) v h := r
      obtain ⟨n11, ln11, r⟩ := rn_steps 1 (25, [some (.ref 540), some (.int b1), some (.int b2)], [.int ((fn_164 b2) + 1), .ref 541, .int b1], aa_H g) rfl r
      obtain ⟨hb13, n12, ln12, r⟩ := rn_ial (k := 541) rfl ⟨by decide, by decide⟩ rfl r
      have r : rn_s _ 163 (26, [some (.ref 540), some (.int b1), some (.int b2)], [.int (g 541 ((fn_164 b2) + 1).toNatClampNeg), .int b1], aa_H g) v h := r
      obtain ⟨n14, ln14, r⟩ := rn_steps 3 (4, [some (.ref 540), some (.int (b1 + (g 541 ((fn_164 b2) + 1).toNatClampNeg))), some (.int (b2 + 1))], [], aa_H g) rfl r
      exact ih _ (by omega) (by omega) (b1 + (g 541 ((fn_164 b2) + 1).toNatClampNeg)) (b2 + 1) r
theorem dn_163_4 {v : Option Value} {h : zz_H} {n : Nat} {g : aa_G} {b1 : Int32} {b2 : Int32}  (r : rn_s n 163 (4, [some (.ref 540), some (.int b1), some (.int b2)], [], aa_H g) v h) : (ir_s g v h) (fn_163_4 g b1 b2) := dn_163_4l  n (Nat.le_refl n) b1 b2 r
noncomputable def fn_163 (g : aa_G)  : Int32 := fn_163_4 g 0 0
theorem dn_163 {v : Option Value} {h : zz_H} {n : Nat} {g : aa_G}   (r : rn_s n 163 (0, zz_in [.ref 540] (zz_nl 163), [], aa_H g) v h) : ir_s g v h (fn_163 g) := by
  have r : rn_s n 163 (0, [some (.ref 540), none, none], [], aa_H g) v h := r
  unfold fn_163
  obtain ⟨n1, ln1, r⟩ := rn_steps 3 (4, [some (.ref 540), some (.int 0), some (.int 0)], [], aa_H g) rfl r
  exact dn_163_4 r
-- 252: UnequalHoursModel is
noncomputable def fn_252_56 (g : aa_G) (b1 : Int32) (b3 : Int32) (b4 : Int32) (s0 : Int32) (s1 : Int32) : (Int32 × Int32) ⊕ ((Int32 × Int32) ⊕ Int32) := .inl (s1 + s0, b4 + 1)
theorem dn_252_56 {v : Option Value} {h : zz_H} {n : Nat} {g : aa_G} {b1 : Int32} {b3 : Int32} {b4 : Int32} {s0 : Int32} {s1 : Int32} (P : (Int32 × Int32) ⊕ ((Int32 × Int32) ⊕ Int32) → Prop) (hO0 : ∀ n2, n2 < n → ∀ (yb2 : Int32) (yb3 : Int32) (yx4 : Option Value) (_ : rn_jk yx4), rn_s n2 252 (4, [some (.ref 540), some (.int b1), some (.int yb2), some (.int yb3), yx4], [], aa_H g) v h → P (.inr (.inl (yb2, yb3)))) (hO1 : ∀ n2, n2 < n → ∀ (yb2 : Int32) (yb4 : Int32), rn_s n2 252 (17, [some (.ref 540), some (.int b1), some (.int yb2), some (.int b3), some (.int yb4)], [], aa_H g) v h → P (.inl (yb2, yb4))) (hR : ∀ E, ir_s g v h E → P (.inr (.inr E)))  (x2 : Option Value) (jx2 : rn_jk x2) (r : rn_s n 252 (56, [some (.ref 540), some (.int b1), x2, some (.int b3), some (.int b4)], [.int s0, .int s1], aa_H g) v h) : P (fn_252_56 g b1 b3 b4 s0 s1) := by
  unfold fn_252_56
  obtain ⟨n53, ln53, r⟩ := rn_steps 3 (17, [some (.ref 540), some (.int b1), some (.int (s1 + s0)), some (.int b3), some (.int (b4 + 1))], [], aa_H g) rfl r
  exact hO1 _ (by omega) (s1 + s0) (b4 + 1) r
noncomputable def fn_252_17b (g : aa_G) (b1 : Int32) (b2 : Int32) (b3 : Int32) (b4 : Int32) : (Int32 × Int32) ⊕ ((Int32 × Int32) ⊕ Int32) := if (g 541 ((fn_164 b3) + 1).toNatClampNeg) ≤ b4 then .inr (.inl (b2, b3 + 1)) else if (g 541 ((fn_175 b3 b4) + 3).toNatClampNeg) = (-1) then fn_252_56 g b1 b3 b4 0 b2 else fn_252_56 g b1 b3 b4 1 b2
noncomputable def fn_252_17 (g : aa_G) (b1 : Int32) (b2 : Int32) (b3 : Int32) (b4 : Int32) : (Int32 × Int32) ⊕ Int32 := lp_f (.inr 0) (fun z : (Int32 × Int32) => fn_252_17b g b1 z.1 b3 z.2) (b2, b4)
theorem dn_252_17l {v : Option Value} {h : zz_H} {N : Nat} {g : aa_G} {b1 : Int32} {b3 : Int32} (P : (Int32 × Int32) ⊕ Int32 → Prop) (hO0 : ∀ n2, n2 < N → ∀ (yb2 : Int32) (yb3 : Int32) (yx4 : Option Value) (_ : rn_jk yx4), rn_s n2 252 (4, [some (.ref 540), some (.int b1), some (.int yb2), some (.int yb3), yx4], [], aa_H g) v h → P (.inl (yb2, yb3))) (hR : ∀ E, ir_s g v h E → P (.inr E)) {d : (Int32 × Int32) ⊕ Int32} : ∀ (n : Nat), n ≤ N → ∀ (b2 : Int32) (b4 : Int32), rn_s n 252 (17, [some (.ref 540), some (.int b1), some (.int b2), some (.int b3), some (.int b4)], [], aa_H g) v h → P (lp_f d (fun z : (Int32 × Int32) => fn_252_17b g b1 z.1 b3 z.2) (b2, b4)) := by
  generalize hf : (fun z : (Int32 × Int32) => fn_252_17b g b1 z.1 b3 z.2) = f
  intro n
  induction n using Nat.strongRecOn with
  | _ n ih =>
    intro hN b2 b4  r
    refine lp_go ?_
    rw [← congrFun hf (b2, b4)]
    show lp_q P d f (fn_252_17b g b1 b2 b3 b4)
    unfold fn_252_17b
    obtain ⟨n33, ln33, r⟩ := rn_steps 3 (24, [some (.ref 540), some (.int b1), some (.int b2), some (.int b3), some (.int b4)], [.int b3, .ref 541, .int b4], aa_H g) rfl r
    obtain ⟨_, n34, v1, h1, -, ln34, rc, r⟩ := rn_call (m2 := 164) (as := [.int b3]) (rest := [.ref 541, .int b4]) rfl rfl r
    obtain ⟨rfl, rfl⟩ := dn_164 rc
    have r : rn_s _ 252 (27, [some (.ref 540), some (.int b1), some (.int b2), some (.int b3), some (.int b4)], [.int (fn_164 b3), .ref 541, .int b4], aa_H g) v h := r
    obtain ⟨n36, ln36, r⟩ := rn_steps 1 (29, [some (.ref 540), some (.int b1), some (.int b2), some (.int b3), some (.int b4)], [.int ((fn_164 b3) + 1), .ref 541, .int b4], aa_H g) rfl r
    obtain ⟨hb38, n37, ln37, r⟩ := rn_ial (k := 541) rfl ⟨by decide, by decide⟩ rfl r
    have r : rn_s _ 252 (30, [some (.ref 540), some (.int b1), some (.int b2), some (.int b3), some (.int b4)], [.int (g 541 ((fn_164 b3) + 1).toNatClampNeg), .int b4], aa_H g) v h := r
    refine rn_ic (lp_q P d f) rfl decide_eq_true_iff.symm r (fun c39 l40n l40 r => ?_) (fun c39 l40n l40 r => ?_)
    · obtain ⟨n41, ln41, r⟩ := rn_steps 1 (4, [some (.ref 540), some (.int b1), some (.int b2), some (.int (b3 + 1)), some (.int b4)], [], aa_H g) rfl r
      exact hO0 _ (by omega) b2 (b3 + 1) (some (.int b4)) rn_ji r
    · obtain ⟨n42, ln42, r⟩ := rn_steps 4 (41, [some (.ref 540), some (.int b1), some (.int b2), some (.int b3), some (.int b4)], [.int b4, .int b3, .ref 541, .int b2], aa_H g) rfl r
      obtain ⟨_, n43, v1, h1, -, ln43, rc, r⟩ := rn_call (m2 := 175) (as := [.int b3, .int b4]) (rest := [.ref 541, .int b2]) rfl rfl r
      obtain ⟨rfl, rfl⟩ := dn_175 rc
      have r : rn_s _ 252 (44, [some (.ref 540), some (.int b1), some (.int b2), some (.int b3), some (.int b4)], [.int (fn_175 b3 b4), .ref 541, .int b2], aa_H g) v h := r
      obtain ⟨n45, ln45, r⟩ := rn_steps 1 (46, [some (.ref 540), some (.int b1), some (.int b2), some (.int b3), some (.int b4)], [.int ((fn_175 b3 b4) + 3), .ref 541, .int b2], aa_H g) rfl r
      obtain ⟨hb47, n46, ln46, r⟩ := rn_ial (k := 541) rfl ⟨by decide, by decide⟩ rfl r
      have r : rn_s _ 252 (47, [some (.ref 540), some (.int b1), some (.int b2), some (.int b3), some (.int b4)], [.int (g 541 ((fn_175 b3 b4) + 3).toNatClampNeg), .int b2], aa_H g) v h := r
      obtain ⟨n48, ln48, r⟩ := rn_steps 0 (48, [some (.ref 540), some (.int b1), some (.int b2), some (.int b3), some (.int b4)], [.int (-1), .int (g 541 ((fn_175 b3 b4) + 3).toNatClampNeg), .int b2], aa_H g) rfl r
      refine rn_ic (lp_q P d f) rfl decide_eq_true_iff.symm r (fun c49 l50n l50 r => ?_) (fun c49 l50n l50 r => ?_)
      · obtain ⟨n51, ln51, r⟩ := rn_steps 0 (56, [some (.ref 540), some (.int b1), some (.int b2), some (.int b3), some (.int b4)], [.int 0, .int b2], aa_H g) rfl r
        exact dn_252_56 (lp_q P d f) (fun n2 l2 => hO0 n2 (by omega)) (fun n2 l2 => ih n2 (by omega) (by omega)) (fun z hz => hR _ hz) (some (.int b2)) rn_ji r
      · obtain ⟨n52, ln52, r⟩ := rn_steps 1 (56, [some (.ref 540), some (.int b1), some (.int b2), some (.int b3), some (.int b4)], [.int 1, .int b2], aa_H g) rfl r
        exact dn_252_56 (lp_q P d f) (fun n2 l2 => hO0 n2 (by omega)) (fun n2 l2 => ih n2 (by omega) (by omega)) (fun z hz => hR _ hz) (some (.int b2)) rn_ji r
theorem dn_252_17 {v : Option Value} {h : zz_H} {n : Nat} {g : aa_G} {b1 : Int32} {b2 : Int32} {b3 : Int32} {b4 : Int32} (P : (Int32 × Int32) ⊕ Int32 → Prop) (hO0 : ∀ n2, n2 < n → ∀ (yb2 : Int32) (yb3 : Int32) (yx4 : Option Value) (_ : rn_jk yx4), rn_s n2 252 (4, [some (.ref 540), some (.int b1), some (.int yb2), some (.int yb3), yx4], [], aa_H g) v h → P (.inl (yb2, yb3))) (hR : ∀ E, ir_s g v h E → P (.inr E))  (r : rn_s n 252 (17, [some (.ref 540), some (.int b1), some (.int b2), some (.int b3), some (.int b4)], [], aa_H g) v h) : P (fn_252_17 g b1 b2 b3 b4) := dn_252_17l P hO0 hR n (Nat.le_refl n) b2 b4 r
noncomputable def fn_252_4b (g : aa_G) (b1 : Int32) (b2 : Int32) (b3 : Int32) : (Int32 × Int32) ⊕ Int32 := if (g 541 (0 : Int32).toNatClampNeg) ≤ b3 then if b1.toInt = 0 then .inr (g 541 b1.toNatClampNeg) else if b1.toInt = 1 then .inr (g 541 b1.toNatClampNeg) else if b1.toInt = 2 then .inr (g 541 b1.toNatClampNeg) else if b1.toInt = 3 then .inr (g 540 1) else if b1.toInt = 4 then .inr (g 540 4) else if b1.toInt = 5 then .inr (fn_163 g) else if b1.toInt = 6 then .inr b2 else .inr (-1) else fn_252_17 g b1 b2 b3 0
noncomputable def fn_252_4 (g : aa_G) (b1 : Int32) (b2 : Int32) (b3 : Int32) : Int32 := lp_f 0 (fun z : (Int32 × Int32) => fn_252_4b g b1 z.1 z.2) (b2, b3)
theorem dn_252_4l {v : Option Value} {h : zz_H} {N : Nat} {g : aa_G} {b1 : Int32} {d : Int32} : ∀ (n : Nat), n ≤ N → ∀ (b2 : Int32) (b3 : Int32) (x4 : Option Value) (jx4 : rn_jk x4), rn_s n 252 (4, [some (.ref 540), some (.int b1), some (.int b2), some (.int b3), x4], [], aa_H g) v h → (ir_s g v h) (lp_f d (fun z : (Int32 × Int32) => fn_252_4b g b1 z.1 z.2) (b2, b3)) := by
  generalize hf : (fun z : (Int32 × Int32) => fn_252_4b g b1 z.1 z.2) = f
  intro n
  induction n using Nat.strongRecOn with
  | _ n ih =>
    intro hN b2 b3 x4 jx4 r
    refine lp_go ?_
    rw [← congrFun hf (b2, b3)]
    show lp_q (ir_s g v h) d f (fn_252_4b g b1 b2 b3)
    unfold fn_252_4b
    obtain ⟨n2, ln2, r⟩ := rn_steps 3 (10, [some (.ref 540), some (.int b1), some (.int b2), some (.int b3), x4], [.int 0, .ref 541, .int b3], aa_H g) rfl r
    obtain ⟨hb4, n3, ln3, r⟩ := rn_ial (k := 541) rfl ⟨by decide, by decide⟩ rfl r
    have r : rn_s _ 252 (11, [some (.ref 540), some (.int b1), some (.int b2), some (.int b3), x4], [.int (g 541 (0 : Int32).toNatClampNeg), .int b3], aa_H g) v h := r
    refine rn_ic (lp_q (ir_s g v h) d f) rfl decide_eq_true_iff.symm r (fun c5 l6n l6 r => ?_) (fun c5 l6n l6 r => ?_)
    · obtain ⟨n7, ln7, r⟩ := rn_steps 0 (71, [some (.ref 540), some (.int b1), some (.int b2), some (.int b3), x4], [.int b1], aa_H g) rfl r
      obtain ⟨n8, ln8, r⟩ := rn_swi rfl r
      refine rn_sw1 (lp_q (ir_s g v h) d f) r (fun c9 r => ?_) (fun c9 r => ?_)
      · have r : rn_s _ 252 (112, [some (.ref 540), some (.int b1), some (.int b2), some (.int b3), x4], [], aa_H g) v h := r
        obtain ⟨n10, ln10, r⟩ := rn_steps 2 (117, [some (.ref 540), some (.int b1), some (.int b2), some (.int b3), x4], [.int b1, .ref 541], aa_H g) rfl r
        obtain ⟨hb12, n11, ln11, r⟩ := rn_ial (k := 541) rfl ⟨by decide, by decide⟩ rfl r
        have r : rn_s _ 252 (118, [some (.ref 540), some (.int b1), some (.int b2), some (.int b3), x4], [.int (g 541 b1.toNatClampNeg)], aa_H g) v h := r
        exact rn_ire rfl r
      · refine rn_sw1 (lp_q (ir_s g v h) d f) r (fun c13 r => ?_) (fun c13 r => ?_)
        · have r : rn_s _ 252 (112, [some (.ref 540), some (.int b1), some (.int b2), some (.int b3), x4], [], aa_H g) v h := r
          obtain ⟨n14, ln14, r⟩ := rn_steps 2 (117, [some (.ref 540), some (.int b1), some (.int b2), some (.int b3), x4], [.int b1, .ref 541], aa_H g) rfl r
          obtain ⟨hb16, n15, ln15, r⟩ := rn_ial (k := 541) rfl ⟨by decide, by decide⟩ rfl r
          have r : rn_s _ 252 (118, [some (.ref 540), some (.int b1), some (.int b2), some (.int b3), x4], [.int (g 541 b1.toNatClampNeg)], aa_H g) v h := r
          exact rn_ire rfl r
        · refine rn_sw1 (lp_q (ir_s g v h) d f) r (fun c17 r => ?_) (fun c17 r => ?_)
          · have r : rn_s _ 252 (112, [some (.ref 540), some (.int b1), some (.int b2), some (.int b3), x4], [], aa_H g) v h := r
            obtain ⟨n18, ln18, r⟩ := rn_steps 2 (117, [some (.ref 540), some (.int b1), some (.int b2), some (.int b3), x4], [.int b1, .ref 541], aa_H g) rfl r
            obtain ⟨hb20, n19, ln19, r⟩ := rn_ial (k := 541) rfl ⟨by decide, by decide⟩ rfl r
            have r : rn_s _ 252 (118, [some (.ref 540), some (.int b1), some (.int b2), some (.int b3), x4], [.int (g 541 b1.toNatClampNeg)], aa_H g) v h := r
            exact rn_ire rfl r
          · refine rn_sw1 (lp_q (ir_s g v h) d f) r (fun c21 r => ?_) (fun c21 r => ?_)
            · have r : rn_s _ 252 (119, [some (.ref 540), some (.int b1), some (.int b2), some (.int b3), x4], [], aa_H g) v h := r
              obtain ⟨n22, ln22, r⟩ := rn_steps 1 (123, [some (.ref 540), some (.int b1), some (.int b2), some (.int b3), x4], [.int (g 540 1)], aa_H g) rfl r
              exact rn_ire rfl r
            · refine rn_sw1 (lp_q (ir_s g v h) d f) r (fun c23 r => ?_) (fun c23 r => ?_)
              · have r : rn_s _ 252 (124, [some (.ref 540), some (.int b1), some (.int b2), some (.int b3), x4], [], aa_H g) v h := r
                obtain ⟨n24, ln24, r⟩ := rn_steps 1 (128, [some (.ref 540), some (.int b1), some (.int b2), some (.int b3), x4], [.int (g 540 4)], aa_H g) rfl r
                exact rn_ire rfl r
              · refine rn_sw1 (lp_q (ir_s g v h) d f) r (fun c25 r => ?_) (fun c25 r => ?_)
                · have r : rn_s _ 252 (129, [some (.ref 540), some (.int b1), some (.int b2), some (.int b3), x4], [], aa_H g) v h := r
                  obtain ⟨n26, ln26, r⟩ := rn_steps 0 (130, [some (.ref 540), some (.int b1), some (.int b2), some (.int b3), x4], [.ref 540], aa_H g) rfl r
                  obtain ⟨_, n27, v1, h1, -, ln27, rc, r⟩ := rn_call (m2 := 163) (as := [.ref 540]) (rest := []) rfl rfl r
                  obtain ⟨rfl, rfl⟩ := dn_163 rc
                  have r : rn_s _ 252 (133, [some (.ref 540), some (.int b1), some (.int b2), some (.int b3), x4], [.int (fn_163 g)], aa_H g) v h := r
                  exact rn_ire rfl r
                · refine rn_sw1 (lp_q (ir_s g v h) d f) r (fun c29 r => ?_) (fun c29 r => ?_)
                  · have r : rn_s _ 252 (134, [some (.ref 540), some (.int b1), some (.int b2), some (.int b3), x4], [], aa_H g) v h := r
                    obtain ⟨n30, ln30, r⟩ := rn_steps 0 (135, [some (.ref 540), some (.int b1), some (.int b2), some (.int b3), x4], [.int b2], aa_H g) rfl r
                    exact rn_ire rfl r
                  · have r : rn_s _ 252 (136, [some (.ref 540), some (.int b1), some (.int b2), some (.int b3), x4], [], aa_H g) v h := r
                    obtain ⟨n31, ln31, r⟩ := rn_steps 0 (137, [some (.ref 540), some (.int b1), some (.int b2), some (.int b3), x4], [.int (-1)], aa_H g) rfl r
                    exact rn_ire rfl r
    · obtain ⟨n32, ln32, r⟩ := rn_steps 1 (17, [some (.ref 540), some (.int b1), some (.int b2), some (.int b3), some (.int 0)], [], aa_H g) rfl r
      exact dn_252_17 (lp_q (ir_s g v h) d f) (fun n2 l2 => ih n2 (by omega) (by omega)) (fun z hz => hz) r
theorem dn_252_4 {v : Option Value} {h : zz_H} {n : Nat} {g : aa_G} {b1 : Int32} {b2 : Int32} {b3 : Int32}  (x4 : Option Value) (jx4 : rn_jk x4) (r : rn_s n 252 (4, [some (.ref 540), some (.int b1), some (.int b2), some (.int b3), x4], [], aa_H g) v h) : (ir_s g v h) (fn_252_4 g b1 b2 b3) := dn_252_4l  n (Nat.le_refl n) b2 b3 x4 jx4 r
noncomputable def fn_252 (g : aa_G) (a1 : Int32) : Int32 := fn_252_4 g a1 0 0
theorem dn_252 {v : Option Value} {h : zz_H} {n : Nat} {g : aa_G} {a1 : Int32}  (r : rn_s n 252 (0, zz_in [.ref 540, .int a1] (zz_nl 252), [], aa_H g) v h) : ir_s g v h (fn_252 g a1) := by
  have r : rn_s n 252 (0, [some (.ref 540), some (.int a1), none, none, none], [], aa_H g) v h := r
  unfold fn_252
  obtain ⟨n1, ln1, r⟩ := rn_steps 3 (4, [some (.ref 540), some (.int a1), some (.int 0), some (.int 0), none], [], aa_H g) rfl r
  exact dn_252_4 none rn_jn r
-- 253: UnequalHoursModel town
noncomputable def fn_253 (g : aa_G) (a1 : Int32) (a2 : Int32) : Int32 := if (fn_192 g a1) ≠ 0 then if (fn_154 a2 0 1) = 0 then if (fn_154 a2 10 (9 + (4 * (g 541 ((fn_164 a1) + 1).toNatClampNeg)))) = 0 then -1000000 else g 541 ((((fn_164 a1) + 2) + a2) - 10).toNatClampNeg else g 541 ((fn_164 a1) + a2).toNatClampNeg else -1000000
theorem dn_253 {v : Option Value} {h : zz_H} {n : Nat} {g : aa_G} {a1 : Int32} {a2 : Int32}  (r : rn_s n 253 (0, zz_in [.ref 540, .int a1, .int a2] (zz_nl 253), [], aa_H g) v h) : ir_s g v h (fn_253 g a1 a2) := by
  have r : rn_s n 253 (0, [some (.ref 540), some (.int a1), some (.int a2), none], [], aa_H g) v h := r
  unfold fn_253
  obtain ⟨n1, ln1, r⟩ := rn_steps 1 (2, [some (.ref 540), some (.int a1), some (.int a2), none], [.int a1, .ref 540], aa_H g) rfl r
  obtain ⟨_, n2, v1, h1, -, ln2, rc, r⟩ := rn_call (m2 := 192) (as := [.ref 540, .int a1]) (rest := []) rfl rfl r
  obtain ⟨rfl, rfl⟩ := dn_192 rc
  have r : rn_s _ 253 (5, [some (.ref 540), some (.int a1), some (.int a2), none], [.int (fn_192 g a1)], aa_H g) v h := r
  refine rn_if (ir_s g v h) rfl decide_eq_true_iff.symm r (fun c4 l5n l5 r => ?_) (fun c4 l5n l5 r => ?_)
  · obtain ⟨n6, ln6, r⟩ := rn_steps 0 (13, [some (.ref 540), some (.int a1), some (.int a2), none], [.int a1], aa_H g) rfl r
    obtain ⟨_, n7, v1, h1, -, ln7, rc, r⟩ := rn_call (m2 := 164) (as := [.int a1]) (rest := []) rfl rfl r
    obtain ⟨rfl, rfl⟩ := dn_164 rc
    have r : rn_s _ 253 (16, [some (.ref 540), some (.int a1), some (.int a2), none], [.int (fn_164 a1)], aa_H g) v h := r
    obtain ⟨n9, ln9, r⟩ := rn_steps 3 (20, [some (.ref 540), some (.int a1), some (.int a2), some (.int (fn_164 a1))], [.int 1, .int 0, .int a2], aa_H g) rfl r
    obtain ⟨_, n10, v1, h1, -, ln10, rc, r⟩ := rn_call (m2 := 154) (as := [.int a2, .int 0, .int 1]) (rest := []) rfl rfl r
    obtain ⟨rfl, rfl⟩ := dn_154 rc
    have r : rn_s _ 253 (23, [some (.ref 540), some (.int a1), some (.int a2), some (.int (fn_164 a1))], [.int (fn_154 a2 0 1)], aa_H g) v h := r
    refine rn_if (ir_s g v h) rfl decide_eq_true_iff.symm r (fun c12 l13n l13 r => ?_) (fun c12 l13n l13 r => ?_)
    · obtain ⟨n14, ln14, r⟩ := rn_steps 8 (50, [some (.ref 540), some (.int a1), some (.int a2), some (.int (fn_164 a1))], [.int ((fn_164 a1) + 1), .ref 541, .int 4, .int 9, .int 10, .int a2], aa_H g) rfl r
      obtain ⟨hb16, n15, ln15, r⟩ := rn_ial (k := 541) rfl ⟨by decide, by decide⟩ rfl r
      have r : rn_s _ 253 (51, [some (.ref 540), some (.int a1), some (.int a2), some (.int (fn_164 a1))], [.int (g 541 ((fn_164 a1) + 1).toNatClampNeg), .int 4, .int 9, .int 10, .int a2], aa_H g) v h := r
      obtain ⟨n17, ln17, r⟩ := rn_steps 1 (53, [some (.ref 540), some (.int a1), some (.int a2), some (.int (fn_164 a1))], [.int (9 + (4 * (g 541 ((fn_164 a1) + 1).toNatClampNeg))), .int 10, .int a2], aa_H g) rfl r
      obtain ⟨_, n18, v1, h1, -, ln18, rc, r⟩ := rn_call (m2 := 154) (as := [.int a2, .int 10, .int (9 + (4 * (g 541 ((fn_164 a1) + 1).toNatClampNeg)))]) (rest := []) rfl rfl r
      obtain ⟨rfl, rfl⟩ := dn_154 rc
      have r : rn_s _ 253 (56, [some (.ref 540), some (.int a1), some (.int a2), some (.int (fn_164 a1))], [.int (fn_154 a2 10 (9 + (4 * (g 541 ((fn_164 a1) + 1).toNatClampNeg))))], aa_H g) v h := r
      refine rn_if (ir_s g v h) rfl decide_eq_true_iff.symm r (fun c20 l21n l21 r => ?_) (fun c20 l21n l21 r => ?_)
      · obtain ⟨n22, ln22, r⟩ := rn_steps 0 (78, [some (.ref 540), some (.int a1), some (.int a2), some (.int (fn_164 a1))], [.int (-1000000)], aa_H g) rfl r
        exact rn_ire rfl r
      · obtain ⟨n23, ln23, r⟩ := rn_steps 8 (71, [some (.ref 540), some (.int a1), some (.int a2), some (.int (fn_164 a1))], [.int ((((fn_164 a1) + 2) + a2) - 10), .ref 541], aa_H g) rfl r
        obtain ⟨hb25, n24, ln24, r⟩ := rn_ial (k := 541) rfl ⟨by decide, by decide⟩ rfl r
        have r : rn_s _ 253 (72, [some (.ref 540), some (.int a1), some (.int a2), some (.int (fn_164 a1))], [.int (g 541 ((((fn_164 a1) + 2) + a2) - 10).toNatClampNeg)], aa_H g) v h := r
        obtain ⟨n26, ln26, r⟩ := rn_steps 0 (78, [some (.ref 540), some (.int a1), some (.int a2), some (.int (fn_164 a1))], [.int (g 541 ((((fn_164 a1) + 2) + a2) - 10).toNatClampNeg)], aa_H g) rfl r
        exact rn_ire rfl r
    · obtain ⟨n27, ln27, r⟩ := rn_steps 4 (33, [some (.ref 540), some (.int a1), some (.int a2), some (.int (fn_164 a1))], [.int ((fn_164 a1) + a2), .ref 541], aa_H g) rfl r
      obtain ⟨hb29, n28, ln28, r⟩ := rn_ial (k := 541) rfl ⟨by decide, by decide⟩ rfl r
      have r : rn_s _ 253 (34, [some (.ref 540), some (.int a1), some (.int a2), some (.int (fn_164 a1))], [.int (g 541 ((fn_164 a1) + a2).toNatClampNeg)], aa_H g) v h := r
      obtain ⟨n30, ln30, r⟩ := rn_steps 0 (78, [some (.ref 540), some (.int a1), some (.int a2), some (.int (fn_164 a1))], [.int (g 541 ((fn_164 a1) + a2).toNatClampNeg)], aa_H g) rfl r
      exact rn_ire rfl r
  · obtain ⟨n31, ln31, r⟩ := rn_steps 0 (11, [some (.ref 540), some (.int a1), some (.int a2), none], [.int (-1000000)], aa_H g) rfl r
    exact rn_ire rfl r
