section
/-! METHODS READ (printed by wip/dc/dc.py) -/
-- 240: UnequalHoursModel shows
noncomputable def fn_240_106 (g : aa_G) (s0 : Int32) : Int32 × aa_G := (fn_201 g s0, g)
theorem dn_240_106 {v : Option Value} {h : zz_H} {n : Nat} {g : aa_G} {s0 : Int32}  (x0 x1 x2 x3 x4 x5 x6 : Option Value) (jx0 : rn_jk x0) (jx1 : rn_jk x1) (jx2 : rn_jk x2) (jx3 : rn_jk x3) (jx4 : rn_jk x4) (jx5 : rn_jk x5) (jx6 : rn_jk x6) (r : rn_s n 240 (106, [x0, x1, x2, x3, x4, x5, x6], [.int s0, .ref 540], aa_H g) v h) : iw_s v h (fn_240_106 g s0) := by
  unfold fn_240_106
  obtain ⟨_, n46, v1, h1, -, ln46, rc, r⟩ := rn_call (m2 := 201) (as := [.ref 540, .int s0]) (rest := []) rfl rfl r
  obtain ⟨rfl, rfl⟩ := dn_201 rc
  have r : rn_s _ 240 (109, [x0, x1, x2, x3, x4, x5, x6], [.int (fn_201 g s0)], aa_H g) v h := r
  obtain ⟨n48, ln48, r⟩ := rn_steps 0 (114, [x0, x1, x2, x3, x4, x5, x6], [.int (fn_201 g s0)], aa_H g) rfl r
  exact rn_ire rfl r
noncomputable def fn_240_90 (g : aa_G) (b5 : Int32) (s0 : Int32) : Int32 × aa_G := if s0 = 0 then (-2, g) else if b5 ≠ 2 then fn_240_106 g b5 else fn_240_106 g 4
theorem dn_240_90 {v : Option Value} {h : zz_H} {n : Nat} {g : aa_G} {b5 : Int32} {s0 : Int32}  (x1 x2 x3 x4 x6 : Option Value) (jx1 : rn_jk x1) (jx2 : rn_jk x2) (jx3 : rn_jk x3) (jx4 : rn_jk x4) (jx6 : rn_jk x6) (r : rn_s n 240 (90, [some (.ref 540), x1, x2, x3, x4, some (.int b5), x6], [.int s0], aa_H g) v h) : iw_s v h (fn_240_90 g b5 s0) := by
  unfold fn_240_90
  refine rn_if (iw_s v h) rfl decide_eq_true_iff.symm r (fun c38 l39n l39 r => ?_) (fun c38 l39n l39 r => ?_)
  · obtain ⟨n40, ln40, r⟩ := rn_steps 0 (114, [some (.ref 540), x1, x2, x3, x4, some (.int b5), x6], [.int (-2)], aa_H g) rfl r
    exact rn_ire rfl r
  · obtain ⟨n41, ln41, r⟩ := rn_steps 2 (97, [some (.ref 540), x1, x2, x3, x4, some (.int b5), x6], [.int 2, .int b5, .ref 540], aa_H g) rfl r
    refine rn_ic (iw_s v h) rfl decide_eq_true_iff.symm r (fun c42 l43n l43 r => ?_) (fun c42 l43n l43 r => ?_)
    · obtain ⟨n44, ln44, r⟩ := rn_steps 0 (106, [some (.ref 540), x1, x2, x3, x4, some (.int b5), x6], [.int b5, .ref 540], aa_H g) rfl r
      exact dn_240_106 (some (.ref 540)) x1 x2 x3 x4 (some (.int b5)) x6 rn_jr jx1 jx2 jx3 jx4 rn_ji jx6 r
    · obtain ⟨n45, ln45, r⟩ := rn_steps 1 (106, [some (.ref 540), x1, x2, x3, x4, some (.int b5), x6], [.int 4, .ref 540], aa_H g) rfl r
      exact dn_240_106 (some (.ref 540)) x1 x2 x3 x4 (some (.int b5)) x6 rn_jr jx1 jx2 jx3 jx4 rn_ji jx6 r
noncomputable def fn_240_75 (g : aa_G) (b1 : Int32) (b5 : Int32) : Int32 × aa_G := fn_240_90 ((fn_200 g (b1 - b1 / 4 * 4) (g 540 22) (g 540 23)).2) b5 ((fn_200 g (b1 - b1 / 4 * 4) (g 540 22) (g 540 23)).1)
theorem dn_240_75 {v : Option Value} {h : zz_H} {n : Nat} {g : aa_G} {b1 : Int32} {b5 : Int32}  (x2 x3 x4 x6 : Option Value) (jx2 : rn_jk x2) (jx3 : rn_jk x3) (jx4 : rn_jk x4) (jx6 : rn_jk x6) (r : rn_s n 240 (75, [some (.ref 540), some (.int b1), x2, x3, x4, some (.int b5), x6], [], aa_H g) v h) : iw_s v h (fn_240_75 g b1 b5) := by
  unfold fn_240_75
  obtain ⟨n35, ln35, r⟩ := rn_steps 7 (87, [some (.ref 540), some (.int b1), x2, x3, x4, some (.int b5), x6], [.int (g 540 23), .int (g 540 22), .int (b1 - b1 / 4 * 4), .ref 540], aa_H g) rfl r
  obtain ⟨_, n36, v1, h1, -, ln36, rc, r⟩ := rn_call (m2 := 200) (as := [.ref 540, .int (b1 - b1 / 4 * 4), .int (g 540 22), .int (g 540 23)]) (rest := []) rfl rfl r
  obtain ⟨rfl, rfl⟩ := dn_200 rc
  have r : rn_s _ 240 (90, [some (.ref 540), some (.int b1), x2, x3, x4, some (.int b5), x6], [.int ((fn_200 g (b1 - b1 / 4 * 4) (g 540 22) (g 540 23)).1)], aa_H ((fn_200 g (b1 - b1 / 4 * 4) (g 540 22) (g 540 23)).2)) v h := r
  exact dn_240_90 (some (.int b1)) x2 x3 x4 x6 rn_ji jx2 jx3 jx4 jx6 r
noncomputable def fn_240_48 (g : aa_G) (b1 : Int32) (b2 : Int32) (b5 : Int32) (s0 : Int32) : Int32 × aa_G := if s0 ≠ (-2) then fn_240_75 (fn_208 g (b1 / 4) b2.toInt64 s0.toInt64 (b1 - b1 / 4 * 4)) b1 b5 else (-2, g)
theorem dn_240_48 {v : Option Value} {h : zz_H} {n : Nat} {g : aa_G} {b1 : Int32} {b2 : Int32} {b5 : Int32} {s0 : Int32}  (x3 x4 x6 : Option Value) (jx3 : rn_jk x3) (jx4 : rn_jk x4) (jx6 : rn_jk x6) (r : rn_s n 240 (48, [some (.ref 540), some (.int b1), some (.int b2), x3, x4, some (.int b5), x6], [.int s0], aa_H g) v h) : iw_s v h (fn_240_48 g b1 b2 b5 s0) := by
  unfold fn_240_48
  obtain ⟨n28, ln28, r⟩ := rn_steps 2 (54, [some (.ref 540), some (.int b1), some (.int b2), x3, x4, some (.int b5), some (.int s0)], [.int (-2), .int s0], aa_H g) rfl r
  refine rn_ic (iw_s v h) rfl decide_eq_true_iff.symm r (fun c29 l30n l30 r => ?_) (fun c29 l30n l30 r => ?_)
  · obtain ⟨n31, ln31, r⟩ := rn_steps 10 (72, [some (.ref 540), some (.int b1), some (.int b2), x3, x4, some (.int b5), some (.int s0)], [.int (b1 - b1 / 4 * 4), .long s0.toInt64, .long b2.toInt64, .int (b1 / 4), .ref 540], aa_H g) rfl r
    obtain ⟨_, n32, v1, h1, -, ln32, rc, r⟩ := rn_call (m2 := 208) (as := [.ref 540, .int (b1 / 4), .long b2.toInt64, .long s0.toInt64, .int (b1 - b1 / 4 * 4)]) (rest := []) rfl rfl r
    obtain ⟨rfl, rfl⟩ := dn_208 rc
    have r : rn_s _ 240 (75, [some (.ref 540), some (.int b1), some (.int b2), x3, x4, some (.int b5), some (.int s0)], [], aa_H (fn_208 g (b1 / 4) b2.toInt64 s0.toInt64 (b1 - b1 / 4 * 4))) v h := r
    exact dn_240_75 (some (.int b2)) x3 x4 (some (.int s0)) rn_ji jx3 jx4 rn_ji r
  · obtain ⟨n34, ln34, r⟩ := rn_steps 0 (59, [some (.ref 540), some (.int b1), some (.int b2), x3, x4, some (.int b5), some (.int s0)], [.int (-2)], aa_H g) rfl r
    exact rn_ire rfl r
noncomputable def fn_240 (g : aa_G) (a1 : Int32) (a2 : Int32) (a3 : Int32) (a4 : Int32) (a5 : Int32) : Int32 × aa_G := if (fn_239 g a1) = 0 then (-1, g) else if (fn_193 a2) = 0 then (-1, g) else if (fn_204 g a3 a4) = 0 then (-1, g) else if (fn_154 a5 0 2) ≠ 0 then fn_240_48 ((fn_205 g (a1 / 4) a2 a3 a4).2) a1 a2 a5 ((fn_205 g (a1 / 4) a2 a3 a4).1) else (-1, g)
theorem dn_240 {v : Option Value} {h : zz_H} {n : Nat} {g : aa_G} {a1 : Int32} {a2 : Int32} {a3 : Int32} {a4 : Int32} {a5 : Int32}  (r : rn_s n 240 (0, zz_in [.ref 540, .int a1, .int a2, .int a3, .int a4, .int a5] (zz_nl 240), [], aa_H g) v h) : iw_s v h (fn_240 g a1 a2 a3 a4 a5) := by
  have r : rn_s n 240 (0, [some (.ref 540), some (.int a1), some (.int a2), some (.int a3), some (.int a4), some (.int a5), none], [], aa_H g) v h := r
  unfold fn_240
  obtain ⟨n1, ln1, r⟩ := rn_steps 1 (2, [some (.ref 540), some (.int a1), some (.int a2), some (.int a3), some (.int a4), some (.int a5), none], [.int a1, .ref 540], aa_H g) rfl r
  obtain ⟨_, n2, v1, h1, -, ln2, rc, r⟩ := rn_call (m2 := 239) (as := [.ref 540, .int a1]) (rest := []) rfl rfl r
  obtain ⟨rfl, rfl⟩ := dn_239 rc
  have r : rn_s _ 240 (5, [some (.ref 540), some (.int a1), some (.int a2), some (.int a3), some (.int a4), some (.int a5), none], [.int (fn_239 g a1)], aa_H g) v h := r
  refine rn_if (iw_s v h) rfl decide_eq_true_iff.symm r (fun c4 l5n l5 r => ?_) (fun c4 l5n l5 r => ?_)
  · obtain ⟨n6, ln6, r⟩ := rn_steps 0 (36, [some (.ref 540), some (.int a1), some (.int a2), some (.int a3), some (.int a4), some (.int a5), none], [.int (-1)], aa_H g) rfl r
    exact rn_ire rfl r
  · obtain ⟨n7, ln7, r⟩ := rn_steps 0 (9, [some (.ref 540), some (.int a1), some (.int a2), some (.int a3), some (.int a4), some (.int a5), none], [.int a2], aa_H g) rfl r
    obtain ⟨_, n8, v1, h1, -, ln8, rc, r⟩ := rn_call (m2 := 193) (as := [.int a2]) (rest := []) rfl rfl r
    obtain ⟨rfl, rfl⟩ := dn_193 rc
    have r : rn_s _ 240 (12, [some (.ref 540), some (.int a1), some (.int a2), some (.int a3), some (.int a4), some (.int a5), none], [.int (fn_193 a2)], aa_H g) v h := r
    refine rn_if (iw_s v h) rfl decide_eq_true_iff.symm r (fun c10 l11n l11 r => ?_) (fun c10 l11n l11 r => ?_)
    · obtain ⟨n12, ln12, r⟩ := rn_steps 0 (36, [some (.ref 540), some (.int a1), some (.int a2), some (.int a3), some (.int a4), some (.int a5), none], [.int (-1)], aa_H g) rfl r
      exact rn_ire rfl r
    · obtain ⟨n13, ln13, r⟩ := rn_steps 2 (19, [some (.ref 540), some (.int a1), some (.int a2), some (.int a3), some (.int a4), some (.int a5), none], [.int a4, .int a3, .ref 540], aa_H g) rfl r
      obtain ⟨_, n14, v1, h1, -, ln14, rc, r⟩ := rn_call (m2 := 204) (as := [.ref 540, .int a3, .int a4]) (rest := []) rfl rfl r
      obtain ⟨rfl, rfl⟩ := dn_204 rc
      have r : rn_s _ 240 (22, [some (.ref 540), some (.int a1), some (.int a2), some (.int a3), some (.int a4), some (.int a5), none], [.int (fn_204 g a3 a4)], aa_H g) v h := r
      refine rn_if (iw_s v h) rfl decide_eq_true_iff.symm r (fun c16 l17n l17 r => ?_) (fun c16 l17n l17 r => ?_)
      · obtain ⟨n18, ln18, r⟩ := rn_steps 0 (36, [some (.ref 540), some (.int a1), some (.int a2), some (.int a3), some (.int a4), some (.int a5), none], [.int (-1)], aa_H g) rfl r
        exact rn_ire rfl r
      · obtain ⟨n19, ln19, r⟩ := rn_steps 2 (29, [some (.ref 540), some (.int a1), some (.int a2), some (.int a3), some (.int a4), some (.int a5), none], [.int 2, .int 0, .int a5], aa_H g) rfl r
        obtain ⟨_, n20, v1, h1, -, ln20, rc, r⟩ := rn_call (m2 := 154) (as := [.int a5, .int 0, .int 2]) (rest := []) rfl rfl r
        obtain ⟨rfl, rfl⟩ := dn_154 rc
        have r : rn_s _ 240 (32, [some (.ref 540), some (.int a1), some (.int a2), some (.int a3), some (.int a4), some (.int a5), none], [.int (fn_154 a5 0 2)], aa_H g) v h := r
        refine rn_if (iw_s v h) rfl decide_eq_true_iff.symm r (fun c22 l23n l23 r => ?_) (fun c22 l23n l23 r => ?_)
        · obtain ⟨n24, ln24, r⟩ := rn_steps 6 (45, [some (.ref 540), some (.int a1), some (.int a2), some (.int a3), some (.int a4), some (.int a5), none], [.int a4, .int a3, .int a2, .int (a1 / 4), .ref 540], aa_H g) rfl r
          obtain ⟨_, n25, v1, h1, -, ln25, rc, r⟩ := rn_call (m2 := 205) (as := [.ref 540, .int (a1 / 4), .int a2, .int a3, .int a4]) (rest := []) rfl rfl r
          obtain ⟨rfl, rfl⟩ := dn_205 rc
          have r : rn_s _ 240 (48, [some (.ref 540), some (.int a1), some (.int a2), some (.int a3), some (.int a4), some (.int a5), none], [.int ((fn_205 g (a1 / 4) a2 a3 a4).1)], aa_H ((fn_205 g (a1 / 4) a2 a3 a4).2)) v h := r
          exact dn_240_48 (some (.int a3)) (some (.int a4)) none rn_ji rn_ji rn_jn r
        · obtain ⟨n27, ln27, r⟩ := rn_steps 0 (36, [some (.ref 540), some (.int a1), some (.int a2), some (.int a3), some (.int a4), some (.int a5), none], [.int (-1)], aa_H g) rfl r
          exact rn_ire rfl r
-- 241: UnequalHoursModel exact
noncomputable def fn_241_53b (g : aa_G) (b4 : Int32) (b5 : Int32) (b6 : Int32) : (Int32 × Int32) ⊕ (Int32 × aa_G) := if b6 = 0 then if b4 ≠ 0 then .inr (12 / b5, g) else .inr ((g 540 18) / b5, g) else .inl (b6, b5 - b5 / b6 * b6)
noncomputable def fn_241_53 (g : aa_G) (b4 : Int32) (b5 : Int32) (b6 : Int32) : Int32 × aa_G := lp_f (0, g) (fun z : (Int32 × Int32) => fn_241_53b g b4 z.1 z.2) (b5, b6)
theorem dn_241_53l {v : Option Value} {h : zz_H} {N : Nat} {g : aa_G} {b4 : Int32} {d : Int32 × aa_G} : ∀ (n : Nat), n ≤ N → ∀ (b5 : Int32) (b6 : Int32) (x1 x2 x3 x7 : Option Value) (jx1 : rn_jk x1) (jx2 : rn_jk x2) (jx3 : rn_jk x3) (jx7 : rn_jk x7), rn_s n 241 (53, [some (.ref 540), x1, x2, x3, some (.int b4), some (.int b5), some (.int b6), x7], [], aa_H g) v h → (iw_s v h) (lp_f d (fun z : (Int32 × Int32) => fn_241_53b g b4 z.1 z.2) (b5, b6)) := by
  generalize hf : (fun z : (Int32 × Int32) => fn_241_53b g b4 z.1 z.2) = f
  intro n
  induction n using Nat.strongRecOn with
  | _ n ih =>
    intro hN b5 b6 x1 x2 x3 x7 jx1 jx2 jx3 jx7 r
    refine lp_go ?_
    rw [← congrFun hf (b5, b6)]
    show lp_q (iw_s v h) d f (fn_241_53b g b4 b5 b6)
    unfold fn_241_53b
    obtain ⟨n26, ln26, r⟩ := rn_steps 0 (55, [some (.ref 540), x1, x2, x3, some (.int b4), some (.int b5), some (.int b6), x7], [.int b6], aa_H g) rfl r
    refine rn_if (lp_q (iw_s v h) d f) rfl decide_eq_true_iff.symm r (fun c27 l28n l28 r => ?_) (fun c27 l28n l28 r => ?_)
    · obtain ⟨n29, ln29, r⟩ := rn_steps 0 (78, [some (.ref 540), x1, x2, x3, some (.int b4), some (.int b5), some (.int b6), x7], [.int b4], aa_H g) rfl r
      refine rn_if (lp_q (iw_s v h) d f) rfl decide_eq_true_iff.symm r (fun c30 l31n l31 r => ?_) (fun c30 l31n l31 r => ?_)
      · obtain ⟨n32, ln32, r⟩ := rn_steps 1 (92, [some (.ref 540), x1, x2, x3, some (.int b4), some (.int b5), some (.int b6), x7], [.int b5, .int 12], aa_H g) rfl r
        obtain ⟨hd34, n33, ln33, r⟩ := rn_div rfl r
        have r : rn_s _ 241 (93, [some (.ref 540), x1, x2, x3, some (.int b4), some (.int b5), some (.int b6), x7], [.int (12 / b5)], aa_H g) v h := r
        exact rn_ire rfl r
      · obtain ⟨n35, ln35, r⟩ := rn_steps 3 (92, [some (.ref 540), x1, x2, x3, some (.int b4), some (.int b5), some (.int b6), x7], [.int b5, .int (g 540 18)], aa_H g) rfl r
        obtain ⟨hd37, n36, ln36, r⟩ := rn_div rfl r
        have r : rn_s _ 241 (93, [some (.ref 540), x1, x2, x3, some (.int b4), some (.int b5), some (.int b6), x7], [.int ((g 540 18) / b5)], aa_H g) v h := r
        exact rn_ire rfl r
    · obtain ⟨n38, ln38, r⟩ := rn_steps 1 (62, [some (.ref 540), x1, x2, x3, some (.int b4), some (.int b5), some (.int b6), x7], [.int b6, .int b5], aa_H g) rfl r
      obtain ⟨hd40, n39, ln39, r⟩ := rn_rem rfl r
      have r : rn_s _ 241 (63, [some (.ref 540), x1, x2, x3, some (.int b4), some (.int b5), some (.int b6), x7], [.int (b5 - b5 / b6 * b6)], aa_H g) v h := r
      obtain ⟨n41, ln41, r⟩ := rn_steps 5 (53, [some (.ref 540), x1, x2, x3, some (.int b4), some (.int b6), some (.int (b5 - b5 / b6 * b6)), some (.int (b5 - b5 / b6 * b6))], [], aa_H g) rfl r
      exact ih _ (by omega) (by omega) b6 (b5 - b5 / b6 * b6) x1 x2 x3 (some (.int (b5 - b5 / b6 * b6))) jx1 jx2 jx3 rn_ji r
theorem dn_241_53 {v : Option Value} {h : zz_H} {n : Nat} {g : aa_G} {b4 : Int32} {b5 : Int32} {b6 : Int32}  (x1 x2 x3 x7 : Option Value) (jx1 : rn_jk x1) (jx2 : rn_jk x2) (jx3 : rn_jk x3) (jx7 : rn_jk x7) (r : rn_s n 241 (53, [some (.ref 540), x1, x2, x3, some (.int b4), some (.int b5), some (.int b6), x7], [], aa_H g) v h) : (iw_s v h) (fn_241_53 g b4 b5 b6) := dn_241_53l  n (Nat.le_refl n) b5 b6 x1 x2 x3 x7 jx1 jx2 jx3 jx7 r
noncomputable def fn_241_37 (g : aa_G) (b4 : Int32) (s0 : Int32) : Int32 × aa_G := if s0 ≠ 0 then fn_241_53 g b4 (g 540 18) 12 else (-2, g)
theorem dn_241_37 {v : Option Value} {h : zz_H} {n : Nat} {g : aa_G} {b4 : Int32} {s0 : Int32}  (x1 x2 x3 x5 x6 x7 : Option Value) (jx1 : rn_jk x1) (jx2 : rn_jk x2) (jx3 : rn_jk x3) (jx5 : rn_jk x5) (jx6 : rn_jk x6) (jx7 : rn_jk x7) (r : rn_s n 241 (37, [some (.ref 540), x1, x2, x3, some (.int b4), x5, x6, x7], [.int s0], aa_H g) v h) : iw_s v h (fn_241_37 g b4 s0) := by
  unfold fn_241_37
  refine rn_if (iw_s v h) rfl decide_eq_true_iff.symm r (fun c22 l23n l23 r => ?_) (fun c22 l23n l23 r => ?_)
  · obtain ⟨n24, ln24, r⟩ := rn_steps 4 (53, [some (.ref 540), x1, x2, x3, some (.int b4), some (.int (g 540 18)), some (.int 12), x7], [], aa_H g) rfl r
    exact dn_241_53 x1 x2 x3 x7 jx1 jx2 jx3 jx7 r
  · obtain ⟨n25, ln25, r⟩ := rn_steps 0 (42, [some (.ref 540), x1, x2, x3, some (.int b4), x5, x6, x7], [.int (-2)], aa_H g) rfl r
    exact rn_ire rfl r
noncomputable def fn_241 (g : aa_G) (a1 : Int32) (a2 : Int32) (a3 : Int32) (a4 : Int32) : Int32 × aa_G := if (fn_191 g a1 a2) = 0 then (-1, g) else if (fn_154 a3 0 1) = 0 then (-1, g) else if (fn_154 a4 0 1) ≠ 0 then fn_241_37 ((fn_194 g a1 a2 a3).2) a4 ((fn_194 g a1 a2 a3).1) else (-1, g)
theorem dn_241 {v : Option Value} {h : zz_H} {n : Nat} {g : aa_G} {a1 : Int32} {a2 : Int32} {a3 : Int32} {a4 : Int32}  (r : rn_s n 241 (0, zz_in [.ref 540, .int a1, .int a2, .int a3, .int a4] (zz_nl 241), [], aa_H g) v h) : iw_s v h (fn_241 g a1 a2 a3 a4) := by
  have r : rn_s n 241 (0, [some (.ref 540), some (.int a1), some (.int a2), some (.int a3), some (.int a4), none, none, none], [], aa_H g) v h := r
  unfold fn_241
  obtain ⟨n1, ln1, r⟩ := rn_steps 2 (3, [some (.ref 540), some (.int a1), some (.int a2), some (.int a3), some (.int a4), none, none, none], [.int a2, .int a1, .ref 540], aa_H g) rfl r
  obtain ⟨_, n2, v1, h1, -, ln2, rc, r⟩ := rn_call (m2 := 191) (as := [.ref 540, .int a1, .int a2]) (rest := []) rfl rfl r
  obtain ⟨rfl, rfl⟩ := dn_191 rc
  have r : rn_s _ 241 (6, [some (.ref 540), some (.int a1), some (.int a2), some (.int a3), some (.int a4), none, none, none], [.int (fn_191 g a1 a2)], aa_H g) v h := r
  refine rn_if (iw_s v h) rfl decide_eq_true_iff.symm r (fun c4 l5n l5 r => ?_) (fun c4 l5n l5 r => ?_)
  · obtain ⟨n6, ln6, r⟩ := rn_steps 0 (29, [some (.ref 540), some (.int a1), some (.int a2), some (.int a3), some (.int a4), none, none, none], [.int (-1)], aa_H g) rfl r
    exact rn_ire rfl r
  · obtain ⟨n7, ln7, r⟩ := rn_steps 2 (12, [some (.ref 540), some (.int a1), some (.int a2), some (.int a3), some (.int a4), none, none, none], [.int 1, .int 0, .int a3], aa_H g) rfl r
    obtain ⟨_, n8, v1, h1, -, ln8, rc, r⟩ := rn_call (m2 := 154) (as := [.int a3, .int 0, .int 1]) (rest := []) rfl rfl r
    obtain ⟨rfl, rfl⟩ := dn_154 rc
    have r : rn_s _ 241 (15, [some (.ref 540), some (.int a1), some (.int a2), some (.int a3), some (.int a4), none, none, none], [.int (fn_154 a3 0 1)], aa_H g) v h := r
    refine rn_if (iw_s v h) rfl decide_eq_true_iff.symm r (fun c10 l11n l11 r => ?_) (fun c10 l11n l11 r => ?_)
    · obtain ⟨n12, ln12, r⟩ := rn_steps 0 (29, [some (.ref 540), some (.int a1), some (.int a2), some (.int a3), some (.int a4), none, none, none], [.int (-1)], aa_H g) rfl r
      exact rn_ire rfl r
    · obtain ⟨n13, ln13, r⟩ := rn_steps 2 (22, [some (.ref 540), some (.int a1), some (.int a2), some (.int a3), some (.int a4), none, none, none], [.int 1, .int 0, .int a4], aa_H g) rfl r
      obtain ⟨_, n14, v1, h1, -, ln14, rc, r⟩ := rn_call (m2 := 154) (as := [.int a4, .int 0, .int 1]) (rest := []) rfl rfl r
      obtain ⟨rfl, rfl⟩ := dn_154 rc
      have r : rn_s _ 241 (25, [some (.ref 540), some (.int a1), some (.int a2), some (.int a3), some (.int a4), none, none, none], [.int (fn_154 a4 0 1)], aa_H g) v h := r
      refine rn_if (iw_s v h) rfl decide_eq_true_iff.symm r (fun c16 l17n l17 r => ?_) (fun c16 l17n l17 r => ?_)
      · obtain ⟨n18, ln18, r⟩ := rn_steps 3 (34, [some (.ref 540), some (.int a1), some (.int a2), some (.int a3), some (.int a4), none, none, none], [.int a3, .int a2, .int a1, .ref 540], aa_H g) rfl r
        obtain ⟨_, n19, v1, h1, -, ln19, rc, r⟩ := rn_call (m2 := 194) (as := [.ref 540, .int a1, .int a2, .int a3]) (rest := []) rfl rfl r
        obtain ⟨rfl, rfl⟩ := dn_194 rc
        have r : rn_s _ 241 (37, [some (.ref 540), some (.int a1), some (.int a2), some (.int a3), some (.int a4), none, none, none], [.int ((fn_194 g a1 a2 a3).1)], aa_H ((fn_194 g a1 a2 a3).2)) v h := r
        exact dn_241_37 (some (.int a1)) (some (.int a2)) (some (.int a3)) none none none rn_ji rn_ji rn_ji rn_jn rn_jn rn_jn r
      · obtain ⟨n21, ln21, r⟩ := rn_steps 0 (29, [some (.ref 540), some (.int a1), some (.int a2), some (.int a3), some (.int a4), none, none, none], [.int (-1)], aa_H g) rfl r
        exact rn_ire rfl r
-- 242: UnequalHoursModel alike
noncomputable def fn_242_51 (g : aa_G) (b1 : Int32) (b3 : Int32) (b4 : Int32) (b5 : Int32) (s0 : Int32) : (aa_G × Int32) ⊕ (Int32 × aa_G) := if s0 ≠ b4 then .inl (g, b5 + 1) else .inr (b5, g)
theorem dn_242_51 {v : Option Value} {h : zz_H} {n : Nat} {g : aa_G} {b1 : Int32} {b3 : Int32} {b4 : Int32} {b5 : Int32} {s0 : Int32} (P : (aa_G × Int32) ⊕ (Int32 × aa_G) → Prop) (hO0 : ∀ n2, n2 < n → ∀ (yg : aa_G) (yb5 : Int32) (yx2 : Option Value) (_ : rn_jk yx2), rn_s n2 242 (29, [some (.ref 540), some (.int b1), yx2, some (.int b3), some (.int b4), some (.int yb5)], [], aa_H yg) v h → P (.inl (yg, yb5))) (hR : ∀ E, iw_s v h E → P (.inr E))  (x2 : Option Value) (jx2 : rn_jk x2) (r : rn_s n 242 (51, [some (.ref 540), some (.int b1), x2, some (.int b3), some (.int b4), some (.int b5)], [.int s0], aa_H g) v h) : P (fn_242_51 g b1 b3 b4 b5 s0) := by
  unfold fn_242_51
  obtain ⟨n30, ln30, r⟩ := rn_steps 0 (53, [some (.ref 540), some (.int b1), x2, some (.int b3), some (.int b4), some (.int b5)], [.int b4, .int s0], aa_H g) rfl r
  refine rn_ic (P) rfl decide_eq_true_iff.symm r (fun c31 l32n l32 r => ?_) (fun c31 l32n l32 r => ?_)
  · obtain ⟨n33, ln33, r⟩ := rn_steps 1 (29, [some (.ref 540), some (.int b1), x2, some (.int b3), some (.int b4), some (.int (b5 + 1))], [], aa_H g) rfl r
    exact hO0 _ (by omega) g (b5 + 1) x2 jx2 r
  · obtain ⟨n34, ln34, r⟩ := rn_steps 0 (58, [some (.ref 540), some (.int b1), x2, some (.int b3), some (.int b4), some (.int b5)], [.int b5], aa_H g) rfl r
    exact hR _ (rn_ire rfl r)
noncomputable def fn_242_29b (g : aa_G) (b1 : Int32) (b3 : Int32) (b4 : Int32) (b5 : Int32) : (aa_G × Int32) ⊕ (Int32 × aa_G) := if (fn_234 b3) < b5 then .inr (-2, g) else if b4 = (-1) then .inr (-2, g) else fn_242_51 ((fn_222 g b1 b5).2) b1 b3 b4 b5 ((fn_222 g b1 b5).1)
noncomputable def fn_242_29 (g : aa_G) (b1 : Int32) (b3 : Int32) (b4 : Int32) (b5 : Int32) : Int32 × aa_G := lp_f (0, g) (fun z : (aa_G × Int32) => fn_242_29b z.1 b1 b3 b4 z.2) (g, b5)
theorem dn_242_29l {v : Option Value} {h : zz_H} {N : Nat} {b1 : Int32} {b3 : Int32} {b4 : Int32} {d : Int32 × aa_G} : ∀ (n : Nat), n ≤ N → ∀ (g : aa_G) (b5 : Int32) (x2 : Option Value) (jx2 : rn_jk x2), rn_s n 242 (29, [some (.ref 540), some (.int b1), x2, some (.int b3), some (.int b4), some (.int b5)], [], aa_H g) v h → (iw_s v h) (lp_f d (fun z : (aa_G × Int32) => fn_242_29b z.1 b1 b3 b4 z.2) (g, b5)) := by
  generalize hf : (fun z : (aa_G × Int32) => fn_242_29b z.1 b1 b3 b4 z.2) = f
  intro n
  induction n using Nat.strongRecOn with
  | _ n ih =>
    intro hN g b5 x2 jx2 r
    refine lp_go ?_
    rw [← congrFun hf (g, b5)]
    show lp_q (iw_s v h) d f (fn_242_29b g b1 b3 b4 b5)
    unfold fn_242_29b
    obtain ⟨n17, ln17, r⟩ := rn_steps 1 (32, [some (.ref 540), some (.int b1), x2, some (.int b3), some (.int b4), some (.int b5)], [.int b3, .int b5], aa_H g) rfl r
    obtain ⟨_, n18, v1, h1, -, ln18, rc, r⟩ := rn_call (m2 := 234) (as := [.int b3]) (rest := [.int b5]) rfl rfl r
    obtain ⟨rfl, rfl⟩ := dn_234 rc
    have r : rn_s _ 242 (35, [some (.ref 540), some (.int b1), x2, some (.int b3), some (.int b4), some (.int b5)], [.int (fn_234 b3), .int b5], aa_H g) v h := r
    refine rn_ic (lp_q (iw_s v h) d f) rfl decide_eq_true_iff.symm r (fun c20 l21n l21 r => ?_) (fun c20 l21n l21 r => ?_)
    · obtain ⟨n22, ln22, r⟩ := rn_steps 0 (67, [some (.ref 540), some (.int b1), x2, some (.int b3), some (.int b4), some (.int b5)], [.int (-2)], aa_H g) rfl r
      exact rn_ire rfl r
    · obtain ⟨n23, ln23, r⟩ := rn_steps 1 (41, [some (.ref 540), some (.int b1), x2, some (.int b3), some (.int b4), some (.int b5)], [.int (-1), .int b4], aa_H g) rfl r
      refine rn_ic (lp_q (iw_s v h) d f) rfl decide_eq_true_iff.symm r (fun c24 l25n l25 r => ?_) (fun c24 l25n l25 r => ?_)
      · obtain ⟨n26, ln26, r⟩ := rn_steps 0 (67, [some (.ref 540), some (.int b1), x2, some (.int b3), some (.int b4), some (.int b5)], [.int (-2)], aa_H g) rfl r
        exact rn_ire rfl r
      · obtain ⟨n27, ln27, r⟩ := rn_steps 2 (48, [some (.ref 540), some (.int b1), x2, some (.int b3), some (.int b4), some (.int b5)], [.int b5, .int b1, .ref 540], aa_H g) rfl r
        obtain ⟨_, n28, v1, h1, -, ln28, rc, r⟩ := rn_call (m2 := 222) (as := [.ref 540, .int b1, .int b5]) (rest := []) rfl rfl r
        obtain ⟨rfl, rfl⟩ := dn_222 rc
        have r : rn_s _ 242 (51, [some (.ref 540), some (.int b1), x2, some (.int b3), some (.int b4), some (.int b5)], [.int ((fn_222 g b1 b5).1)], aa_H ((fn_222 g b1 b5).2)) v h := r
        exact dn_242_51 (lp_q (iw_s v h) d f) (fun n2 l2 => ih n2 (by omega) (by omega)) (fun z hz => hz) x2 jx2 r
theorem dn_242_29 {v : Option Value} {h : zz_H} {n : Nat} {g : aa_G} {b1 : Int32} {b3 : Int32} {b4 : Int32} {b5 : Int32}  (x2 : Option Value) (jx2 : rn_jk x2) (r : rn_s n 242 (29, [some (.ref 540), some (.int b1), x2, some (.int b3), some (.int b4), some (.int b5)], [], aa_H g) v h) : (iw_s v h) (fn_242_29 g b1 b3 b4 b5) := dn_242_29l  n (Nat.le_refl n) g b5 x2 jx2 r
noncomputable def fn_242_24 (g : aa_G) (b1 : Int32) (b3 : Int32) (s0 : Int32) : Int32 × aa_G := fn_242_29 g b1 b3 s0 b3
theorem dn_242_24 {v : Option Value} {h : zz_H} {n : Nat} {g : aa_G} {b1 : Int32} {b3 : Int32} {s0 : Int32}  (x2 x4 x5 : Option Value) (jx2 : rn_jk x2) (jx4 : rn_jk x4) (jx5 : rn_jk x5) (r : rn_s n 242 (24, [some (.ref 540), some (.int b1), x2, some (.int b3), x4, x5], [.int s0], aa_H g) v h) : iw_s v h (fn_242_24 g b1 b3 s0) := by
  unfold fn_242_24
  obtain ⟨n16, ln16, r⟩ := rn_steps 2 (29, [some (.ref 540), some (.int b1), x2, some (.int b3), some (.int s0), some (.int b3)], [], aa_H g) rfl r
  exact dn_242_29 x2 jx2 r
noncomputable def fn_242 (g : aa_G) (a1 : Int32) (a2 : Int32) (a3 : Int32) : Int32 × aa_G := if (fn_191 g a1 a2) = 0 then (-1, g) else if (fn_193 a3) ≠ 0 then fn_242_24 ((fn_222 g a1 a2).2) a1 a3 ((fn_222 g a1 a2).1) else (-1, g)
theorem dn_242 {v : Option Value} {h : zz_H} {n : Nat} {g : aa_G} {a1 : Int32} {a2 : Int32} {a3 : Int32}  (r : rn_s n 242 (0, zz_in [.ref 540, .int a1, .int a2, .int a3] (zz_nl 242), [], aa_H g) v h) : iw_s v h (fn_242 g a1 a2 a3) := by
  have r : rn_s n 242 (0, [some (.ref 540), some (.int a1), some (.int a2), some (.int a3), none, none], [], aa_H g) v h := r
  unfold fn_242
  obtain ⟨n1, ln1, r⟩ := rn_steps 2 (3, [some (.ref 540), some (.int a1), some (.int a2), some (.int a3), none, none], [.int a2, .int a1, .ref 540], aa_H g) rfl r
  obtain ⟨_, n2, v1, h1, -, ln2, rc, r⟩ := rn_call (m2 := 191) (as := [.ref 540, .int a1, .int a2]) (rest := []) rfl rfl r
  obtain ⟨rfl, rfl⟩ := dn_191 rc
  have r : rn_s _ 242 (6, [some (.ref 540), some (.int a1), some (.int a2), some (.int a3), none, none], [.int (fn_191 g a1 a2)], aa_H g) v h := r
  refine rn_if (iw_s v h) rfl decide_eq_true_iff.symm r (fun c4 l5n l5 r => ?_) (fun c4 l5n l5 r => ?_)
  · obtain ⟨n6, ln6, r⟩ := rn_steps 0 (17, [some (.ref 540), some (.int a1), some (.int a2), some (.int a3), none, none], [.int (-1)], aa_H g) rfl r
    exact rn_ire rfl r
  · obtain ⟨n7, ln7, r⟩ := rn_steps 0 (10, [some (.ref 540), some (.int a1), some (.int a2), some (.int a3), none, none], [.int a3], aa_H g) rfl r
    obtain ⟨_, n8, v1, h1, -, ln8, rc, r⟩ := rn_call (m2 := 193) (as := [.int a3]) (rest := []) rfl rfl r
    obtain ⟨rfl, rfl⟩ := dn_193 rc
    have r : rn_s _ 242 (13, [some (.ref 540), some (.int a1), some (.int a2), some (.int a3), none, none], [.int (fn_193 a3)], aa_H g) v h := r
    refine rn_if (iw_s v h) rfl decide_eq_true_iff.symm r (fun c10 l11n l11 r => ?_) (fun c10 l11n l11 r => ?_)
    · obtain ⟨n12, ln12, r⟩ := rn_steps 2 (21, [some (.ref 540), some (.int a1), some (.int a2), some (.int a3), none, none], [.int a2, .int a1, .ref 540], aa_H g) rfl r
      obtain ⟨_, n13, v1, h1, -, ln13, rc, r⟩ := rn_call (m2 := 222) (as := [.ref 540, .int a1, .int a2]) (rest := []) rfl rfl r
      obtain ⟨rfl, rfl⟩ := dn_222 rc
      have r : rn_s _ 242 (24, [some (.ref 540), some (.int a1), some (.int a2), some (.int a3), none, none], [.int ((fn_222 g a1 a2).1)], aa_H ((fn_222 g a1 a2).2)) v h := r
      exact dn_242_24 (some (.int a2)) none none rn_ji rn_jn rn_jn r
    · obtain ⟨n15, ln15, r⟩ := rn_steps 0 (17, [some (.ref 540), some (.int a1), some (.int a2), some (.int a3), none, none], [.int (-1)], aa_H g) rfl r
      exact rn_ire rfl r
-- 243: UnequalHoursModel growth
noncomputable def fn_243_132 (g : aa_G) (b1 : Int32) (b2 : Int32) (b3 : Int32) (b4 : Int32) (b5 : Int32) (b6 : Int32) (b7 : Int32) (b8 : Int32) : (aa_G × Int32 × Int32 × Int32 × Int32) ⊕ (Int32 × aa_G) := .inl (g, b5, b6, b7, b8 + 1)
theorem dn_243_132 {v : Option Value} {h : zz_H} {n : Nat} {g : aa_G} {b1 : Int32} {b2 : Int32} {b3 : Int32} {b4 : Int32} {b5 : Int32} {b6 : Int32} {b7 : Int32} {b8 : Int32} (P : (aa_G × Int32 × Int32 × Int32 × Int32) ⊕ (Int32 × aa_G) → Prop) (hO0 : ∀ n2, n2 < n → ∀ (yg : aa_G) (yb5 : Int32) (yb6 : Int32) (yb7 : Int32) (yb8 : Int32) (yx9 yx10 : Option Value) (_ : rn_jk yx9) (_ : rn_jk yx10), rn_s n2 243 (55, [some (.ref 540), some (.int b1), some (.int b2), some (.int b3), some (.int b4), some (.int yb5), some (.int yb6), some (.int yb7), some (.int yb8), yx9, yx10], [], aa_H yg) v h → P (.inl (yg, yb5, yb6, yb7, yb8))) (hR : ∀ E, iw_s v h E → P (.inr E))  (x9 x10 : Option Value) (jx9 : rn_jk x9) (jx10 : rn_jk x10) (r : rn_s n 243 (132, [some (.ref 540), some (.int b1), some (.int b2), some (.int b3), some (.int b4), some (.int b5), some (.int b6), some (.int b7), some (.int b8), x9, x10], [], aa_H g) v h) : P (fn_243_132 g b1 b2 b3 b4 b5 b6 b7 b8) := by
  unfold fn_243_132
  obtain ⟨n56, ln56, r⟩ := rn_steps 1 (55, [some (.ref 540), some (.int b1), some (.int b2), some (.int b3), some (.int b4), some (.int b5), some (.int b6), some (.int b7), some (.int (b8 + 1)), x9, x10], [], aa_H g) rfl r
  exact hO0 _ (by omega) g b5 b6 b7 (b8 + 1) x9 x10 jx9 jx10 r
noncomputable def fn_243_81 (g : aa_G) (b1 : Int32) (b2 : Int32) (b3 : Int32) (b4 : Int32) (b5 : Int32) (b6 : Int32) (b7 : Int32) (b8 : Int32) (b9 : Int32) (s0 : Int32) : (aa_G × Int32 × Int32 × Int32 × Int32) ⊕ (Int32 × aa_G) := if b9 = (-1) then fn_243_132 g b1 b2 b3 b4 b5 b6 b7 b8 else if s0 ≠ (-1) then if b6 < (b9 - s0) then fn_243_132 g b1 b2 b3 b4 (b5 + (b9 - s0)) (b9 - s0) b8 b8 else fn_243_132 g b1 b2 b3 b4 (b5 + (b9 - s0)) b6 b7 b8 else fn_243_132 g b1 b2 b3 b4 b5 b6 b7 b8
theorem dn_243_81 {v : Option Value} {h : zz_H} {n : Nat} {g : aa_G} {b1 : Int32} {b2 : Int32} {b3 : Int32} {b4 : Int32} {b5 : Int32} {b6 : Int32} {b7 : Int32} {b8 : Int32} {b9 : Int32} {s0 : Int32} (P : (aa_G × Int32 × Int32 × Int32 × Int32) ⊕ (Int32 × aa_G) → Prop) (hO0 : ∀ n2, n2 < n → ∀ (yg : aa_G) (yb5 : Int32) (yb6 : Int32) (yb7 : Int32) (yb8 : Int32) (yx9 yx10 : Option Value) (_ : rn_jk yx9) (_ : rn_jk yx10), rn_s n2 243 (55, [some (.ref 540), some (.int b1), some (.int b2), some (.int b3), some (.int b4), some (.int yb5), some (.int yb6), some (.int yb7), some (.int yb8), yx9, yx10], [], aa_H yg) v h → P (.inl (yg, yb5, yb6, yb7, yb8))) (hR : ∀ E, iw_s v h E → P (.inr E))  (x10 : Option Value) (jx10 : rn_jk x10) (r : rn_s n 243 (81, [some (.ref 540), some (.int b1), some (.int b2), some (.int b3), some (.int b4), some (.int b5), some (.int b6), some (.int b7), some (.int b8), some (.int b9), x10], [.int s0], aa_H g) v h) : P (fn_243_81 g b1 b2 b3 b4 b5 b6 b7 b8 b9 s0) := by
  unfold fn_243_81
  obtain ⟨n44, ln44, r⟩ := rn_steps 2 (86, [some (.ref 540), some (.int b1), some (.int b2), some (.int b3), some (.int b4), some (.int b5), some (.int b6), some (.int b7), some (.int b8), some (.int b9), some (.int s0)], [.int (-1), .int b9], aa_H g) rfl r
  refine rn_ic (P) rfl decide_eq_true_iff.symm r (fun c45 l46n l46 r => ?_) (fun c45 l46n l46 r => ?_)
  · exact dn_243_132 (P) (fun n2 l2 => hO0 n2 (by omega)) (fun z hz => hR _ hz) (some (.int b9)) (some (.int s0)) rn_ji rn_ji r
  · obtain ⟨n47, ln47, r⟩ := rn_steps 1 (92, [some (.ref 540), some (.int b1), some (.int b2), some (.int b3), some (.int b4), some (.int b5), some (.int b6), some (.int b7), some (.int b8), some (.int b9), some (.int s0)], [.int (-1), .int s0], aa_H g) rfl r
    refine rn_ic (P) rfl decide_eq_true_iff.symm r (fun c48 l49n l49 r => ?_) (fun c48 l49n l49 r => ?_)
    · obtain ⟨n50, ln50, r⟩ := rn_steps 9 (115, [some (.ref 540), some (.int b1), some (.int b2), some (.int b3), some (.int b4), some (.int (b5 + (b9 - s0))), some (.int b6), some (.int b7), some (.int b8), some (.int b9), some (.int s0)], [.int b6, .int (b9 - s0)], aa_H g) rfl r
      refine rn_ic (P) rfl decide_eq_true_iff.symm r (fun c51 l52n l52 r => ?_) (fun c51 l52n l52 r => ?_)
      · obtain ⟨n53, ln53, r⟩ := rn_steps 5 (132, [some (.ref 540), some (.int b1), some (.int b2), some (.int b3), some (.int b4), some (.int (b5 + (b9 - s0))), some (.int (b9 - s0)), some (.int b8), some (.int b8), some (.int b9), some (.int s0)], [], aa_H g) rfl r
        exact dn_243_132 (P) (fun n2 l2 => hO0 n2 (by omega)) (fun z hz => hR _ hz) (some (.int b9)) (some (.int s0)) rn_ji rn_ji r
      · obtain ⟨n54, ln54, r⟩ := rn_steps 0 (132, [some (.ref 540), some (.int b1), some (.int b2), some (.int b3), some (.int b4), some (.int (b5 + (b9 - s0))), some (.int b6), some (.int b7), some (.int b8), some (.int b9), some (.int s0)], [], aa_H g) rfl r
        exact dn_243_132 (P) (fun n2 l2 => hO0 n2 (by omega)) (fun z hz => hR _ hz) (some (.int b9)) (some (.int s0)) rn_ji rn_ji r
    · obtain ⟨n55, ln55, r⟩ := rn_steps 0 (132, [some (.ref 540), some (.int b1), some (.int b2), some (.int b3), some (.int b4), some (.int b5), some (.int b6), some (.int b7), some (.int b8), some (.int b9), some (.int s0)], [], aa_H g) rfl r
      exact dn_243_132 (P) (fun n2 l2 => hO0 n2 (by omega)) (fun z hz => hR _ hz) (some (.int b9)) (some (.int s0)) rn_ji rn_ji r
noncomputable def fn_243_70 (g : aa_G) (b1 : Int32) (b2 : Int32) (b3 : Int32) (b4 : Int32) (b5 : Int32) (b6 : Int32) (b7 : Int32) (b8 : Int32) (s0 : Int32) : (aa_G × Int32 × Int32 × Int32 × Int32) ⊕ (Int32 × aa_G) := fn_243_81 ((fn_222 g b1 (b8 - 1)).2) b1 b2 b3 b4 b5 b6 b7 b8 s0 ((fn_222 g b1 (b8 - 1)).1)
theorem dn_243_70 {v : Option Value} {h : zz_H} {n : Nat} {g : aa_G} {b1 : Int32} {b2 : Int32} {b3 : Int32} {b4 : Int32} {b5 : Int32} {b6 : Int32} {b7 : Int32} {b8 : Int32} {s0 : Int32} (P : (aa_G × Int32 × Int32 × Int32 × Int32) ⊕ (Int32 × aa_G) → Prop) (hO0 : ∀ n2, n2 < n → ∀ (yg : aa_G) (yb5 : Int32) (yb6 : Int32) (yb7 : Int32) (yb8 : Int32) (yx9 yx10 : Option Value) (_ : rn_jk yx9) (_ : rn_jk yx10), rn_s n2 243 (55, [some (.ref 540), some (.int b1), some (.int b2), some (.int b3), some (.int b4), some (.int yb5), some (.int yb6), some (.int yb7), some (.int yb8), yx9, yx10], [], aa_H yg) v h → P (.inl (yg, yb5, yb6, yb7, yb8))) (hR : ∀ E, iw_s v h E → P (.inr E))  (x9 x10 : Option Value) (jx9 : rn_jk x9) (jx10 : rn_jk x10) (r : rn_s n 243 (70, [some (.ref 540), some (.int b1), some (.int b2), some (.int b3), some (.int b4), some (.int b5), some (.int b6), some (.int b7), some (.int b8), x9, x10], [.int s0], aa_H g) v h) : P (fn_243_70 g b1 b2 b3 b4 b5 b6 b7 b8 s0) := by
  unfold fn_243_70
  obtain ⟨n41, ln41, r⟩ := rn_steps 5 (78, [some (.ref 540), some (.int b1), some (.int b2), some (.int b3), some (.int b4), some (.int b5), some (.int b6), some (.int b7), some (.int b8), some (.int s0), x10], [.int (b8 - 1), .int b1, .ref 540], aa_H g) rfl r
  obtain ⟨_, n42, v1, h1, -, ln42, rc, r⟩ := rn_call (m2 := 222) (as := [.ref 540, .int b1, .int (b8 - 1)]) (rest := []) rfl rfl r
  obtain ⟨rfl, rfl⟩ := dn_222 rc
  have r : rn_s _ 243 (81, [some (.ref 540), some (.int b1), some (.int b2), some (.int b3), some (.int b4), some (.int b5), some (.int b6), some (.int b7), some (.int b8), some (.int s0), x10], [.int ((fn_222 g b1 (b8 - 1)).1)], aa_H ((fn_222 g b1 (b8 - 1)).2)) v h := r
  exact dn_243_81 (P) (fun n2 l2 => hO0 n2 (by omega)) (fun z hz => hR _ hz) x10 jx10 r
noncomputable def fn_243_55b (g : aa_G) (b1 : Int32) (b2 : Int32) (b3 : Int32) (b4 : Int32) (b5 : Int32) (b6 : Int32) (b7 : Int32) (b8 : Int32) : (aa_G × Int32 × Int32 × Int32 × Int32) ⊕ (Int32 × aa_G) := if (b2 + b3) ≤ b8 then if b4 ≠ 0 then if b4 ≠ 1 then .inr (b7, g) else .inr (b6, g) else .inr (b5, g) else fn_243_70 ((fn_222 g b1 b8).2) b1 b2 b3 b4 b5 b6 b7 b8 ((fn_222 g b1 b8).1)
noncomputable def fn_243_55 (g : aa_G) (b1 : Int32) (b2 : Int32) (b3 : Int32) (b4 : Int32) (b5 : Int32) (b6 : Int32) (b7 : Int32) (b8 : Int32) : Int32 × aa_G := lp_f (0, g) (fun z : (aa_G × Int32 × Int32 × Int32 × Int32) => fn_243_55b z.1 b1 b2 b3 b4 z.2.1 z.2.2.1 z.2.2.2.1 z.2.2.2.2) (g, b5, b6, b7, b8)
theorem dn_243_55l {v : Option Value} {h : zz_H} {N : Nat} {b1 : Int32} {b2 : Int32} {b3 : Int32} {b4 : Int32} {d : Int32 × aa_G} : ∀ (n : Nat), n ≤ N → ∀ (g : aa_G) (b5 : Int32) (b6 : Int32) (b7 : Int32) (b8 : Int32) (x9 x10 : Option Value) (jx9 : rn_jk x9) (jx10 : rn_jk x10), rn_s n 243 (55, [some (.ref 540), some (.int b1), some (.int b2), some (.int b3), some (.int b4), some (.int b5), some (.int b6), some (.int b7), some (.int b8), x9, x10], [], aa_H g) v h → (iw_s v h) (lp_f d (fun z : (aa_G × Int32 × Int32 × Int32 × Int32) => fn_243_55b z.1 b1 b2 b3 b4 z.2.1 z.2.2.1 z.2.2.2.1 z.2.2.2.2) (g, b5, b6, b7, b8)) := by
  generalize hf : (fun z : (aa_G × Int32 × Int32 × Int32 × Int32) => fn_243_55b z.1 b1 b2 b3 b4 z.2.1 z.2.2.1 z.2.2.2.1 z.2.2.2.2) = f
  intro n
  induction n using Nat.strongRecOn with
  | _ n ih =>
    intro hN g b5 b6 b7 b8 x9 x10 jx9 jx10 r
    refine lp_go ?_
    rw [← congrFun hf (g, b5, b6, b7, b8)]
    show lp_q (iw_s v h) d f (fn_243_55b g b1 b2 b3 b4 b5 b6 b7 b8)
    unfold fn_243_55b
    obtain ⟨n26, ln26, r⟩ := rn_steps 3 (60, [some (.ref 540), some (.int b1), some (.int b2), some (.int b3), some (.int b4), some (.int b5), some (.int b6), some (.int b7), some (.int b8), x9, x10], [.int (b2 + b3), .int b8], aa_H g) rfl r
    refine rn_ic (lp_q (iw_s v h) d f) rfl decide_eq_true_iff.symm r (fun c27 l28n l28 r => ?_) (fun c27 l28n l28 r => ?_)
    · obtain ⟨n29, ln29, r⟩ := rn_steps 0 (140, [some (.ref 540), some (.int b1), some (.int b2), some (.int b3), some (.int b4), some (.int b5), some (.int b6), some (.int b7), some (.int b8), x9, x10], [.int b4], aa_H g) rfl r
      refine rn_if (lp_q (iw_s v h) d f) rfl decide_eq_true_iff.symm r (fun c30 l31n l31 r => ?_) (fun c30 l31n l31 r => ?_)
      · obtain ⟨n32, ln32, r⟩ := rn_steps 1 (151, [some (.ref 540), some (.int b1), some (.int b2), some (.int b3), some (.int b4), some (.int b5), some (.int b6), some (.int b7), some (.int b8), x9, x10], [.int 1, .int b4], aa_H g) rfl r
        refine rn_ic (lp_q (iw_s v h) d f) rfl decide_eq_true_iff.symm r (fun c33 l34n l34 r => ?_) (fun c33 l34n l34 r => ?_)
        · obtain ⟨n35, ln35, r⟩ := rn_steps 0 (161, [some (.ref 540), some (.int b1), some (.int b2), some (.int b3), some (.int b4), some (.int b5), some (.int b6), some (.int b7), some (.int b8), x9, x10], [.int b7], aa_H g) rfl r
          exact rn_ire rfl r
        · obtain ⟨n36, ln36, r⟩ := rn_steps 1 (161, [some (.ref 540), some (.int b1), some (.int b2), some (.int b3), some (.int b4), some (.int b5), some (.int b6), some (.int b7), some (.int b8), x9, x10], [.int b6], aa_H g) rfl r
          exact rn_ire rfl r
      · obtain ⟨n37, ln37, r⟩ := rn_steps 1 (161, [some (.ref 540), some (.int b1), some (.int b2), some (.int b3), some (.int b4), some (.int b5), some (.int b6), some (.int b7), some (.int b8), x9, x10], [.int b5], aa_H g) rfl r
        exact rn_ire rfl r
    · obtain ⟨n38, ln38, r⟩ := rn_steps 2 (67, [some (.ref 540), some (.int b1), some (.int b2), some (.int b3), some (.int b4), some (.int b5), some (.int b6), some (.int b7), some (.int b8), x9, x10], [.int b8, .int b1, .ref 540], aa_H g) rfl r
      obtain ⟨_, n39, v1, h1, -, ln39, rc, r⟩ := rn_call (m2 := 222) (as := [.ref 540, .int b1, .int b8]) (rest := []) rfl rfl r
      obtain ⟨rfl, rfl⟩ := dn_222 rc
      have r : rn_s _ 243 (70, [some (.ref 540), some (.int b1), some (.int b2), some (.int b3), some (.int b4), some (.int b5), some (.int b6), some (.int b7), some (.int b8), x9, x10], [.int ((fn_222 g b1 b8).1)], aa_H ((fn_222 g b1 b8).2)) v h := r
      exact dn_243_70 (lp_q (iw_s v h) d f) (fun n2 l2 => ih n2 (by omega) (by omega)) (fun z hz => hz) x9 x10 jx9 jx10 r
theorem dn_243_55 {v : Option Value} {h : zz_H} {n : Nat} {g : aa_G} {b1 : Int32} {b2 : Int32} {b3 : Int32} {b4 : Int32} {b5 : Int32} {b6 : Int32} {b7 : Int32} {b8 : Int32}  (x9 x10 : Option Value) (jx9 : rn_jk x9) (jx10 : rn_jk x10) (r : rn_s n 243 (55, [some (.ref 540), some (.int b1), some (.int b2), some (.int b3), some (.int b4), some (.int b5), some (.int b6), some (.int b7), some (.int b8), x9, x10], [], aa_H g) v h) : (iw_s v h) (fn_243_55 g b1 b2 b3 b4 b5 b6 b7 b8) := dn_243_55l  n (Nat.le_refl n) g b5 b6 b7 b8 x9 x10 jx9 jx10 r
noncomputable def fn_243 (g : aa_G) (a1 : Int32) (a2 : Int32) (a3 : Int32) (a4 : Int32) : Int32 × aa_G := if (fn_192 g a1) = 0 then (-1000000, g) else if (fn_154 a3 1 360) = 0 then (-1000000, g) else if (fn_193 a2) = 0 then (-1000000, g) else if (fn_154 a4 0 2) ≠ 0 then fn_243_55 g a1 a2 a3 a4 0 (-1000000) (-2) a2 else (-1000000, g)
theorem dn_243 {v : Option Value} {h : zz_H} {n : Nat} {g : aa_G} {a1 : Int32} {a2 : Int32} {a3 : Int32} {a4 : Int32}  (r : rn_s n 243 (0, zz_in [.ref 540, .int a1, .int a2, .int a3, .int a4] (zz_nl 243), [], aa_H g) v h) : iw_s v h (fn_243 g a1 a2 a3 a4) := by
  have r : rn_s n 243 (0, [some (.ref 540), some (.int a1), some (.int a2), some (.int a3), some (.int a4), none, none, none, none, none, none], [], aa_H g) v h := r
  unfold fn_243
  obtain ⟨n1, ln1, r⟩ := rn_steps 1 (2, [some (.ref 540), some (.int a1), some (.int a2), some (.int a3), some (.int a4), none, none, none, none, none, none], [.int a1, .ref 540], aa_H g) rfl r
  obtain ⟨_, n2, v1, h1, -, ln2, rc, r⟩ := rn_call (m2 := 192) (as := [.ref 540, .int a1]) (rest := []) rfl rfl r
  obtain ⟨rfl, rfl⟩ := dn_192 rc
  have r : rn_s _ 243 (5, [some (.ref 540), some (.int a1), some (.int a2), some (.int a3), some (.int a4), none, none, none, none, none, none], [.int (fn_192 g a1)], aa_H g) v h := r
  refine rn_if (iw_s v h) rfl decide_eq_true_iff.symm r (fun c4 l5n l5 r => ?_) (fun c4 l5n l5 r => ?_)
  · obtain ⟨n6, ln6, r⟩ := rn_steps 0 (39, [some (.ref 540), some (.int a1), some (.int a2), some (.int a3), some (.int a4), none, none, none, none, none, none], [.int (-1000000)], aa_H g) rfl r
    exact rn_ire rfl r
  · obtain ⟨n7, ln7, r⟩ := rn_steps 2 (13, [some (.ref 540), some (.int a1), some (.int a2), some (.int a3), some (.int a4), none, none, none, none, none, none], [.int 360, .int 1, .int a3], aa_H g) rfl r
    obtain ⟨_, n8, v1, h1, -, ln8, rc, r⟩ := rn_call (m2 := 154) (as := [.int a3, .int 1, .int 360]) (rest := []) rfl rfl r
    obtain ⟨rfl, rfl⟩ := dn_154 rc
    have r : rn_s _ 243 (16, [some (.ref 540), some (.int a1), some (.int a2), some (.int a3), some (.int a4), none, none, none, none, none, none], [.int (fn_154 a3 1 360)], aa_H g) v h := r
    refine rn_if (iw_s v h) rfl decide_eq_true_iff.symm r (fun c10 l11n l11 r => ?_) (fun c10 l11n l11 r => ?_)
    · obtain ⟨n12, ln12, r⟩ := rn_steps 0 (39, [some (.ref 540), some (.int a1), some (.int a2), some (.int a3), some (.int a4), none, none, none, none, none, none], [.int (-1000000)], aa_H g) rfl r
      exact rn_ire rfl r
    · obtain ⟨n13, ln13, r⟩ := rn_steps 0 (20, [some (.ref 540), some (.int a1), some (.int a2), some (.int a3), some (.int a4), none, none, none, none, none, none], [.int a2], aa_H g) rfl r
      obtain ⟨_, n14, v1, h1, -, ln14, rc, r⟩ := rn_call (m2 := 193) (as := [.int a2]) (rest := []) rfl rfl r
      obtain ⟨rfl, rfl⟩ := dn_193 rc
      have r : rn_s _ 243 (23, [some (.ref 540), some (.int a1), some (.int a2), some (.int a3), some (.int a4), none, none, none, none, none, none], [.int (fn_193 a2)], aa_H g) v h := r
      refine rn_if (iw_s v h) rfl decide_eq_true_iff.symm r (fun c16 l17n l17 r => ?_) (fun c16 l17n l17 r => ?_)
      · obtain ⟨n18, ln18, r⟩ := rn_steps 0 (39, [some (.ref 540), some (.int a1), some (.int a2), some (.int a3), some (.int a4), none, none, none, none, none, none], [.int (-1000000)], aa_H g) rfl r
        exact rn_ire rfl r
      · obtain ⟨n19, ln19, r⟩ := rn_steps 2 (30, [some (.ref 540), some (.int a1), some (.int a2), some (.int a3), some (.int a4), none, none, none, none, none, none], [.int 2, .int 0, .int a4], aa_H g) rfl r
        obtain ⟨_, n20, v1, h1, -, ln20, rc, r⟩ := rn_call (m2 := 154) (as := [.int a4, .int 0, .int 2]) (rest := []) rfl rfl r
        obtain ⟨rfl, rfl⟩ := dn_154 rc
        have r : rn_s _ 243 (33, [some (.ref 540), some (.int a1), some (.int a2), some (.int a3), some (.int a4), none, none, none, none, none, none], [.int (fn_154 a4 0 2)], aa_H g) v h := r
        refine rn_if (iw_s v h) rfl decide_eq_true_iff.symm r (fun c22 l23n l23 r => ?_) (fun c22 l23n l23 r => ?_)
        · obtain ⟨n24, ln24, r⟩ := rn_steps 7 (55, [some (.ref 540), some (.int a1), some (.int a2), some (.int a3), some (.int a4), some (.int 0), some (.int (-1000000)), some (.int (-2)), some (.int a2), none, none], [], aa_H g) rfl r
          exact dn_243_55 none none rn_jn rn_jn r
        · obtain ⟨n25, ln25, r⟩ := rn_steps 0 (39, [some (.ref 540), some (.int a1), some (.int a2), some (.int a3), some (.int a4), none, none, none, none, none, none], [.int (-1000000)], aa_H g) rfl r
          exact rn_ire rfl r
-- 244: UnequalHoursModel watch
noncomputable def fn_244_37 (g : aa_G) (b3 : Int32) (b4 : Int32) (s0 : Int32) : Int32 × aa_G := if s0 ≠ 0 then if b4 ≠ 0 then ((fn_225 g ((3 * b3) + 3)) - (fn_225 g (3 * b3)), g) else ((g 540 17) + (fn_225 g (3 * b3)), g) else (-2, g)
theorem dn_244_37 {v : Option Value} {h : zz_H} {n : Nat} {g : aa_G} {b3 : Int32} {b4 : Int32} {s0 : Int32}  (x1 x2 : Option Value) (jx1 : rn_jk x1) (jx2 : rn_jk x2) (r : rn_s n 244 (37, [some (.ref 540), x1, x2, some (.int b3), some (.int b4)], [.int s0], aa_H g) v h) : iw_s v h (fn_244_37 g b3 b4 s0) := by
  unfold fn_244_37
  refine rn_if (iw_s v h) rfl decide_eq_true_iff.symm r (fun c22 l23n l23 r => ?_) (fun c22 l23n l23 r => ?_)
  · obtain ⟨n24, ln24, r⟩ := rn_steps 0 (45, [some (.ref 540), x1, x2, some (.int b3), some (.int b4)], [.int b4], aa_H g) rfl r
    refine rn_if (iw_s v h) rfl decide_eq_true_iff.symm r (fun c25 l26n l26 r => ?_) (fun c25 l26n l26 r => ?_)
    · obtain ⟨n27, ln27, r⟩ := rn_steps 5 (69, [some (.ref 540), x1, x2, some (.int b3), some (.int b4)], [.int ((3 * b3) + 3), .ref 540], aa_H g) rfl r
      obtain ⟨_, n28, v1, h1, -, ln28, rc, r⟩ := rn_call (m2 := 225) (as := [.ref 540, .int ((3 * b3) + 3)]) (rest := []) rfl rfl r
      obtain ⟨rfl, rfl⟩ := dn_225 rc
      have r : rn_s _ 244 (72, [some (.ref 540), x1, x2, some (.int b3), some (.int b4)], [.int (fn_225 g ((3 * b3) + 3))], aa_H g) v h := r
      obtain ⟨n30, ln30, r⟩ := rn_steps 3 (76, [some (.ref 540), x1, x2, some (.int b3), some (.int b4)], [.int (3 * b3), .ref 540, .int (fn_225 g ((3 * b3) + 3))], aa_H g) rfl r
      obtain ⟨_, n31, v1, h1, -, ln31, rc, r⟩ := rn_call (m2 := 225) (as := [.ref 540, .int (3 * b3)]) (rest := [.int (fn_225 g ((3 * b3) + 3))]) rfl rfl r
      obtain ⟨rfl, rfl⟩ := dn_225 rc
      have r : rn_s _ 244 (79, [some (.ref 540), x1, x2, some (.int b3), some (.int b4)], [.int (fn_225 g (3 * b3)), .int (fn_225 g ((3 * b3) + 3))], aa_H g) v h := r
      obtain ⟨n33, ln33, r⟩ := rn_steps 0 (80, [some (.ref 540), x1, x2, some (.int b3), some (.int b4)], [.int ((fn_225 g ((3 * b3) + 3)) - (fn_225 g (3 * b3)))], aa_H g) rfl r
      exact rn_ire rfl r
    · obtain ⟨n34, ln34, r⟩ := rn_steps 5 (56, [some (.ref 540), x1, x2, some (.int b3), some (.int b4)], [.int (3 * b3), .ref 540, .int (g 540 17)], aa_H g) rfl r
      obtain ⟨_, n35, v1, h1, -, ln35, rc, r⟩ := rn_call (m2 := 225) (as := [.ref 540, .int (3 * b3)]) (rest := [.int (g 540 17)]) rfl rfl r
      obtain ⟨rfl, rfl⟩ := dn_225 rc
      have r : rn_s _ 244 (59, [some (.ref 540), x1, x2, some (.int b3), some (.int b4)], [.int (fn_225 g (3 * b3)), .int (g 540 17)], aa_H g) v h := r
      obtain ⟨n37, ln37, r⟩ := rn_steps 1 (80, [some (.ref 540), x1, x2, some (.int b3), some (.int b4)], [.int ((g 540 17) + (fn_225 g (3 * b3)))], aa_H g) rfl r
      exact rn_ire rfl r
  · obtain ⟨n38, ln38, r⟩ := rn_steps 0 (42, [some (.ref 540), x1, x2, some (.int b3), some (.int b4)], [.int (-2)], aa_H g) rfl r
    exact rn_ire rfl r
noncomputable def fn_244 (g : aa_G) (a1 : Int32) (a2 : Int32) (a3 : Int32) (a4 : Int32) : Int32 × aa_G := if (fn_191 g a1 a2) = 0 then (-1, g) else if (fn_154 a3 0 3) = 0 then (-1, g) else if (fn_154 a4 0 1) ≠ 0 then fn_244_37 ((fn_194 g a1 a2 1).2) a3 a4 ((fn_194 g a1 a2 1).1) else (-1, g)
theorem dn_244 {v : Option Value} {h : zz_H} {n : Nat} {g : aa_G} {a1 : Int32} {a2 : Int32} {a3 : Int32} {a4 : Int32}  (r : rn_s n 244 (0, zz_in [.ref 540, .int a1, .int a2, .int a3, .int a4] (zz_nl 244), [], aa_H g) v h) : iw_s v h (fn_244 g a1 a2 a3 a4) := by
  have r : rn_s n 244 (0, [some (.ref 540), some (.int a1), some (.int a2), some (.int a3), some (.int a4)], [], aa_H g) v h := r
  unfold fn_244
  obtain ⟨n1, ln1, r⟩ := rn_steps 2 (3, [some (.ref 540), some (.int a1), some (.int a2), some (.int a3), some (.int a4)], [.int a2, .int a1, .ref 540], aa_H g) rfl r
  obtain ⟨_, n2, v1, h1, -, ln2, rc, r⟩ := rn_call (m2 := 191) (as := [.ref 540, .int a1, .int a2]) (rest := []) rfl rfl r
  obtain ⟨rfl, rfl⟩ := dn_191 rc
  have r : rn_s _ 244 (6, [some (.ref 540), some (.int a1), some (.int a2), some (.int a3), some (.int a4)], [.int (fn_191 g a1 a2)], aa_H g) v h := r
  refine rn_if (iw_s v h) rfl decide_eq_true_iff.symm r (fun c4 l5n l5 r => ?_) (fun c4 l5n l5 r => ?_)
  · obtain ⟨n6, ln6, r⟩ := rn_steps 0 (29, [some (.ref 540), some (.int a1), some (.int a2), some (.int a3), some (.int a4)], [.int (-1)], aa_H g) rfl r
    exact rn_ire rfl r
  · obtain ⟨n7, ln7, r⟩ := rn_steps 2 (12, [some (.ref 540), some (.int a1), some (.int a2), some (.int a3), some (.int a4)], [.int 3, .int 0, .int a3], aa_H g) rfl r
    obtain ⟨_, n8, v1, h1, -, ln8, rc, r⟩ := rn_call (m2 := 154) (as := [.int a3, .int 0, .int 3]) (rest := []) rfl rfl r
    obtain ⟨rfl, rfl⟩ := dn_154 rc
    have r : rn_s _ 244 (15, [some (.ref 540), some (.int a1), some (.int a2), some (.int a3), some (.int a4)], [.int (fn_154 a3 0 3)], aa_H g) v h := r
    refine rn_if (iw_s v h) rfl decide_eq_true_iff.symm r (fun c10 l11n l11 r => ?_) (fun c10 l11n l11 r => ?_)
    · obtain ⟨n12, ln12, r⟩ := rn_steps 0 (29, [some (.ref 540), some (.int a1), some (.int a2), some (.int a3), some (.int a4)], [.int (-1)], aa_H g) rfl r
      exact rn_ire rfl r
    · obtain ⟨n13, ln13, r⟩ := rn_steps 2 (22, [some (.ref 540), some (.int a1), some (.int a2), some (.int a3), some (.int a4)], [.int 1, .int 0, .int a4], aa_H g) rfl r
      obtain ⟨_, n14, v1, h1, -, ln14, rc, r⟩ := rn_call (m2 := 154) (as := [.int a4, .int 0, .int 1]) (rest := []) rfl rfl r
      obtain ⟨rfl, rfl⟩ := dn_154 rc
      have r : rn_s _ 244 (25, [some (.ref 540), some (.int a1), some (.int a2), some (.int a3), some (.int a4)], [.int (fn_154 a4 0 1)], aa_H g) v h := r
      refine rn_if (iw_s v h) rfl decide_eq_true_iff.symm r (fun c16 l17n l17 r => ?_) (fun c16 l17n l17 r => ?_)
      · obtain ⟨n18, ln18, r⟩ := rn_steps 3 (34, [some (.ref 540), some (.int a1), some (.int a2), some (.int a3), some (.int a4)], [.int 1, .int a2, .int a1, .ref 540], aa_H g) rfl r
        obtain ⟨_, n19, v1, h1, -, ln19, rc, r⟩ := rn_call (m2 := 194) (as := [.ref 540, .int a1, .int a2, .int 1]) (rest := []) rfl rfl r
        obtain ⟨rfl, rfl⟩ := dn_194 rc
        have r : rn_s _ 244 (37, [some (.ref 540), some (.int a1), some (.int a2), some (.int a3), some (.int a4)], [.int ((fn_194 g a1 a2 1).1)], aa_H ((fn_194 g a1 a2 1).2)) v h := r
        exact dn_244_37 (some (.int a1)) (some (.int a2)) rn_ji rn_ji r
      · obtain ⟨n21, ln21, r⟩ := rn_steps 0 (29, [some (.ref 540), some (.int a1), some (.int a2), some (.int a3), some (.int a4)], [.int (-1)], aa_H g) rfl r
        exact rn_ire rfl r
-- 245: UnequalHoursModel spread
noncomputable def fn_245_109 (g : aa_G) (b1 : Int32) (b2 : Int32) (b3 : Int32) (b4 : Int32) (b5 : Int32) : (aa_G × Int32 × Int32 × Int32) ⊕ (Int32 × aa_G) := .inl (g, b3, b4, b5 + 1)
theorem dn_245_109 {v : Option Value} {h : zz_H} {n : Nat} {g : aa_G} {b1 : Int32} {b2 : Int32} {b3 : Int32} {b4 : Int32} {b5 : Int32} (P : (aa_G × Int32 × Int32 × Int32) ⊕ (Int32 × aa_G) → Prop) (hO0 : ∀ n2, n2 < n → ∀ (yg : aa_G) (yb3 : Int32) (yb4 : Int32) (yb5 : Int32) (yx6 : Option Value) (_ : rn_jk yx6), rn_s n2 245 (28, [some (.ref 540), some (.int b1), some (.int b2), some (.int yb3), some (.int yb4), some (.int yb5), yx6], [], aa_H yg) v h → P (.inl (yg, yb3, yb4, yb5))) (hR : ∀ E, iw_s v h E → P (.inr E))  (x6 : Option Value) (jx6 : rn_jk x6) (r : rn_s n 245 (109, [some (.ref 540), some (.int b1), some (.int b2), some (.int b3), some (.int b4), some (.int b5), x6], [], aa_H g) v h) : P (fn_245_109 g b1 b2 b3 b4 b5) := by
  unfold fn_245_109
  obtain ⟨n55, ln55, r⟩ := rn_steps 1 (28, [some (.ref 540), some (.int b1), some (.int b2), some (.int b3), some (.int b4), some (.int (b5 + 1)), x6], [], aa_H g) rfl r
  exact hO0 _ (by omega) g b3 b4 (b5 + 1) x6 jx6 r
noncomputable def fn_245_107 (g : aa_G) (b1 : Int32) (b2 : Int32) (b3 : Int32) (b5 : Int32) (s0 : Int32) : (aa_G × Int32 × Int32 × Int32) ⊕ (Int32 × aa_G) := fn_245_109 g b1 b2 b3 s0 b5
theorem dn_245_107 {v : Option Value} {h : zz_H} {n : Nat} {g : aa_G} {b1 : Int32} {b2 : Int32} {b3 : Int32} {b5 : Int32} {s0 : Int32} (P : (aa_G × Int32 × Int32 × Int32) ⊕ (Int32 × aa_G) → Prop) (hO0 : ∀ n2, n2 < n → ∀ (yg : aa_G) (yb3 : Int32) (yb4 : Int32) (yb5 : Int32) (yx6 : Option Value) (_ : rn_jk yx6), rn_s n2 245 (28, [some (.ref 540), some (.int b1), some (.int b2), some (.int yb3), some (.int yb4), some (.int yb5), yx6], [], aa_H yg) v h → P (.inl (yg, yb3, yb4, yb5))) (hR : ∀ E, iw_s v h E → P (.inr E))  (x4 x6 : Option Value) (jx4 : rn_jk x4) (jx6 : rn_jk x6) (r : rn_s n 245 (107, [some (.ref 540), some (.int b1), some (.int b2), some (.int b3), x4, some (.int b5), x6], [.int s0], aa_H g) v h) : P (fn_245_107 g b1 b2 b3 b5 s0) := by
  unfold fn_245_107
  obtain ⟨n66, ln66, r⟩ := rn_steps 0 (109, [some (.ref 540), some (.int b1), some (.int b2), some (.int b3), some (.int s0), some (.int b5), x6], [], aa_H g) rfl r
  exact dn_245_109 (P) (fun n2 l2 => hO0 n2 (by omega)) (fun z hz => hR _ hz) x6 jx6 r
noncomputable def fn_245_100 (g : aa_G) (b1 : Int32) (b2 : Int32) (b3 : Int32) (b5 : Int32) : (aa_G × Int32 × Int32 × Int32) ⊕ (Int32 × aa_G) := fn_245_107 g b1 b2 b3 b5 b5
theorem dn_245_100 {v : Option Value} {h : zz_H} {n : Nat} {g : aa_G} {b1 : Int32} {b2 : Int32} {b3 : Int32} {b5 : Int32} (P : (aa_G × Int32 × Int32 × Int32) ⊕ (Int32 × aa_G) → Prop) (hO0 : ∀ n2, n2 < n → ∀ (yg : aa_G) (yb3 : Int32) (yb4 : Int32) (yb5 : Int32) (yx6 : Option Value) (_ : rn_jk yx6), rn_s n2 245 (28, [some (.ref 540), some (.int b1), some (.int b2), some (.int yb3), some (.int yb4), some (.int yb5), yx6], [], aa_H yg) v h → P (.inl (yg, yb3, yb4, yb5))) (hR : ∀ E, iw_s v h E → P (.inr E))  (x4 x6 : Option Value) (jx4 : rn_jk x4) (jx6 : rn_jk x6) (r : rn_s n 245 (100, [some (.ref 540), some (.int b1), some (.int b2), some (.int b3), x4, some (.int b5), x6], [], aa_H g) v h) : P (fn_245_100 g b1 b2 b3 b5) := by
  unfold fn_245_100
  obtain ⟨n62, ln62, r⟩ := rn_steps 1 (107, [some (.ref 540), some (.int b1), some (.int b2), some (.int b3), x4, some (.int b5), x6], [.int b5], aa_H g) rfl r
  exact dn_245_107 (P) (fun n2 l2 => hO0 n2 (by omega)) (fun z hz => hR _ hz) x4 x6 jx4 jx6 r
noncomputable def fn_245_97 (g : aa_G) (b1 : Int32) (b2 : Int32) (b3 : Int32) (b4 : Int32) (b5 : Int32) (s0 : Int32) (s1 : Int32) : (aa_G × Int32 × Int32 × Int32) ⊕ (Int32 × aa_G) := if s0 ≤ s1 then fn_245_107 g b1 b2 b3 b5 b4 else fn_245_100 g b1 b2 b3 b5
theorem dn_245_97 {v : Option Value} {h : zz_H} {n : Nat} {g : aa_G} {b1 : Int32} {b2 : Int32} {b3 : Int32} {b4 : Int32} {b5 : Int32} {s0 : Int32} {s1 : Int32} (P : (aa_G × Int32 × Int32 × Int32) ⊕ (Int32 × aa_G) → Prop) (hO0 : ∀ n2, n2 < n → ∀ (yg : aa_G) (yb3 : Int32) (yb4 : Int32) (yb5 : Int32) (yx6 : Option Value) (_ : rn_jk yx6), rn_s n2 245 (28, [some (.ref 540), some (.int b1), some (.int b2), some (.int yb3), some (.int yb4), some (.int yb5), yx6], [], aa_H yg) v h → P (.inl (yg, yb3, yb4, yb5))) (hR : ∀ E, iw_s v h E → P (.inr E))  (x6 : Option Value) (jx6 : rn_jk x6) (r : rn_s n 245 (97, [some (.ref 540), some (.int b1), some (.int b2), some (.int b3), some (.int b4), some (.int b5), x6], [.int s0, .int s1], aa_H g) v h) : P (fn_245_97 g b1 b2 b3 b4 b5 s0 s1) := by
  unfold fn_245_97
  refine rn_ic (P) rfl decide_eq_true_iff.symm r (fun c63 l64n l64 r => ?_) (fun c63 l64n l64 r => ?_)
  · obtain ⟨n65, ln65, r⟩ := rn_steps 0 (107, [some (.ref 540), some (.int b1), some (.int b2), some (.int b3), some (.int b4), some (.int b5), x6], [.int b4], aa_H g) rfl r
    exact dn_245_107 (P) (fun n2 l2 => hO0 n2 (by omega)) (fun z hz => hR _ hz) (some (.int b4)) x6 rn_ji jx6 r
  · exact dn_245_100 (P) (fun n2 l2 => hO0 n2 (by omega)) (fun z hz => hR _ hz) (some (.int b4)) x6 rn_ji jx6 r
noncomputable def fn_245_80 (g : aa_G) (b1 : Int32) (b2 : Int32) (b4 : Int32) (b5 : Int32) (b6 : Int32) (s0 : Int32) : (aa_G × Int32 × Int32 × Int32) ⊕ (Int32 × aa_G) := if b4 = (-2) then fn_245_100 g b1 b2 s0 b5 else fn_245_97 ((fn_222 g b4 b1).2) b1 b2 s0 b4 b5 ((fn_222 g b4 b1).1) b6
theorem dn_245_80 {v : Option Value} {h : zz_H} {n : Nat} {g : aa_G} {b1 : Int32} {b2 : Int32} {b4 : Int32} {b5 : Int32} {b6 : Int32} {s0 : Int32} (P : (aa_G × Int32 × Int32 × Int32) ⊕ (Int32 × aa_G) → Prop) (hO0 : ∀ n2, n2 < n → ∀ (yg : aa_G) (yb3 : Int32) (yb4 : Int32) (yb5 : Int32) (yx6 : Option Value) (_ : rn_jk yx6), rn_s n2 245 (28, [some (.ref 540), some (.int b1), some (.int b2), some (.int yb3), some (.int yb4), some (.int yb5), yx6], [], aa_H yg) v h → P (.inl (yg, yb3, yb4, yb5))) (hR : ∀ E, iw_s v h E → P (.inr E))  (x3 : Option Value) (jx3 : rn_jk x3) (r : rn_s n 245 (80, [some (.ref 540), some (.int b1), some (.int b2), x3, some (.int b4), some (.int b5), some (.int b6)], [.int s0], aa_H g) v h) : P (fn_245_80 g b1 b2 b4 b5 b6 s0) := by
  unfold fn_245_80
  obtain ⟨n56, ln56, r⟩ := rn_steps 2 (85, [some (.ref 540), some (.int b1), some (.int b2), some (.int s0), some (.int b4), some (.int b5), some (.int b6)], [.int (-2), .int b4], aa_H g) rfl r
  refine rn_ic (P) rfl decide_eq_true_iff.symm r (fun c57 l58n l58 r => ?_) (fun c57 l58n l58 r => ?_)
  · exact dn_245_100 (P) (fun n2 l2 => hO0 n2 (by omega)) (fun z hz => hR _ hz) (some (.int b4)) (some (.int b6)) rn_ji rn_ji r
  · obtain ⟨n59, ln59, r⟩ := rn_steps 3 (94, [some (.ref 540), some (.int b1), some (.int b2), some (.int s0), some (.int b4), some (.int b5), some (.int b6)], [.int b1, .int b4, .ref 540, .int b6], aa_H g) rfl r
    obtain ⟨_, n60, v1, h1, -, ln60, rc, r⟩ := rn_call (m2 := 222) (as := [.ref 540, .int b4, .int b1]) (rest := [.int b6]) rfl rfl r
    obtain ⟨rfl, rfl⟩ := dn_222 rc
    have r : rn_s _ 245 (97, [some (.ref 540), some (.int b1), some (.int b2), some (.int s0), some (.int b4), some (.int b5), some (.int b6)], [.int ((fn_222 g b4 b1).1), .int b6], aa_H ((fn_222 g b4 b1).2)) v h := r
    exact dn_245_97 (P) (fun n2 l2 => hO0 n2 (by omega)) (fun z hz => hR _ hz) (some (.int b6)) rn_ji r
noncomputable def fn_245_74 (g : aa_G) (b1 : Int32) (b2 : Int32) (b4 : Int32) (b5 : Int32) (b6 : Int32) : (aa_G × Int32 × Int32 × Int32) ⊕ (Int32 × aa_G) := fn_245_80 g b1 b2 b4 b5 b6 b5
theorem dn_245_74 {v : Option Value} {h : zz_H} {n : Nat} {g : aa_G} {b1 : Int32} {b2 : Int32} {b4 : Int32} {b5 : Int32} {b6 : Int32} (P : (aa_G × Int32 × Int32 × Int32) ⊕ (Int32 × aa_G) → Prop) (hO0 : ∀ n2, n2 < n → ∀ (yg : aa_G) (yb3 : Int32) (yb4 : Int32) (yb5 : Int32) (yx6 : Option Value) (_ : rn_jk yx6), rn_s n2 245 (28, [some (.ref 540), some (.int b1), some (.int b2), some (.int yb3), some (.int yb4), some (.int yb5), yx6], [], aa_H yg) v h → P (.inl (yg, yb3, yb4, yb5))) (hR : ∀ E, iw_s v h E → P (.inr E))  (x3 : Option Value) (jx3 : rn_jk x3) (r : rn_s n 245 (74, [some (.ref 540), some (.int b1), some (.int b2), x3, some (.int b4), some (.int b5), some (.int b6)], [], aa_H g) v h) : P (fn_245_74 g b1 b2 b4 b5 b6) := by
  unfold fn_245_74
  obtain ⟨n51, ln51, r⟩ := rn_steps 1 (80, [some (.ref 540), some (.int b1), some (.int b2), x3, some (.int b4), some (.int b5), some (.int b6)], [.int b5], aa_H g) rfl r
  exact dn_245_80 (P) (fun n2 l2 => hO0 n2 (by omega)) (fun z hz => hR _ hz) x3 jx3 r
noncomputable def fn_245_71 (g : aa_G) (b1 : Int32) (b2 : Int32) (b3 : Int32) (b4 : Int32) (b5 : Int32) (b6 : Int32) (s0 : Int32) (s1 : Int32) : (aa_G × Int32 × Int32 × Int32) ⊕ (Int32 × aa_G) := if s1 ≤ s0 then fn_245_80 g b1 b2 b4 b5 b6 b3 else fn_245_74 g b1 b2 b4 b5 b6
theorem dn_245_71 {v : Option Value} {h : zz_H} {n : Nat} {g : aa_G} {b1 : Int32} {b2 : Int32} {b3 : Int32} {b4 : Int32} {b5 : Int32} {b6 : Int32} {s0 : Int32} {s1 : Int32} (P : (aa_G × Int32 × Int32 × Int32) ⊕ (Int32 × aa_G) → Prop) (hO0 : ∀ n2, n2 < n → ∀ (yg : aa_G) (yb3 : Int32) (yb4 : Int32) (yb5 : Int32) (yx6 : Option Value) (_ : rn_jk yx6), rn_s n2 245 (28, [some (.ref 540), some (.int b1), some (.int b2), some (.int yb3), some (.int yb4), some (.int yb5), yx6], [], aa_H yg) v h → P (.inl (yg, yb3, yb4, yb5))) (hR : ∀ E, iw_s v h E → P (.inr E))  (r : rn_s n 245 (71, [some (.ref 540), some (.int b1), some (.int b2), some (.int b3), some (.int b4), some (.int b5), some (.int b6)], [.int s0, .int s1], aa_H g) v h) : P (fn_245_71 g b1 b2 b3 b4 b5 b6 s0 s1) := by
  unfold fn_245_71
  refine rn_ic (P) rfl decide_eq_true_iff.symm r (fun c52 l53n l53 r => ?_) (fun c52 l53n l53 r => ?_)
  · obtain ⟨n54, ln54, r⟩ := rn_steps 0 (80, [some (.ref 540), some (.int b1), some (.int b2), some (.int b3), some (.int b4), some (.int b5), some (.int b6)], [.int b3], aa_H g) rfl r
    exact dn_245_80 (P) (fun n2 l2 => hO0 n2 (by omega)) (fun z hz => hR _ hz) (some (.int b3)) rn_ji r
  · exact dn_245_74 (P) (fun n2 l2 => hO0 n2 (by omega)) (fun z hz => hR _ hz) (some (.int b3)) rn_ji r
noncomputable def fn_245_46 (g : aa_G) (b1 : Int32) (b2 : Int32) (b3 : Int32) (b4 : Int32) (b5 : Int32) (s0 : Int32) : (aa_G × Int32 × Int32 × Int32) ⊕ (Int32 × aa_G) := if s0 ≠ (-1) then if b3 = (-2) then fn_245_74 g b1 b2 b4 b5 s0 else fn_245_71 ((fn_222 g b3 b1).2) b1 b2 b3 b4 b5 s0 ((fn_222 g b3 b1).1) s0 else fn_245_109 g b1 b2 b3 b4 b5
theorem dn_245_46 {v : Option Value} {h : zz_H} {n : Nat} {g : aa_G} {b1 : Int32} {b2 : Int32} {b3 : Int32} {b4 : Int32} {b5 : Int32} {s0 : Int32} (P : (aa_G × Int32 × Int32 × Int32) ⊕ (Int32 × aa_G) → Prop) (hO0 : ∀ n2, n2 < n → ∀ (yg : aa_G) (yb3 : Int32) (yb4 : Int32) (yb5 : Int32) (yx6 : Option Value) (_ : rn_jk yx6), rn_s n2 245 (28, [some (.ref 540), some (.int b1), some (.int b2), some (.int yb3), some (.int yb4), some (.int yb5), yx6], [], aa_H yg) v h → P (.inl (yg, yb3, yb4, yb5))) (hR : ∀ E, iw_s v h E → P (.inr E))  (x6 : Option Value) (jx6 : rn_jk x6) (r : rn_s n 245 (46, [some (.ref 540), some (.int b1), some (.int b2), some (.int b3), some (.int b4), some (.int b5), x6], [.int s0], aa_H g) v h) : P (fn_245_46 g b1 b2 b3 b4 b5 s0) := by
  unfold fn_245_46
  obtain ⟨n41, ln41, r⟩ := rn_steps 2 (51, [some (.ref 540), some (.int b1), some (.int b2), some (.int b3), some (.int b4), some (.int b5), some (.int s0)], [.int (-1), .int s0], aa_H g) rfl r
  refine rn_ic (P) rfl decide_eq_true_iff.symm r (fun c42 l43n l43 r => ?_) (fun c42 l43n l43 r => ?_)
  · obtain ⟨n44, ln44, r⟩ := rn_steps 1 (60, [some (.ref 540), some (.int b1), some (.int b2), some (.int b3), some (.int b4), some (.int b5), some (.int s0)], [.int (-2), .int b3], aa_H g) rfl r
    refine rn_ic (P) rfl decide_eq_true_iff.symm r (fun c45 l46n l46 r => ?_) (fun c45 l46n l46 r => ?_)
    · exact dn_245_74 (P) (fun n2 l2 => hO0 n2 (by omega)) (fun z hz => hR _ hz) (some (.int b3)) rn_ji r
    · obtain ⟨n47, ln47, r⟩ := rn_steps 3 (68, [some (.ref 540), some (.int b1), some (.int b2), some (.int b3), some (.int b4), some (.int b5), some (.int s0)], [.int b1, .int b3, .ref 540, .int s0], aa_H g) rfl r
      obtain ⟨_, n48, v1, h1, -, ln48, rc, r⟩ := rn_call (m2 := 222) (as := [.ref 540, .int b3, .int b1]) (rest := [.int s0]) rfl rfl r
      obtain ⟨rfl, rfl⟩ := dn_222 rc
      have r : rn_s _ 245 (71, [some (.ref 540), some (.int b1), some (.int b2), some (.int b3), some (.int b4), some (.int b5), some (.int s0)], [.int ((fn_222 g b3 b1).1), .int s0], aa_H ((fn_222 g b3 b1).2)) v h := r
      exact dn_245_71 (P) (fun n2 l2 => hO0 n2 (by omega)) (fun z hz => hR _ hz) r
  · obtain ⟨n50, ln50, r⟩ := rn_steps 0 (109, [some (.ref 540), some (.int b1), some (.int b2), some (.int b3), some (.int b4), some (.int b5), some (.int s0)], [], aa_H g) rfl r
    exact dn_245_109 (P) (fun n2 l2 => hO0 n2 (by omega)) (fun z hz => hR _ hz) (some (.int s0)) rn_ji r
noncomputable def fn_245_150 (g : aa_G) (b1 : Int32) (b4 : Int32) (s0 : Int32) : Int32 × aa_G := (s0 - ((fn_222 g b4 b1).1), (fn_222 g b4 b1).2)
theorem dn_245_150 {v : Option Value} {h : zz_H} {n : Nat} {g : aa_G} {b1 : Int32} {b4 : Int32} {s0 : Int32}  (x2 x3 x5 x6 : Option Value) (jx2 : rn_jk x2) (jx3 : rn_jk x3) (jx5 : rn_jk x5) (jx6 : rn_jk x6) (r : rn_s n 245 (150, [some (.ref 540), some (.int b1), x2, x3, some (.int b4), x5, x6], [.int s0], aa_H g) v h) : iw_s v h (fn_245_150 g b1 b4 s0) := by
  unfold fn_245_150
  obtain ⟨n37, ln37, r⟩ := rn_steps 2 (154, [some (.ref 540), some (.int b1), x2, x3, some (.int b4), x5, x6], [.int b1, .int b4, .ref 540, .int s0], aa_H g) rfl r
  obtain ⟨_, n38, v1, h1, -, ln38, rc, r⟩ := rn_call (m2 := 222) (as := [.ref 540, .int b4, .int b1]) (rest := [.int s0]) rfl rfl r
  obtain ⟨rfl, rfl⟩ := dn_222 rc
  have r : rn_s _ 245 (157, [some (.ref 540), some (.int b1), x2, x3, some (.int b4), x5, x6], [.int ((fn_222 g b4 b1).1), .int s0], aa_H ((fn_222 g b4 b1).2)) v h := r
  obtain ⟨n40, ln40, r⟩ := rn_steps 0 (158, [some (.ref 540), some (.int b1), x2, x3, some (.int b4), x5, x6], [.int (s0 - ((fn_222 g b4 b1).1))], aa_H ((fn_222 g b4 b1).2)) rfl r
  exact rn_ire rfl r
noncomputable def fn_245_28b (g : aa_G) (b1 : Int32) (b2 : Int32) (b3 : Int32) (b4 : Int32) (b5 : Int32) : (aa_G × Int32 × Int32 × Int32) ⊕ (Int32 × aa_G) := if (g 541 (0 : Int32).toNatClampNeg) ≤ b5 then if b2 ≠ 0 then if b2 ≠ 1 then if b3 ≠ (-2) then .inr (fn_245_150 ((fn_222 g b3 b1).2) b1 b4 ((fn_222 g b3 b1).1)) else .inr (-2, g) else .inr (b4, g) else .inr (b3, g) else fn_245_46 ((fn_222 g b5 b1).2) b1 b2 b3 b4 b5 ((fn_222 g b5 b1).1)
noncomputable def fn_245_28 (g : aa_G) (b1 : Int32) (b2 : Int32) (b3 : Int32) (b4 : Int32) (b5 : Int32) : Int32 × aa_G := lp_f (0, g) (fun z : (aa_G × Int32 × Int32 × Int32) => fn_245_28b z.1 b1 b2 z.2.1 z.2.2.1 z.2.2.2) (g, b3, b4, b5)
theorem dn_245_28l {v : Option Value} {h : zz_H} {N : Nat} {b1 : Int32} {b2 : Int32} {d : Int32 × aa_G} : ∀ (n : Nat), n ≤ N → ∀ (g : aa_G) (b3 : Int32) (b4 : Int32) (b5 : Int32) (x6 : Option Value) (jx6 : rn_jk x6), rn_s n 245 (28, [some (.ref 540), some (.int b1), some (.int b2), some (.int b3), some (.int b4), some (.int b5), x6], [], aa_H g) v h → (iw_s v h) (lp_f d (fun z : (aa_G × Int32 × Int32 × Int32) => fn_245_28b z.1 b1 b2 z.2.1 z.2.2.1 z.2.2.2) (g, b3, b4, b5)) := by
  generalize hf : (fun z : (aa_G × Int32 × Int32 × Int32) => fn_245_28b z.1 b1 b2 z.2.1 z.2.2.1 z.2.2.2) = f
  intro n
  induction n using Nat.strongRecOn with
  | _ n ih =>
    intro hN g b3 b4 b5 x6 jx6 r
    refine lp_go ?_
    rw [← congrFun hf (g, b3, b4, b5)]
    show lp_q (iw_s v h) d f (fn_245_28b g b1 b2 b3 b4 b5)
    unfold fn_245_28b
    obtain ⟨n14, ln14, r⟩ := rn_steps 3 (35, [some (.ref 540), some (.int b1), some (.int b2), some (.int b3), some (.int b4), some (.int b5), x6], [.int 0, .ref 541, .int b5], aa_H g) rfl r
    obtain ⟨hb16, n15, ln15, r⟩ := rn_ial (k := 541) rfl ⟨by decide, by decide⟩ rfl r
    have r : rn_s _ 245 (36, [some (.ref 540), some (.int b1), some (.int b2), some (.int b3), some (.int b4), some (.int b5), x6], [.int (g 541 (0 : Int32).toNatClampNeg), .int b5], aa_H g) v h := r
    refine rn_ic (lp_q (iw_s v h) d f) rfl decide_eq_true_iff.symm r (fun c17 l18n l18 r => ?_) (fun c17 l18n l18 r => ?_)
    · obtain ⟨n19, ln19, r⟩ := rn_steps 0 (116, [some (.ref 540), some (.int b1), some (.int b2), some (.int b3), some (.int b4), some (.int b5), x6], [.int b2], aa_H g) rfl r
      refine rn_if (lp_q (iw_s v h) d f) rfl decide_eq_true_iff.symm r (fun c20 l21n l21 r => ?_) (fun c20 l21n l21 r => ?_)
      · obtain ⟨n22, ln22, r⟩ := rn_steps 1 (125, [some (.ref 540), some (.int b1), some (.int b2), some (.int b3), some (.int b4), some (.int b5), x6], [.int 1, .int b2], aa_H g) rfl r
        refine rn_ic (lp_q (iw_s v h) d f) rfl decide_eq_true_iff.symm r (fun c23 l24n l24 r => ?_) (fun c23 l24n l24 r => ?_)
        · obtain ⟨n25, ln25, r⟩ := rn_steps 1 (136, [some (.ref 540), some (.int b1), some (.int b2), some (.int b3), some (.int b4), some (.int b5), x6], [.int (-2), .int b3], aa_H g) rfl r
          refine rn_ic (lp_q (iw_s v h) d f) rfl decide_eq_true_iff.symm r (fun c26 l27n l27 r => ?_) (fun c26 l27n l27 r => ?_)
          · obtain ⟨n28, ln28, r⟩ := rn_steps 2 (147, [some (.ref 540), some (.int b1), some (.int b2), some (.int b3), some (.int b4), some (.int b5), x6], [.int b1, .int b3, .ref 540], aa_H g) rfl r
            obtain ⟨_, n29, v1, h1, -, ln29, rc, r⟩ := rn_call (m2 := 222) (as := [.ref 540, .int b3, .int b1]) (rest := []) rfl rfl r
            obtain ⟨rfl, rfl⟩ := dn_222 rc
            have r : rn_s _ 245 (150, [some (.ref 540), some (.int b1), some (.int b2), some (.int b3), some (.int b4), some (.int b5), x6], [.int ((fn_222 g b3 b1).1)], aa_H ((fn_222 g b3 b1).2)) v h := r
            exact dn_245_150 (some (.int b2)) (some (.int b3)) (some (.int b5)) x6 rn_ji rn_ji rn_ji jx6 r
          · obtain ⟨n31, ln31, r⟩ := rn_steps 1 (158, [some (.ref 540), some (.int b1), some (.int b2), some (.int b3), some (.int b4), some (.int b5), x6], [.int (-2)], aa_H g) rfl r
            exact rn_ire rfl r
        · obtain ⟨n32, ln32, r⟩ := rn_steps 1 (158, [some (.ref 540), some (.int b1), some (.int b2), some (.int b3), some (.int b4), some (.int b5), x6], [.int b4], aa_H g) rfl r
          exact rn_ire rfl r
      · obtain ⟨n33, ln33, r⟩ := rn_steps 1 (158, [some (.ref 540), some (.int b1), some (.int b2), some (.int b3), some (.int b4), some (.int b5), x6], [.int b3], aa_H g) rfl r
        exact rn_ire rfl r
    · obtain ⟨n34, ln34, r⟩ := rn_steps 2 (43, [some (.ref 540), some (.int b1), some (.int b2), some (.int b3), some (.int b4), some (.int b5), x6], [.int b1, .int b5, .ref 540], aa_H g) rfl r
      obtain ⟨_, n35, v1, h1, -, ln35, rc, r⟩ := rn_call (m2 := 222) (as := [.ref 540, .int b5, .int b1]) (rest := []) rfl rfl r
      obtain ⟨rfl, rfl⟩ := dn_222 rc
      have r : rn_s _ 245 (46, [some (.ref 540), some (.int b1), some (.int b2), some (.int b3), some (.int b4), some (.int b5), x6], [.int ((fn_222 g b5 b1).1)], aa_H ((fn_222 g b5 b1).2)) v h := r
      exact dn_245_46 (lp_q (iw_s v h) d f) (fun n2 l2 => ih n2 (by omega) (by omega)) (fun z hz => hz) x6 jx6 r
theorem dn_245_28 {v : Option Value} {h : zz_H} {n : Nat} {g : aa_G} {b1 : Int32} {b2 : Int32} {b3 : Int32} {b4 : Int32} {b5 : Int32}  (x6 : Option Value) (jx6 : rn_jk x6) (r : rn_s n 245 (28, [some (.ref 540), some (.int b1), some (.int b2), some (.int b3), some (.int b4), some (.int b5), x6], [], aa_H g) v h) : (iw_s v h) (fn_245_28 g b1 b2 b3 b4 b5) := dn_245_28l  n (Nat.le_refl n) g b3 b4 b5 x6 jx6 r
noncomputable def fn_245 (g : aa_G) (a1 : Int32) (a2 : Int32) : Int32 × aa_G := if (fn_193 a1) = 0 then (-1, g) else if (fn_154 a2 0 2) ≠ 0 then fn_245_28 g a1 a2 (-2) (-2) 0 else (-1, g)
theorem dn_245 {v : Option Value} {h : zz_H} {n : Nat} {g : aa_G} {a1 : Int32} {a2 : Int32}  (r : rn_s n 245 (0, zz_in [.ref 540, .int a1, .int a2] (zz_nl 245), [], aa_H g) v h) : iw_s v h (fn_245 g a1 a2) := by
  have r : rn_s n 245 (0, [some (.ref 540), some (.int a1), some (.int a2), none, none, none, none], [], aa_H g) v h := r
  unfold fn_245
  obtain ⟨n1, ln1, r⟩ := rn_steps 0 (1, [some (.ref 540), some (.int a1), some (.int a2), none, none, none, none], [.int a1], aa_H g) rfl r
  obtain ⟨_, n2, v1, h1, -, ln2, rc, r⟩ := rn_call (m2 := 193) (as := [.int a1]) (rest := []) rfl rfl r
  obtain ⟨rfl, rfl⟩ := dn_193 rc
  have r : rn_s _ 245 (4, [some (.ref 540), some (.int a1), some (.int a2), none, none, none, none], [.int (fn_193 a1)], aa_H g) v h := r
  refine rn_if (iw_s v h) rfl decide_eq_true_iff.symm r (fun c4 l5n l5 r => ?_) (fun c4 l5n l5 r => ?_)
  · obtain ⟨n6, ln6, r⟩ := rn_steps 0 (17, [some (.ref 540), some (.int a1), some (.int a2), none, none, none, none], [.int (-1)], aa_H g) rfl r
    exact rn_ire rfl r
  · obtain ⟨n7, ln7, r⟩ := rn_steps 2 (10, [some (.ref 540), some (.int a1), some (.int a2), none, none, none, none], [.int 2, .int 0, .int a2], aa_H g) rfl r
    obtain ⟨_, n8, v1, h1, -, ln8, rc, r⟩ := rn_call (m2 := 154) (as := [.int a2, .int 0, .int 2]) (rest := []) rfl rfl r
    obtain ⟨rfl, rfl⟩ := dn_154 rc
    have r : rn_s _ 245 (13, [some (.ref 540), some (.int a1), some (.int a2), none, none, none, none], [.int (fn_154 a2 0 2)], aa_H g) v h := r
    refine rn_if (iw_s v h) rfl decide_eq_true_iff.symm r (fun c10 l11n l11 r => ?_) (fun c10 l11n l11 r => ?_)
    · obtain ⟨n12, ln12, r⟩ := rn_steps 5 (28, [some (.ref 540), some (.int a1), some (.int a2), some (.int (-2)), some (.int (-2)), some (.int 0), none], [], aa_H g) rfl r
      exact dn_245_28 none rn_jn r
    · obtain ⟨n13, ln13, r⟩ := rn_steps 0 (17, [some (.ref 540), some (.int a1), some (.int a2), none, none, none, none], [.int (-1)], aa_H g) rfl r
      exact rn_ire rfl r
-- 250: UnequalHoursModel until
noncomputable def fn_250_84 (g : aa_G) (b1 : Int32) (b2 : Int32) (b3 : Int32) (b4 : Int32) (b5 : Int32) (b6 : Int32) : (aa_G × Int32) ⊕ (Int32 × aa_G) := .inl (g, b6 + 1)
theorem dn_250_84 {v : Option Value} {h : zz_H} {n : Nat} {g : aa_G} {b1 : Int32} {b2 : Int32} {b3 : Int32} {b4 : Int32} {b5 : Int32} {b6 : Int32} (P : (aa_G × Int32) ⊕ (Int32 × aa_G) → Prop) (hO0 : ∀ n2, n2 < n → ∀ (yg : aa_G) (yb6 : Int32) (yx7 yx8 : Option Value) (_ : rn_jk yx7) (_ : rn_jk yx8), rn_s n2 250 (34, [some (.ref 540), some (.int b1), some (.int b2), some (.int b3), some (.int b4), some (.int b5), some (.int yb6), yx7, yx8], [], aa_H yg) v h → P (.inl (yg, yb6))) (hR : ∀ E, iw_s v h E → P (.inr E))  (x7 x8 : Option Value) (jx7 : rn_jk x7) (jx8 : rn_jk x8) (r : rn_s n 250 (84, [some (.ref 540), some (.int b1), some (.int b2), some (.int b3), some (.int b4), some (.int b5), some (.int b6), x7, x8], [], aa_H g) v h) : P (fn_250_84 g b1 b2 b3 b4 b5 b6) := by
  unfold fn_250_84
  obtain ⟨n34, ln34, r⟩ := rn_steps 1 (34, [some (.ref 540), some (.int b1), some (.int b2), some (.int b3), some (.int b4), some (.int b5), some (.int (b6 + 1)), x7, x8], [], aa_H g) rfl r
  exact hO0 _ (by omega) g (b6 + 1) x7 x8 jx7 jx8 r
noncomputable def fn_250_53 (g : aa_G) (b1 : Int32) (b2 : Int32) (b3 : Int32) (b4 : Int32) (b5 : Int32) (b6 : Int32) (s0 : Int32) : (aa_G × Int32) ⊕ (Int32 × aa_G) := if s0 = (-2) then fn_250_84 g b1 b2 b3 b4 b5 b6 else if ((((b6 - b2) * 86400) + s0) - b3) < 0 then fn_250_84 g b1 b2 b3 b4 b5 b6 else .inr ((((b6 - b2) * 86400) + s0) - b3, g)
theorem dn_250_53 {v : Option Value} {h : zz_H} {n : Nat} {g : aa_G} {b1 : Int32} {b2 : Int32} {b3 : Int32} {b4 : Int32} {b5 : Int32} {b6 : Int32} {s0 : Int32} (P : (aa_G × Int32) ⊕ (Int32 × aa_G) → Prop) (hO0 : ∀ n2, n2 < n → ∀ (yg : aa_G) (yb6 : Int32) (yx7 yx8 : Option Value) (_ : rn_jk yx7) (_ : rn_jk yx8), rn_s n2 250 (34, [some (.ref 540), some (.int b1), some (.int b2), some (.int b3), some (.int b4), some (.int b5), some (.int yb6), yx7, yx8], [], aa_H yg) v h → P (.inl (yg, yb6))) (hR : ∀ E, iw_s v h E → P (.inr E))  (x7 x8 : Option Value) (jx7 : rn_jk x7) (jx8 : rn_jk x8) (r : rn_s n 250 (53, [some (.ref 540), some (.int b1), some (.int b2), some (.int b3), some (.int b4), some (.int b5), some (.int b6), x7, x8], [.int s0], aa_H g) v h) : P (fn_250_53 g b1 b2 b3 b4 b5 b6 s0) := by
  unfold fn_250_53
  obtain ⟨n27, ln27, r⟩ := rn_steps 12 (73, [some (.ref 540), some (.int b1), some (.int b2), some (.int b3), some (.int b4), some (.int b5), some (.int b6), some (.int s0), some (.int ((((b6 - b2) * 86400) + s0) - b3))], [.int (-2), .int s0], aa_H g) rfl r
  refine rn_ic (P) rfl decide_eq_true_iff.symm r (fun c28 l29n l29 r => ?_) (fun c28 l29n l29 r => ?_)
  · exact dn_250_84 (P) (fun n2 l2 => hO0 n2 (by omega)) (fun z hz => hR _ hz) (some (.int s0)) (some (.int ((((b6 - b2) * 86400) + s0) - b3))) rn_ji rn_ji r
  · obtain ⟨n30, ln30, r⟩ := rn_steps 0 (78, [some (.ref 540), some (.int b1), some (.int b2), some (.int b3), some (.int b4), some (.int b5), some (.int b6), some (.int s0), some (.int ((((b6 - b2) * 86400) + s0) - b3))], [.int ((((b6 - b2) * 86400) + s0) - b3)], aa_H g) rfl r
    refine rn_if (P) rfl decide_eq_true_iff.symm r (fun c31 l32n l32 r => ?_) (fun c31 l32n l32 r => ?_)
    · exact dn_250_84 (P) (fun n2 l2 => hO0 n2 (by omega)) (fun z hz => hR _ hz) (some (.int s0)) (some (.int ((((b6 - b2) * 86400) + s0) - b3))) rn_ji rn_ji r
    · obtain ⟨n33, ln33, r⟩ := rn_steps 0 (83, [some (.ref 540), some (.int b1), some (.int b2), some (.int b3), some (.int b4), some (.int b5), some (.int b6), some (.int s0), some (.int ((((b6 - b2) * 86400) + s0) - b3))], [.int ((((b6 - b2) * 86400) + s0) - b3)], aa_H g) rfl r
      exact hR _ (rn_ire rfl r)
noncomputable def fn_250_34b (g : aa_G) (b1 : Int32) (b2 : Int32) (b3 : Int32) (b4 : Int32) (b5 : Int32) (b6 : Int32) : (aa_G × Int32) ⊕ (Int32 × aa_G) := if (b2 + 2) < b6 then .inr (-2, g) else fn_250_53 ((fn_205 g b1 b6 b4 b5).2) b1 b2 b3 b4 b5 b6 ((fn_205 g b1 b6 b4 b5).1)
noncomputable def fn_250_34 (g : aa_G) (b1 : Int32) (b2 : Int32) (b3 : Int32) (b4 : Int32) (b5 : Int32) (b6 : Int32) : Int32 × aa_G := lp_f (0, g) (fun z : (aa_G × Int32) => fn_250_34b z.1 b1 b2 b3 b4 b5 z.2) (g, b6)
theorem dn_250_34l {v : Option Value} {h : zz_H} {N : Nat} {b1 : Int32} {b2 : Int32} {b3 : Int32} {b4 : Int32} {b5 : Int32} {d : Int32 × aa_G} : ∀ (n : Nat), n ≤ N → ∀ (g : aa_G) (b6 : Int32) (x7 x8 : Option Value) (jx7 : rn_jk x7) (jx8 : rn_jk x8), rn_s n 250 (34, [some (.ref 540), some (.int b1), some (.int b2), some (.int b3), some (.int b4), some (.int b5), some (.int b6), x7, x8], [], aa_H g) v h → (iw_s v h) (lp_f d (fun z : (aa_G × Int32) => fn_250_34b z.1 b1 b2 b3 b4 b5 z.2) (g, b6)) := by
  generalize hf : (fun z : (aa_G × Int32) => fn_250_34b z.1 b1 b2 b3 b4 b5 z.2) = f
  intro n
  induction n using Nat.strongRecOn with
  | _ n ih =>
    intro hN g b6 x7 x8 jx7 jx8 r
    refine lp_go ?_
    rw [← congrFun hf (g, b6)]
    show lp_q (iw_s v h) d f (fn_250_34b g b1 b2 b3 b4 b5 b6)
    unfold fn_250_34b
    obtain ⟨n20, ln20, r⟩ := rn_steps 3 (39, [some (.ref 540), some (.int b1), some (.int b2), some (.int b3), some (.int b4), some (.int b5), some (.int b6), x7, x8], [.int (b2 + 2), .int b6], aa_H g) rfl r
    refine rn_ic (lp_q (iw_s v h) d f) rfl decide_eq_true_iff.symm r (fun c21 l22n l22 r => ?_) (fun c21 l22n l22 r => ?_)
    · obtain ⟨n23, ln23, r⟩ := rn_steps 0 (92, [some (.ref 540), some (.int b1), some (.int b2), some (.int b3), some (.int b4), some (.int b5), some (.int b6), x7, x8], [.int (-2)], aa_H g) rfl r
      exact rn_ire rfl r
    · obtain ⟨n24, ln24, r⟩ := rn_steps 4 (50, [some (.ref 540), some (.int b1), some (.int b2), some (.int b3), some (.int b4), some (.int b5), some (.int b6), x7, x8], [.int b5, .int b4, .int b6, .int b1, .ref 540], aa_H g) rfl r
      obtain ⟨_, n25, v1, h1, -, ln25, rc, r⟩ := rn_call (m2 := 205) (as := [.ref 540, .int b1, .int b6, .int b4, .int b5]) (rest := []) rfl rfl r
      obtain ⟨rfl, rfl⟩ := dn_205 rc
      have r : rn_s _ 250 (53, [some (.ref 540), some (.int b1), some (.int b2), some (.int b3), some (.int b4), some (.int b5), some (.int b6), x7, x8], [.int ((fn_205 g b1 b6 b4 b5).1)], aa_H ((fn_205 g b1 b6 b4 b5).2)) v h := r
      exact dn_250_53 (lp_q (iw_s v h) d f) (fun n2 l2 => ih n2 (by omega) (by omega)) (fun z hz => hz) x7 x8 jx7 jx8 r
theorem dn_250_34 {v : Option Value} {h : zz_H} {n : Nat} {g : aa_G} {b1 : Int32} {b2 : Int32} {b3 : Int32} {b4 : Int32} {b5 : Int32} {b6 : Int32}  (x7 x8 : Option Value) (jx7 : rn_jk x7) (jx8 : rn_jk x8) (r : rn_s n 250 (34, [some (.ref 540), some (.int b1), some (.int b2), some (.int b3), some (.int b4), some (.int b5), some (.int b6), x7, x8], [], aa_H g) v h) : (iw_s v h) (fn_250_34 g b1 b2 b3 b4 b5 b6) := dn_250_34l  n (Nat.le_refl n) g b6 x7 x8 jx7 jx8 r
noncomputable def fn_250 (g : aa_G) (a1 : Int32) (a2 : Int32) (a3 : Int32) (a4 : Int32) (a5 : Int32) : Int32 × aa_G := if (fn_191 g a1 a2) = 0 then (-1, g) else if (fn_199 a3) = 0 then (-1, g) else if (fn_204 g a4 a5) ≠ 0 then fn_250_34 g a1 a2 a3 a4 a5 (a2 - 1) else (-1, g)
theorem dn_250 {v : Option Value} {h : zz_H} {n : Nat} {g : aa_G} {a1 : Int32} {a2 : Int32} {a3 : Int32} {a4 : Int32} {a5 : Int32}  (r : rn_s n 250 (0, zz_in [.ref 540, .int a1, .int a2, .int a3, .int a4, .int a5] (zz_nl 250), [], aa_H g) v h) : iw_s v h (fn_250 g a1 a2 a3 a4 a5) := by
  have r : rn_s n 250 (0, [some (.ref 540), some (.int a1), some (.int a2), some (.int a3), some (.int a4), some (.int a5), none, none, none], [], aa_H g) v h := r
  unfold fn_250
  obtain ⟨n1, ln1, r⟩ := rn_steps 2 (3, [some (.ref 540), some (.int a1), some (.int a2), some (.int a3), some (.int a4), some (.int a5), none, none, none], [.int a2, .int a1, .ref 540], aa_H g) rfl r
  obtain ⟨_, n2, v1, h1, -, ln2, rc, r⟩ := rn_call (m2 := 191) (as := [.ref 540, .int a1, .int a2]) (rest := []) rfl rfl r
  obtain ⟨rfl, rfl⟩ := dn_191 rc
  have r : rn_s _ 250 (6, [some (.ref 540), some (.int a1), some (.int a2), some (.int a3), some (.int a4), some (.int a5), none, none, none], [.int (fn_191 g a1 a2)], aa_H g) v h := r
  refine rn_if (iw_s v h) rfl decide_eq_true_iff.symm r (fun c4 l5n l5 r => ?_) (fun c4 l5n l5 r => ?_)
  · obtain ⟨n6, ln6, r⟩ := rn_steps 0 (28, [some (.ref 540), some (.int a1), some (.int a2), some (.int a3), some (.int a4), some (.int a5), none, none, none], [.int (-1)], aa_H g) rfl r
    exact rn_ire rfl r
  · obtain ⟨n7, ln7, r⟩ := rn_steps 0 (10, [some (.ref 540), some (.int a1), some (.int a2), some (.int a3), some (.int a4), some (.int a5), none, none, none], [.int a3], aa_H g) rfl r
    obtain ⟨_, n8, v1, h1, -, ln8, rc, r⟩ := rn_call (m2 := 199) (as := [.int a3]) (rest := []) rfl rfl r
    obtain ⟨rfl, rfl⟩ := dn_199 rc
    have r : rn_s _ 250 (13, [some (.ref 540), some (.int a1), some (.int a2), some (.int a3), some (.int a4), some (.int a5), none, none, none], [.int (fn_199 a3)], aa_H g) v h := r
    refine rn_if (iw_s v h) rfl decide_eq_true_iff.symm r (fun c10 l11n l11 r => ?_) (fun c10 l11n l11 r => ?_)
    · obtain ⟨n12, ln12, r⟩ := rn_steps 0 (28, [some (.ref 540), some (.int a1), some (.int a2), some (.int a3), some (.int a4), some (.int a5), none, none, none], [.int (-1)], aa_H g) rfl r
      exact rn_ire rfl r
    · obtain ⟨n13, ln13, r⟩ := rn_steps 2 (21, [some (.ref 540), some (.int a1), some (.int a2), some (.int a3), some (.int a4), some (.int a5), none, none, none], [.int a5, .int a4, .ref 540], aa_H g) rfl r
      obtain ⟨_, n14, v1, h1, -, ln14, rc, r⟩ := rn_call (m2 := 204) (as := [.ref 540, .int a4, .int a5]) (rest := []) rfl rfl r
      obtain ⟨rfl, rfl⟩ := dn_204 rc
      have r : rn_s _ 250 (24, [some (.ref 540), some (.int a1), some (.int a2), some (.int a3), some (.int a4), some (.int a5), none, none, none], [.int (fn_204 g a4 a5)], aa_H g) v h := r
      refine rn_if (iw_s v h) rfl decide_eq_true_iff.symm r (fun c16 l17n l17 r => ?_) (fun c16 l17n l17 r => ?_)
      · obtain ⟨n18, ln18, r⟩ := rn_steps 3 (34, [some (.ref 540), some (.int a1), some (.int a2), some (.int a3), some (.int a4), some (.int a5), some (.int (a2 - 1)), none, none], [], aa_H g) rfl r
        exact dn_250_34 none none rn_jn rn_jn r
      · obtain ⟨n19, ln19, r⟩ := rn_steps 0 (28, [some (.ref 540), some (.int a1), some (.int a2), some (.int a3), some (.int a4), some (.int a5), none, none, none], [.int (-1)], aa_H g) rfl r
        exact rn_ire rfl r
-- 251: UnequalHoursModel lag
noncomputable def fn_251_53 (g : aa_G) (b1 : Int32) (b5 : Int32) (s0 : Int32) : Int32 × aa_G := if b5 = (-2) then (-1000000, g) else if s0 ≠ (-2) then (((s0 - (fn_209 g (b1 - b1 / 4 * 4))) - b5) + (fn_209 g (b1 / 4)), g) else (-1000000, g)
theorem dn_251_53 {v : Option Value} {h : zz_H} {n : Nat} {g : aa_G} {b1 : Int32} {b5 : Int32} {s0 : Int32}  (x2 x3 x4 x6 : Option Value) (jx2 : rn_jk x2) (jx3 : rn_jk x3) (jx4 : rn_jk x4) (jx6 : rn_jk x6) (r : rn_s n 251 (53, [some (.ref 540), some (.int b1), x2, x3, x4, some (.int b5), x6], [.int s0], aa_H g) v h) : iw_s v h (fn_251_53 g b1 b5 s0) := by
  unfold fn_251_53
  obtain ⟨n25, ln25, r⟩ := rn_steps 2 (59, [some (.ref 540), some (.int b1), x2, x3, x4, some (.int b5), some (.int s0)], [.int (-2), .int b5], aa_H g) rfl r
  refine rn_ic (iw_s v h) rfl decide_eq_true_iff.symm r (fun c26 l27n l27 r => ?_) (fun c26 l27n l27 r => ?_)
  · obtain ⟨n28, ln28, r⟩ := rn_steps 1 (96, [some (.ref 540), some (.int b1), x2, x3, x4, some (.int b5), some (.int s0)], [.int (-1000000)], aa_H g) rfl r
    exact rn_ire rfl r
  · obtain ⟨n29, ln29, r⟩ := rn_steps 1 (66, [some (.ref 540), some (.int b1), x2, x3, x4, some (.int b5), some (.int s0)], [.int (-2), .int s0], aa_H g) rfl r
    refine rn_ic (iw_s v h) rfl decide_eq_true_iff.symm r (fun c30 l31n l31 r => ?_) (fun c30 l31n l31 r => ?_)
    · obtain ⟨n32, ln32, r⟩ := rn_steps 4 (81, [some (.ref 540), some (.int b1), x2, x3, x4, some (.int b5), some (.int s0)], [.int (b1 - b1 / 4 * 4), .ref 540, .int s0], aa_H g) rfl r
      obtain ⟨_, n33, v1, h1, -, ln33, rc, r⟩ := rn_call (m2 := 209) (as := [.ref 540, .int (b1 - b1 / 4 * 4)]) (rest := [.int s0]) rfl rfl r
      obtain ⟨rfl, rfl⟩ := dn_209 rc
      have r : rn_s _ 251 (84, [some (.ref 540), some (.int b1), x2, x3, x4, some (.int b5), some (.int s0)], [.int (fn_209 g (b1 - b1 / 4 * 4)), .int s0], aa_H g) v h := r
      obtain ⟨n35, ln35, r⟩ := rn_steps 6 (92, [some (.ref 540), some (.int b1), x2, x3, x4, some (.int b5), some (.int s0)], [.int (b1 / 4), .ref 540, .int ((s0 - (fn_209 g (b1 - b1 / 4 * 4))) - b5)], aa_H g) rfl r
      obtain ⟨_, n36, v1, h1, -, ln36, rc, r⟩ := rn_call (m2 := 209) (as := [.ref 540, .int (b1 / 4)]) (rest := [.int ((s0 - (fn_209 g (b1 - b1 / 4 * 4))) - b5)]) rfl rfl r
      obtain ⟨rfl, rfl⟩ := dn_209 rc
      have r : rn_s _ 251 (95, [some (.ref 540), some (.int b1), x2, x3, x4, some (.int b5), some (.int s0)], [.int (fn_209 g (b1 / 4)), .int ((s0 - (fn_209 g (b1 - b1 / 4 * 4))) - b5)], aa_H g) v h := r
      obtain ⟨n38, ln38, r⟩ := rn_steps 0 (96, [some (.ref 540), some (.int b1), x2, x3, x4, some (.int b5), some (.int s0)], [.int (((s0 - (fn_209 g (b1 - b1 / 4 * 4))) - b5) + (fn_209 g (b1 / 4)))], aa_H g) rfl r
      exact rn_ire rfl r
    · obtain ⟨n39, ln39, r⟩ := rn_steps 1 (96, [some (.ref 540), some (.int b1), x2, x3, x4, some (.int b5), some (.int s0)], [.int (-1000000)], aa_H g) rfl r
      exact rn_ire rfl r
noncomputable def fn_251_40 (g : aa_G) (b1 : Int32) (b2 : Int32) (b3 : Int32) (b4 : Int32) (s0 : Int32) : Int32 × aa_G := fn_251_53 ((fn_205 g (b1 - b1 / 4 * 4) b2 b3 b4).2) b1 s0 ((fn_205 g (b1 - b1 / 4 * 4) b2 b3 b4).1)
theorem dn_251_40 {v : Option Value} {h : zz_H} {n : Nat} {g : aa_G} {b1 : Int32} {b2 : Int32} {b3 : Int32} {b4 : Int32} {s0 : Int32}  (x5 x6 : Option Value) (jx5 : rn_jk x5) (jx6 : rn_jk x6) (r : rn_s n 251 (40, [some (.ref 540), some (.int b1), some (.int b2), some (.int b3), some (.int b4), x5, x6], [.int s0], aa_H g) v h) : iw_s v h (fn_251_40 g b1 b2 b3 b4 s0) := by
  unfold fn_251_40
  obtain ⟨n22, ln22, r⟩ := rn_steps 7 (50, [some (.ref 540), some (.int b1), some (.int b2), some (.int b3), some (.int b4), some (.int s0), x6], [.int b4, .int b3, .int b2, .int (b1 - b1 / 4 * 4), .ref 540], aa_H g) rfl r
  obtain ⟨_, n23, v1, h1, -, ln23, rc, r⟩ := rn_call (m2 := 205) (as := [.ref 540, .int (b1 - b1 / 4 * 4), .int b2, .int b3, .int b4]) (rest := []) rfl rfl r
  obtain ⟨rfl, rfl⟩ := dn_205 rc
  have r : rn_s _ 251 (53, [some (.ref 540), some (.int b1), some (.int b2), some (.int b3), some (.int b4), some (.int s0), x6], [.int ((fn_205 g (b1 - b1 / 4 * 4) b2 b3 b4).1)], aa_H ((fn_205 g (b1 - b1 / 4 * 4) b2 b3 b4).2)) v h := r
  exact dn_251_53 (some (.int b2)) (some (.int b3)) (some (.int b4)) x6 rn_ji rn_ji rn_ji jx6 r
noncomputable def fn_251 (g : aa_G) (a1 : Int32) (a2 : Int32) (a3 : Int32) (a4 : Int32) : Int32 × aa_G := if (fn_239 g a1) = 0 then (-1000000, g) else if (fn_193 a2) = 0 then (-1000000, g) else if (fn_204 g a3 a4) ≠ 0 then fn_251_40 ((fn_205 g (a1 / 4) a2 a3 a4).2) a1 a2 a3 a4 ((fn_205 g (a1 / 4) a2 a3 a4).1) else (-1000000, g)
theorem dn_251 {v : Option Value} {h : zz_H} {n : Nat} {g : aa_G} {a1 : Int32} {a2 : Int32} {a3 : Int32} {a4 : Int32}  (r : rn_s n 251 (0, zz_in [.ref 540, .int a1, .int a2, .int a3, .int a4] (zz_nl 251), [], aa_H g) v h) : iw_s v h (fn_251 g a1 a2 a3 a4) := by
  have r : rn_s n 251 (0, [some (.ref 540), some (.int a1), some (.int a2), some (.int a3), some (.int a4), none, none], [], aa_H g) v h := r
  unfold fn_251
  obtain ⟨n1, ln1, r⟩ := rn_steps 1 (2, [some (.ref 540), some (.int a1), some (.int a2), some (.int a3), some (.int a4), none, none], [.int a1, .ref 540], aa_H g) rfl r
  obtain ⟨_, n2, v1, h1, -, ln2, rc, r⟩ := rn_call (m2 := 239) (as := [.ref 540, .int a1]) (rest := []) rfl rfl r
  obtain ⟨rfl, rfl⟩ := dn_239 rc
  have r : rn_s _ 251 (5, [some (.ref 540), some (.int a1), some (.int a2), some (.int a3), some (.int a4), none, none], [.int (fn_239 g a1)], aa_H g) v h := r
  refine rn_if (iw_s v h) rfl decide_eq_true_iff.symm r (fun c4 l5n l5 r => ?_) (fun c4 l5n l5 r => ?_)
  · obtain ⟨n6, ln6, r⟩ := rn_steps 0 (28, [some (.ref 540), some (.int a1), some (.int a2), some (.int a3), some (.int a4), none, none], [.int (-1000000)], aa_H g) rfl r
    exact rn_ire rfl r
  · obtain ⟨n7, ln7, r⟩ := rn_steps 0 (9, [some (.ref 540), some (.int a1), some (.int a2), some (.int a3), some (.int a4), none, none], [.int a2], aa_H g) rfl r
    obtain ⟨_, n8, v1, h1, -, ln8, rc, r⟩ := rn_call (m2 := 193) (as := [.int a2]) (rest := []) rfl rfl r
    obtain ⟨rfl, rfl⟩ := dn_193 rc
    have r : rn_s _ 251 (12, [some (.ref 540), some (.int a1), some (.int a2), some (.int a3), some (.int a4), none, none], [.int (fn_193 a2)], aa_H g) v h := r
    refine rn_if (iw_s v h) rfl decide_eq_true_iff.symm r (fun c10 l11n l11 r => ?_) (fun c10 l11n l11 r => ?_)
    · obtain ⟨n12, ln12, r⟩ := rn_steps 0 (28, [some (.ref 540), some (.int a1), some (.int a2), some (.int a3), some (.int a4), none, none], [.int (-1000000)], aa_H g) rfl r
      exact rn_ire rfl r
    · obtain ⟨n13, ln13, r⟩ := rn_steps 2 (19, [some (.ref 540), some (.int a1), some (.int a2), some (.int a3), some (.int a4), none, none], [.int a4, .int a3, .ref 540], aa_H g) rfl r
      obtain ⟨_, n14, v1, h1, -, ln14, rc, r⟩ := rn_call (m2 := 204) (as := [.ref 540, .int a3, .int a4]) (rest := []) rfl rfl r
      obtain ⟨rfl, rfl⟩ := dn_204 rc
      have r : rn_s _ 251 (22, [some (.ref 540), some (.int a1), some (.int a2), some (.int a3), some (.int a4), none, none], [.int (fn_204 g a3 a4)], aa_H g) v h := r
      refine rn_if (iw_s v h) rfl decide_eq_true_iff.symm r (fun c16 l17n l17 r => ?_) (fun c16 l17n l17 r => ?_)
      · obtain ⟨n18, ln18, r⟩ := rn_steps 6 (37, [some (.ref 540), some (.int a1), some (.int a2), some (.int a3), some (.int a4), none, none], [.int a4, .int a3, .int a2, .int (a1 / 4), .ref 540], aa_H g) rfl r
        obtain ⟨_, n19, v1, h1, -, ln19, rc, r⟩ := rn_call (m2 := 205) (as := [.ref 540, .int (a1 / 4), .int a2, .int a3, .int a4]) (rest := []) rfl rfl r
        obtain ⟨rfl, rfl⟩ := dn_205 rc
        have r : rn_s _ 251 (40, [some (.ref 540), some (.int a1), some (.int a2), some (.int a3), some (.int a4), none, none], [.int ((fn_205 g (a1 / 4) a2 a3 a4).1)], aa_H ((fn_205 g (a1 / 4) a2 a3 a4).2)) v h := r
        exact dn_251_40 none none rn_jn rn_jn r
      · obtain ⟨n21, ln21, r⟩ := rn_steps 0 (28, [some (.ref 540), some (.int a1), some (.int a2), some (.int a3), some (.int a4), none, none], [.int (-1000000)], aa_H g) rfl r
        exact rn_ire rfl r
end
section
/-! METHODS READ (printed by wip/dc/dc.py) -/
-- 216: UnequalHoursModel comesIn
noncomputable def fn_216_47 (g : aa_G) (b1 : Int32) (b2 : Int32) (b3 : Int32) (s0 : Int32) (s2 : Int32) : (aa_G × Int32) ⊕ aa_G := .inl (zz_w g 547 s2.toNatClampNeg (g 547 s0.toNatClampNeg), b3 + (-1))
theorem dn_216_47 {v : Option Value} {h : zz_H} {n : Nat} {g : aa_G} {b1 : Int32} {b2 : Int32} {b3 : Int32} {s0 : Int32} {s2 : Int32} (P : (aa_G × Int32) ⊕ aa_G → Prop) (hO0 : ∀ n2, n2 < n → ∀ (yg : aa_G) (yb3 : Int32), rn_s n2 216 (5, [some (.ref 540), some (.int b1), some (.int b2), some (.int yb3)], [], aa_H yg) v h → P (.inl (yg, yb3))) (hR : ∀ E, ig_s v h E → P (.inr E))  (r : rn_s n 216 (47, [some (.ref 540), some (.int b1), some (.int b2), some (.int b3)], [.int s0, .ref 547, .int s2, .ref 547], aa_H g) v h) : P (fn_216_47 g b1 b2 b3 s0 s2) := by
  unfold fn_216_47
  obtain ⟨hb25, n24, ln24, r⟩ := rn_ial (k := 547) rfl ⟨by decide, by decide⟩ rfl r
  have r : rn_s _ 216 (48, [some (.ref 540), some (.int b1), some (.int b2), some (.int b3)], [.int (g 547 s0.toNatClampNeg), .int s2, .ref 547], aa_H g) v h := r
  obtain ⟨hb27, n26, ln26, r⟩ := rn_ias (k := 547) rfl ⟨by decide, by decide⟩ rfl r
  have r : rn_s _ 216 (49, [some (.ref 540), some (.int b1), some (.int b2), some (.int b3)], [], aa_H (zz_w g 547 s2.toNatClampNeg (g 547 s0.toNatClampNeg))) v h := r
  obtain ⟨n28, ln28, r⟩ := rn_steps 1 (5, [some (.ref 540), some (.int b1), some (.int b2), some (.int (b3 + (-1)))], [], aa_H (zz_w g 547 s2.toNatClampNeg (g 547 s0.toNatClampNeg))) rfl r
  exact hO0 _ (by omega) (zz_w g 547 s2.toNatClampNeg (g 547 s0.toNatClampNeg)) (b3 + (-1)) r
noncomputable def fn_216_71 (g : aa_G)  : aa_G := zz_w g 540 26 ((g 540 26) + 1)
theorem dn_216_71 {v : Option Value} {h : zz_H} {n : Nat} {g : aa_G}   (x0 x1 x2 x3 : Option Value) (jx0 : rn_jk x0) (jx1 : rn_jk x1) (jx2 : rn_jk x2) (jx3 : rn_jk x3) (r : rn_s n 216 (71, [x0, x1, x2, x3], [.ref 540, .ref 540], aa_H g) v h) : ig_s v h (fn_216_71 g) := by
  unfold fn_216_71
  obtain ⟨n29, ln29, r⟩ := rn_steps 3 (79, [x0, x1, x2, x3], [], aa_H (zz_w g 540 26 ((g 540 26) + 1))) rfl r
  exact rn_ret 1 rfl r
noncomputable def fn_216_55 (g : aa_G) (b1 : Int32) (b2 : Int32) (b3 : Int32) : aa_G := fn_216_71 (zz_w (zz_w g 546 b3.toNatClampNeg b1) 547 b3.toNatClampNeg b2)
theorem dn_216_55 {v : Option Value} {h : zz_H} {n : Nat} {g : aa_G} {b1 : Int32} {b2 : Int32} {b3 : Int32}  (r : rn_s n 216 (55, [some (.ref 540), some (.int b1), some (.int b2), some (.int b3)], [], aa_H g) v h) : ig_s v h (fn_216_55 g b1 b2 b3) := by
  unfold fn_216_55
  obtain ⟨n17, ln17, r⟩ := rn_steps 3 (61, [some (.ref 540), some (.int b1), some (.int b2), some (.int b3)], [.int b1, .int b3, .ref 546], aa_H g) rfl r
  obtain ⟨hb19, n18, ln18, r⟩ := rn_ias (k := 546) rfl ⟨by decide, by decide⟩ rfl r
  have r : rn_s _ 216 (62, [some (.ref 540), some (.int b1), some (.int b2), some (.int b3)], [], aa_H (zz_w g 546 b3.toNatClampNeg b1)) v h := r
  obtain ⟨n20, ln20, r⟩ := rn_steps 3 (68, [some (.ref 540), some (.int b1), some (.int b2), some (.int b3)], [.int b2, .int b3, .ref 547], aa_H (zz_w g 546 b3.toNatClampNeg b1)) rfl r
  obtain ⟨hb22, n21, ln21, r⟩ := rn_ias (k := 547) rfl ⟨by decide, by decide⟩ rfl r
  have r : rn_s _ 216 (69, [some (.ref 540), some (.int b1), some (.int b2), some (.int b3)], [], aa_H (zz_w (zz_w g 546 b3.toNatClampNeg b1) 547 b3.toNatClampNeg b2)) v h := r
  obtain ⟨n23, ln23, r⟩ := rn_steps 1 (71, [some (.ref 540), some (.int b1), some (.int b2), some (.int b3)], [.ref 540, .ref 540], aa_H (zz_w (zz_w g 546 b3.toNatClampNeg b1) 547 b3.toNatClampNeg b2)) rfl r
  exact dn_216_71 (some (.ref 540)) (some (.int b1)) (some (.int b2)) (some (.int b3)) rn_jr rn_ji rn_ji rn_ji r
noncomputable def fn_216_5b (g : aa_G) (b1 : Int32) (b2 : Int32) (b3 : Int32) : (aa_G × Int32) ⊕ aa_G := if b3 ≤ 0 then .inr (fn_216_55 g b1 b2 b3) else if (g 546 (b3 - 1).toNatClampNeg) ≤ b1 then .inr (fn_216_55 g b1 b2 b3) else fn_216_47 (zz_w g 546 b3.toNatClampNeg (g 546 (b3 - 1).toNatClampNeg)) b1 b2 b3 (b3 - 1) b3
noncomputable def fn_216_5 (g : aa_G) (b1 : Int32) (b2 : Int32) (b3 : Int32) : aa_G := lp_f g (fun z : (aa_G × Int32) => fn_216_5b z.1 b1 b2 z.2) (g, b3)
theorem dn_216_5l {v : Option Value} {h : zz_H} {N : Nat} {b1 : Int32} {b2 : Int32} {d : aa_G} : ∀ (n : Nat), n ≤ N → ∀ (g : aa_G) (b3 : Int32), rn_s n 216 (5, [some (.ref 540), some (.int b1), some (.int b2), some (.int b3)], [], aa_H g) v h → (ig_s v h) (lp_f d (fun z : (aa_G × Int32) => fn_216_5b z.1 b1 b2 z.2) (g, b3)) := by
  generalize hf : (fun z : (aa_G × Int32) => fn_216_5b z.1 b1 b2 z.2) = f
  intro n
  induction n using Nat.strongRecOn with
  | _ n ih =>
    intro hN g b3  r
    refine lp_go ?_
    rw [← congrFun hf (g, b3)]
    show lp_q (ig_s v h) d f (fn_216_5b g b1 b2 b3)
    unfold fn_216_5b
    obtain ⟨n2, ln2, r⟩ := rn_steps 0 (6, [some (.ref 540), some (.int b1), some (.int b2), some (.int b3)], [.int b3], aa_H g) rfl r
    refine rn_if (lp_q (ig_s v h) d f) rfl decide_eq_true_iff.symm r (fun c3 l4n l4 r => ?_) (fun c3 l4n l4 r => ?_)
    · exact dn_216_55 r
    · obtain ⟨n5, ln5, r⟩ := rn_steps 4 (16, [some (.ref 540), some (.int b1), some (.int b2), some (.int b3)], [.int (b3 - 1), .ref 546], aa_H g) rfl r
      obtain ⟨hb7, n6, ln6, r⟩ := rn_ial (k := 546) rfl ⟨by decide, by decide⟩ rfl r
      have r : rn_s _ 216 (17, [some (.ref 540), some (.int b1), some (.int b2), some (.int b3)], [.int (g 546 (b3 - 1).toNatClampNeg)], aa_H g) v h := r
      obtain ⟨n8, ln8, r⟩ := rn_steps 0 (18, [some (.ref 540), some (.int b1), some (.int b2), some (.int b3)], [.int b1, .int (g 546 (b3 - 1).toNatClampNeg)], aa_H g) rfl r
      refine rn_ic (lp_q (ig_s v h) d f) rfl decide_eq_true_iff.symm r (fun c9 l10n l10 r => ?_) (fun c9 l10n l10 r => ?_)
      · exact dn_216_55 r
      · obtain ⟨n11, ln11, r⟩ := rn_steps 7 (33, [some (.ref 540), some (.int b1), some (.int b2), some (.int b3)], [.int (b3 - 1), .ref 546, .int b3, .ref 546], aa_H g) rfl r
        obtain ⟨hb13, n12, ln12, r⟩ := rn_ial (k := 546) rfl ⟨by decide, by decide⟩ rfl r
        have r : rn_s _ 216 (34, [some (.ref 540), some (.int b1), some (.int b2), some (.int b3)], [.int (g 546 (b3 - 1).toNatClampNeg), .int b3, .ref 546], aa_H g) v h := r
        obtain ⟨hb15, n14, ln14, r⟩ := rn_ias (k := 546) rfl ⟨by decide, by decide⟩ rfl r
        have r : rn_s _ 216 (35, [some (.ref 540), some (.int b1), some (.int b2), some (.int b3)], [], aa_H (zz_w g 546 b3.toNatClampNeg (g 546 (b3 - 1).toNatClampNeg))) v h := r
        obtain ⟨n16, ln16, r⟩ := rn_steps 7 (47, [some (.ref 540), some (.int b1), some (.int b2), some (.int b3)], [.int (b3 - 1), .ref 547, .int b3, .ref 547], aa_H (zz_w g 546 b3.toNatClampNeg (g 546 (b3 - 1).toNatClampNeg))) rfl r
        exact dn_216_47 (lp_q (ig_s v h) d f) (fun n2 l2 => ih n2 (by omega) (by omega)) (fun z hz => hz) r
theorem dn_216_5 {v : Option Value} {h : zz_H} {n : Nat} {g : aa_G} {b1 : Int32} {b2 : Int32} {b3 : Int32}  (r : rn_s n 216 (5, [some (.ref 540), some (.int b1), some (.int b2), some (.int b3)], [], aa_H g) v h) : (ig_s v h) (fn_216_5 g b1 b2 b3) := dn_216_5l  n (Nat.le_refl n) g b3 r
noncomputable def fn_216 (g : aa_G) (a1 : Int32) (a2 : Int32) : aa_G := fn_216_5 g a1 a2 (g 540 26)
theorem dn_216 {v : Option Value} {h : zz_H} {n : Nat} {g : aa_G} {a1 : Int32} {a2 : Int32}  (r : rn_s n 216 (0, zz_in [.ref 540, .int a1, .int a2] (zz_nl 216), [], aa_H g) v h) : ig_s v h (fn_216 g a1 a2) := by
  have r : rn_s n 216 (0, [some (.ref 540), some (.int a1), some (.int a2), none], [], aa_H g) v h := r
  unfold fn_216
  obtain ⟨n1, ln1, r⟩ := rn_steps 2 (5, [some (.ref 540), some (.int a1), some (.int a2), some (.int (g 540 26))], [], aa_H g) rfl r
  exact dn_216_5 r
-- 215: UnequalHoursModel joined
noncomputable def fn_215 (a0 : Int32) (a1 : Int32) (a2 : Int32) : Int32 := if a0.toInt = 38 then a1 &&& a2 else if a0.toInt = 39 then a1 ||| a2 else if a0.toInt = 40 then a1 ||| a2 else if a0.toInt = 41 then a1 ||| a2 else if a0.toInt = 42 then a1 * a2 else if a0.toInt = 43 then a1 + a2 else if a0.toInt = 44 then a1 ||| a2 else if a0.toInt = 45 then a1 - a2 else if a0.toInt = 46 then a1 ||| a2 else if a0.toInt = 47 then if a2 ≠ 0 then a1 / a2 else 0 else if a0.toInt = 48 then a1 ||| a2 else if a0.toInt = 49 then a1 ||| a2 else if a0.toInt = 50 then a1 ||| a2 else if a0.toInt = 51 then a1 ||| a2 else if a0.toInt = 52 then a1 ||| a2 else if a0.toInt = 53 then a1 ||| a2 else if a0.toInt = 54 then a1 ||| a2 else if a0.toInt = 55 then a1 ||| a2 else if a0.toInt = 56 then a1 ||| a2 else if a0.toInt = 57 then a1 ||| a2 else if a0.toInt = 58 then a1 ||| a2 else if a0.toInt = 59 then a1 ||| a2 else if a0.toInt = 60 then if a2 ≤ a1 then 0 else 1 else if a0.toInt = 61 then if a1 ≠ a2 then 0 else 1 else if a0.toInt = 62 then if a1 ≤ a2 then 0 else 1 else a1 ||| a2
theorem dn_215 {v : Option Value} {h : zz_H} {n : Nat} {g : aa_G} {a0 : Int32} {a1 : Int32} {a2 : Int32}  (r : rn_s n 215 (0, zz_in [.int a0, .int a1, .int a2] (zz_nl 215), [], aa_H g) v h) : ir_s g v h (fn_215 a0 a1 a2) := by
  have r : rn_s n 215 (0, [some (.int a0), some (.int a1), some (.int a2)], [], aa_H g) v h := r
  unfold fn_215
  obtain ⟨n1, ln1, r⟩ := rn_steps 0 (1, [some (.int a0), some (.int a1), some (.int a2)], [.int a0], aa_H g) rfl r
  obtain ⟨n2, ln2, r⟩ := rn_swi rfl r
  refine rn_sw1 (ir_s g v h) r (fun c3 r => ?_) (fun c3 r => ?_)
  · have r : rn_s _ 215 (173, [some (.int a0), some (.int a1), some (.int a2)], [], aa_H g) v h := r
    obtain ⟨n4, ln4, r⟩ := rn_steps 2 (176, [some (.int a0), some (.int a1), some (.int a2)], [.int (a1 &&& a2)], aa_H g) rfl r
    exact rn_ire rfl r
  · refine rn_sw1 (ir_s g v h) r (fun c5 r => ?_) (fun c5 r => ?_)
    · have r : rn_s _ 215 (177, [some (.int a0), some (.int a1), some (.int a2)], [], aa_H g) v h := r
      obtain ⟨n6, ln6, r⟩ := rn_steps 2 (180, [some (.int a0), some (.int a1), some (.int a2)], [.int (a1 ||| a2)], aa_H g) rfl r
      exact rn_ire rfl r
    · refine rn_sw1 (ir_s g v h) r (fun c7 r => ?_) (fun c7 r => ?_)
      · have r : rn_s _ 215 (177, [some (.int a0), some (.int a1), some (.int a2)], [], aa_H g) v h := r
        obtain ⟨n8, ln8, r⟩ := rn_steps 2 (180, [some (.int a0), some (.int a1), some (.int a2)], [.int (a1 ||| a2)], aa_H g) rfl r
        exact rn_ire rfl r
      · refine rn_sw1 (ir_s g v h) r (fun c9 r => ?_) (fun c9 r => ?_)
        · have r : rn_s _ 215 (177, [some (.int a0), some (.int a1), some (.int a2)], [], aa_H g) v h := r
          obtain ⟨n10, ln10, r⟩ := rn_steps 2 (180, [some (.int a0), some (.int a1), some (.int a2)], [.int (a1 ||| a2)], aa_H g) rfl r
          exact rn_ire rfl r
        · refine rn_sw1 (ir_s g v h) r (fun c11 r => ?_) (fun c11 r => ?_)
          · have r : rn_s _ 215 (124, [some (.int a0), some (.int a1), some (.int a2)], [], aa_H g) v h := r
            obtain ⟨n12, ln12, r⟩ := rn_steps 2 (127, [some (.int a0), some (.int a1), some (.int a2)], [.int (a1 * a2)], aa_H g) rfl r
            exact rn_ire rfl r
          · refine rn_sw1 (ir_s g v h) r (fun c13 r => ?_) (fun c13 r => ?_)
            · have r : rn_s _ 215 (116, [some (.int a0), some (.int a1), some (.int a2)], [], aa_H g) v h := r
              obtain ⟨n14, ln14, r⟩ := rn_steps 2 (119, [some (.int a0), some (.int a1), some (.int a2)], [.int (a1 + a2)], aa_H g) rfl r
              exact rn_ire rfl r
            · refine rn_sw1 (ir_s g v h) r (fun c15 r => ?_) (fun c15 r => ?_)
              · have r : rn_s _ 215 (177, [some (.int a0), some (.int a1), some (.int a2)], [], aa_H g) v h := r
                obtain ⟨n16, ln16, r⟩ := rn_steps 2 (180, [some (.int a0), some (.int a1), some (.int a2)], [.int (a1 ||| a2)], aa_H g) rfl r
                exact rn_ire rfl r
              · refine rn_sw1 (ir_s g v h) r (fun c17 r => ?_) (fun c17 r => ?_)
                · have r : rn_s _ 215 (120, [some (.int a0), some (.int a1), some (.int a2)], [], aa_H g) v h := r
                  obtain ⟨n18, ln18, r⟩ := rn_steps 2 (123, [some (.int a0), some (.int a1), some (.int a2)], [.int (a1 - a2)], aa_H g) rfl r
                  exact rn_ire rfl r
                · refine rn_sw1 (ir_s g v h) r (fun c19 r => ?_) (fun c19 r => ?_)
                  · have r : rn_s _ 215 (177, [some (.int a0), some (.int a1), some (.int a2)], [], aa_H g) v h := r
                    obtain ⟨n20, ln20, r⟩ := rn_steps 2 (180, [some (.int a0), some (.int a1), some (.int a2)], [.int (a1 ||| a2)], aa_H g) rfl r
                    exact rn_ire rfl r
                  · refine rn_sw1 (ir_s g v h) r (fun c21 r => ?_) (fun c21 r => ?_)
                    · have r : rn_s _ 215 (128, [some (.int a0), some (.int a1), some (.int a2)], [], aa_H g) v h := r
                      obtain ⟨n22, ln22, r⟩ := rn_steps 0 (129, [some (.int a0), some (.int a1), some (.int a2)], [.int a2], aa_H g) rfl r
                      refine rn_if (ir_s g v h) rfl decide_eq_true_iff.symm r (fun c23 l24n l24 r => ?_) (fun c23 l24n l24 r => ?_)
                      · obtain ⟨n25, ln25, r⟩ := rn_steps 1 (138, [some (.int a0), some (.int a1), some (.int a2)], [.int a2, .int a1], aa_H g) rfl r
                        obtain ⟨hd27, n26, ln26, r⟩ := rn_div rfl r
                        have r : rn_s _ 215 (139, [some (.int a0), some (.int a1), some (.int a2)], [.int (a1 / a2)], aa_H g) v h := r
                        exact rn_ire rfl r
                      · obtain ⟨n28, ln28, r⟩ := rn_steps 1 (139, [some (.int a0), some (.int a1), some (.int a2)], [.int 0], aa_H g) rfl r
                        exact rn_ire rfl r
                    · refine rn_sw1 (ir_s g v h) r (fun c29 r => ?_) (fun c29 r => ?_)
                      · have r : rn_s _ 215 (177, [some (.int a0), some (.int a1), some (.int a2)], [], aa_H g) v h := r
                        obtain ⟨n30, ln30, r⟩ := rn_steps 2 (180, [some (.int a0), some (.int a1), some (.int a2)], [.int (a1 ||| a2)], aa_H g) rfl r
                        exact rn_ire rfl r
                      · refine rn_sw1 (ir_s g v h) r (fun c31 r => ?_) (fun c31 r => ?_)
                        · have r : rn_s _ 215 (177, [some (.int a0), some (.int a1), some (.int a2)], [], aa_H g) v h := r
                          obtain ⟨n32, ln32, r⟩ := rn_steps 2 (180, [some (.int a0), some (.int a1), some (.int a2)], [.int (a1 ||| a2)], aa_H g) rfl r
                          exact rn_ire rfl r
                        · refine rn_sw1 (ir_s g v h) r (fun c33 r => ?_) (fun c33 r => ?_)
                          · have r : rn_s _ 215 (177, [some (.int a0), some (.int a1), some (.int a2)], [], aa_H g) v h := r
                            obtain ⟨n34, ln34, r⟩ := rn_steps 2 (180, [some (.int a0), some (.int a1), some (.int a2)], [.int (a1 ||| a2)], aa_H g) rfl r
                            exact rn_ire rfl r
                          · refine rn_sw1 (ir_s g v h) r (fun c35 r => ?_) (fun c35 r => ?_)
                            · have r : rn_s _ 215 (177, [some (.int a0), some (.int a1), some (.int a2)], [], aa_H g) v h := r
                              obtain ⟨n36, ln36, r⟩ := rn_steps 2 (180, [some (.int a0), some (.int a1), some (.int a2)], [.int (a1 ||| a2)], aa_H g) rfl r
                              exact rn_ire rfl r
                            · refine rn_sw1 (ir_s g v h) r (fun c37 r => ?_) (fun c37 r => ?_)
                              · have r : rn_s _ 215 (177, [some (.int a0), some (.int a1), some (.int a2)], [], aa_H g) v h := r
                                obtain ⟨n38, ln38, r⟩ := rn_steps 2 (180, [some (.int a0), some (.int a1), some (.int a2)], [.int (a1 ||| a2)], aa_H g) rfl r
                                exact rn_ire rfl r
                              · refine rn_sw1 (ir_s g v h) r (fun c39 r => ?_) (fun c39 r => ?_)
                                · have r : rn_s _ 215 (177, [some (.int a0), some (.int a1), some (.int a2)], [], aa_H g) v h := r
                                  obtain ⟨n40, ln40, r⟩ := rn_steps 2 (180, [some (.int a0), some (.int a1), some (.int a2)], [.int (a1 ||| a2)], aa_H g) rfl r
                                  exact rn_ire rfl r
                                · refine rn_sw1 (ir_s g v h) r (fun c41 r => ?_) (fun c41 r => ?_)
                                  · have r : rn_s _ 215 (177, [some (.int a0), some (.int a1), some (.int a2)], [], aa_H g) v h := r
                                    obtain ⟨n42, ln42, r⟩ := rn_steps 2 (180, [some (.int a0), some (.int a1), some (.int a2)], [.int (a1 ||| a2)], aa_H g) rfl r
                                    exact rn_ire rfl r
                                  · refine rn_sw1 (ir_s g v h) r (fun c43 r => ?_) (fun c43 r => ?_)
                                    · have r : rn_s _ 215 (177, [some (.int a0), some (.int a1), some (.int a2)], [], aa_H g) v h := r
                                      obtain ⟨n44, ln44, r⟩ := rn_steps 2 (180, [some (.int a0), some (.int a1), some (.int a2)], [.int (a1 ||| a2)], aa_H g) rfl r
                                      exact rn_ire rfl r
                                    · refine rn_sw1 (ir_s g v h) r (fun c45 r => ?_) (fun c45 r => ?_)
                                      · have r : rn_s _ 215 (177, [some (.int a0), some (.int a1), some (.int a2)], [], aa_H g) v h := r
                                        obtain ⟨n46, ln46, r⟩ := rn_steps 2 (180, [some (.int a0), some (.int a1), some (.int a2)], [.int (a1 ||| a2)], aa_H g) rfl r
                                        exact rn_ire rfl r
                                      · refine rn_sw1 (ir_s g v h) r (fun c47 r => ?_) (fun c47 r => ?_)
                                        · have r : rn_s _ 215 (177, [some (.int a0), some (.int a1), some (.int a2)], [], aa_H g) v h := r
                                          obtain ⟨n48, ln48, r⟩ := rn_steps 2 (180, [some (.int a0), some (.int a1), some (.int a2)], [.int (a1 ||| a2)], aa_H g) rfl r
                                          exact rn_ire rfl r
                                        · refine rn_sw1 (ir_s g v h) r (fun c49 r => ?_) (fun c49 r => ?_)
                                          · have r : rn_s _ 215 (177, [some (.int a0), some (.int a1), some (.int a2)], [], aa_H g) v h := r
                                            obtain ⟨n50, ln50, r⟩ := rn_steps 2 (180, [some (.int a0), some (.int a1), some (.int a2)], [.int (a1 ||| a2)], aa_H g) rfl r
                                            exact rn_ire rfl r
                                          · refine rn_sw1 (ir_s g v h) r (fun c51 r => ?_) (fun c51 r => ?_)
                                            · have r : rn_s _ 215 (177, [some (.int a0), some (.int a1), some (.int a2)], [], aa_H g) v h := r
                                              obtain ⟨n52, ln52, r⟩ := rn_steps 2 (180, [some (.int a0), some (.int a1), some (.int a2)], [.int (a1 ||| a2)], aa_H g) rfl r
                                              exact rn_ire rfl r
                                            · refine rn_sw1 (ir_s g v h) r (fun c53 r => ?_) (fun c53 r => ?_)
                                              · have r : rn_s _ 215 (140, [some (.int a0), some (.int a1), some (.int a2)], [], aa_H g) v h := r
                                                obtain ⟨n54, ln54, r⟩ := rn_steps 1 (142, [some (.int a0), some (.int a1), some (.int a2)], [.int a2, .int a1], aa_H g) rfl r
                                                refine rn_ic (ir_s g v h) rfl decide_eq_true_iff.symm r (fun c55 l56n l56 r => ?_) (fun c55 l56n l56 r => ?_)
                                                · obtain ⟨n57, ln57, r⟩ := rn_steps 0 (150, [some (.int a0), some (.int a1), some (.int a2)], [.int 0], aa_H g) rfl r
                                                  exact rn_ire rfl r
                                                · obtain ⟨n58, ln58, r⟩ := rn_steps 1 (150, [some (.int a0), some (.int a1), some (.int a2)], [.int 1], aa_H g) rfl r
                                                  exact rn_ire rfl r
                                              · refine rn_sw1 (ir_s g v h) r (fun c59 r => ?_) (fun c59 r => ?_)
                                                · have r : rn_s _ 215 (162, [some (.int a0), some (.int a1), some (.int a2)], [], aa_H g) v h := r
                                                  obtain ⟨n60, ln60, r⟩ := rn_steps 1 (164, [some (.int a0), some (.int a1), some (.int a2)], [.int a2, .int a1], aa_H g) rfl r
                                                  refine rn_ic (ir_s g v h) rfl decide_eq_true_iff.symm r (fun c61 l62n l62 r => ?_) (fun c61 l62n l62 r => ?_)
                                                  · obtain ⟨n63, ln63, r⟩ := rn_steps 0 (172, [some (.int a0), some (.int a1), some (.int a2)], [.int 0], aa_H g) rfl r
                                                    exact rn_ire rfl r
                                                  · obtain ⟨n64, ln64, r⟩ := rn_steps 1 (172, [some (.int a0), some (.int a1), some (.int a2)], [.int 1], aa_H g) rfl r
                                                    exact rn_ire rfl r
                                                · refine rn_sw1 (ir_s g v h) r (fun c65 r => ?_) (fun c65 r => ?_)
                                                  · have r : rn_s _ 215 (151, [some (.int a0), some (.int a1), some (.int a2)], [], aa_H g) v h := r
                                                    obtain ⟨n66, ln66, r⟩ := rn_steps 1 (153, [some (.int a0), some (.int a1), some (.int a2)], [.int a2, .int a1], aa_H g) rfl r
                                                    refine rn_ic (ir_s g v h) rfl decide_eq_true_iff.symm r (fun c67 l68n l68 r => ?_) (fun c67 l68n l68 r => ?_)
                                                    · obtain ⟨n69, ln69, r⟩ := rn_steps 0 (161, [some (.int a0), some (.int a1), some (.int a2)], [.int 0], aa_H g) rfl r
                                                      exact rn_ire rfl r
                                                    · obtain ⟨n70, ln70, r⟩ := rn_steps 1 (161, [some (.int a0), some (.int a1), some (.int a2)], [.int 1], aa_H g) rfl r
                                                      exact rn_ire rfl r
                                                  · have r : rn_s _ 215 (177, [some (.int a0), some (.int a1), some (.int a2)], [], aa_H g) v h := r
                                                    obtain ⟨n71, ln71, r⟩ := rn_steps 2 (180, [some (.int a0), some (.int a1), some (.int a2)], [.int (a1 ||| a2)], aa_H g) rfl r
                                                    exact rn_ire rfl r
-- 214: UnequalHoursModel holds
noncomputable def fn_214_110 (g : aa_G) (b1 : Int32) (b2 : Int32) (b3 : Int32) : (aa_G × Int32 × Int32) ⊕ (Int32 × aa_G) := .inl (g, b2, b3 + 1)
theorem dn_214_110 {v : Option Value} {h : zz_H} {n : Nat} {g : aa_G} {b1 : Int32} {b2 : Int32} {b3 : Int32} (P : (aa_G × Int32 × Int32) ⊕ (Int32 × aa_G) → Prop) (hO0 : ∀ n2, n2 < n → ∀ (yg : aa_G) (yb2 : Int32) (yb3 : Int32) (yx4 : Option Value) (_ : rn_jk yx4), rn_s n2 214 (11, [some (.ref 540), some (.int b1), some (.int yb2), some (.int yb3), yx4], [], aa_H yg) v h → P (.inl (yg, yb2, yb3))) (hR : ∀ E, iw_s v h E → P (.inr E))  (x4 : Option Value) (jx4 : rn_jk x4) (r : rn_s n 214 (110, [some (.ref 540), some (.int b1), some (.int b2), some (.int b3), x4], [], aa_H g) v h) : P (fn_214_110 g b1 b2 b3) := by
  unfold fn_214_110
  obtain ⟨n45, ln45, r⟩ := rn_steps 1 (11, [some (.ref 540), some (.int b1), some (.int b2), some (.int (b3 + 1)), x4], [], aa_H g) rfl r
  exact hO0 _ (by omega) g b2 (b3 + 1) x4 jx4 r
noncomputable def fn_214_70 (g : aa_G) (b1 : Int32) (b2 : Int32) (b3 : Int32) (s0 : Int32) (s1 : Int32) : (aa_G × Int32 × Int32) ⊕ (Int32 × aa_G) := fn_214_110 (zz_w g 549 s1.toNatClampNeg s0) b1 (b2 + 1) b3
theorem dn_214_70 {v : Option Value} {h : zz_H} {n : Nat} {g : aa_G} {b1 : Int32} {b2 : Int32} {b3 : Int32} {s0 : Int32} {s1 : Int32} (P : (aa_G × Int32 × Int32) ⊕ (Int32 × aa_G) → Prop) (hO0 : ∀ n2, n2 < n → ∀ (yg : aa_G) (yb2 : Int32) (yb3 : Int32) (yx4 : Option Value) (_ : rn_jk yx4), rn_s n2 214 (11, [some (.ref 540), some (.int b1), some (.int yb2), some (.int yb3), yx4], [], aa_H yg) v h → P (.inl (yg, yb2, yb3))) (hR : ∀ E, iw_s v h E → P (.inr E))  (x4 : Option Value) (jx4 : rn_jk x4) (r : rn_s n 214 (70, [some (.ref 540), some (.int b1), some (.int b2), some (.int b3), x4], [.int s0, .int s1, .ref 549], aa_H g) v h) : P (fn_214_70 g b1 b2 b3 s0 s1) := by
  unfold fn_214_70
  obtain ⟨hb47, n46, ln46, r⟩ := rn_ias (k := 549) rfl ⟨by decide, by decide⟩ rfl r
  have r : rn_s _ 214 (71, [some (.ref 540), some (.int b1), some (.int b2), some (.int b3), x4], [], aa_H (zz_w g 549 s1.toNatClampNeg s0)) v h := r
  obtain ⟨n48, ln48, r⟩ := rn_steps 1 (110, [some (.ref 540), some (.int b1), some (.int (b2 + 1)), some (.int b3), x4], [], aa_H (zz_w g 549 s1.toNatClampNeg s0)) rfl r
  exact dn_214_110 (P) (fun n2 l2 => hO0 n2 (by omega)) (fun z hz => hR _ hz) x4 jx4 r
noncomputable def fn_214_11b (g : aa_G) (b1 : Int32) (b2 : Int32) (b3 : Int32) : (aa_G × Int32 × Int32) ⊕ (Int32 × aa_G) := if (g 541 (b1 + 6).toNatClampNeg) ≤ b3 then if b2 = 0 then .inr (1, g) else if (g 549 (0 : Int32).toNatClampNeg) ≠ 1 then .inr (0, g) else .inr (1, g) else if 200000 ≤ (g 541 (259 + b3).toNatClampNeg) then fn_214_110 (zz_w g 549 ((b2 + (-1)) - 1).toNatClampNeg (fn_215 ((g 541 (259 + b3).toNatClampNeg) - 200000) (g 549 ((b2 + (-1)) - 1).toNatClampNeg) (g 549 (b2 + (-1)).toNatClampNeg))) b1 (b2 + (-1)) b3 else if 100000 ≤ (g 541 (259 + b3).toNatClampNeg) then fn_214_70 g b1 b2 b3 (g 548 ((g 541 (259 + b3).toNatClampNeg) - 100000).toNatClampNeg) b2 else fn_214_70 g b1 b2 b3 (g 541 (259 + b3).toNatClampNeg) b2
noncomputable def fn_214_11 (g : aa_G) (b1 : Int32) (b2 : Int32) (b3 : Int32) : Int32 × aa_G := lp_f (0, g) (fun z : (aa_G × Int32 × Int32) => fn_214_11b z.1 b1 z.2.1 z.2.2) (g, b2, b3)
theorem dn_214_11l {v : Option Value} {h : zz_H} {N : Nat} {b1 : Int32} {d : Int32 × aa_G} : ∀ (n : Nat), n ≤ N → ∀ (g : aa_G) (b2 : Int32) (b3 : Int32) (x4 : Option Value) (jx4 : rn_jk x4), rn_s n 214 (11, [some (.ref 540), some (.int b1), some (.int b2), some (.int b3), x4], [], aa_H g) v h → (iw_s v h) (lp_f d (fun z : (aa_G × Int32 × Int32) => fn_214_11b z.1 b1 z.2.1 z.2.2) (g, b2, b3)) := by
  generalize hf : (fun z : (aa_G × Int32 × Int32) => fn_214_11b z.1 b1 z.2.1 z.2.2) = f
  intro n
  induction n using Nat.strongRecOn with
  | _ n ih =>
    intro hN g b2 b3 x4 jx4 r
    refine lp_go ?_
    rw [← congrFun hf (g, b2, b3)]
    show lp_q (iw_s v h) d f (fn_214_11b g b1 b2 b3)
    unfold fn_214_11b
    obtain ⟨n5, ln5, r⟩ := rn_steps 5 (20, [some (.ref 540), some (.int b1), some (.int b2), some (.int b3), x4], [.int (b1 + 6), .ref 541, .int b3], aa_H g) rfl r
    obtain ⟨hb7, n6, ln6, r⟩ := rn_ial (k := 541) rfl ⟨by decide, by decide⟩ rfl r
    have r : rn_s _ 214 (21, [some (.ref 540), some (.int b1), some (.int b2), some (.int b3), x4], [.int (g 541 (b1 + 6).toNatClampNeg), .int b3], aa_H g) v h := r
    refine rn_ic (lp_q (iw_s v h) d f) rfl decide_eq_true_iff.symm r (fun c8 l9n l9 r => ?_) (fun c8 l9n l9 r => ?_)
    · obtain ⟨n10, ln10, r⟩ := rn_steps 0 (117, [some (.ref 540), some (.int b1), some (.int b2), some (.int b3), x4], [.int b2], aa_H g) rfl r
      refine rn_if (lp_q (iw_s v h) d f) rfl decide_eq_true_iff.symm r (fun c11 l12n l12 r => ?_) (fun c11 l12n l12 r => ?_)
      · obtain ⟨n13, ln13, r⟩ := rn_steps 1 (135, [some (.ref 540), some (.int b1), some (.int b2), some (.int b3), x4], [.int 1], aa_H g) rfl r
        exact rn_ire rfl r
      · obtain ⟨n14, ln14, r⟩ := rn_steps 2 (125, [some (.ref 540), some (.int b1), some (.int b2), some (.int b3), x4], [.int 0, .ref 549], aa_H g) rfl r
        obtain ⟨hb16, n15, ln15, r⟩ := rn_ial (k := 549) rfl ⟨by decide, by decide⟩ rfl r
        have r : rn_s _ 214 (126, [some (.ref 540), some (.int b1), some (.int b2), some (.int b3), x4], [.int (g 549 (0 : Int32).toNatClampNeg)], aa_H g) v h := r
        obtain ⟨n17, ln17, r⟩ := rn_steps 0 (127, [some (.ref 540), some (.int b1), some (.int b2), some (.int b3), x4], [.int 1, .int (g 549 (0 : Int32).toNatClampNeg)], aa_H g) rfl r
        refine rn_ic (lp_q (iw_s v h) d f) rfl decide_eq_true_iff.symm r (fun c18 l19n l19 r => ?_) (fun c18 l19n l19 r => ?_)
        · obtain ⟨n20, ln20, r⟩ := rn_steps 0 (135, [some (.ref 540), some (.int b1), some (.int b2), some (.int b3), x4], [.int 0], aa_H g) rfl r
          exact rn_ire rfl r
        · obtain ⟨n21, ln21, r⟩ := rn_steps 1 (135, [some (.ref 540), some (.int b1), some (.int b2), some (.int b3), x4], [.int 1], aa_H g) rfl r
          exact rn_ire rfl r
    · obtain ⟨n22, ln22, r⟩ := rn_steps 4 (33, [some (.ref 540), some (.int b1), some (.int b2), some (.int b3), x4], [.int (259 + b3), .ref 541], aa_H g) rfl r
      obtain ⟨hb24, n23, ln23, r⟩ := rn_ial (k := 541) rfl ⟨by decide, by decide⟩ rfl r
      have r : rn_s _ 214 (34, [some (.ref 540), some (.int b1), some (.int b2), some (.int b3), x4], [.int (g 541 (259 + b3).toNatClampNeg)], aa_H g) v h := r
      obtain ⟨n25, ln25, r⟩ := rn_steps 2 (40, [some (.ref 540), some (.int b1), some (.int b2), some (.int b3), some (.int (g 541 (259 + b3).toNatClampNeg))], [.int 200000, .int (g 541 (259 + b3).toNatClampNeg)], aa_H g) rfl r
      refine rn_ic (lp_q (iw_s v h) d f) rfl decide_eq_true_iff.symm r (fun c26 l27n l27 r => ?_) (fun c26 l27n l27 r => ?_)
      · obtain ⟨n28, ln28, r⟩ := rn_steps 13 (99, [some (.ref 540), some (.int b1), some (.int (b2 + (-1))), some (.int b3), some (.int (g 541 (259 + b3).toNatClampNeg))], [.int ((b2 + (-1)) - 1), .ref 549, .int ((g 541 (259 + b3).toNatClampNeg) - 200000), .int ((b2 + (-1)) - 1), .ref 549], aa_H g) rfl r
        obtain ⟨hb30, n29, ln29, r⟩ := rn_ial (k := 549) rfl ⟨by decide, by decide⟩ rfl r
        have r : rn_s _ 214 (100, [some (.ref 540), some (.int b1), some (.int (b2 + (-1))), some (.int b3), some (.int (g 541 (259 + b3).toNatClampNeg))], [.int (g 549 ((b2 + (-1)) - 1).toNatClampNeg), .int ((g 541 (259 + b3).toNatClampNeg) - 200000), .int ((b2 + (-1)) - 1), .ref 549], aa_H g) v h := r
        obtain ⟨n31, ln31, r⟩ := rn_steps 2 (105, [some (.ref 540), some (.int b1), some (.int (b2 + (-1))), some (.int b3), some (.int (g 541 (259 + b3).toNatClampNeg))], [.int (b2 + (-1)), .ref 549, .int (g 549 ((b2 + (-1)) - 1).toNatClampNeg), .int ((g 541 (259 + b3).toNatClampNeg) - 200000), .int ((b2 + (-1)) - 1), .ref 549], aa_H g) rfl r
        obtain ⟨hb33, n32, ln32, r⟩ := rn_ial (k := 549) rfl ⟨by decide, by decide⟩ rfl r
        have r : rn_s _ 214 (106, [some (.ref 540), some (.int b1), some (.int (b2 + (-1))), some (.int b3), some (.int (g 541 (259 + b3).toNatClampNeg))], [.int (g 549 (b2 + (-1)).toNatClampNeg), .int (g 549 ((b2 + (-1)) - 1).toNatClampNeg), .int ((g 541 (259 + b3).toNatClampNeg) - 200000), .int ((b2 + (-1)) - 1), .ref 549], aa_H g) v h := r
        obtain ⟨_, n34, v1, h1, -, ln34, rc, r⟩ := rn_call (m2 := 215) (as := [.int ((g 541 (259 + b3).toNatClampNeg) - 200000), .int (g 549 ((b2 + (-1)) - 1).toNatClampNeg), .int (g 549 (b2 + (-1)).toNatClampNeg)]) (rest := [.int ((b2 + (-1)) - 1), .ref 549]) rfl rfl r
        obtain ⟨rfl, rfl⟩ := dn_215 rc
        have r : rn_s _ 214 (109, [some (.ref 540), some (.int b1), some (.int (b2 + (-1))), some (.int b3), some (.int (g 541 (259 + b3).toNatClampNeg))], [.int (fn_215 ((g 541 (259 + b3).toNatClampNeg) - 200000) (g 549 ((b2 + (-1)) - 1).toNatClampNeg) (g 549 (b2 + (-1)).toNatClampNeg)), .int ((b2 + (-1)) - 1), .ref 549], aa_H g) v h := r
        obtain ⟨hb37, n36, ln36, r⟩ := rn_ias (k := 549) rfl ⟨by decide, by decide⟩ rfl r
        have r : rn_s _ 214 (110, [some (.ref 540), some (.int b1), some (.int (b2 + (-1))), some (.int b3), some (.int (g 541 (259 + b3).toNatClampNeg))], [], aa_H (zz_w g 549 ((b2 + (-1)) - 1).toNatClampNeg (fn_215 ((g 541 (259 + b3).toNatClampNeg) - 200000) (g 549 ((b2 + (-1)) - 1).toNatClampNeg) (g 549 (b2 + (-1)).toNatClampNeg)))) v h := r
        exact dn_214_110 (lp_q (iw_s v h) d f) (fun n2 l2 => ih n2 (by omega) (by omega)) (fun z hz => hz) (some (.int (g 541 (259 + b3).toNatClampNeg))) rn_ji r
      · obtain ⟨n38, ln38, r⟩ := rn_steps 4 (52, [some (.ref 540), some (.int b1), some (.int b2), some (.int b3), some (.int (g 541 (259 + b3).toNatClampNeg))], [.int 100000, .int (g 541 (259 + b3).toNatClampNeg), .int b2, .ref 549], aa_H g) rfl r
        refine rn_ic (lp_q (iw_s v h) d f) rfl decide_eq_true_iff.symm r (fun c39 l40n l40 r => ?_) (fun c39 l40n l40 r => ?_)
        · obtain ⟨n41, ln41, r⟩ := rn_steps 4 (69, [some (.ref 540), some (.int b1), some (.int b2), some (.int b3), some (.int (g 541 (259 + b3).toNatClampNeg))], [.int ((g 541 (259 + b3).toNatClampNeg) - 100000), .ref 548, .int b2, .ref 549], aa_H g) rfl r
          obtain ⟨hb43, n42, ln42, r⟩ := rn_ial (k := 548) rfl ⟨by decide, by decide⟩ rfl r
          have r : rn_s _ 214 (70, [some (.ref 540), some (.int b1), some (.int b2), some (.int b3), some (.int (g 541 (259 + b3).toNatClampNeg))], [.int (g 548 ((g 541 (259 + b3).toNatClampNeg) - 100000).toNatClampNeg), .int b2, .ref 549], aa_H g) v h := r
          exact dn_214_70 (lp_q (iw_s v h) d f) (fun n2 l2 => ih n2 (by omega) (by omega)) (fun z hz => hz) (some (.int (g 541 (259 + b3).toNatClampNeg))) rn_ji r
        · obtain ⟨n44, ln44, r⟩ := rn_steps 1 (70, [some (.ref 540), some (.int b1), some (.int b2), some (.int b3), some (.int (g 541 (259 + b3).toNatClampNeg))], [.int (g 541 (259 + b3).toNatClampNeg), .int b2, .ref 549], aa_H g) rfl r
          exact dn_214_70 (lp_q (iw_s v h) d f) (fun n2 l2 => ih n2 (by omega) (by omega)) (fun z hz => hz) (some (.int (g 541 (259 + b3).toNatClampNeg))) rn_ji r
theorem dn_214_11 {v : Option Value} {h : zz_H} {n : Nat} {g : aa_G} {b1 : Int32} {b2 : Int32} {b3 : Int32}  (x4 : Option Value) (jx4 : rn_jk x4) (r : rn_s n 214 (11, [some (.ref 540), some (.int b1), some (.int b2), some (.int b3), x4], [], aa_H g) v h) : (iw_s v h) (fn_214_11 g b1 b2 b3) := dn_214_11l  n (Nat.le_refl n) g b2 b3 x4 jx4 r
noncomputable def fn_214 (g : aa_G) (a1 : Int32) : Int32 × aa_G := fn_214_11 g a1 0 (g 541 (a1 + 5).toNatClampNeg)
theorem dn_214 {v : Option Value} {h : zz_H} {n : Nat} {g : aa_G} {a1 : Int32}  (r : rn_s n 214 (0, zz_in [.ref 540, .int a1] (zz_nl 214), [], aa_H g) v h) : iw_s v h (fn_214 g a1) := by
  have r : rn_s n 214 (0, [some (.ref 540), some (.int a1), none, none, none], [], aa_H g) v h := r
  unfold fn_214
  obtain ⟨n1, ln1, r⟩ := rn_steps 6 (9, [some (.ref 540), some (.int a1), some (.int 0), none, none], [.int (a1 + 5), .ref 541], aa_H g) rfl r
  obtain ⟨hb3, n2, ln2, r⟩ := rn_ial (k := 541) rfl ⟨by decide, by decide⟩ rfl r
  have r : rn_s _ 214 (10, [some (.ref 540), some (.int a1), some (.int 0), none, none], [.int (g 541 (a1 + 5).toNatClampNeg)], aa_H g) v h := r
  obtain ⟨n4, ln4, r⟩ := rn_steps 0 (11, [some (.ref 540), some (.int a1), some (.int 0), some (.int (g 541 (a1 + 5).toNatClampNeg)), none], [], aa_H g) rfl r
  exact dn_214_11 none rn_jn r
-- 213: UnequalHoursModel rungAt
noncomputable def fn_213_118 (g : aa_G) (b5 : Int32) : Int32 × aa_G := if (g 540 18) ≤ b5 then (-1, g) else ((g 540 17) + b5, g)
theorem dn_213_118 {v : Option Value} {h : zz_H} {n : Nat} {g : aa_G} {b5 : Int32}  (x1 x2 x3 x4 : Option Value) (jx1 : rn_jk x1) (jx2 : rn_jk x2) (jx3 : rn_jk x3) (jx4 : rn_jk x4) (r : rn_s n 213 (118, [some (.ref 540), x1, x2, x3, x4, some (.int b5)], [], aa_H g) v h) : iw_s v h (fn_213_118 g b5) := by
  unfold fn_213_118
  obtain ⟨n45, ln45, r⟩ := rn_steps 2 (124, [some (.ref 540), x1, x2, x3, x4, some (.int b5)], [.int (g 540 18), .int b5], aa_H g) rfl r
  refine rn_ic (iw_s v h) rfl decide_eq_true_iff.symm r (fun c46 l47n l47 r => ?_) (fun c46 l47n l47 r => ?_)
  · obtain ⟨n48, ln48, r⟩ := rn_steps 0 (138, [some (.ref 540), x1, x2, x3, x4, some (.int b5)], [.int (-1)], aa_H g) rfl r
    exact rn_ire rfl r
  · obtain ⟨n49, ln49, r⟩ := rn_steps 4 (138, [some (.ref 540), x1, x2, x3, x4, some (.int b5)], [.int ((g 540 17) + b5)], aa_H g) rfl r
    exact rn_ire rfl r
noncomputable def fn_213_81 (g : aa_G) (b4 : Int32) (s0 : Int32) : Int32 × aa_G := if s0 ≠ 0 then fn_213_118 g (fn_206 g (((g 541 (b4 + 1).toNatClampNeg) * (g 541 (1 : Int32).toNatClampNeg)) + (g 541 (b4 + 2).toNatClampNeg))) else (-1, g)
theorem dn_213_81 {v : Option Value} {h : zz_H} {n : Nat} {g : aa_G} {b4 : Int32} {s0 : Int32}  (x1 x2 x3 x5 : Option Value) (jx1 : rn_jk x1) (jx2 : rn_jk x2) (jx3 : rn_jk x3) (jx5 : rn_jk x5) (r : rn_s n 213 (81, [some (.ref 540), x1, x2, x3, some (.int b4), x5], [.int s0], aa_H g) v h) : iw_s v h (fn_213_81 g b4 s0) := by
  unfold fn_213_81
  refine rn_if (iw_s v h) rfl decide_eq_true_iff.symm r (fun c29 l30n l30 r => ?_) (fun c29 l30n l30 r => ?_)
  · obtain ⟨n31, ln31, r⟩ := rn_steps 5 (95, [some (.ref 540), x1, x2, x3, some (.int b4), x5], [.int (b4 + 1), .ref 541, .ref 540], aa_H g) rfl r
    obtain ⟨hb33, n32, ln32, r⟩ := rn_ial (k := 541) rfl ⟨by decide, by decide⟩ rfl r
    have r : rn_s _ 213 (96, [some (.ref 540), x1, x2, x3, some (.int b4), x5], [.int (g 541 (b4 + 1).toNatClampNeg), .ref 540], aa_H g) v h := r
    obtain ⟨n34, ln34, r⟩ := rn_steps 2 (101, [some (.ref 540), x1, x2, x3, some (.int b4), x5], [.int 1, .ref 541, .int (g 541 (b4 + 1).toNatClampNeg), .ref 540], aa_H g) rfl r
    obtain ⟨hb36, n35, ln35, r⟩ := rn_ial (k := 541) rfl ⟨by decide, by decide⟩ rfl r
    have r : rn_s _ 213 (102, [some (.ref 540), x1, x2, x3, some (.int b4), x5], [.int (g 541 (1 : Int32).toNatClampNeg), .int (g 541 (b4 + 1).toNatClampNeg), .ref 540], aa_H g) v h := r
    obtain ⟨n37, ln37, r⟩ := rn_steps 5 (111, [some (.ref 540), x1, x2, x3, some (.int b4), x5], [.int (b4 + 2), .ref 541, .int ((g 541 (b4 + 1).toNatClampNeg) * (g 541 (1 : Int32).toNatClampNeg)), .ref 540], aa_H g) rfl r
    obtain ⟨hb39, n38, ln38, r⟩ := rn_ial (k := 541) rfl ⟨by decide, by decide⟩ rfl r
    have r : rn_s _ 213 (112, [some (.ref 540), x1, x2, x3, some (.int b4), x5], [.int (g 541 (b4 + 2).toNatClampNeg), .int ((g 541 (b4 + 1).toNatClampNeg) * (g 541 (1 : Int32).toNatClampNeg)), .ref 540], aa_H g) v h := r
    obtain ⟨n40, ln40, r⟩ := rn_steps 0 (113, [some (.ref 540), x1, x2, x3, some (.int b4), x5], [.int (((g 541 (b4 + 1).toNatClampNeg) * (g 541 (1 : Int32).toNatClampNeg)) + (g 541 (b4 + 2).toNatClampNeg)), .ref 540], aa_H g) rfl r
    obtain ⟨_, n41, v1, h1, -, ln41, rc, r⟩ := rn_call (m2 := 206) (as := [.ref 540, .int (((g 541 (b4 + 1).toNatClampNeg) * (g 541 (1 : Int32).toNatClampNeg)) + (g 541 (b4 + 2).toNatClampNeg))]) (rest := []) rfl rfl r
    obtain ⟨rfl, rfl⟩ := dn_206 rc
    have r : rn_s _ 213 (116, [some (.ref 540), x1, x2, x3, some (.int b4), x5], [.int (fn_206 g (((g 541 (b4 + 1).toNatClampNeg) * (g 541 (1 : Int32).toNatClampNeg)) + (g 541 (b4 + 2).toNatClampNeg)))], aa_H g) v h := r
    obtain ⟨n43, ln43, r⟩ := rn_steps 0 (118, [some (.ref 540), x1, x2, x3, some (.int b4), some (.int (fn_206 g (((g 541 (b4 + 1).toNatClampNeg) * (g 541 (1 : Int32).toNatClampNeg)) + (g 541 (b4 + 2).toNatClampNeg))))], [], aa_H g) rfl r
    exact dn_213_118 x1 x2 x3 (some (.int b4)) jx1 jx2 jx3 rn_ji r
  · obtain ⟨n44, ln44, r⟩ := rn_steps 0 (85, [some (.ref 540), x1, x2, x3, some (.int b4), x5], [.int (-1)], aa_H g) rfl r
    exact rn_ire rfl r
noncomputable def fn_213_57 (g : aa_G) (b1 : Int32) (b2 : Int32) (b4 : Int32) (s1 : Int32) : Int32 × aa_G := fn_213_81 ((fn_214 (zz_w (zz_w (zz_w g 548 s1.toNatClampNeg (g 540 18)) 548 (3 : Int32).toNatClampNeg b1) 548 (4 : Int32).toNatClampNeg b2) b4).2) b4 ((fn_214 (zz_w (zz_w (zz_w g 548 s1.toNatClampNeg (g 540 18)) 548 (3 : Int32).toNatClampNeg b1) 548 (4 : Int32).toNatClampNeg b2) b4).1)
theorem dn_213_57 {v : Option Value} {h : zz_H} {n : Nat} {g : aa_G} {b1 : Int32} {b2 : Int32} {b4 : Int32} {s1 : Int32}  (x3 x5 : Option Value) (jx3 : rn_jk x3) (jx5 : rn_jk x5) (r : rn_s n 213 (57, [some (.ref 540), some (.int b1), some (.int b2), x3, some (.int b4), x5], [.ref 540, .int s1, .ref 548], aa_H g) v h) : iw_s v h (fn_213_57 g b1 b2 b4 s1) := by
  unfold fn_213_57
  obtain ⟨n17, ln17, r⟩ := rn_steps 0 (60, [some (.ref 540), some (.int b1), some (.int b2), x3, some (.int b4), x5], [.int (g 540 18), .int s1, .ref 548], aa_H g) rfl r
  obtain ⟨hb19, n18, ln18, r⟩ := rn_ias (k := 548) rfl ⟨by decide, by decide⟩ rfl r
  have r : rn_s _ 213 (61, [some (.ref 540), some (.int b1), some (.int b2), x3, some (.int b4), x5], [], aa_H (zz_w g 548 s1.toNatClampNeg (g 540 18))) v h := r
  obtain ⟨n20, ln20, r⟩ := rn_steps 3 (67, [some (.ref 540), some (.int b1), some (.int b2), x3, some (.int b4), x5], [.int b1, .int 3, .ref 548], aa_H (zz_w g 548 s1.toNatClampNeg (g 540 18))) rfl r
  obtain ⟨hb22, n21, ln21, r⟩ := rn_ias (k := 548) rfl ⟨by decide, by decide⟩ rfl r
  have r : rn_s _ 213 (68, [some (.ref 540), some (.int b1), some (.int b2), x3, some (.int b4), x5], [], aa_H (zz_w (zz_w g 548 s1.toNatClampNeg (g 540 18)) 548 (3 : Int32).toNatClampNeg b1)) v h := r
  obtain ⟨n23, ln23, r⟩ := rn_steps 3 (74, [some (.ref 540), some (.int b1), some (.int b2), x3, some (.int b4), x5], [.int b2, .int 4, .ref 548], aa_H (zz_w (zz_w g 548 s1.toNatClampNeg (g 540 18)) 548 (3 : Int32).toNatClampNeg b1)) rfl r
  obtain ⟨hb25, n24, ln24, r⟩ := rn_ias (k := 548) rfl ⟨by decide, by decide⟩ rfl r
  have r : rn_s _ 213 (75, [some (.ref 540), some (.int b1), some (.int b2), x3, some (.int b4), x5], [], aa_H (zz_w (zz_w (zz_w g 548 s1.toNatClampNeg (g 540 18)) 548 (3 : Int32).toNatClampNeg b1) 548 (4 : Int32).toNatClampNeg b2)) v h := r
  obtain ⟨n26, ln26, r⟩ := rn_steps 1 (78, [some (.ref 540), some (.int b1), some (.int b2), x3, some (.int b4), x5], [.int b4, .ref 540], aa_H (zz_w (zz_w (zz_w g 548 s1.toNatClampNeg (g 540 18)) 548 (3 : Int32).toNatClampNeg b1) 548 (4 : Int32).toNatClampNeg b2)) rfl r
  obtain ⟨_, n27, v1, h1, -, ln27, rc, r⟩ := rn_call (m2 := 214) (as := [.ref 540, .int b4]) (rest := []) rfl rfl r
  obtain ⟨rfl, rfl⟩ := dn_214 rc
  have r : rn_s _ 213 (81, [some (.ref 540), some (.int b1), some (.int b2), x3, some (.int b4), x5], [.int ((fn_214 (zz_w (zz_w (zz_w g 548 s1.toNatClampNeg (g 540 18)) 548 (3 : Int32).toNatClampNeg b1) 548 (4 : Int32).toNatClampNeg b2) b4).1)], aa_H ((fn_214 (zz_w (zz_w (zz_w g 548 s1.toNatClampNeg (g 540 18)) 548 (3 : Int32).toNatClampNeg b1) 548 (4 : Int32).toNatClampNeg b2) b4).2)) v h := r
  exact dn_213_81 (some (.int b1)) (some (.int b2)) x3 x5 rn_ji rn_ji jx3 jx5 r
noncomputable def fn_213 (g : aa_G) (a1 : Int32) (a2 : Int32) (a3 : Int32) : Int32 × aa_G := if (g 541 ((203 + (7 * a3)) + 2).toNatClampNeg) < (g 541 (1 : Int32).toNatClampNeg) then fn_213_57 (zz_w (zz_w g 548 (0 : Int32).toNatClampNeg (a2 - a2 / 7 * 7)) 548 (1 : Int32).toNatClampNeg (a2 - a2 / 360 * 360)) a1 a2 (203 + (7 * a3)) 2 else (-1, g)
theorem dn_213 {v : Option Value} {h : zz_H} {n : Nat} {g : aa_G} {a1 : Int32} {a2 : Int32} {a3 : Int32}  (r : rn_s n 213 (0, zz_in [.ref 540, .int a1, .int a2, .int a3] (zz_nl 213), [], aa_H g) v h) : iw_s v h (fn_213 g a1 a2 a3) := by
  have r : rn_s n 213 (0, [some (.ref 540), some (.int a1), some (.int a2), some (.int a3), none, none], [], aa_H g) v h := r
  unfold fn_213
  obtain ⟨n1, ln1, r⟩ := rn_steps 10 (18, [some (.ref 540), some (.int a1), some (.int a2), some (.int a3), some (.int (203 + (7 * a3))), none], [.int ((203 + (7 * a3)) + 2), .ref 541], aa_H g) rfl r
  obtain ⟨hb3, n2, ln2, r⟩ := rn_ial (k := 541) rfl ⟨by decide, by decide⟩ rfl r
  have r : rn_s _ 213 (19, [some (.ref 540), some (.int a1), some (.int a2), some (.int a3), some (.int (203 + (7 * a3))), none], [.int (g 541 ((203 + (7 * a3)) + 2).toNatClampNeg)], aa_H g) v h := r
  obtain ⟨n4, ln4, r⟩ := rn_steps 2 (24, [some (.ref 540), some (.int a1), some (.int a2), some (.int a3), some (.int (203 + (7 * a3))), none], [.int 1, .ref 541, .int (g 541 ((203 + (7 * a3)) + 2).toNatClampNeg)], aa_H g) rfl r
  obtain ⟨hb6, n5, ln5, r⟩ := rn_ial (k := 541) rfl ⟨by decide, by decide⟩ rfl r
  have r : rn_s _ 213 (25, [some (.ref 540), some (.int a1), some (.int a2), some (.int a3), some (.int (203 + (7 * a3))), none], [.int (g 541 (1 : Int32).toNatClampNeg), .int (g 541 ((203 + (7 * a3)) + 2).toNatClampNeg)], aa_H g) v h := r
  refine rn_ic (iw_s v h) rfl decide_eq_true_iff.symm r (fun c7 l8n l8 r => ?_) (fun c7 l8n l8 r => ?_)
  · obtain ⟨n9, ln9, r⟩ := rn_steps 5 (39, [some (.ref 540), some (.int a1), some (.int a2), some (.int a3), some (.int (203 + (7 * a3))), none], [.int (a2 - a2 / 7 * 7), .int 0, .ref 548], aa_H g) rfl r
    obtain ⟨hb11, n10, ln10, r⟩ := rn_ias (k := 548) rfl ⟨by decide, by decide⟩ rfl r
    have r : rn_s _ 213 (40, [some (.ref 540), some (.int a1), some (.int a2), some (.int a3), some (.int (203 + (7 * a3))), none], [], aa_H (zz_w g 548 (0 : Int32).toNatClampNeg (a2 - a2 / 7 * 7))) v h := r
    obtain ⟨n12, ln12, r⟩ := rn_steps 5 (50, [some (.ref 540), some (.int a1), some (.int a2), some (.int a3), some (.int (203 + (7 * a3))), none], [.int (a2 - a2 / 360 * 360), .int 1, .ref 548], aa_H (zz_w g 548 (0 : Int32).toNatClampNeg (a2 - a2 / 7 * 7))) rfl r
    obtain ⟨hb14, n13, ln13, r⟩ := rn_ias (k := 548) rfl ⟨by decide, by decide⟩ rfl r
    have r : rn_s _ 213 (51, [some (.ref 540), some (.int a1), some (.int a2), some (.int a3), some (.int (203 + (7 * a3))), none], [], aa_H (zz_w (zz_w g 548 (0 : Int32).toNatClampNeg (a2 - a2 / 7 * 7)) 548 (1 : Int32).toNatClampNeg (a2 - a2 / 360 * 360))) v h := r
    obtain ⟨n15, ln15, r⟩ := rn_steps 3 (57, [some (.ref 540), some (.int a1), some (.int a2), some (.int a3), some (.int (203 + (7 * a3))), none], [.ref 540, .int 2, .ref 548], aa_H (zz_w (zz_w g 548 (0 : Int32).toNatClampNeg (a2 - a2 / 7 * 7)) 548 (1 : Int32).toNatClampNeg (a2 - a2 / 360 * 360))) rfl r
    exact dn_213_57 (some (.int a3)) none rn_ji rn_jn r
  · obtain ⟨n16, ln16, r⟩ := rn_steps 0 (29, [some (.ref 540), some (.int a1), some (.int a2), some (.int a3), some (.int (203 + (7 * a3))), none], [.int (-1)], aa_H g) rfl r
    exact rn_ire rfl r
-- 212: UnequalHoursModel layRings
noncomputable def fn_212_125 (g : aa_G) (b1 : Int32) (b2 : Int32) (b3 : Int32) : (aa_G × Int32) ⊕ aa_G := .inl (g, b3 + 1)
theorem dn_212_125 {v : Option Value} {h : zz_H} {n : Nat} {g : aa_G} {b1 : Int32} {b2 : Int32} {b3 : Int32} (P : (aa_G × Int32) ⊕ aa_G → Prop) (hO0 : ∀ n2, n2 < n → ∀ (yg : aa_G) (yb3 : Int32) (yx4 yx5 : Option Value) (_ : rn_jk yx4) (_ : rn_jk yx5), rn_s n2 212 (7, [some (.ref 540), some (.int b1), some (.int b2), some (.int yb3), yx4, yx5], [], aa_H yg) v h → P (.inl (yg, yb3))) (hR : ∀ E, ig_s v h E → P (.inr E))  (x4 x5 : Option Value) (jx4 : rn_jk x4) (jx5 : rn_jk x5) (r : rn_s n 212 (125, [some (.ref 540), some (.int b1), some (.int b2), some (.int b3), x4, x5], [], aa_H g) v h) : P (fn_212_125 g b1 b2 b3) := by
  unfold fn_212_125
  obtain ⟨n49, ln49, r⟩ := rn_steps 1 (7, [some (.ref 540), some (.int b1), some (.int b2), some (.int (b3 + 1)), x4, x5], [], aa_H g) rfl r
  exact hO0 _ (by omega) g (b3 + 1) x4 x5 jx4 jx5 r
noncomputable def fn_212_104 (g : aa_G) (b1 : Int32) (b2 : Int32) (b3 : Int32) (s0 : Int32) : (aa_G × Int32) ⊕ aa_G := if s0 < 0 then fn_212_125 g b1 b2 b3 else if 86400 ≤ s0 then fn_212_125 g b1 b2 b3 else fn_212_125 (fn_216 g s0 b3) b1 b2 b3
theorem dn_212_104 {v : Option Value} {h : zz_H} {n : Nat} {g : aa_G} {b1 : Int32} {b2 : Int32} {b3 : Int32} {s0 : Int32} (P : (aa_G × Int32) ⊕ aa_G → Prop) (hO0 : ∀ n2, n2 < n → ∀ (yg : aa_G) (yb3 : Int32) (yx4 yx5 : Option Value) (_ : rn_jk yx4) (_ : rn_jk yx5), rn_s n2 212 (7, [some (.ref 540), some (.int b1), some (.int b2), some (.int yb3), yx4, yx5], [], aa_H yg) v h → P (.inl (yg, yb3))) (hR : ∀ E, ig_s v h E → P (.inr E))  (x4 x5 : Option Value) (jx4 : rn_jk x4) (jx5 : rn_jk x5) (r : rn_s n 212 (104, [some (.ref 540), some (.int b1), some (.int b2), some (.int b3), x4, x5], [.int s0], aa_H g) v h) : P (fn_212_104 g b1 b2 b3 s0) := by
  unfold fn_212_104
  obtain ⟨n38, ln38, r⟩ := rn_isx (i := 5) rfl rfl jx4 rfl ⟨Nat.le_of_ble_eq_true rfl, Nat.le_of_ble_eq_true rfl⟩ r
  have r : rn_s _ 212 (106, [some (.ref 540), some (.int b1), some (.int b2), some (.int b3), x4, some (.int s0)], [], aa_H g) v h := r
  obtain ⟨n39, ln39, r⟩ := rn_steps 0 (108, [some (.ref 540), some (.int b1), some (.int b2), some (.int b3), x4, some (.int s0)], [.int s0], aa_H g) rfl r
  refine rn_if (P) rfl decide_eq_true_iff.symm r (fun c40 l41n l41 r => ?_) (fun c40 l41n l41 r => ?_)
  · exact dn_212_125 (P) (fun n2 l2 => hO0 n2 (by omega)) (fun z hz => hR _ hz) x4 (some (.int s0)) jx4 rn_ji r
  · obtain ⟨n42, ln42, r⟩ := rn_steps 1 (115, [some (.ref 540), some (.int b1), some (.int b2), some (.int b3), x4, some (.int s0)], [.int 86400, .int s0], aa_H g) rfl r
    refine rn_ic (P) rfl decide_eq_true_iff.symm r (fun c43 l44n l44 r => ?_) (fun c43 l44n l44 r => ?_)
    · exact dn_212_125 (P) (fun n2 l2 => hO0 n2 (by omega)) (fun z hz => hR _ hz) x4 (some (.int s0)) jx4 rn_ji r
    · obtain ⟨n45, ln45, r⟩ := rn_steps 2 (122, [some (.ref 540), some (.int b1), some (.int b2), some (.int b3), x4, some (.int s0)], [.int b3, .int s0, .ref 540], aa_H g) rfl r
      obtain ⟨_, n46, v1, h1, -, ln46, rc, r⟩ := rn_call (m2 := 216) (as := [.ref 540, .int s0, .int b3]) (rest := []) rfl rfl r
      obtain ⟨rfl, rfl⟩ := dn_216 rc
      have r : rn_s _ 212 (125, [some (.ref 540), some (.int b1), some (.int b2), some (.int b3), x4, some (.int s0)], [], aa_H (fn_216 g s0 b3)) v h := r
      exact dn_212_125 (P) (fun n2 l2 => hO0 n2 (by omega)) (fun z hz => hR _ hz) x4 (some (.int s0)) jx4 rn_ji r
noncomputable def fn_212_100 (g : aa_G) (b1 : Int32) (b2 : Int32) (b3 : Int32) (s0 : Int32) : (aa_G × Int32) ⊕ aa_G := fn_212_104 g b1 b2 b3 s0
theorem dn_212_100 {v : Option Value} {h : zz_H} {n : Nat} {g : aa_G} {b1 : Int32} {b2 : Int32} {b3 : Int32} {s0 : Int32} (P : (aa_G × Int32) ⊕ aa_G → Prop) (hO0 : ∀ n2, n2 < n → ∀ (yg : aa_G) (yb3 : Int32) (yx4 yx5 : Option Value) (_ : rn_jk yx4) (_ : rn_jk yx5), rn_s n2 212 (7, [some (.ref 540), some (.int b1), some (.int b2), some (.int yb3), yx4, yx5], [], aa_H yg) v h → P (.inl (yg, yb3))) (hR : ∀ E, ig_s v h E → P (.inr E))  (x4 x5 : Option Value) (jx4 : rn_jk x4) (jx5 : rn_jk x5) (r : rn_s n 212 (100, [some (.ref 540), some (.int b1), some (.int b2), some (.int b3), x4, x5], [.int s0], aa_H g) v h) : P (fn_212_100 g b1 b2 b3 s0) := by
  unfold fn_212_100
  obtain ⟨n48, ln48, r⟩ := rn_steps 0 (104, [some (.ref 540), some (.int b1), some (.int b2), some (.int b3), x4, x5], [.int s0], aa_H g) rfl r
  exact dn_212_104 (P) (fun n2 l2 => hO0 n2 (by omega)) (fun z hz => hR _ hz) x4 x5 jx4 jx5 r
noncomputable def fn_212_90 (g : aa_G) (b1 : Int32) (b2 : Int32) (b3 : Int32) (s0 : Int32) : (aa_G × Int32) ⊕ aa_G := if s0 = 0 then fn_212_104 g b1 b2 b3 (-1) else fn_212_100 ((fn_213 g b1 b2 b3).2) b1 b2 b3 ((fn_213 g b1 b2 b3).1)
theorem dn_212_90 {v : Option Value} {h : zz_H} {n : Nat} {g : aa_G} {b1 : Int32} {b2 : Int32} {b3 : Int32} {s0 : Int32} (P : (aa_G × Int32) ⊕ aa_G → Prop) (hO0 : ∀ n2, n2 < n → ∀ (yg : aa_G) (yb3 : Int32) (yx4 yx5 : Option Value) (_ : rn_jk yx4) (_ : rn_jk yx5), rn_s n2 212 (7, [some (.ref 540), some (.int b1), some (.int b2), some (.int yb3), yx4, yx5], [], aa_H yg) v h → P (.inl (yg, yb3))) (hR : ∀ E, ig_s v h E → P (.inr E))  (x4 x5 : Option Value) (jx4 : rn_jk x4) (jx5 : rn_jk x5) (r : rn_s n 212 (90, [some (.ref 540), some (.int b1), some (.int b2), some (.int b3), x4, x5], [.int s0], aa_H g) v h) : P (fn_212_90 g b1 b2 b3 s0) := by
  unfold fn_212_90
  refine rn_if (P) rfl decide_eq_true_iff.symm r (fun c32 l33n l33 r => ?_) (fun c32 l33n l33 r => ?_)
  · obtain ⟨n34, ln34, r⟩ := rn_steps 0 (104, [some (.ref 540), some (.int b1), some (.int b2), some (.int b3), x4, x5], [.int (-1)], aa_H g) rfl r
    exact dn_212_104 (P) (fun n2 l2 => hO0 n2 (by omega)) (fun z hz => hR _ hz) x4 x5 jx4 jx5 r
  · obtain ⟨n35, ln35, r⟩ := rn_steps 3 (97, [some (.ref 540), some (.int b1), some (.int b2), some (.int b3), x4, x5], [.int b3, .int b2, .int b1, .ref 540], aa_H g) rfl r
    obtain ⟨_, n36, v1, h1, -, ln36, rc, r⟩ := rn_call (m2 := 213) (as := [.ref 540, .int b1, .int b2, .int b3]) (rest := []) rfl rfl r
    obtain ⟨rfl, rfl⟩ := dn_213 rc
    have r : rn_s _ 212 (100, [some (.ref 540), some (.int b1), some (.int b2), some (.int b3), x4, x5], [.int ((fn_213 g b1 b2 b3).1)], aa_H ((fn_213 g b1 b2 b3).2)) v h := r
    exact dn_212_100 (P) (fun n2 l2 => hO0 n2 (by omega)) (fun z hz => hR _ hz) x4 x5 jx4 jx5 r
noncomputable def fn_212_82 (g : aa_G) (b1 : Int32) (b2 : Int32) (b3 : Int32) (b4 : Int32) : (aa_G × Int32) ⊕ aa_G := fn_212_90 ((fn_194 g b1 b2 b4).2) b1 b2 b3 ((fn_194 g b1 b2 b4).1)
theorem dn_212_82 {v : Option Value} {h : zz_H} {n : Nat} {g : aa_G} {b1 : Int32} {b2 : Int32} {b3 : Int32} {b4 : Int32} (P : (aa_G × Int32) ⊕ aa_G → Prop) (hO0 : ∀ n2, n2 < n → ∀ (yg : aa_G) (yb3 : Int32) (yx4 yx5 : Option Value) (_ : rn_jk yx4) (_ : rn_jk yx5), rn_s n2 212 (7, [some (.ref 540), some (.int b1), some (.int b2), some (.int yb3), yx4, yx5], [], aa_H yg) v h → P (.inl (yg, yb3))) (hR : ∀ E, ig_s v h E → P (.inr E))  (x5 : Option Value) (jx5 : rn_jk x5) (r : rn_s n 212 (82, [some (.ref 540), some (.int b1), some (.int b2), some (.int b3), some (.int b4), x5], [], aa_H g) v h) : P (fn_212_82 g b1 b2 b3 b4) := by
  unfold fn_212_82
  obtain ⟨n29, ln29, r⟩ := rn_steps 3 (87, [some (.ref 540), some (.int b1), some (.int b2), some (.int b3), some (.int b4), x5], [.int b4, .int b2, .int b1, .ref 540], aa_H g) rfl r
  obtain ⟨_, n30, v1, h1, -, ln30, rc, r⟩ := rn_call (m2 := 194) (as := [.ref 540, .int b1, .int b2, .int b4]) (rest := []) rfl rfl r
  obtain ⟨rfl, rfl⟩ := dn_194 rc
  have r : rn_s _ 212 (90, [some (.ref 540), some (.int b1), some (.int b2), some (.int b3), some (.int b4), x5], [.int ((fn_194 g b1 b2 b4).1)], aa_H ((fn_194 g b1 b2 b4).2)) v h := r
  exact dn_212_90 (P) (fun n2 l2 => hO0 n2 (by omega)) (fun z hz => hR _ hz) (some (.int b4)) x5 rn_ji jx5 r
noncomputable def fn_212_63 (g : aa_G) (b1 : Int32) (b2 : Int32) (b3 : Int32) (b4 : Int32) (s0 : Int32) : (aa_G × Int32) ⊕ aa_G := if s0 < 86400 then fn_212_82 g b1 b2 b3 b4 else fn_212_82 (fn_216 g (s0 - 86400) b3) b1 b2 b3 b4
theorem dn_212_63 {v : Option Value} {h : zz_H} {n : Nat} {g : aa_G} {b1 : Int32} {b2 : Int32} {b3 : Int32} {b4 : Int32} {s0 : Int32} (P : (aa_G × Int32) ⊕ aa_G → Prop) (hO0 : ∀ n2, n2 < n → ∀ (yg : aa_G) (yb3 : Int32) (yx4 yx5 : Option Value) (_ : rn_jk yx4) (_ : rn_jk yx5), rn_s n2 212 (7, [some (.ref 540), some (.int b1), some (.int b2), some (.int yb3), yx4, yx5], [], aa_H yg) v h → P (.inl (yg, yb3))) (hR : ∀ E, ig_s v h E → P (.inr E))  (x5 : Option Value) (jx5 : rn_jk x5) (r : rn_s n 212 (63, [some (.ref 540), some (.int b1), some (.int b2), some (.int b3), some (.int b4), x5], [.int s0], aa_H g) v h) : P (fn_212_63 g b1 b2 b3 b4 s0) := by
  unfold fn_212_63
  obtain ⟨n22, ln22, r⟩ := rn_steps 2 (69, [some (.ref 540), some (.int b1), some (.int b2), some (.int b3), some (.int b4), some (.int s0)], [.int 86400, .int s0], aa_H g) rfl r
  refine rn_ic (P) rfl decide_eq_true_iff.symm r (fun c23 l24n l24 r => ?_) (fun c23 l24n l24 r => ?_)
  · exact dn_212_82 (P) (fun n2 l2 => hO0 n2 (by omega)) (fun z hz => hR _ hz) (some (.int s0)) rn_ji r
  · obtain ⟨n25, ln25, r⟩ := rn_steps 4 (79, [some (.ref 540), some (.int b1), some (.int b2), some (.int b3), some (.int b4), some (.int s0)], [.int b3, .int (s0 - 86400), .ref 540], aa_H g) rfl r
    obtain ⟨_, n26, v1, h1, -, ln26, rc, r⟩ := rn_call (m2 := 216) (as := [.ref 540, .int (s0 - 86400), .int b3]) (rest := []) rfl rfl r
    obtain ⟨rfl, rfl⟩ := dn_216 rc
    have r : rn_s _ 212 (82, [some (.ref 540), some (.int b1), some (.int b2), some (.int b3), some (.int b4), some (.int s0)], [], aa_H (fn_216 g (s0 - 86400) b3)) v h := r
    exact dn_212_82 (P) (fun n2 l2 => hO0 n2 (by omega)) (fun z hz => hR _ hz) (some (.int s0)) rn_ji r
noncomputable def fn_212_59 (g : aa_G) (b1 : Int32) (b2 : Int32) (b3 : Int32) (b4 : Int32) (s0 : Int32) : (aa_G × Int32) ⊕ aa_G := fn_212_63 g b1 b2 b3 b4 s0
theorem dn_212_59 {v : Option Value} {h : zz_H} {n : Nat} {g : aa_G} {b1 : Int32} {b2 : Int32} {b3 : Int32} {b4 : Int32} {s0 : Int32} (P : (aa_G × Int32) ⊕ aa_G → Prop) (hO0 : ∀ n2, n2 < n → ∀ (yg : aa_G) (yb3 : Int32) (yx4 yx5 : Option Value) (_ : rn_jk yx4) (_ : rn_jk yx5), rn_s n2 212 (7, [some (.ref 540), some (.int b1), some (.int b2), some (.int yb3), yx4, yx5], [], aa_H yg) v h → P (.inl (yg, yb3))) (hR : ∀ E, ig_s v h E → P (.inr E))  (x5 : Option Value) (jx5 : rn_jk x5) (r : rn_s n 212 (59, [some (.ref 540), some (.int b1), some (.int b2), some (.int b3), some (.int b4), x5], [.int s0], aa_H g) v h) : P (fn_212_59 g b1 b2 b3 b4 s0) := by
  unfold fn_212_59
  obtain ⟨n28, ln28, r⟩ := rn_steps 0 (63, [some (.ref 540), some (.int b1), some (.int b2), some (.int b3), some (.int b4), x5], [.int s0], aa_H g) rfl r
  exact dn_212_63 (P) (fun n2 l2 => hO0 n2 (by omega)) (fun z hz => hR _ hz) x5 jx5 r
noncomputable def fn_212_62 (g : aa_G) (b1 : Int32) (b2 : Int32) (b3 : Int32) (b4 : Int32) : (aa_G × Int32) ⊕ aa_G := fn_212_63 g b1 b2 b3 b4 (-1)
theorem dn_212_62 {v : Option Value} {h : zz_H} {n : Nat} {g : aa_G} {b1 : Int32} {b2 : Int32} {b3 : Int32} {b4 : Int32} (P : (aa_G × Int32) ⊕ aa_G → Prop) (hO0 : ∀ n2, n2 < n → ∀ (yg : aa_G) (yb3 : Int32) (yx4 yx5 : Option Value) (_ : rn_jk yx4) (_ : rn_jk yx5), rn_s n2 212 (7, [some (.ref 540), some (.int b1), some (.int b2), some (.int yb3), yx4, yx5], [], aa_H yg) v h → P (.inl (yg, yb3))) (hR : ∀ E, ig_s v h E → P (.inr E))  (x5 : Option Value) (jx5 : rn_jk x5) (r : rn_s n 212 (62, [some (.ref 540), some (.int b1), some (.int b2), some (.int b3), some (.int b4), x5], [], aa_H g) v h) : P (fn_212_62 g b1 b2 b3 b4) := by
  unfold fn_212_62
  obtain ⟨n16, ln16, r⟩ := rn_steps 0 (63, [some (.ref 540), some (.int b1), some (.int b2), some (.int b3), some (.int b4), x5], [.int (-1)], aa_H g) rfl r
  exact dn_212_63 (P) (fun n2 l2 => hO0 n2 (by omega)) (fun z hz => hR _ hz) x5 jx5 r
noncomputable def fn_212_47 (g : aa_G) (b1 : Int32) (b2 : Int32) (b3 : Int32) (b4 : Int32) (s0 : Int32) : (aa_G × Int32) ⊕ aa_G := if s0 = 0 then fn_212_62 g b1 b2 b3 b4 else fn_212_59 ((fn_213 g b1 (b2 - 1) b3).2) b1 b2 b3 b4 ((fn_213 g b1 (b2 - 1) b3).1)
theorem dn_212_47 {v : Option Value} {h : zz_H} {n : Nat} {g : aa_G} {b1 : Int32} {b2 : Int32} {b3 : Int32} {b4 : Int32} {s0 : Int32} (P : (aa_G × Int32) ⊕ aa_G → Prop) (hO0 : ∀ n2, n2 < n → ∀ (yg : aa_G) (yb3 : Int32) (yx4 yx5 : Option Value) (_ : rn_jk yx4) (_ : rn_jk yx5), rn_s n2 212 (7, [some (.ref 540), some (.int b1), some (.int b2), some (.int yb3), yx4, yx5], [], aa_H yg) v h → P (.inl (yg, yb3))) (hR : ∀ E, ig_s v h E → P (.inr E))  (x5 : Option Value) (jx5 : rn_jk x5) (r : rn_s n 212 (47, [some (.ref 540), some (.int b1), some (.int b2), some (.int b3), some (.int b4), x5], [.int s0], aa_H g) v h) : P (fn_212_47 g b1 b2 b3 b4 s0) := by
  unfold fn_212_47
  refine rn_if (P) rfl decide_eq_true_iff.symm r (fun c17 l18n l18 r => ?_) (fun c17 l18n l18 r => ?_)
  · exact dn_212_62 (P) (fun n2 l2 => hO0 n2 (by omega)) (fun z hz => hR _ hz) x5 jx5 r
  · obtain ⟨n19, ln19, r⟩ := rn_steps 5 (56, [some (.ref 540), some (.int b1), some (.int b2), some (.int b3), some (.int b4), x5], [.int b3, .int (b2 - 1), .int b1, .ref 540], aa_H g) rfl r
    obtain ⟨_, n20, v1, h1, -, ln20, rc, r⟩ := rn_call (m2 := 213) (as := [.ref 540, .int b1, .int (b2 - 1), .int b3]) (rest := []) rfl rfl r
    obtain ⟨rfl, rfl⟩ := dn_213 rc
    have r : rn_s _ 212 (59, [some (.ref 540), some (.int b1), some (.int b2), some (.int b3), some (.int b4), x5], [.int ((fn_213 g b1 (b2 - 1) b3).1)], aa_H ((fn_213 g b1 (b2 - 1) b3).2)) v h := r
    exact dn_212_59 (P) (fun n2 l2 => hO0 n2 (by omega)) (fun z hz => hR _ hz) x5 jx5 r
noncomputable def fn_212_7b (g : aa_G) (b1 : Int32) (b2 : Int32) (b3 : Int32) : (aa_G × Int32) ⊕ aa_G := if (g 541 (2 : Int32).toNatClampNeg) ≤ b3 then .inr g else if (g 541 (203 + (7 * b3)).toNatClampNeg) ≠ 1 then fn_212_62 g b1 b2 b3 (g 541 (203 + (7 * b3)).toNatClampNeg) else fn_212_47 ((fn_194 g b1 (b2 - 1) 1).2) b1 b2 b3 (g 541 (203 + (7 * b3)).toNatClampNeg) ((fn_194 g b1 (b2 - 1) 1).1)
noncomputable def fn_212_7 (g : aa_G) (b1 : Int32) (b2 : Int32) (b3 : Int32) : aa_G := lp_f g (fun z : (aa_G × Int32) => fn_212_7b z.1 b1 b2 z.2) (g, b3)
theorem dn_212_7l {v : Option Value} {h : zz_H} {N : Nat} {b1 : Int32} {b2 : Int32} {d : aa_G} : ∀ (n : Nat), n ≤ N → ∀ (g : aa_G) (b3 : Int32) (x4 x5 : Option Value) (jx4 : rn_jk x4) (jx5 : rn_jk x5), rn_s n 212 (7, [some (.ref 540), some (.int b1), some (.int b2), some (.int b3), x4, x5], [], aa_H g) v h → (ig_s v h) (lp_f d (fun z : (aa_G × Int32) => fn_212_7b z.1 b1 b2 z.2) (g, b3)) := by
  generalize hf : (fun z : (aa_G × Int32) => fn_212_7b z.1 b1 b2 z.2) = f
  intro n
  induction n using Nat.strongRecOn with
  | _ n ih =>
    intro hN g b3 x4 x5 jx4 jx5 r
    refine lp_go ?_
    rw [← congrFun hf (g, b3)]
    show lp_q (ig_s v h) d f (fn_212_7b g b1 b2 b3)
    unfold fn_212_7b
    obtain ⟨n2, ln2, r⟩ := rn_steps 3 (13, [some (.ref 540), some (.int b1), some (.int b2), some (.int b3), x4, x5], [.int 2, .ref 541, .int b3], aa_H g) rfl r
    obtain ⟨hb4, n3, ln3, r⟩ := rn_ial (k := 541) rfl ⟨by decide, by decide⟩ rfl r
    have r : rn_s _ 212 (14, [some (.ref 540), some (.int b1), some (.int b2), some (.int b3), x4, x5], [.int (g 541 (2 : Int32).toNatClampNeg), .int b3], aa_H g) v h := r
    refine rn_ic (lp_q (ig_s v h) d f) rfl decide_eq_true_iff.symm r (fun c5 l6n l6 r => ?_) (fun c5 l6n l6 r => ?_)
    · exact rn_ret 1 rfl r
    · obtain ⟨n7, ln7, r⟩ := rn_steps 6 (29, [some (.ref 540), some (.int b1), some (.int b2), some (.int b3), x4, x5], [.int (203 + (7 * b3)), .ref 541], aa_H g) rfl r
      obtain ⟨hb9, n8, ln8, r⟩ := rn_ial (k := 541) rfl ⟨by decide, by decide⟩ rfl r
      have r : rn_s _ 212 (30, [some (.ref 540), some (.int b1), some (.int b2), some (.int b3), x4, x5], [.int (g 541 (203 + (7 * b3)).toNatClampNeg)], aa_H g) v h := r
      obtain ⟨n10, ln10, r⟩ := rn_steps 2 (35, [some (.ref 540), some (.int b1), some (.int b2), some (.int b3), some (.int (g 541 (203 + (7 * b3)).toNatClampNeg)), x5], [.int 1, .int (g 541 (203 + (7 * b3)).toNatClampNeg)], aa_H g) rfl r
      refine rn_ic (lp_q (ig_s v h) d f) rfl decide_eq_true_iff.symm r (fun c11 l12n l12 r => ?_) (fun c11 l12n l12 r => ?_)
      · exact dn_212_62 (lp_q (ig_s v h) d f) (fun n2 l2 => ih n2 (by omega) (by omega)) (fun z hz => hz) x5 jx5 r
      · obtain ⟨n13, ln13, r⟩ := rn_steps 5 (44, [some (.ref 540), some (.int b1), some (.int b2), some (.int b3), some (.int (g 541 (203 + (7 * b3)).toNatClampNeg)), x5], [.int 1, .int (b2 - 1), .int b1, .ref 540], aa_H g) rfl r
        obtain ⟨_, n14, v1, h1, -, ln14, rc, r⟩ := rn_call (m2 := 194) (as := [.ref 540, .int b1, .int (b2 - 1), .int 1]) (rest := []) rfl rfl r
        obtain ⟨rfl, rfl⟩ := dn_194 rc
        have r : rn_s _ 212 (47, [some (.ref 540), some (.int b1), some (.int b2), some (.int b3), some (.int (g 541 (203 + (7 * b3)).toNatClampNeg)), x5], [.int ((fn_194 g b1 (b2 - 1) 1).1)], aa_H ((fn_194 g b1 (b2 - 1) 1).2)) v h := r
        exact dn_212_47 (lp_q (ig_s v h) d f) (fun n2 l2 => ih n2 (by omega) (by omega)) (fun z hz => hz) x5 jx5 r
theorem dn_212_7 {v : Option Value} {h : zz_H} {n : Nat} {g : aa_G} {b1 : Int32} {b2 : Int32} {b3 : Int32}  (x4 x5 : Option Value) (jx4 : rn_jk x4) (jx5 : rn_jk x5) (r : rn_s n 212 (7, [some (.ref 540), some (.int b1), some (.int b2), some (.int b3), x4, x5], [], aa_H g) v h) : (ig_s v h) (fn_212_7 g b1 b2 b3) := dn_212_7l  n (Nat.le_refl n) g b3 x4 x5 jx4 jx5 r
noncomputable def fn_212 (g : aa_G) (a1 : Int32) (a2 : Int32) : aa_G := fn_212_7 (zz_w g 540 26 0) a1 a2 0
theorem dn_212 {v : Option Value} {h : zz_H} {n : Nat} {g : aa_G} {a1 : Int32} {a2 : Int32}  (r : rn_s n 212 (0, zz_in [.ref 540, .int a1, .int a2] (zz_nl 212), [], aa_H g) v h) : ig_s v h (fn_212 g a1 a2) := by
  have r : rn_s n 212 (0, [some (.ref 540), some (.int a1), some (.int a2), none, none, none], [], aa_H g) v h := r
  unfold fn_212
  obtain ⟨n1, ln1, r⟩ := rn_steps 4 (7, [some (.ref 540), some (.int a1), some (.int a2), some (.int 0), none, none], [], aa_H (zz_w g 540 26 0)) rfl r
  exact dn_212_7 none none rn_jn rn_jn r
-- 217: UnequalHoursModel strokesOf
noncomputable def fn_217 (g : aa_G) (a1 : Int32) : Int32 := g 541 ((203 + (7 * (g 547 a1.toNatClampNeg))) + 3).toNatClampNeg
theorem dn_217 {v : Option Value} {h : zz_H} {n : Nat} {g : aa_G} {a1 : Int32}  (r : rn_s n 217 (0, zz_in [.ref 540, .int a1] (zz_nl 217), [], aa_H g) v h) : ir_s g v h (fn_217 g a1) := by
  have r : rn_s n 217 (0, [some (.ref 540), some (.int a1)], [], aa_H g) v h := r
  unfold fn_217
  obtain ⟨n1, ln1, r⟩ := rn_steps 6 (14, [some (.ref 540), some (.int a1)], [.int a1, .ref 547, .int 7, .int 203, .ref 541], aa_H g) rfl r
  obtain ⟨hb3, n2, ln2, r⟩ := rn_ial (k := 547) rfl ⟨by decide, by decide⟩ rfl r
  have r : rn_s _ 217 (15, [some (.ref 540), some (.int a1)], [.int (g 547 a1.toNatClampNeg), .int 7, .int 203, .ref 541], aa_H g) v h := r
  obtain ⟨n4, ln4, r⟩ := rn_steps 3 (19, [some (.ref 540), some (.int a1)], [.int ((203 + (7 * (g 547 a1.toNatClampNeg))) + 3), .ref 541], aa_H g) rfl r
  obtain ⟨hb6, n5, ln5, r⟩ := rn_ial (k := 541) rfl ⟨by decide, by decide⟩ rfl r
  have r : rn_s _ 217 (20, [some (.ref 540), some (.int a1)], [.int (g 541 ((203 + (7 * (g 547 a1.toNatClampNeg))) + 3).toNatClampNeg)], aa_H g) v h := r
  exact rn_ire rfl r
-- 211: UnequalHoursModel ring
noncomputable def fn_211_27 (g : aa_G) (b3 : Int32) (b4 : Int32) : Int32 × aa_G := if b3 ≠ (-1) then if (fn_154 b3 0 ((g 540 26) - 1)) ≠ 0 then if b4 ≠ 0 then if b4 ≠ 1 then (fn_217 g b3, g) else (g 547 b3.toNatClampNeg, g) else (g 546 b3.toNatClampNeg, g) else (-1, g) else (g 540 26, g)
theorem dn_211_27 {v : Option Value} {h : zz_H} {n : Nat} {g : aa_G} {b3 : Int32} {b4 : Int32}  (x1 x2 : Option Value) (jx1 : rn_jk x1) (jx2 : rn_jk x2) (r : rn_s n 211 (27, [some (.ref 540), x1, x2, some (.int b3), some (.int b4)], [], aa_H g) v h) : iw_s v h (fn_211_27 g b3 b4) := by
  unfold fn_211_27
  obtain ⟨n16, ln16, r⟩ := rn_steps 1 (29, [some (.ref 540), x1, x2, some (.int b3), some (.int b4)], [.int (-1), .int b3], aa_H g) rfl r
  refine rn_ic (iw_s v h) rfl decide_eq_true_iff.symm r (fun c17 l18n l18 r => ?_) (fun c17 l18n l18 r => ?_)
  · obtain ⟨n19, ln19, r⟩ := rn_steps 5 (45, [some (.ref 540), x1, x2, some (.int b3), some (.int b4)], [.int ((g 540 26) - 1), .int 0, .int b3], aa_H g) rfl r
    obtain ⟨_, n20, v1, h1, -, ln20, rc, r⟩ := rn_call (m2 := 154) (as := [.int b3, .int 0, .int ((g 540 26) - 1)]) (rest := []) rfl rfl r
    obtain ⟨rfl, rfl⟩ := dn_154 rc
    have r : rn_s _ 211 (48, [some (.ref 540), x1, x2, some (.int b3), some (.int b4)], [.int (fn_154 b3 0 ((g 540 26) - 1))], aa_H g) v h := r
    refine rn_if (iw_s v h) rfl decide_eq_true_iff.symm r (fun c22 l23n l23 r => ?_) (fun c22 l23n l23 r => ?_)
    · obtain ⟨n24, ln24, r⟩ := rn_steps 0 (55, [some (.ref 540), x1, x2, some (.int b3), some (.int b4)], [.int b4], aa_H g) rfl r
      refine rn_if (iw_s v h) rfl decide_eq_true_iff.symm r (fun c25 l26n l26 r => ?_) (fun c25 l26n l26 r => ?_)
      · obtain ⟨n27, ln27, r⟩ := rn_steps 1 (70, [some (.ref 540), x1, x2, some (.int b3), some (.int b4)], [.int 1, .int b4], aa_H g) rfl r
        refine rn_ic (iw_s v h) rfl decide_eq_true_iff.symm r (fun c28 l29n l29 r => ?_) (fun c28 l29n l29 r => ?_)
        · obtain ⟨n30, ln30, r⟩ := rn_steps 1 (84, [some (.ref 540), x1, x2, some (.int b3), some (.int b4)], [.int b3, .ref 540], aa_H g) rfl r
          obtain ⟨_, n31, v1, h1, -, ln31, rc, r⟩ := rn_call (m2 := 217) (as := [.ref 540, .int b3]) (rest := []) rfl rfl r
          obtain ⟨rfl, rfl⟩ := dn_217 rc
          have r : rn_s _ 211 (87, [some (.ref 540), x1, x2, some (.int b3), some (.int b4)], [.int (fn_217 g b3)], aa_H g) v h := r
          exact rn_ire rfl r
        · obtain ⟨n33, ln33, r⟩ := rn_steps 2 (78, [some (.ref 540), x1, x2, some (.int b3), some (.int b4)], [.int b3, .ref 547], aa_H g) rfl r
          obtain ⟨hb35, n34, ln34, r⟩ := rn_ial (k := 547) rfl ⟨by decide, by decide⟩ rfl r
          have r : rn_s _ 211 (79, [some (.ref 540), x1, x2, some (.int b3), some (.int b4)], [.int (g 547 b3.toNatClampNeg)], aa_H g) v h := r
          obtain ⟨n36, ln36, r⟩ := rn_steps 0 (87, [some (.ref 540), x1, x2, some (.int b3), some (.int b4)], [.int (g 547 b3.toNatClampNeg)], aa_H g) rfl r
          exact rn_ire rfl r
      · obtain ⟨n37, ln37, r⟩ := rn_steps 2 (63, [some (.ref 540), x1, x2, some (.int b3), some (.int b4)], [.int b3, .ref 546], aa_H g) rfl r
        obtain ⟨hb39, n38, ln38, r⟩ := rn_ial (k := 546) rfl ⟨by decide, by decide⟩ rfl r
        have r : rn_s _ 211 (64, [some (.ref 540), x1, x2, some (.int b3), some (.int b4)], [.int (g 546 b3.toNatClampNeg)], aa_H g) v h := r
        obtain ⟨n40, ln40, r⟩ := rn_steps 0 (87, [some (.ref 540), x1, x2, some (.int b3), some (.int b4)], [.int (g 546 b3.toNatClampNeg)], aa_H g) rfl r
        exact rn_ire rfl r
    · obtain ⟨n41, ln41, r⟩ := rn_steps 0 (52, [some (.ref 540), x1, x2, some (.int b3), some (.int b4)], [.int (-1)], aa_H g) rfl r
      exact rn_ire rfl r
  · obtain ⟨n42, ln42, r⟩ := rn_steps 1 (36, [some (.ref 540), x1, x2, some (.int b3), some (.int b4)], [.int (g 540 26)], aa_H g) rfl r
    exact rn_ire rfl r
noncomputable def fn_211 (g : aa_G) (a1 : Int32) (a2 : Int32) (a3 : Int32) (a4 : Int32) : Int32 × aa_G := if (fn_191 g a1 a2) = 0 then (-1, g) else if (fn_154 a4 0 2) ≠ 0 then fn_211_27 (fn_212 g a1 a2) a3 a4 else (-1, g)
theorem dn_211 {v : Option Value} {h : zz_H} {n : Nat} {g : aa_G} {a1 : Int32} {a2 : Int32} {a3 : Int32} {a4 : Int32}  (r : rn_s n 211 (0, zz_in [.ref 540, .int a1, .int a2, .int a3, .int a4] (zz_nl 211), [], aa_H g) v h) : iw_s v h (fn_211 g a1 a2 a3 a4) := by
  have r : rn_s n 211 (0, [some (.ref 540), some (.int a1), some (.int a2), some (.int a3), some (.int a4)], [], aa_H g) v h := r
  unfold fn_211
  obtain ⟨n1, ln1, r⟩ := rn_steps 2 (3, [some (.ref 540), some (.int a1), some (.int a2), some (.int a3), some (.int a4)], [.int a2, .int a1, .ref 540], aa_H g) rfl r
  obtain ⟨_, n2, v1, h1, -, ln2, rc, r⟩ := rn_call (m2 := 191) (as := [.ref 540, .int a1, .int a2]) (rest := []) rfl rfl r
  obtain ⟨rfl, rfl⟩ := dn_191 rc
  have r : rn_s _ 211 (6, [some (.ref 540), some (.int a1), some (.int a2), some (.int a3), some (.int a4)], [.int (fn_191 g a1 a2)], aa_H g) v h := r
  refine rn_if (iw_s v h) rfl decide_eq_true_iff.symm r (fun c4 l5n l5 r => ?_) (fun c4 l5n l5 r => ?_)
  · obtain ⟨n6, ln6, r⟩ := rn_steps 0 (20, [some (.ref 540), some (.int a1), some (.int a2), some (.int a3), some (.int a4)], [.int (-1)], aa_H g) rfl r
    exact rn_ire rfl r
  · obtain ⟨n7, ln7, r⟩ := rn_steps 2 (13, [some (.ref 540), some (.int a1), some (.int a2), some (.int a3), some (.int a4)], [.int 2, .int 0, .int a4], aa_H g) rfl r
    obtain ⟨_, n8, v1, h1, -, ln8, rc, r⟩ := rn_call (m2 := 154) (as := [.int a4, .int 0, .int 2]) (rest := []) rfl rfl r
    obtain ⟨rfl, rfl⟩ := dn_154 rc
    have r : rn_s _ 211 (16, [some (.ref 540), some (.int a1), some (.int a2), some (.int a3), some (.int a4)], [.int (fn_154 a4 0 2)], aa_H g) v h := r
    refine rn_if (iw_s v h) rfl decide_eq_true_iff.symm r (fun c10 l11n l11 r => ?_) (fun c10 l11n l11 r => ?_)
    · obtain ⟨n12, ln12, r⟩ := rn_steps 2 (24, [some (.ref 540), some (.int a1), some (.int a2), some (.int a3), some (.int a4)], [.int a2, .int a1, .ref 540], aa_H g) rfl r
      obtain ⟨_, n13, v1, h1, -, ln13, rc, r⟩ := rn_call (m2 := 212) (as := [.ref 540, .int a1, .int a2]) (rest := []) rfl rfl r
      obtain ⟨rfl, rfl⟩ := dn_212 rc
      have r : rn_s _ 211 (27, [some (.ref 540), some (.int a1), some (.int a2), some (.int a3), some (.int a4)], [], aa_H (fn_212 g a1 a2)) v h := r
      exact dn_211_27 (some (.int a1)) (some (.int a2)) rn_ji rn_ji r
    · obtain ⟨n15, ln15, r⟩ := rn_steps 0 (20, [some (.ref 540), some (.int a1), some (.int a2), some (.int a3), some (.int a4)], [.int (-1)], aa_H g) rfl r
      exact rn_ire rfl r
-- 218: UnequalHoursModel strokes
noncomputable def fn_218_22b (g : aa_G) (b3 : Int32) (b4 : Int32) : (Int32 × Int32) ⊕ (Int32 × aa_G) := if (g 540 26) ≤ b4 then .inr (b3, g) else .inl (b3 + (fn_217 g b4), b4 + 1)
noncomputable def fn_218_22 (g : aa_G) (b3 : Int32) (b4 : Int32) : Int32 × aa_G := lp_f (0, g) (fun z : (Int32 × Int32) => fn_218_22b g z.1 z.2) (b3, b4)
theorem dn_218_22l {v : Option Value} {h : zz_H} {N : Nat} {g : aa_G}  {d : Int32 × aa_G} : ∀ (n : Nat), n ≤ N → ∀ (b3 : Int32) (b4 : Int32) (x1 x2 : Option Value) (jx1 : rn_jk x1) (jx2 : rn_jk x2), rn_s n 218 (22, [some (.ref 540), x1, x2, some (.int b3), some (.int b4)], [], aa_H g) v h → (iw_s v h) (lp_f d (fun z : (Int32 × Int32) => fn_218_22b g z.1 z.2) (b3, b4)) := by
  generalize hf : (fun z : (Int32 × Int32) => fn_218_22b g z.1 z.2) = f
  intro n
  induction n using Nat.strongRecOn with
  | _ n ih =>
    intro hN b3 b4 x1 x2 jx1 jx2 r
    refine lp_go ?_
    rw [← congrFun hf (b3, b4)]
    show lp_q (iw_s v h) d f (fn_218_22b g b3 b4)
    unfold fn_218_22b
    obtain ⟨n13, ln13, r⟩ := rn_steps 2 (28, [some (.ref 540), x1, x2, some (.int b3), some (.int b4)], [.int (g 540 26), .int b4], aa_H g) rfl r
    refine rn_ic (lp_q (iw_s v h) d f) rfl decide_eq_true_iff.symm r (fun c14 l15n l15 r => ?_) (fun c14 l15n l15 r => ?_)
    · obtain ⟨n16, ln16, r⟩ := rn_steps 0 (47, [some (.ref 540), x1, x2, some (.int b3), some (.int b4)], [.int b3], aa_H g) rfl r
      exact rn_ire rfl r
    · obtain ⟨n17, ln17, r⟩ := rn_steps 2 (35, [some (.ref 540), x1, x2, some (.int b3), some (.int b4)], [.int b4, .ref 540, .int b3], aa_H g) rfl r
      obtain ⟨_, n18, v1, h1, -, ln18, rc, r⟩ := rn_call (m2 := 217) (as := [.ref 540, .int b4]) (rest := [.int b3]) rfl rfl r
      obtain ⟨rfl, rfl⟩ := dn_217 rc
      have r : rn_s _ 218 (38, [some (.ref 540), x1, x2, some (.int b3), some (.int b4)], [.int (fn_217 g b4), .int b3], aa_H g) v h := r
      obtain ⟨n20, ln20, r⟩ := rn_steps 0 (39, [some (.ref 540), x1, x2, some (.int b3), some (.int b4)], [.int (b3 + (fn_217 g b4))], aa_H g) rfl r
      obtain ⟨n21, ln21, r⟩ := rn_isn (i := 3) rfl rfl jx2 rfl ⟨Nat.le_of_ble_eq_true rfl, Nat.le_of_ble_eq_true rfl⟩ r
      have r : rn_s _ 218 (40, [some (.ref 540), x1, x2, some (.int (b3 + (fn_217 g b4))), some (.int b4)], [], aa_H g) v h := r
      obtain ⟨n22, ln22, r⟩ := rn_steps 1 (22, [some (.ref 540), x1, x2, some (.int (b3 + (fn_217 g b4))), some (.int (b4 + 1))], [], aa_H g) rfl r
      exact ih _ (by omega) (by omega) (b3 + (fn_217 g b4)) (b4 + 1) x1 x2 jx1 jx2 r
theorem dn_218_22 {v : Option Value} {h : zz_H} {n : Nat} {g : aa_G} {b3 : Int32} {b4 : Int32}  (x1 x2 : Option Value) (jx1 : rn_jk x1) (jx2 : rn_jk x2) (r : rn_s n 218 (22, [some (.ref 540), x1, x2, some (.int b3), some (.int b4)], [], aa_H g) v h) : (iw_s v h) (fn_218_22 g b3 b4) := dn_218_22l  n (Nat.le_refl n) b3 b4 x1 x2 jx1 jx2 r
noncomputable def fn_218_17 (g : aa_G)  : Int32 × aa_G := fn_218_22 g 0 0
theorem dn_218_17 {v : Option Value} {h : zz_H} {n : Nat} {g : aa_G}   (x1 x2 x3 x4 : Option Value) (jx1 : rn_jk x1) (jx2 : rn_jk x2) (jx3 : rn_jk x3) (jx4 : rn_jk x4) (r : rn_s n 218 (17, [some (.ref 540), x1, x2, x3, x4], [], aa_H g) v h) : iw_s v h (fn_218_17 g) := by
  unfold fn_218_17
  obtain ⟨n10, ln10, r⟩ := rn_steps 0 (18, [some (.ref 540), x1, x2, x3, x4], [.int 0], aa_H g) rfl r
  obtain ⟨n11, ln11, r⟩ := rn_isn (i := 3) rfl rfl jx2 rfl ⟨Nat.le_of_ble_eq_true rfl, Nat.le_of_ble_eq_true rfl⟩ r
  have r : rn_s _ 218 (19, [some (.ref 540), x1, x2, some (.int 0), x4], [], aa_H g) v h := r
  obtain ⟨n12, ln12, r⟩ := rn_steps 1 (22, [some (.ref 540), x1, x2, some (.int 0), some (.int 0)], [], aa_H g) rfl r
  exact dn_218_22 x1 x2 jx1 jx2 r
noncomputable def fn_218 (g : aa_G) (a1 : Int32) (a2 : Int32) : Int32 × aa_G := if (fn_191 g a1 a2) ≠ 0 then fn_218_17 (fn_212 g a1 a2) else (-1, g)
theorem dn_218 {v : Option Value} {h : zz_H} {n : Nat} {g : aa_G} {a1 : Int32} {a2 : Int32}  (r : rn_s n 218 (0, zz_in [.ref 540, .int a1, .int a2] (zz_nl 218), [], aa_H g) v h) : iw_s v h (fn_218 g a1 a2) := by
  have r : rn_s n 218 (0, [some (.ref 540), some (.int a1), some (.int a2), none, none], [], aa_H g) v h := r
  unfold fn_218
  obtain ⟨n1, ln1, r⟩ := rn_steps 2 (3, [some (.ref 540), some (.int a1), some (.int a2), none, none], [.int a2, .int a1, .ref 540], aa_H g) rfl r
  obtain ⟨_, n2, v1, h1, -, ln2, rc, r⟩ := rn_call (m2 := 191) (as := [.ref 540, .int a1, .int a2]) (rest := []) rfl rfl r
  obtain ⟨rfl, rfl⟩ := dn_191 rc
  have r : rn_s _ 218 (6, [some (.ref 540), some (.int a1), some (.int a2), none, none], [.int (fn_191 g a1 a2)], aa_H g) v h := r
  refine rn_if (iw_s v h) rfl decide_eq_true_iff.symm r (fun c4 l5n l5 r => ?_) (fun c4 l5n l5 r => ?_)
  · obtain ⟨n6, ln6, r⟩ := rn_steps 2 (14, [some (.ref 540), some (.int a1), some (.int a2), none, none], [.int a2, .int a1, .ref 540], aa_H g) rfl r
    obtain ⟨_, n7, v1, h1, -, ln7, rc, r⟩ := rn_call (m2 := 212) (as := [.ref 540, .int a1, .int a2]) (rest := []) rfl rfl r
    obtain ⟨rfl, rfl⟩ := dn_212 rc
    have r : rn_s _ 218 (17, [some (.ref 540), some (.int a1), some (.int a2), none, none], [], aa_H (fn_212 g a1 a2)) v h := r
    exact dn_218_17 (some (.int a1)) (some (.int a2)) none none rn_ji rn_ji rn_jn rn_jn r
  · obtain ⟨n9, ln9, r⟩ := rn_steps 0 (10, [some (.ref 540), some (.int a1), some (.int a2), none, none], [.int (-1)], aa_H g) rfl r
    exact rn_ire rfl r
-- 219: UnequalHoursModel soonest
noncomputable def fn_219_80 (g : aa_G) (b3 : Int32) : Int32 × aa_G := if (g 540 26) ≠ 0 then ((86400 - b3) + (g 546 (0 : Int32).toNatClampNeg), g) else (-2, g)
theorem dn_219_80 {v : Option Value} {h : zz_H} {n : Nat} {g : aa_G} {b3 : Int32}  (x1 x2 x4 : Option Value) (jx1 : rn_jk x1) (jx2 : rn_jk x2) (jx4 : rn_jk x4) (r : rn_s n 219 (80, [some (.ref 540), x1, x2, some (.int b3), x4], [], aa_H g) v h) : iw_s v h (fn_219_80 g b3) := by
  unfold fn_219_80
  obtain ⟨n38, ln38, r⟩ := rn_steps 1 (84, [some (.ref 540), x1, x2, some (.int b3), x4], [.int (g 540 26)], aa_H g) rfl r
  refine rn_if (iw_s v h) rfl decide_eq_true_iff.symm r (fun c39 l40n l40 r => ?_) (fun c39 l40n l40 r => ?_)
  · obtain ⟨n41, ln41, r⟩ := rn_steps 5 (101, [some (.ref 540), x1, x2, some (.int b3), x4], [.int 0, .ref 546, .int (86400 - b3)], aa_H g) rfl r
    obtain ⟨hb43, n42, ln42, r⟩ := rn_ial (k := 546) rfl ⟨by decide, by decide⟩ rfl r
    have r : rn_s _ 219 (102, [some (.ref 540), x1, x2, some (.int b3), x4], [.int (g 546 (0 : Int32).toNatClampNeg), .int (86400 - b3)], aa_H g) v h := r
    obtain ⟨n44, ln44, r⟩ := rn_steps 0 (103, [some (.ref 540), x1, x2, some (.int b3), x4], [.int ((86400 - b3) + (g 546 (0 : Int32).toNatClampNeg))], aa_H g) rfl r
    exact rn_ire rfl r
  · obtain ⟨n45, ln45, r⟩ := rn_steps 1 (103, [some (.ref 540), x1, x2, some (.int b3), x4], [.int (-2)], aa_H g) rfl r
    exact rn_ire rfl r
noncomputable def fn_219_27b (g : aa_G) (b1 : Int32) (b2 : Int32) (b3 : Int32) (b4 : Int32) : Int32 ⊕ (Int32 × aa_G) := if (g 540 26) ≤ b4 then if b2 ≠ 35999 then .inr (fn_219_80 (fn_212 g b1 (b2 + 1)) b3) else .inr (-2, g) else if (g 546 b4.toNatClampNeg) < b3 then .inl (b4 + 1) else .inr ((g 546 b4.toNatClampNeg) - b3, g)
noncomputable def fn_219_27 (g : aa_G) (b1 : Int32) (b2 : Int32) (b3 : Int32) (b4 : Int32) : Int32 × aa_G := lp_f (0, g) (fun z : Int32 => fn_219_27b g b1 b2 b3 z) b4
theorem dn_219_27l {v : Option Value} {h : zz_H} {N : Nat} {g : aa_G} {b1 : Int32} {b2 : Int32} {b3 : Int32} {d : Int32 × aa_G} : ∀ (n : Nat), n ≤ N → ∀ (b4 : Int32), rn_s n 219 (27, [some (.ref 540), some (.int b1), some (.int b2), some (.int b3), some (.int b4)], [], aa_H g) v h → (iw_s v h) (lp_f d (fun z : Int32 => fn_219_27b g b1 b2 b3 z) b4) := by
  generalize hf : (fun z : Int32 => fn_219_27b g b1 b2 b3 z) = f
  intro n
  induction n using Nat.strongRecOn with
  | _ n ih =>
    intro hN b4  r
    refine lp_go ?_
    rw [← congrFun hf b4]
    show lp_q (iw_s v h) d f (fn_219_27b g b1 b2 b3 b4)
    unfold fn_219_27b
    obtain ⟨n17, ln17, r⟩ := rn_steps 2 (33, [some (.ref 540), some (.int b1), some (.int b2), some (.int b3), some (.int b4)], [.int (g 540 26), .int b4], aa_H g) rfl r
    refine rn_ic (lp_q (iw_s v h) d f) rfl decide_eq_true_iff.symm r (fun c18 l19n l19 r => ?_) (fun c18 l19n l19 r => ?_)
    · obtain ⟨n20, ln20, r⟩ := rn_steps 1 (66, [some (.ref 540), some (.int b1), some (.int b2), some (.int b3), some (.int b4)], [.int 35999, .int b2], aa_H g) rfl r
      refine rn_ic (lp_q (iw_s v h) d f) rfl decide_eq_true_iff.symm r (fun c21 l22n l22 r => ?_) (fun c21 l22n l22 r => ?_)
      · obtain ⟨n23, ln23, r⟩ := rn_steps 4 (77, [some (.ref 540), some (.int b1), some (.int b2), some (.int b3), some (.int b4)], [.int (b2 + 1), .int b1, .ref 540], aa_H g) rfl r
        obtain ⟨_, n24, v1, h1, -, ln24, rc, r⟩ := rn_call (m2 := 212) (as := [.ref 540, .int b1, .int (b2 + 1)]) (rest := []) rfl rfl r
        obtain ⟨rfl, rfl⟩ := dn_212 rc
        have r : rn_s _ 219 (80, [some (.ref 540), some (.int b1), some (.int b2), some (.int b3), some (.int b4)], [], aa_H (fn_212 g b1 (b2 + 1))) v h := r
        exact dn_219_80 (some (.int b1)) (some (.int b2)) (some (.int b4)) rn_ji rn_ji rn_ji r
      · obtain ⟨n26, ln26, r⟩ := rn_steps 0 (71, [some (.ref 540), some (.int b1), some (.int b2), some (.int b3), some (.int b4)], [.int (-2)], aa_H g) rfl r
        exact rn_ire rfl r
    · obtain ⟨n27, ln27, r⟩ := rn_steps 2 (42, [some (.ref 540), some (.int b1), some (.int b2), some (.int b3), some (.int b4)], [.int b4, .ref 546], aa_H g) rfl r
      obtain ⟨hb29, n28, ln28, r⟩ := rn_ial (k := 546) rfl ⟨by decide, by decide⟩ rfl r
      have r : rn_s _ 219 (43, [some (.ref 540), some (.int b1), some (.int b2), some (.int b3), some (.int b4)], [.int (g 546 b4.toNatClampNeg)], aa_H g) v h := r
      obtain ⟨n30, ln30, r⟩ := rn_steps 0 (44, [some (.ref 540), some (.int b1), some (.int b2), some (.int b3), some (.int b4)], [.int b3, .int (g 546 b4.toNatClampNeg)], aa_H g) rfl r
      refine rn_ic (lp_q (iw_s v h) d f) rfl decide_eq_true_iff.symm r (fun c31 l32n l32 r => ?_) (fun c31 l32n l32 r => ?_)
      · obtain ⟨n33, ln33, r⟩ := rn_steps 1 (27, [some (.ref 540), some (.int b1), some (.int b2), some (.int b3), some (.int (b4 + 1))], [], aa_H g) rfl r
        exact ih _ (by omega) (by omega) (b4 + 1) r
      · obtain ⟨n34, ln34, r⟩ := rn_steps 2 (53, [some (.ref 540), some (.int b1), some (.int b2), some (.int b3), some (.int b4)], [.int b4, .ref 546], aa_H g) rfl r
        obtain ⟨hb36, n35, ln35, r⟩ := rn_ial (k := 546) rfl ⟨by decide, by decide⟩ rfl r
        have r : rn_s _ 219 (54, [some (.ref 540), some (.int b1), some (.int b2), some (.int b3), some (.int b4)], [.int (g 546 b4.toNatClampNeg)], aa_H g) v h := r
        obtain ⟨n37, ln37, r⟩ := rn_steps 1 (56, [some (.ref 540), some (.int b1), some (.int b2), some (.int b3), some (.int b4)], [.int ((g 546 b4.toNatClampNeg) - b3)], aa_H g) rfl r
        exact rn_ire rfl r
theorem dn_219_27 {v : Option Value} {h : zz_H} {n : Nat} {g : aa_G} {b1 : Int32} {b2 : Int32} {b3 : Int32} {b4 : Int32}  (r : rn_s n 219 (27, [some (.ref 540), some (.int b1), some (.int b2), some (.int b3), some (.int b4)], [], aa_H g) v h) : (iw_s v h) (fn_219_27 g b1 b2 b3 b4) := dn_219_27l  n (Nat.le_refl n) b4 r
noncomputable def fn_219_24 (g : aa_G) (b1 : Int32) (b2 : Int32) (b3 : Int32) : Int32 × aa_G := fn_219_27 g b1 b2 b3 0
theorem dn_219_24 {v : Option Value} {h : zz_H} {n : Nat} {g : aa_G} {b1 : Int32} {b2 : Int32} {b3 : Int32}  (x4 : Option Value) (jx4 : rn_jk x4) (r : rn_s n 219 (24, [some (.ref 540), some (.int b1), some (.int b2), some (.int b3), x4], [], aa_H g) v h) : iw_s v h (fn_219_24 g b1 b2 b3) := by
  unfold fn_219_24
  obtain ⟨n16, ln16, r⟩ := rn_steps 1 (27, [some (.ref 540), some (.int b1), some (.int b2), some (.int b3), some (.int 0)], [], aa_H g) rfl r
  exact dn_219_27 r
noncomputable def fn_219 (g : aa_G) (a1 : Int32) (a2 : Int32) (a3 : Int32) : Int32 × aa_G := if (fn_191 g a1 a2) = 0 then (-1, g) else if (fn_199 a3) ≠ 0 then fn_219_24 (fn_212 g a1 a2) a1 a2 a3 else (-1, g)
theorem dn_219 {v : Option Value} {h : zz_H} {n : Nat} {g : aa_G} {a1 : Int32} {a2 : Int32} {a3 : Int32}  (r : rn_s n 219 (0, zz_in [.ref 540, .int a1, .int a2, .int a3] (zz_nl 219), [], aa_H g) v h) : iw_s v h (fn_219 g a1 a2 a3) := by
  have r : rn_s n 219 (0, [some (.ref 540), some (.int a1), some (.int a2), some (.int a3), none], [], aa_H g) v h := r
  unfold fn_219
  obtain ⟨n1, ln1, r⟩ := rn_steps 2 (3, [some (.ref 540), some (.int a1), some (.int a2), some (.int a3), none], [.int a2, .int a1, .ref 540], aa_H g) rfl r
  obtain ⟨_, n2, v1, h1, -, ln2, rc, r⟩ := rn_call (m2 := 191) (as := [.ref 540, .int a1, .int a2]) (rest := []) rfl rfl r
  obtain ⟨rfl, rfl⟩ := dn_191 rc
  have r : rn_s _ 219 (6, [some (.ref 540), some (.int a1), some (.int a2), some (.int a3), none], [.int (fn_191 g a1 a2)], aa_H g) v h := r
  refine rn_if (iw_s v h) rfl decide_eq_true_iff.symm r (fun c4 l5n l5 r => ?_) (fun c4 l5n l5 r => ?_)
  · obtain ⟨n6, ln6, r⟩ := rn_steps 0 (17, [some (.ref 540), some (.int a1), some (.int a2), some (.int a3), none], [.int (-1)], aa_H g) rfl r
    exact rn_ire rfl r
  · obtain ⟨n7, ln7, r⟩ := rn_steps 0 (10, [some (.ref 540), some (.int a1), some (.int a2), some (.int a3), none], [.int a3], aa_H g) rfl r
    obtain ⟨_, n8, v1, h1, -, ln8, rc, r⟩ := rn_call (m2 := 199) (as := [.int a3]) (rest := []) rfl rfl r
    obtain ⟨rfl, rfl⟩ := dn_199 rc
    have r : rn_s _ 219 (13, [some (.ref 540), some (.int a1), some (.int a2), some (.int a3), none], [.int (fn_199 a3)], aa_H g) v h := r
    refine rn_if (iw_s v h) rfl decide_eq_true_iff.symm r (fun c10 l11n l11 r => ?_) (fun c10 l11n l11 r => ?_)
    · obtain ⟨n12, ln12, r⟩ := rn_steps 2 (21, [some (.ref 540), some (.int a1), some (.int a2), some (.int a3), none], [.int a2, .int a1, .ref 540], aa_H g) rfl r
      obtain ⟨_, n13, v1, h1, -, ln13, rc, r⟩ := rn_call (m2 := 212) (as := [.ref 540, .int a1, .int a2]) (rest := []) rfl rfl r
      obtain ⟨rfl, rfl⟩ := dn_212 rc
      have r : rn_s _ 219 (24, [some (.ref 540), some (.int a1), some (.int a2), some (.int a3), none], [], aa_H (fn_212 g a1 a2)) v h := r
      exact dn_219_24 none rn_jn r
    · obtain ⟨n15, ln15, r⟩ := rn_steps 0 (17, [some (.ref 540), some (.int a1), some (.int a2), some (.int a3), none], [.int (-1)], aa_H g) rfl r
      exact rn_ire rfl r
-- 220: UnequalHoursModel clash
noncomputable def fn_220_70 (g : aa_G) (b3 : Int32) (b5 : Int32) (s0 : Int32) (s1 : Int32) : (Int32 × Int32) ⊕ (Int32 × aa_G) := .inl (s1 + s0, b5 + 1)
theorem dn_220_70 {v : Option Value} {h : zz_H} {n : Nat} {g : aa_G} {b3 : Int32} {b5 : Int32} {s0 : Int32} {s1 : Int32} (P : (Int32 × Int32) ⊕ (Int32 × aa_G) → Prop) (hO0 : ∀ n2, n2 < n → ∀ (yb4 : Int32) (yb5 : Int32) (yx1 yx2 : Option Value) (_ : rn_jk yx1) (_ : rn_jk yx2), rn_s n2 220 (33, [some (.ref 540), yx1, yx2, some (.int b3), some (.int yb4), some (.int yb5)], [], aa_H g) v h → P (.inl (yb4, yb5))) (hR : ∀ E, iw_s v h E → P (.inr E))  (x1 x2 x4 : Option Value) (jx1 : rn_jk x1) (jx2 : rn_jk x2) (jx4 : rn_jk x4) (r : rn_s n 220 (70, [some (.ref 540), x1, x2, some (.int b3), x4, some (.int b5)], [.int s0, .int s1], aa_H g) v h) : P (fn_220_70 g b3 b5 s0 s1) := by
  unfold fn_220_70
  obtain ⟨n32, ln32, r⟩ := rn_steps 3 (33, [some (.ref 540), x1, x2, some (.int b3), some (.int (s1 + s0)), some (.int (b5 + 1))], [], aa_H g) rfl r
  exact hO0 _ (by omega) (s1 + s0) (b5 + 1) x1 x2 jx1 jx2 r
noncomputable def fn_220_33b (g : aa_G) (b3 : Int32) (b4 : Int32) (b5 : Int32) : (Int32 × Int32) ⊕ (Int32 × aa_G) := if (g 540 26) ≤ b5 then .inr (b4, g) else if b3 ≤ ((g 546 b5.toNatClampNeg) - (g 546 (b5 - 1).toNatClampNeg)) then fn_220_70 g b3 b5 0 b4 else fn_220_70 g b3 b5 1 b4
noncomputable def fn_220_33 (g : aa_G) (b3 : Int32) (b4 : Int32) (b5 : Int32) : Int32 × aa_G := lp_f (0, g) (fun z : (Int32 × Int32) => fn_220_33b g b3 z.1 z.2) (b4, b5)
theorem dn_220_33l {v : Option Value} {h : zz_H} {N : Nat} {g : aa_G} {b3 : Int32} {d : Int32 × aa_G} : ∀ (n : Nat), n ≤ N → ∀ (b4 : Int32) (b5 : Int32) (x1 x2 : Option Value) (jx1 : rn_jk x1) (jx2 : rn_jk x2), rn_s n 220 (33, [some (.ref 540), x1, x2, some (.int b3), some (.int b4), some (.int b5)], [], aa_H g) v h → (iw_s v h) (lp_f d (fun z : (Int32 × Int32) => fn_220_33b g b3 z.1 z.2) (b4, b5)) := by
  generalize hf : (fun z : (Int32 × Int32) => fn_220_33b g b3 z.1 z.2) = f
  intro n
  induction n using Nat.strongRecOn with
  | _ n ih =>
    intro hN b4 b5 x1 x2 jx1 jx2 r
    refine lp_go ?_
    rw [← congrFun hf (b4, b5)]
    show lp_q (iw_s v h) d f (fn_220_33b g b3 b4 b5)
    unfold fn_220_33b
    obtain ⟨n17, ln17, r⟩ := rn_steps 2 (39, [some (.ref 540), x1, x2, some (.int b3), some (.int b4), some (.int b5)], [.int (g 540 26), .int b5], aa_H g) rfl r
    refine rn_ic (lp_q (iw_s v h) d f) rfl decide_eq_true_iff.symm r (fun c18 l19n l19 r => ?_) (fun c18 l19n l19 r => ?_)
    · obtain ⟨n20, ln20, r⟩ := rn_steps 0 (81, [some (.ref 540), x1, x2, some (.int b3), some (.int b4), some (.int b5)], [.int b4], aa_H g) rfl r
      exact rn_ire rfl r
    · obtain ⟨n21, ln21, r⟩ := rn_steps 3 (50, [some (.ref 540), x1, x2, some (.int b3), some (.int b4), some (.int b5)], [.int b5, .ref 546, .int b4], aa_H g) rfl r
      obtain ⟨hb23, n22, ln22, r⟩ := rn_ial (k := 546) rfl ⟨by decide, by decide⟩ rfl r
      have r : rn_s _ 220 (51, [some (.ref 540), x1, x2, some (.int b3), some (.int b4), some (.int b5)], [.int (g 546 b5.toNatClampNeg), .int b4], aa_H g) v h := r
      obtain ⟨n24, ln24, r⟩ := rn_steps 4 (59, [some (.ref 540), x1, x2, some (.int b3), some (.int b4), some (.int b5)], [.int (b5 - 1), .ref 546, .int (g 546 b5.toNatClampNeg), .int b4], aa_H g) rfl r
      obtain ⟨hb26, n25, ln25, r⟩ := rn_ial (k := 546) rfl ⟨by decide, by decide⟩ rfl r
      have r : rn_s _ 220 (60, [some (.ref 540), x1, x2, some (.int b3), some (.int b4), some (.int b5)], [.int (g 546 (b5 - 1).toNatClampNeg), .int (g 546 b5.toNatClampNeg), .int b4], aa_H g) v h := r
      obtain ⟨n27, ln27, r⟩ := rn_steps 1 (62, [some (.ref 540), x1, x2, some (.int b3), some (.int b4), some (.int b5)], [.int b3, .int ((g 546 b5.toNatClampNeg) - (g 546 (b5 - 1).toNatClampNeg)), .int b4], aa_H g) rfl r
      refine rn_ic (lp_q (iw_s v h) d f) rfl decide_eq_true_iff.symm r (fun c28 l29n l29 r => ?_) (fun c28 l29n l29 r => ?_)
      · obtain ⟨n30, ln30, r⟩ := rn_steps 0 (70, [some (.ref 540), x1, x2, some (.int b3), some (.int b4), some (.int b5)], [.int 0, .int b4], aa_H g) rfl r
        exact dn_220_70 (lp_q (iw_s v h) d f) (fun n2 l2 => ih n2 (by omega) (by omega)) (fun z hz => hz) x1 x2 (some (.int b4)) jx1 jx2 rn_ji r
      · obtain ⟨n31, ln31, r⟩ := rn_steps 1 (70, [some (.ref 540), x1, x2, some (.int b3), some (.int b4), some (.int b5)], [.int 1, .int b4], aa_H g) rfl r
        exact dn_220_70 (lp_q (iw_s v h) d f) (fun n2 l2 => ih n2 (by omega) (by omega)) (fun z hz => hz) x1 x2 (some (.int b4)) jx1 jx2 rn_ji r
theorem dn_220_33 {v : Option Value} {h : zz_H} {n : Nat} {g : aa_G} {b3 : Int32} {b4 : Int32} {b5 : Int32}  (x1 x2 : Option Value) (jx1 : rn_jk x1) (jx2 : rn_jk x2) (r : rn_s n 220 (33, [some (.ref 540), x1, x2, some (.int b3), some (.int b4), some (.int b5)], [], aa_H g) v h) : (iw_s v h) (fn_220_33 g b3 b4 b5) := dn_220_33l  n (Nat.le_refl n) b4 b5 x1 x2 jx1 jx2 r
noncomputable def fn_220_27 (g : aa_G) (b3 : Int32) : Int32 × aa_G := fn_220_33 g b3 0 1
theorem dn_220_27 {v : Option Value} {h : zz_H} {n : Nat} {g : aa_G} {b3 : Int32}  (x1 x2 x4 x5 : Option Value) (jx1 : rn_jk x1) (jx2 : rn_jk x2) (jx4 : rn_jk x4) (jx5 : rn_jk x5) (r : rn_s n 220 (27, [some (.ref 540), x1, x2, some (.int b3), x4, x5], [], aa_H g) v h) : iw_s v h (fn_220_27 g b3) := by
  unfold fn_220_27
  obtain ⟨n16, ln16, r⟩ := rn_steps 3 (33, [some (.ref 540), x1, x2, some (.int b3), some (.int 0), some (.int 1)], [], aa_H g) rfl r
  exact dn_220_33 x1 x2 jx1 jx2 r
noncomputable def fn_220 (g : aa_G) (a1 : Int32) (a2 : Int32) (a3 : Int32) : Int32 × aa_G := if (fn_191 g a1 a2) = 0 then (-1, g) else if (fn_154 a3 0 86400) ≠ 0 then fn_220_27 (fn_212 g a1 a2) a3 else (-1, g)
theorem dn_220 {v : Option Value} {h : zz_H} {n : Nat} {g : aa_G} {a1 : Int32} {a2 : Int32} {a3 : Int32}  (r : rn_s n 220 (0, zz_in [.ref 540, .int a1, .int a2, .int a3] (zz_nl 220), [], aa_H g) v h) : iw_s v h (fn_220 g a1 a2 a3) := by
  have r : rn_s n 220 (0, [some (.ref 540), some (.int a1), some (.int a2), some (.int a3), none, none], [], aa_H g) v h := r
  unfold fn_220
  obtain ⟨n1, ln1, r⟩ := rn_steps 2 (3, [some (.ref 540), some (.int a1), some (.int a2), some (.int a3), none, none], [.int a2, .int a1, .ref 540], aa_H g) rfl r
  obtain ⟨_, n2, v1, h1, -, ln2, rc, r⟩ := rn_call (m2 := 191) (as := [.ref 540, .int a1, .int a2]) (rest := []) rfl rfl r
  obtain ⟨rfl, rfl⟩ := dn_191 rc
  have r : rn_s _ 220 (6, [some (.ref 540), some (.int a1), some (.int a2), some (.int a3), none, none], [.int (fn_191 g a1 a2)], aa_H g) v h := r
  refine rn_if (iw_s v h) rfl decide_eq_true_iff.symm r (fun c4 l5n l5 r => ?_) (fun c4 l5n l5 r => ?_)
  · obtain ⟨n6, ln6, r⟩ := rn_steps 0 (20, [some (.ref 540), some (.int a1), some (.int a2), some (.int a3), none, none], [.int (-1)], aa_H g) rfl r
    exact rn_ire rfl r
  · obtain ⟨n7, ln7, r⟩ := rn_steps 2 (13, [some (.ref 540), some (.int a1), some (.int a2), some (.int a3), none, none], [.int 86400, .int 0, .int a3], aa_H g) rfl r
    obtain ⟨_, n8, v1, h1, -, ln8, rc, r⟩ := rn_call (m2 := 154) (as := [.int a3, .int 0, .int 86400]) (rest := []) rfl rfl r
    obtain ⟨rfl, rfl⟩ := dn_154 rc
    have r : rn_s _ 220 (16, [some (.ref 540), some (.int a1), some (.int a2), some (.int a3), none, none], [.int (fn_154 a3 0 86400)], aa_H g) v h := r
    refine rn_if (iw_s v h) rfl decide_eq_true_iff.symm r (fun c10 l11n l11 r => ?_) (fun c10 l11n l11 r => ?_)
    · obtain ⟨n12, ln12, r⟩ := rn_steps 2 (24, [some (.ref 540), some (.int a1), some (.int a2), some (.int a3), none, none], [.int a2, .int a1, .ref 540], aa_H g) rfl r
      obtain ⟨_, n13, v1, h1, -, ln13, rc, r⟩ := rn_call (m2 := 212) (as := [.ref 540, .int a1, .int a2]) (rest := []) rfl rfl r
      obtain ⟨rfl, rfl⟩ := dn_212 rc
      have r : rn_s _ 220 (27, [some (.ref 540), some (.int a1), some (.int a2), some (.int a3), none, none], [], aa_H (fn_212 g a1 a2)) v h := r
      exact dn_220_27 (some (.int a1)) (some (.int a2)) none none rn_ji rn_ji rn_jn rn_jn r
    · obtain ⟨n15, ln15, r⟩ := rn_steps 0 (20, [some (.ref 540), some (.int a1), some (.int a2), some (.int a3), none, none], [.int (-1)], aa_H g) rfl r
      exact rn_ire rfl r
end
