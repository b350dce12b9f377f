section
/-! METHODS READ (printed by wip/dc/dc.py) -/
-- 60: UnequalHours offset
noncomputable def fn_60_40 (g : aa_G) (b2 : Int32) (B3 : Nat) : Int32 × aa_G := (g B3 0, zz_w g B3 0 b2)
theorem dn_60_40 {v : Option Value} {h : zz_H} {n : Nat} {g : aa_G} {b2 : Int32} {B3 : Nat} (hB3 : ct_tw B3) (x0 x1 x4 : Option Value) (jx0 : rn_jk x0) (jx1 : rn_jk x1) (jx4 : rn_jk x4) (r : rn_s n 60 (40, [x0, x1, some (.int b2), some (.ref B3), x4], [.ref B3], aa_H g) v h) : iw_s v h (fn_60_40 g b2 B3) := by
  unfold fn_60_40
  obtain ⟨n19, ln19, r⟩ := rn_gf rfl (tw_hk hB3) (tw_hl hB3) rfl r
  have r : rn_s _ 60 (43, [x0, x1, some (.int b2), some (.ref B3), x4], [.int (g B3 0)], aa_H g) v h := r
  obtain ⟨n20, ln20, r⟩ := rn_steps 2 (47, [x0, x1, some (.int b2), some (.ref B3), some (.int (g B3 0))], [.int b2, .ref B3], aa_H g) rfl r
  obtain ⟨n21, ln21, r⟩ := rn_pf rfl (tw_hk hB3) (tw_hl hB3) rfl r
  have r : rn_s _ 60 (50, [x0, x1, some (.int b2), some (.ref B3), some (.int (g B3 0))], [], aa_H (zz_w g B3 0 b2)) v h := r
  obtain ⟨n22, ln22, r⟩ := rn_steps 0 (52, [x0, x1, some (.int b2), some (.ref B3), some (.int (g B3 0))], [.int (g B3 0)], aa_H (zz_w g B3 0 b2)) rfl r
  exact rn_ire rfl r
noncomputable def fn_60 (g : aa_G) (a1 : Int32) (a2 : Int32) : Int32 × aa_G := (match fn_31 g a1 with | none => ((-1000000, g)) | some W6 => (if (fn_14 a2 (-43200) 43200) ≠ 0 then fn_60_40 (fn_40 g) a2 W6 else (-1000000, g)))
theorem dn_60 {v : Option Value} {h : zz_H} {n : Nat} {g : aa_G} {a1 : Int32} {a2 : Int32} (hi : rem_ok g) (r : rn_s n 60 (0, zz_in [.ref 1, .int a1, .int a2] (zz_nl 60), [], aa_H g) v h) : iw_s v h (fn_60 g a1 a2) := by
  have r : rn_s n 60 (0, [some (.ref 1), some (.int a1), some (.int a2), none, none], [], aa_H g) v h := r
  unfold fn_60
  obtain ⟨n1, ln1, r⟩ := rn_steps 2 (5, [some (.ref 1), some (.int a1), some (.int a2), none, none], [.int a1, .ref 2], aa_H g) rfl r
  obtain ⟨_, n2, v1, h1, -, ln2, rc, r⟩ := rn_call (m2 := 31) (as := [.ref 2, .int a1]) (rest := []) rfl rfl r
  obtain ⟨rfl, rfl, ho4⟩ := dn_31 rc
  have r : rn_s _ 60 (8, [some (.ref 1), some (.int a1), some (.int a2), none, none], [zz_val (fn_31 g a1)], aa_H g) v h := r
  cases e5 : fn_31 g a1 with
  | none =>
    rw [e5] at r
    have r : rn_s _ 60 (8, [some (.ref 1), some (.int a1), some (.int a2), none, none], [.null], aa_H g) v h := r
    dsimp only
    obtain ⟨n8, ln8, r⟩ := rn_steps 3 (27, [some (.ref 1), some (.int a1), some (.int a2), some (.null), none], [.int (-1000000)], aa_H g) rfl r
    exact rn_ire rfl r
  | some W6 =>
    rw [e5] at r
    have hw7 : ct_tw W6 := ho4 _ e5
    have r : rn_s _ 60 (8, [some (.ref 1), some (.int a1), some (.int a2), none, none], [.ref W6], aa_H g) v h := r
    dsimp only
    obtain ⟨n9, ln9, r⟩ := rn_steps 5 (19, [some (.ref 1), some (.int a1), some (.int a2), some (.ref W6), none], [.int 43200, .int (-43200), .int a2], aa_H g) rfl r
    obtain ⟨_, n10, v1, h1, -, ln10, rc, r⟩ := rn_call (m2 := 14) (as := [.int a2, .int (-43200), .int 43200]) (rest := []) rfl rfl r
    obtain ⟨rfl, rfl⟩ := dn_14 rc
    have r : rn_s _ 60 (22, [some (.ref 1), some (.int a1), some (.int a2), some (.ref W6), none], [.int (fn_14 a2 (-43200) 43200)], aa_H g) v h := r
    refine rn_if (iw_s v h) rfl decide_eq_true_iff.symm r (fun c12 l13n l13 r => ?_) (fun c12 l13n l13 r => ?_)
    · obtain ⟨n14, ln14, r⟩ := rn_steps 3 (36, [some (.ref 1), some (.int a1), some (.int a2), some (.ref W6), none], [.ref 2, .ref 66], aa_H g) rfl r
      obtain ⟨_, n15, v1, h1, -, ln15, rc, r⟩ := rn_call (m2 := 40) (as := [.ref 66, .ref 2]) (rest := []) rfl rfl r
      obtain ⟨rfl, rfl⟩ := dn_40 hi rc
      have r : rn_s _ 60 (39, [some (.ref 1), some (.int a1), some (.int a2), some (.ref W6), none], [], aa_H (fn_40 g)) v h := r
      obtain ⟨n17, ln17, r⟩ := rn_steps 0 (40, [some (.ref 1), some (.int a1), some (.int a2), some (.ref W6), none], [.ref W6], aa_H (fn_40 g)) rfl r
      exact dn_60_40 hw7 (some (.ref 1)) (some (.int a1)) none rn_jr rn_ji rn_jn r
    · obtain ⟨n18, ln18, r⟩ := rn_steps 0 (27, [some (.ref 1), some (.int a1), some (.int a2), some (.ref W6), none], [.int (-1000000)], aa_H g) rfl r
      exact rn_ire rfl r
-- 61: UnequalHours parts
noncomputable def fn_61_24 (g : aa_G) (b1 : Int32) : Int32 × aa_G := (g 2 1, zz_w g 2 1 b1)
theorem dn_61_24 {v : Option Value} {h : zz_H} {n : Nat} {g : aa_G} {b1 : Int32}  (x2 : Option Value) (jx2 : rn_jk x2) (r : rn_s n 61 (24, [some (.ref 1), some (.int b1), x2], [], aa_H g) v h) : iw_s v h (fn_61_24 g b1) := by
  unfold fn_61_24
  obtain ⟨n10, ln10, r⟩ := rn_steps 8 (41, [some (.ref 1), some (.int b1), some (.int (g 2 1))], [.int (g 2 1)], aa_H (zz_w g 2 1 b1)) rfl r
  exact rn_ire rfl r
noncomputable def fn_61 (g : aa_G) (a1 : Int32) : Int32 × aa_G := if (fn_14 a1 1 3600) ≠ 0 then fn_61_24 (fn_40 g) a1 else (-1, g)
theorem dn_61 {v : Option Value} {h : zz_H} {n : Nat} {g : aa_G} {a1 : Int32} (hi : rem_ok g) (r : rn_s n 61 (0, zz_in [.ref 1, .int a1] (zz_nl 61), [], aa_H g) v h) : iw_s v h (fn_61 g a1) := by
  have r : rn_s n 61 (0, [some (.ref 1), some (.int a1), none], [], aa_H g) v h := r
  unfold fn_61
  obtain ⟨n1, ln1, r⟩ := rn_steps 2 (5, [some (.ref 1), some (.int a1), none], [.int 3600, .int 1, .int a1], aa_H g) rfl r
  obtain ⟨_, n2, v1, h1, -, ln2, rc, r⟩ := rn_call (m2 := 14) (as := [.int a1, .int 1, .int 3600]) (rest := []) rfl rfl r
  obtain ⟨rfl, rfl⟩ := dn_14 rc
  have r : rn_s _ 61 (8, [some (.ref 1), some (.int a1), none], [.int (fn_14 a1 1 3600)], aa_H g) v h := r
  refine rn_if (iw_s v h) rfl decide_eq_true_iff.symm r (fun c4 l5n l5 r => ?_) (fun c4 l5n l5 r => ?_)
  · obtain ⟨n6, ln6, r⟩ := rn_steps 3 (21, [some (.ref 1), some (.int a1), none], [.ref 2, .ref 66], aa_H g) rfl r
    obtain ⟨_, n7, v1, h1, -, ln7, rc, r⟩ := rn_call (m2 := 40) (as := [.ref 66, .ref 2]) (rest := []) rfl rfl r
    obtain ⟨rfl, rfl⟩ := dn_40 hi rc
    have r : rn_s _ 61 (24, [some (.ref 1), some (.int a1), none], [], aa_H (fn_40 g)) v h := r
    exact dn_61_24 none rn_jn r
  · obtain ⟨n9, ln9, r⟩ := rn_steps 0 (12, [some (.ref 1), some (.int a1), none], [.int (-1)], aa_H g) rfl r
    exact rn_ire rfl r
-- 36: UnequalHours Town fill
noncomputable def fn_36 (g : aa_G) (T : Nat) (a1 : Int32) (a2 : Int32) (a3 : Int32) (a4 : Int32) (a5 : Int32) : aa_G := if (fn_14 a1 0 11) ≠ 0 then zz_w (zz_w (zz_w (zz_w g (T + 1) a1.toNatClampNeg a2) (T + 2) a1.toNatClampNeg a3) (T + 3) a1.toNatClampNeg a4) (T + 4) a1.toNatClampNeg a5 else g
theorem dn_36 {v : Option Value} {h : zz_H} {n : Nat} {g : aa_G} {T : Nat} {a1 : Int32} {a2 : Int32} {a3 : Int32} {a4 : Int32} {a5 : Int32} (hT : ct_tw T) (r : rn_s n 36 (0, zz_in [.ref T, .int a1, .int a2, .int a3, .int a4, .int a5] (zz_nl 36), [], aa_H g) v h) : ig_s v h (fn_36 g T a1 a2 a3 a4 a5) := by
  have r : rn_s n 36 (0, [some (.ref T), some (.int a1), some (.int a2), some (.int a3), some (.int a4), some (.int a5)], [], aa_H g) v h := r
  unfold fn_36
  obtain ⟨n1, ln1, r⟩ := rn_steps 2 (4, [some (.ref T), some (.int a1), some (.int a2), some (.int a3), some (.int a4), some (.int a5)], [.int 11, .int 0, .int a1], aa_H g) rfl r
  obtain ⟨_, n2, v1, h1, -, ln2, rc, r⟩ := rn_call (m2 := 14) (as := [.int a1, .int 0, .int 11]) (rest := []) rfl rfl r
  obtain ⟨rfl, rfl⟩ := dn_14 rc
  have r : rn_s _ 36 (7, [some (.ref T), some (.int a1), some (.int a2), some (.int a3), some (.int a4), some (.int a5)], [.int (fn_14 a1 0 11)], aa_H g) v h := r
  refine rn_if (ig_s v h) rfl decide_eq_true_iff.symm r (fun c4 l5n l5 r => ?_) (fun c4 l5n l5 r => ?_)
  · obtain ⟨n6, ln6, r⟩ := rn_steps 0 (12, [some (.ref T), some (.int a1), some (.int a2), some (.int a3), some (.int a4), some (.int a5)], [.ref T], aa_H g) rfl r
    obtain ⟨n7, ln7, r⟩ := rn_gr rfl (tw_hk hT) (tw_hl hT) rfl r
    have r : rn_s _ 36 (15, [some (.ref T), some (.int a1), some (.int a2), some (.int a3), some (.int a4), some (.int a5)], [.ref (T + 1)], aa_H g) v h := r
    obtain ⟨n8, ln8, r⟩ := rn_steps 1 (17, [some (.ref T), some (.int a1), some (.int a2), some (.int a3), some (.int a4), some (.int a5)], [.int a2, .int a1, .ref (T + 1)], aa_H g) rfl r
    obtain ⟨hb10, n9, ln9, r⟩ := rn_ias rfl (tw_a1 hT).1 (tw_a1 hT).2 r
    have r : rn_s _ 36 (18, [some (.ref T), some (.int a1), some (.int a2), some (.int a3), some (.int a4), some (.int a5)], [], aa_H (zz_w g (T + 1) a1.toNatClampNeg a2)) v h := r
    obtain ⟨n11, ln11, r⟩ := rn_steps 0 (19, [some (.ref T), some (.int a1), some (.int a2), some (.int a3), some (.int a4), some (.int a5)], [.ref T], aa_H (zz_w g (T + 1) a1.toNatClampNeg a2)) rfl r
    obtain ⟨n12, ln12, r⟩ := rn_gr rfl (tw_hk hT) (tw_hl hT) rfl r
    have r : rn_s _ 36 (22, [some (.ref T), some (.int a1), some (.int a2), some (.int a3), some (.int a4), some (.int a5)], [.ref (T + 2)], aa_H (zz_w g (T + 1) a1.toNatClampNeg a2)) v h := r
    obtain ⟨n13, ln13, r⟩ := rn_steps 1 (24, [some (.ref T), some (.int a1), some (.int a2), some (.int a3), some (.int a4), some (.int a5)], [.int a3, .int a1, .ref (T + 2)], aa_H (zz_w g (T + 1) a1.toNatClampNeg a2)) rfl r
    obtain ⟨hb15, n14, ln14, r⟩ := rn_ias rfl (tw_a2 hT).1 (tw_a2 hT).2 r
    have r : rn_s _ 36 (25, [some (.ref T), some (.int a1), some (.int a2), some (.int a3), some (.int a4), some (.int a5)], [], aa_H (zz_w (zz_w g (T + 1) a1.toNatClampNeg a2) (T + 2) a1.toNatClampNeg a3)) v h := r
    obtain ⟨n16, ln16, r⟩ := rn_steps 0 (26, [some (.ref T), some (.int a1), some (.int a2), some (.int a3), some (.int a4), some (.int a5)], [.ref T], aa_H (zz_w (zz_w g (T + 1) a1.toNatClampNeg a2) (T + 2) a1.toNatClampNeg a3)) rfl r
    obtain ⟨n17, ln17, r⟩ := rn_gr rfl (tw_hk hT) (tw_hl hT) rfl r
    have r : rn_s _ 36 (29, [some (.ref T), some (.int a1), some (.int a2), some (.int a3), some (.int a4), some (.int a5)], [.ref (T + 3)], aa_H (zz_w (zz_w g (T + 1) a1.toNatClampNeg a2) (T + 2) a1.toNatClampNeg a3)) v h := r
    obtain ⟨n18, ln18, r⟩ := rn_steps 1 (32, [some (.ref T), some (.int a1), some (.int a2), some (.int a3), some (.int a4), some (.int a5)], [.int a4, .int a1, .ref (T + 3)], aa_H (zz_w (zz_w g (T + 1) a1.toNatClampNeg a2) (T + 2) a1.toNatClampNeg a3)) rfl r
    obtain ⟨hb20, n19, ln19, r⟩ := rn_ias rfl (tw_a3 hT).1 (tw_a3 hT).2 r
    have r : rn_s _ 36 (33, [some (.ref T), some (.int a1), some (.int a2), some (.int a3), some (.int a4), some (.int a5)], [], aa_H (zz_w (zz_w (zz_w g (T + 1) a1.toNatClampNeg a2) (T + 2) a1.toNatClampNeg a3) (T + 3) a1.toNatClampNeg a4)) v h := r
    obtain ⟨n21, ln21, r⟩ := rn_steps 0 (34, [some (.ref T), some (.int a1), some (.int a2), some (.int a3), some (.int a4), some (.int a5)], [.ref T], aa_H (zz_w (zz_w (zz_w g (T + 1) a1.toNatClampNeg a2) (T + 2) a1.toNatClampNeg a3) (T + 3) a1.toNatClampNeg a4)) rfl r
    obtain ⟨n22, ln22, r⟩ := rn_gr rfl (tw_hk hT) (tw_hl hT) rfl r
    have r : rn_s _ 36 (37, [some (.ref T), some (.int a1), some (.int a2), some (.int a3), some (.int a4), some (.int a5)], [.ref (T + 4)], aa_H (zz_w (zz_w (zz_w g (T + 1) a1.toNatClampNeg a2) (T + 2) a1.toNatClampNeg a3) (T + 3) a1.toNatClampNeg a4)) v h := r
    obtain ⟨n23, ln23, r⟩ := rn_steps 1 (40, [some (.ref T), some (.int a1), some (.int a2), some (.int a3), some (.int a4), some (.int a5)], [.int a5, .int a1, .ref (T + 4)], aa_H (zz_w (zz_w (zz_w g (T + 1) a1.toNatClampNeg a2) (T + 2) a1.toNatClampNeg a3) (T + 3) a1.toNatClampNeg a4)) rfl r
    obtain ⟨hb25, n24, ln24, r⟩ := rn_ias rfl (tw_a4 hT).1 (tw_a4 hT).2 r
    have r : rn_s _ 36 (41, [some (.ref T), some (.int a1), some (.int a2), some (.int a3), some (.int a4), some (.int a5)], [], aa_H (zz_w (zz_w (zz_w (zz_w g (T + 1) a1.toNatClampNeg a2) (T + 2) a1.toNatClampNeg a3) (T + 3) a1.toNatClampNeg a4) (T + 4) a1.toNatClampNeg a5)) v h := r
    exact rn_ret 1 rfl r
  · exact rn_ret 1 rfl r
-- 64: UnequalHours Town dropPoint
noncomputable def fn_64_64 (g : aa_G) (B0 : Nat) (b2 : Int32) : (aa_G × Int32) ⊕ aa_G := .inl (g, b2 + 1)
theorem dn_64_64 {v : Option Value} {h : zz_H} {n : Nat} {g : aa_G} {B0 : Nat} {b2 : Int32} (P : (aa_G × Int32) ⊕ aa_G → Prop) (hO0 : ∀ n2, n2 < n → ∀ (yg : aa_G) (yb2 : Int32) (yx1 : Option Value) (_ : rn_jk yx1), rn_s n2 64 (17, [some (.ref B0), yx1, some (.int yb2)], [], aa_H yg) v h → P (.inl (yg, yb2))) (hR : ∀ E, ig_s v h E → P (.inr E)) (hB0 : ct_tw B0) (x1 : Option Value) (jx1 : rn_jk x1) (r : rn_s n 64 (64, [some (.ref B0), x1, some (.int b2)], [], aa_H g) v h) : P (fn_64_64 g B0 b2) := by
  unfold fn_64_64
  obtain ⟨n40, ln40, r⟩ := rn_iin (i := 2) rfl rfl jx1 rfl rfl ⟨Nat.le_of_ble_eq_true rfl, Nat.le_of_ble_eq_true rfl⟩ r
  have r : rn_s _ 64 (67, [some (.ref B0), x1, some (.int (b2 + 1))], [], aa_H g) v h := r
  obtain ⟨n41, ln41, r⟩ := rn_steps 0 (17, [some (.ref B0), x1, some (.int (b2 + 1))], [], aa_H g) rfl r
  exact hO0 _ (by omega) g (b2 + 1) x1 jx1 r
noncomputable def fn_64_17b (g : aa_G) (B0 : Nat) (b2 : Int32) : (aa_G × Int32) ⊕ aa_G := if ((g B0 1) - 1) ≤ b2 then .inr (zz_w g B0 1 ((g B0 1) - 1)) else fn_64_64 (fn_36 g B0 b2 (g (B0 + 1) (b2 + 1).toNatClampNeg) (g (B0 + 2) (b2 + 1).toNatClampNeg) (g (B0 + 3) (b2 + 1).toNatClampNeg) (g (B0 + 4) (b2 + 1).toNatClampNeg)) B0 b2
noncomputable def fn_64_17 (g : aa_G) (B0 : Nat) (b2 : Int32) : aa_G := lp_f g (fun z : (aa_G × Int32) => fn_64_17b z.1 B0 z.2) (g, b2)
theorem dn_64_17l {v : Option Value} {h : zz_H} {N : Nat} {B0 : Nat} (hB0 : ct_tw B0) {d : aa_G} : ∀ (n : Nat), n ≤ N → ∀ (g : aa_G) (b2 : Int32) (x1 : Option Value) (jx1 : rn_jk x1), rn_s n 64 (17, [some (.ref B0), x1, some (.int b2)], [], aa_H g) v h → (ig_s v h) (lp_f d (fun z : (aa_G × Int32) => fn_64_17b z.1 B0 z.2) (g, b2)) := by
  generalize hf : (fun z : (aa_G × Int32) => fn_64_17b z.1 B0 z.2) = f
  intro n
  induction n using Nat.strongRecOn with
  | _ n ih =>
    intro hN g b2 x1 jx1 r
    refine lp_go ?_
    rw [← congrFun hf (g, b2)]
    show lp_q (ig_s v h) d f (fn_64_17b g B0 b2)
    unfold fn_64_17b
    obtain ⟨n9, ln9, r⟩ := rn_steps 1 (19, [some (.ref B0), x1, some (.int b2)], [.ref B0, .int b2], aa_H g) rfl r
    obtain ⟨n10, ln10, r⟩ := rn_gf rfl (tw_hk hB0) (tw_hl hB0) rfl r
    have r : rn_s _ 64 (22, [some (.ref B0), x1, some (.int b2)], [.int (g B0 1), .int b2], aa_H g) v h := r
    obtain ⟨n11, ln11, r⟩ := rn_steps 1 (24, [some (.ref B0), x1, some (.int b2)], [.int ((g B0 1) - 1), .int b2], aa_H g) rfl r
    refine rn_ic (lp_q (ig_s v h) d f) rfl decide_eq_true_iff.symm r (fun c12 l13n l13 r => ?_) (fun c12 l13n l13 r => ?_)
    · obtain ⟨n14, ln14, r⟩ := rn_steps 1 (72, [some (.ref B0), x1, some (.int b2)], [.ref B0, .ref B0], aa_H g) rfl r
      obtain ⟨n15, ln15, r⟩ := rn_gf rfl (tw_hk hB0) (tw_hl hB0) rfl r
      have r : rn_s _ 64 (75, [some (.ref B0), x1, some (.int b2)], [.int (g B0 1), .ref B0], aa_H g) v h := r
      obtain ⟨n16, ln16, r⟩ := rn_steps 1 (77, [some (.ref B0), x1, some (.int b2)], [.int ((g B0 1) - 1), .ref B0], aa_H g) rfl r
      obtain ⟨n17, ln17, r⟩ := rn_pf rfl (tw_hk hB0) (tw_hl hB0) rfl r
      have r : rn_s _ 64 (80, [some (.ref B0), x1, some (.int b2)], [], aa_H (zz_w g B0 1 ((g B0 1) - 1))) v h := r
      exact rn_ret 1 rfl r
    · obtain ⟨n18, ln18, r⟩ := rn_steps 2 (30, [some (.ref B0), x1, some (.int b2)], [.ref B0, .int b2, .ref B0], aa_H g) rfl r
      obtain ⟨n19, ln19, r⟩ := rn_gr rfl (tw_hk hB0) (tw_hl hB0) rfl r
      have r : rn_s _ 64 (33, [some (.ref B0), x1, some (.int b2)], [.ref (B0 + 1), .int b2, .ref B0], aa_H g) v h := r
      obtain ⟨n20, ln20, r⟩ := rn_steps 2 (36, [some (.ref B0), x1, some (.int b2)], [.int (b2 + 1), .ref (B0 + 1), .int b2, .ref B0], aa_H g) rfl r
      obtain ⟨hb22, n21, ln21, r⟩ := rn_ial rfl (tw_a1 hB0).1 (tw_a1 hB0).2 r
      have r : rn_s _ 64 (37, [some (.ref B0), x1, some (.int b2)], [.int (g (B0 + 1) (b2 + 1).toNatClampNeg), .int b2, .ref B0], aa_H g) v h := r
      obtain ⟨n23, ln23, r⟩ := rn_steps 0 (38, [some (.ref B0), x1, some (.int b2)], [.ref B0, .int (g (B0 + 1) (b2 + 1).toNatClampNeg), .int b2, .ref B0], aa_H g) rfl r
      obtain ⟨n24, ln24, r⟩ := rn_gr rfl (tw_hk hB0) (tw_hl hB0) rfl r
      have r : rn_s _ 64 (41, [some (.ref B0), x1, some (.int b2)], [.ref (B0 + 2), .int (g (B0 + 1) (b2 + 1).toNatClampNeg), .int b2, .ref B0], aa_H g) v h := r
      obtain ⟨n25, ln25, r⟩ := rn_steps 2 (44, [some (.ref B0), x1, some (.int b2)], [.int (b2 + 1), .ref (B0 + 2), .int (g (B0 + 1) (b2 + 1).toNatClampNeg), .int b2, .ref B0], aa_H g) rfl r
      obtain ⟨hb27, n26, ln26, r⟩ := rn_ial rfl (tw_a2 hB0).1 (tw_a2 hB0).2 r
      have r : rn_s _ 64 (45, [some (.ref B0), x1, some (.int b2)], [.int (g (B0 + 2) (b2 + 1).toNatClampNeg), .int (g (B0 + 1) (b2 + 1).toNatClampNeg), .int b2, .ref B0], aa_H g) v h := r
      obtain ⟨n28, ln28, r⟩ := rn_steps 0 (46, [some (.ref B0), x1, some (.int b2)], [.ref B0, .int (g (B0 + 2) (b2 + 1).toNatClampNeg), .int (g (B0 + 1) (b2 + 1).toNatClampNeg), .int b2, .ref B0], aa_H g) rfl r
      obtain ⟨n29, ln29, r⟩ := rn_gr rfl (tw_hk hB0) (tw_hl hB0) rfl r
      have r : rn_s _ 64 (49, [some (.ref B0), x1, some (.int b2)], [.ref (B0 + 3), .int (g (B0 + 2) (b2 + 1).toNatClampNeg), .int (g (B0 + 1) (b2 + 1).toNatClampNeg), .int b2, .ref B0], aa_H g) v h := r
      obtain ⟨n30, ln30, r⟩ := rn_steps 2 (52, [some (.ref B0), x1, some (.int b2)], [.int (b2 + 1), .ref (B0 + 3), .int (g (B0 + 2) (b2 + 1).toNatClampNeg), .int (g (B0 + 1) (b2 + 1).toNatClampNeg), .int b2, .ref B0], aa_H g) rfl r
      obtain ⟨hb32, n31, ln31, r⟩ := rn_ial rfl (tw_a3 hB0).1 (tw_a3 hB0).2 r
      have r : rn_s _ 64 (53, [some (.ref B0), x1, some (.int b2)], [.int (g (B0 + 3) (b2 + 1).toNatClampNeg), .int (g (B0 + 2) (b2 + 1).toNatClampNeg), .int (g (B0 + 1) (b2 + 1).toNatClampNeg), .int b2, .ref B0], aa_H g) v h := r
      obtain ⟨n33, ln33, r⟩ := rn_steps 0 (54, [some (.ref B0), x1, some (.int b2)], [.ref B0, .int (g (B0 + 3) (b2 + 1).toNatClampNeg), .int (g (B0 + 2) (b2 + 1).toNatClampNeg), .int (g (B0 + 1) (b2 + 1).toNatClampNeg), .int b2, .ref B0], aa_H g) rfl r
      obtain ⟨n34, ln34, r⟩ := rn_gr rfl (tw_hk hB0) (tw_hl hB0) rfl r
      have r : rn_s _ 64 (57, [some (.ref B0), x1, some (.int b2)], [.ref (B0 + 4), .int (g (B0 + 3) (b2 + 1).toNatClampNeg), .int (g (B0 + 2) (b2 + 1).toNatClampNeg), .int (g (B0 + 1) (b2 + 1).toNatClampNeg), .int b2, .ref B0], aa_H g) v h := r
      obtain ⟨n35, ln35, r⟩ := rn_steps 2 (60, [some (.ref B0), x1, some (.int b2)], [.int (b2 + 1), .ref (B0 + 4), .int (g (B0 + 3) (b2 + 1).toNatClampNeg), .int (g (B0 + 2) (b2 + 1).toNatClampNeg), .int (g (B0 + 1) (b2 + 1).toNatClampNeg), .int b2, .ref B0], aa_H g) rfl r
      obtain ⟨hb37, n36, ln36, r⟩ := rn_ial rfl (tw_a4 hB0).1 (tw_a4 hB0).2 r
      have r : rn_s _ 64 (61, [some (.ref B0), x1, some (.int b2)], [.int (g (B0 + 4) (b2 + 1).toNatClampNeg), .int (g (B0 + 3) (b2 + 1).toNatClampNeg), .int (g (B0 + 2) (b2 + 1).toNatClampNeg), .int (g (B0 + 1) (b2 + 1).toNatClampNeg), .int b2, .ref B0], aa_H g) v h := r
      obtain ⟨_, n38, v1, h1, -, ln38, rc, r⟩ := rn_cv (k := B0) (as := [.int b2, .int (g (B0 + 1) (b2 + 1).toNatClampNeg), .int (g (B0 + 2) (b2 + 1).toNatClampNeg), .int (g (B0 + 3) (b2 + 1).toNatClampNeg), .int (g (B0 + 4) (b2 + 1).toNatClampNeg)]) (rest := []) rfl (tw_hk hB0) (tw_hl hB0) rfl rfl r
      obtain ⟨rfl, rfl⟩ := dn_36 hB0 rc
      have r : rn_s _ 64 (64, [some (.ref B0), x1, some (.int b2)], [], aa_H (fn_36 g B0 b2 (g (B0 + 1) (b2 + 1).toNatClampNeg) (g (B0 + 2) (b2 + 1).toNatClampNeg) (g (B0 + 3) (b2 + 1).toNatClampNeg) (g (B0 + 4) (b2 + 1).toNatClampNeg))) v h := r
      exact dn_64_64 (lp_q (ig_s v h) d f) (fun n2 l2 => ih n2 (by omega) (by omega)) (fun z hz => hz) hB0 x1 jx1 r
theorem dn_64_17 {v : Option Value} {h : zz_H} {n : Nat} {g : aa_G} {B0 : Nat} {b2 : Int32} (hB0 : ct_tw B0) (x1 : Option Value) (jx1 : rn_jk x1) (r : rn_s n 64 (17, [some (.ref B0), x1, some (.int b2)], [], aa_H g) v h) : (ig_s v h) (fn_64_17 g B0 b2) := dn_64_17l hB0 n (Nat.le_refl n) g b2 x1 jx1 r
noncomputable def fn_64 (g : aa_G) (T : Nat) (a1 : Int32) : aa_G := if (fn_14 a1 0 ((g T 1) - 1)) ≠ 0 then fn_64_17 g T a1 else g
theorem dn_64 {v : Option Value} {h : zz_H} {n : Nat} {g : aa_G} {T : Nat} {a1 : Int32} (hT : ct_tw T) (r : rn_s n 64 (0, zz_in [.ref T, .int a1] (zz_nl 64), [], aa_H g) v h) : ig_s v h (fn_64 g T a1) := by
  have r : rn_s n 64 (0, [some (.ref T), some (.int a1), none], [], aa_H g) v h := r
  unfold fn_64
  obtain ⟨n1, ln1, r⟩ := rn_steps 2 (3, [some (.ref T), some (.int a1), none], [.ref T, .int 0, .int a1], aa_H g) rfl r
  obtain ⟨n2, ln2, r⟩ := rn_gf rfl (tw_hk hT) (tw_hl hT) rfl r
  have r : rn_s _ 64 (6, [some (.ref T), some (.int a1), none], [.int (g T 1), .int 0, .int a1], aa_H g) v h := r
  obtain ⟨n3, ln3, r⟩ := rn_steps 1 (8, [some (.ref T), some (.int a1), none], [.int ((g T 1) - 1), .int 0, .int a1], aa_H g) rfl r
  obtain ⟨_, n4, v1, h1, -, ln4, rc, r⟩ := rn_call (m2 := 14) (as := [.int a1, .int 0, .int ((g T 1) - 1)]) (rest := []) rfl rfl r
  obtain ⟨rfl, rfl⟩ := dn_14 rc
  have r : rn_s _ 64 (11, [some (.ref T), some (.int a1), none], [.int (fn_14 a1 0 ((g T 1) - 1))], aa_H g) v h := r
  refine rn_if (ig_s v h) rfl decide_eq_true_iff.symm r (fun c6 l7n l7 r => ?_) (fun c6 l7n l7 r => ?_)
  · obtain ⟨n8, ln8, r⟩ := rn_steps 1 (17, [some (.ref T), some (.int a1), some (.int a1)], [], aa_H g) rfl r
    exact dn_64_17 hT (some (.int a1)) rn_ji r
  · exact rn_ret 1 rfl r
-- 63: UnequalHours Town pointOn
noncomputable def fn_63_2b (g : aa_G) (B0 : Nat) (b1 : Int32) (b2 : Int32) : Int32 ⊕ Int32 := if (g B0 1) ≤ b2 then .inr (-1) else if (g (B0 + 1) b2.toNatClampNeg) ≠ b1 then .inl (b2 + 1) else .inr b2
noncomputable def fn_63_2 (g : aa_G) (B0 : Nat) (b1 : Int32) (b2 : Int32) : Int32 := lp_f 0 (fun z : Int32 => fn_63_2b g B0 b1 z) b2
theorem dn_63_2l {v : Option Value} {h : zz_H} {N : Nat} {g : aa_G} {B0 : Nat} {b1 : Int32} (hB0 : ct_tw B0) {d : Int32} : ∀ (n : Nat), n ≤ N → ∀ (b2 : Int32), rn_s n 63 (2, [some (.ref B0), some (.int b1), some (.int b2)], [], aa_H g) v h → (ir_s g v h) (lp_f d (fun z : Int32 => fn_63_2b g B0 b1 z) b2) := by
  generalize hf : (fun z : Int32 => fn_63_2b g B0 b1 z) = f
  intro n
  induction n using Nat.strongRecOn with
  | _ n ih =>
    intro hN b2  r
    refine lp_go ?_
    rw [← congrFun hf b2]
    show lp_q (ir_s g v h) d f (fn_63_2b g B0 b1 b2)
    unfold fn_63_2b
    obtain ⟨n2, ln2, r⟩ := rn_steps 1 (4, [some (.ref B0), some (.int b1), some (.int b2)], [.ref B0, .int b2], aa_H g) rfl r
    obtain ⟨n3, ln3, r⟩ := rn_gf rfl (tw_hk hB0) (tw_hl hB0) rfl r
    have r : rn_s _ 63 (7, [some (.ref B0), some (.int b1), some (.int b2)], [.int (g B0 1), .int b2], aa_H g) v h := r
    refine rn_ic (lp_q (ir_s g v h) d f) rfl decide_eq_true_iff.symm r (fun c4 l5n l5 r => ?_) (fun c4 l5n l5 r => ?_)
    · obtain ⟨n6, ln6, r⟩ := rn_steps 0 (29, [some (.ref B0), some (.int b1), some (.int b2)], [.int (-1)], aa_H g) rfl r
      exact rn_ire rfl r
    · obtain ⟨n7, ln7, r⟩ := rn_steps 0 (11, [some (.ref B0), some (.int b1), some (.int b2)], [.ref B0], aa_H g) rfl r
      obtain ⟨n8, ln8, r⟩ := rn_gr rfl (tw_hk hB0) (tw_hl hB0) rfl r
      have r : rn_s _ 63 (14, [some (.ref B0), some (.int b1), some (.int b2)], [.ref (B0 + 1)], aa_H g) v h := r
      obtain ⟨n9, ln9, r⟩ := rn_steps 0 (15, [some (.ref B0), some (.int b1), some (.int b2)], [.int b2, .ref (B0 + 1)], aa_H g) rfl r
      obtain ⟨hb11, n10, ln10, r⟩ := rn_ial rfl (tw_a1 hB0).1 (tw_a1 hB0).2 r
      have r : rn_s _ 63 (16, [some (.ref B0), some (.int b1), some (.int b2)], [.int (g (B0 + 1) b2.toNatClampNeg)], aa_H g) v h := r
      obtain ⟨n12, ln12, r⟩ := rn_steps 0 (17, [some (.ref B0), some (.int b1), some (.int b2)], [.int b1, .int (g (B0 + 1) b2.toNatClampNeg)], aa_H g) rfl r
      refine rn_ic (lp_q (ir_s g v h) d f) rfl decide_eq_true_iff.symm r (fun c13 l14n l14 r => ?_) (fun c13 l14n l14 r => ?_)
      · obtain ⟨n15, ln15, r⟩ := rn_steps 1 (2, [some (.ref B0), some (.int b1), some (.int (b2 + 1))], [], aa_H g) rfl r
        exact ih _ (by omega) (by omega) (b2 + 1) r
      · obtain ⟨n16, ln16, r⟩ := rn_steps 0 (21, [some (.ref B0), some (.int b1), some (.int b2)], [.int b2], aa_H g) rfl r
        exact rn_ire rfl r
theorem dn_63_2 {v : Option Value} {h : zz_H} {n : Nat} {g : aa_G} {B0 : Nat} {b1 : Int32} {b2 : Int32} (hB0 : ct_tw B0) (r : rn_s n 63 (2, [some (.ref B0), some (.int b1), some (.int b2)], [], aa_H g) v h) : (ir_s g v h) (fn_63_2 g B0 b1 b2) := dn_63_2l hB0 n (Nat.le_refl n) b2 r
noncomputable def fn_63 (g : aa_G) (T : Nat) (a1 : Int32) : Int32 := fn_63_2 g T a1 0
theorem dn_63 {v : Option Value} {h : zz_H} {n : Nat} {g : aa_G} {T : Nat} {a1 : Int32} (hT : ct_tw T) (r : rn_s n 63 (0, zz_in [.ref T, .int a1] (zz_nl 63), [], aa_H g) v h) : ir_s g v h (fn_63 g T a1) := by
  have r : rn_s n 63 (0, [some (.ref T), some (.int a1), none], [], aa_H g) v h := r
  unfold fn_63
  obtain ⟨n1, ln1, r⟩ := rn_steps 1 (2, [some (.ref T), some (.int a1), some (.int 0)], [], aa_H g) rfl r
  exact dn_63_2 hT r
-- 62: UnequalHours remove
noncomputable def fn_62_45 (g : aa_G) (S0 : Nat) : Int32 × aa_G := (g S0 1, g)
theorem dn_62_45 {v : Option Value} {h : zz_H} {n : Nat} {g : aa_G} {S0 : Nat} (hS0 : ct_tw S0) (x0 x1 x2 x3 : Option Value) (jx0 : rn_jk x0) (jx1 : rn_jk x1) (jx2 : rn_jk x2) (jx3 : rn_jk x3) (r : rn_s n 62 (45, [x0, x1, x2, x3], [.ref S0], aa_H g) v h) : iw_s v h (fn_62_45 g S0) := by
  unfold fn_62_45
  obtain ⟨n25, ln25, r⟩ := rn_gf rfl (tw_hk hS0) (tw_hl hS0) rfl r
  have r : rn_s _ 62 (48, [x0, x1, x2, x3], [.int (g S0 1)], aa_H g) v h := r
  exact rn_ire rfl r
noncomputable def fn_62_35 (g : aa_G) (b2 : Int32) (B3 : Nat) : Int32 × aa_G := fn_62_45 (fn_64 g B3 (fn_63 g B3 b2)) B3
theorem dn_62_35 {v : Option Value} {h : zz_H} {n : Nat} {g : aa_G} {b2 : Int32} {B3 : Nat} (hB3 : ct_tw B3) (x0 x1 : Option Value) (jx0 : rn_jk x0) (jx1 : rn_jk x1) (r : rn_s n 62 (35, [x0, x1, some (.int b2), some (.ref B3)], [], aa_H g) v h) : iw_s v h (fn_62_35 g b2 B3) := by
  unfold fn_62_35
  obtain ⟨n19, ln19, r⟩ := rn_steps 2 (38, [x0, x1, some (.int b2), some (.ref B3)], [.int b2, .ref B3, .ref B3], aa_H g) rfl r
  obtain ⟨_, n20, v1, h1, -, ln20, rc, r⟩ := rn_cv (k := B3) (as := [.int b2]) (rest := [.ref B3]) rfl (tw_hk hB3) (tw_hl hB3) rfl rfl r
  obtain ⟨rfl, rfl⟩ := dn_63 hB3 rc
  have r : rn_s _ 62 (41, [x0, x1, some (.int b2), some (.ref B3)], [.int (fn_63 g B3 b2), .ref B3], aa_H g) v h := r
  obtain ⟨_, n22, v1, h1, -, ln22, rc, r⟩ := rn_cv (k := B3) (as := [.int (fn_63 g B3 b2)]) (rest := []) rfl (tw_hk hB3) (tw_hl hB3) rfl rfl r
  obtain ⟨rfl, rfl⟩ := dn_64 hB3 rc
  have r : rn_s _ 62 (44, [x0, x1, some (.int b2), some (.ref B3)], [], aa_H (fn_64 g B3 (fn_63 g B3 b2))) v h := r
  obtain ⟨n24, ln24, r⟩ := rn_steps 0 (45, [x0, x1, some (.int b2), some (.ref B3)], [.ref B3], aa_H (fn_64 g B3 (fn_63 g B3 b2))) rfl r
  exact dn_62_45 hB3 x0 x1 (some (.int b2)) (some (.ref B3)) jx0 jx1 rn_ji rn_jr r
noncomputable def fn_62 (g : aa_G) (a1 : Int32) (a2 : Int32) : Int32 × aa_G := (match fn_31 g a1 with | none => ((-1, g)) | some W6 => (if (fn_63 g W6 a2) ≠ (-1) then fn_62_35 (fn_40 g) a2 W6 else (-1, g)))
theorem dn_62 {v : Option Value} {h : zz_H} {n : Nat} {g : aa_G} {a1 : Int32} {a2 : Int32} (hi : rem_ok g) (r : rn_s n 62 (0, zz_in [.ref 1, .int a1, .int a2] (zz_nl 62), [], aa_H g) v h) : iw_s v h (fn_62 g a1 a2) := by
  have r : rn_s n 62 (0, [some (.ref 1), some (.int a1), some (.int a2), none], [], aa_H g) v h := r
  unfold fn_62
  obtain ⟨n1, ln1, r⟩ := rn_steps 2 (5, [some (.ref 1), some (.int a1), some (.int a2), none], [.int a1, .ref 2], aa_H g) rfl r
  obtain ⟨_, n2, v1, h1, -, ln2, rc, r⟩ := rn_call (m2 := 31) (as := [.ref 2, .int a1]) (rest := []) rfl rfl r
  obtain ⟨rfl, rfl, ho4⟩ := dn_31 rc
  have r : rn_s _ 62 (8, [some (.ref 1), some (.int a1), some (.int a2), none], [zz_val (fn_31 g a1)], aa_H g) v h := r
  cases e5 : fn_31 g a1 with
  | none =>
    rw [e5] at r
    have r : rn_s _ 62 (8, [some (.ref 1), some (.int a1), some (.int a2), none], [.null], aa_H g) v h := r
    dsimp only
    obtain ⟨n8, ln8, r⟩ := rn_steps 3 (23, [some (.ref 1), some (.int a1), some (.int a2), some (.null)], [.int (-1)], aa_H g) rfl r
    exact rn_ire rfl r
  | some W6 =>
    rw [e5] at r
    have hw7 : ct_tw W6 := ho4 _ e5
    have r : rn_s _ 62 (8, [some (.ref 1), some (.int a1), some (.int a2), none], [.ref W6], aa_H g) v h := r
    dsimp only
    obtain ⟨n9, ln9, r⟩ := rn_steps 4 (15, [some (.ref 1), some (.int a1), some (.int a2), some (.ref W6)], [.int a2, .ref W6], aa_H g) rfl r
    obtain ⟨_, n10, v1, h1, -, ln10, rc, r⟩ := rn_cv (k := W6) (as := [.int a2]) (rest := []) rfl (tw_hk hw7) (tw_hl hw7) rfl rfl r
    obtain ⟨rfl, rfl⟩ := dn_63 hw7 rc
    have r : rn_s _ 62 (18, [some (.ref 1), some (.int a1), some (.int a2), some (.ref W6)], [.int (fn_63 g W6 a2)], aa_H g) v h := r
    obtain ⟨n12, ln12, r⟩ := rn_steps 0 (19, [some (.ref 1), some (.int a1), some (.int a2), some (.ref W6)], [.int (-1), .int (fn_63 g W6 a2)], aa_H g) rfl r
    refine rn_ic (iw_s v h) rfl decide_eq_true_iff.symm r (fun c13 l14n l14 r => ?_) (fun c13 l14n l14 r => ?_)
    · obtain ⟨n15, ln15, r⟩ := rn_steps 3 (32, [some (.ref 1), some (.int a1), some (.int a2), some (.ref W6)], [.ref 2, .ref 66], aa_H g) rfl r
      obtain ⟨_, n16, v1, h1, -, ln16, rc, r⟩ := rn_call (m2 := 40) (as := [.ref 66, .ref 2]) (rest := []) rfl rfl r
      obtain ⟨rfl, rfl⟩ := dn_40 hi rc
      have r : rn_s _ 62 (35, [some (.ref 1), some (.int a1), some (.int a2), some (.ref W6)], [], aa_H (fn_40 g)) v h := r
      exact dn_62_35 hw7 (some (.ref 1)) (some (.int a1)) rn_jr rn_ji r
    · obtain ⟨n18, ln18, r⟩ := rn_steps 0 (23, [some (.ref 1), some (.int a1), some (.int a2), some (.ref W6)], [.int (-1)], aa_H g) rfl r
      exact rn_ire rfl r
-- 68: UnequalHours Town openAt
noncomputable def fn_68_58 (g : aa_G) (B0 : Nat) (b1 : Int32) (b2 : Int32) : (aa_G × Int32) ⊕ (Int32 × aa_G) := .inl (g, b2 + (-1))
theorem dn_68_58 {v : Option Value} {h : zz_H} {n : Nat} {g : aa_G} {B0 : Nat} {b1 : Int32} {b2 : Int32} (P : (aa_G × Int32) ⊕ (Int32 × aa_G) → Prop) (hO0 : ∀ n2, n2 < n → ∀ (yg : aa_G) (yb2 : Int32), rn_s n2 68 (5, [some (.ref B0), some (.int b1), some (.int yb2)], [], aa_H yg) v h → P (.inl (yg, yb2))) (hR : ∀ E, iw_s v h E → P (.inr E)) (hB0 : ct_tw B0) (r : rn_s n 68 (58, [some (.ref B0), some (.int b1), some (.int b2)], [], aa_H g) v h) : P (fn_68_58 g B0 b1 b2) := by
  unfold fn_68_58
  obtain ⟨n47, ln47, r⟩ := rn_steps 1 (5, [some (.ref B0), some (.int b1), some (.int (b2 + (-1)))], [], aa_H g) rfl r
  exact hO0 _ (by omega) g (b2 + (-1)) r
noncomputable def fn_68_5b (g : aa_G) (B0 : Nat) (b1 : Int32) (b2 : Int32) : (aa_G × Int32) ⊕ (Int32 × aa_G) := if b2 ≤ 0 then .inr (b2, zz_w g B0 1 ((g B0 1) + 1)) else if (g (B0 + 1) (b2 - 1).toNatClampNeg) ≤ b1 then .inr (b2, zz_w g B0 1 ((g B0 1) + 1)) else fn_68_58 (fn_36 g B0 b2 (g (B0 + 1) (b2 - 1).toNatClampNeg) (g (B0 + 2) (b2 - 1).toNatClampNeg) (g (B0 + 3) (b2 - 1).toNatClampNeg) (g (B0 + 4) (b2 - 1).toNatClampNeg)) B0 b1 b2
noncomputable def fn_68_5 (g : aa_G) (B0 : Nat) (b1 : Int32) (b2 : Int32) : Int32 × aa_G := lp_f (0, g) (fun z : (aa_G × Int32) => fn_68_5b z.1 B0 b1 z.2) (g, b2)
theorem dn_68_5l {v : Option Value} {h : zz_H} {N : Nat} {B0 : Nat} {b1 : Int32} (hB0 : ct_tw B0) {d : Int32 × aa_G} : ∀ (n : Nat), n ≤ N → ∀ (g : aa_G) (b2 : Int32), rn_s n 68 (5, [some (.ref B0), some (.int b1), some (.int b2)], [], aa_H g) v h → (iw_s v h) (lp_f d (fun z : (aa_G × Int32) => fn_68_5b z.1 B0 b1 z.2) (g, b2)) := by
  generalize hf : (fun z : (aa_G × Int32) => fn_68_5b z.1 B0 b1 z.2) = f
  intro n
  induction n using Nat.strongRecOn with
  | _ n ih =>
    intro hN g b2  r
    refine lp_go ?_
    rw [← congrFun hf (g, b2)]
    show lp_q (iw_s v h) d f (fn_68_5b g B0 b1 b2)
    unfold fn_68_5b
    obtain ⟨n4, ln4, r⟩ := rn_steps 0 (6, [some (.ref B0), some (.int b1), some (.int b2)], [.int b2], aa_H g) rfl r
    refine rn_if (lp_q (iw_s v h) d f) rfl decide_eq_true_iff.symm r (fun c5 l6n l6 r => ?_) (fun c5 l6n l6 r => ?_)
    · obtain ⟨n7, ln7, r⟩ := rn_steps 1 (66, [some (.ref B0), some (.int b1), some (.int b2)], [.ref B0, .ref B0], aa_H g) rfl r
      obtain ⟨n8, ln8, r⟩ := rn_gf rfl (tw_hk hB0) (tw_hl hB0) rfl r
      have r : rn_s _ 68 (69, [some (.ref B0), some (.int b1), some (.int b2)], [.int (g B0 1), .ref B0], aa_H g) v h := r
      obtain ⟨n9, ln9, r⟩ := rn_steps 1 (71, [some (.ref B0), some (.int b1), some (.int b2)], [.int ((g B0 1) + 1), .ref B0], aa_H g) rfl r
      obtain ⟨n10, ln10, r⟩ := rn_pf rfl (tw_hk hB0) (tw_hl hB0) rfl r
      have r : rn_s _ 68 (74, [some (.ref B0), some (.int b1), some (.int b2)], [], aa_H (zz_w g B0 1 ((g B0 1) + 1))) v h := r
      obtain ⟨n11, ln11, r⟩ := rn_steps 0 (75, [some (.ref B0), some (.int b1), some (.int b2)], [.int b2], aa_H (zz_w g B0 1 ((g B0 1) + 1))) rfl r
      exact rn_ire rfl r
    · obtain ⟨n12, ln12, r⟩ := rn_steps 0 (10, [some (.ref B0), some (.int b1), some (.int b2)], [.ref B0], aa_H g) rfl r
      obtain ⟨n13, ln13, r⟩ := rn_gr rfl (tw_hk hB0) (tw_hl hB0) rfl r
      have r : rn_s _ 68 (13, [some (.ref B0), some (.int b1), some (.int b2)], [.ref (B0 + 1)], aa_H g) v h := r
      obtain ⟨n14, ln14, r⟩ := rn_steps 2 (16, [some (.ref B0), some (.int b1), some (.int b2)], [.int (b2 - 1), .ref (B0 + 1)], aa_H g) rfl r
      obtain ⟨hb16, n15, ln15, r⟩ := rn_ial rfl (tw_a1 hB0).1 (tw_a1 hB0).2 r
      have r : rn_s _ 68 (17, [some (.ref B0), some (.int b1), some (.int b2)], [.int (g (B0 + 1) (b2 - 1).toNatClampNeg)], aa_H g) v h := r
      obtain ⟨n17, ln17, r⟩ := rn_steps 0 (18, [some (.ref B0), some (.int b1), some (.int b2)], [.int b1, .int (g (B0 + 1) (b2 - 1).toNatClampNeg)], aa_H g) rfl r
      refine rn_ic (lp_q (iw_s v h) d f) rfl decide_eq_true_iff.symm r (fun c18 l19n l19 r => ?_) (fun c18 l19n l19 r => ?_)
      · obtain ⟨n20, ln20, r⟩ := rn_steps 1 (66, [some (.ref B0), some (.int b1), some (.int b2)], [.ref B0, .ref B0], aa_H g) rfl r
        obtain ⟨n21, ln21, r⟩ := rn_gf rfl (tw_hk hB0) (tw_hl hB0) rfl r
        have r : rn_s _ 68 (69, [some (.ref B0), some (.int b1), some (.int b2)], [.int (g B0 1), .ref B0], aa_H g) v h := r
        obtain ⟨n22, ln22, r⟩ := rn_steps 1 (71, [some (.ref B0), some (.int b1), some (.int b2)], [.int ((g B0 1) + 1), .ref B0], aa_H g) rfl r
        obtain ⟨n23, ln23, r⟩ := rn_pf rfl (tw_hk hB0) (tw_hl hB0) rfl r
        have r : rn_s _ 68 (74, [some (.ref B0), some (.int b1), some (.int b2)], [], aa_H (zz_w g B0 1 ((g B0 1) + 1))) v h := r
        obtain ⟨n24, ln24, r⟩ := rn_steps 0 (75, [some (.ref B0), some (.int b1), some (.int b2)], [.int b2], aa_H (zz_w g B0 1 ((g B0 1) + 1))) rfl r
        exact rn_ire rfl r
      · obtain ⟨n25, ln25, r⟩ := rn_steps 2 (24, [some (.ref B0), some (.int b1), some (.int b2)], [.ref B0, .int b2, .ref B0], aa_H g) rfl r
        obtain ⟨n26, ln26, r⟩ := rn_gr rfl (tw_hk hB0) (tw_hl hB0) rfl r
        have r : rn_s _ 68 (27, [some (.ref B0), some (.int b1), some (.int b2)], [.ref (B0 + 1), .int b2, .ref B0], aa_H g) v h := r
        obtain ⟨n27, ln27, r⟩ := rn_steps 2 (30, [some (.ref B0), some (.int b1), some (.int b2)], [.int (b2 - 1), .ref (B0 + 1), .int b2, .ref B0], aa_H g) rfl r
        obtain ⟨hb29, n28, ln28, r⟩ := rn_ial rfl (tw_a1 hB0).1 (tw_a1 hB0).2 r
        have r : rn_s _ 68 (31, [some (.ref B0), some (.int b1), some (.int b2)], [.int (g (B0 + 1) (b2 - 1).toNatClampNeg), .int b2, .ref B0], aa_H g) v h := r
        obtain ⟨n30, ln30, r⟩ := rn_steps 0 (32, [some (.ref B0), some (.int b1), some (.int b2)], [.ref B0, .int (g (B0 + 1) (b2 - 1).toNatClampNeg), .int b2, .ref B0], aa_H g) rfl r
        obtain ⟨n31, ln31, r⟩ := rn_gr rfl (tw_hk hB0) (tw_hl hB0) rfl r
        have r : rn_s _ 68 (35, [some (.ref B0), some (.int b1), some (.int b2)], [.ref (B0 + 2), .int (g (B0 + 1) (b2 - 1).toNatClampNeg), .int b2, .ref B0], aa_H g) v h := r
        obtain ⟨n32, ln32, r⟩ := rn_steps 2 (38, [some (.ref B0), some (.int b1), some (.int b2)], [.int (b2 - 1), .ref (B0 + 2), .int (g (B0 + 1) (b2 - 1).toNatClampNeg), .int b2, .ref B0], aa_H g) rfl r
        obtain ⟨hb34, n33, ln33, r⟩ := rn_ial rfl (tw_a2 hB0).1 (tw_a2 hB0).2 r
        have r : rn_s _ 68 (39, [some (.ref B0), some (.int b1), some (.int b2)], [.int (g (B0 + 2) (b2 - 1).toNatClampNeg), .int (g (B0 + 1) (b2 - 1).toNatClampNeg), .int b2, .ref B0], aa_H g) v h := r
        obtain ⟨n35, ln35, r⟩ := rn_steps 0 (40, [some (.ref B0), some (.int b1), some (.int b2)], [.ref B0, .int (g (B0 + 2) (b2 - 1).toNatClampNeg), .int (g (B0 + 1) (b2 - 1).toNatClampNeg), .int b2, .ref B0], aa_H g) rfl r
        obtain ⟨n36, ln36, r⟩ := rn_gr rfl (tw_hk hB0) (tw_hl hB0) rfl r
        have r : rn_s _ 68 (43, [some (.ref B0), some (.int b1), some (.int b2)], [.ref (B0 + 3), .int (g (B0 + 2) (b2 - 1).toNatClampNeg), .int (g (B0 + 1) (b2 - 1).toNatClampNeg), .int b2, .ref B0], aa_H g) v h := r
        obtain ⟨n37, ln37, r⟩ := rn_steps 2 (46, [some (.ref B0), some (.int b1), some (.int b2)], [.int (b2 - 1), .ref (B0 + 3), .int (g (B0 + 2) (b2 - 1).toNatClampNeg), .int (g (B0 + 1) (b2 - 1).toNatClampNeg), .int b2, .ref B0], aa_H g) rfl r
        obtain ⟨hb39, n38, ln38, r⟩ := rn_ial rfl (tw_a3 hB0).1 (tw_a3 hB0).2 r
        have r : rn_s _ 68 (47, [some (.ref B0), some (.int b1), some (.int b2)], [.int (g (B0 + 3) (b2 - 1).toNatClampNeg), .int (g (B0 + 2) (b2 - 1).toNatClampNeg), .int (g (B0 + 1) (b2 - 1).toNatClampNeg), .int b2, .ref B0], aa_H g) v h := r
        obtain ⟨n40, ln40, r⟩ := rn_steps 0 (48, [some (.ref B0), some (.int b1), some (.int b2)], [.ref B0, .int (g (B0 + 3) (b2 - 1).toNatClampNeg), .int (g (B0 + 2) (b2 - 1).toNatClampNeg), .int (g (B0 + 1) (b2 - 1).toNatClampNeg), .int b2, .ref B0], aa_H g) rfl r
        obtain ⟨n41, ln41, r⟩ := rn_gr rfl (tw_hk hB0) (tw_hl hB0) rfl r
        have r : rn_s _ 68 (51, [some (.ref B0), some (.int b1), some (.int b2)], [.ref (B0 + 4), .int (g (B0 + 3) (b2 - 1).toNatClampNeg), .int (g (B0 + 2) (b2 - 1).toNatClampNeg), .int (g (B0 + 1) (b2 - 1).toNatClampNeg), .int b2, .ref B0], aa_H g) v h := r
        obtain ⟨n42, ln42, r⟩ := rn_steps 2 (54, [some (.ref B0), some (.int b1), some (.int b2)], [.int (b2 - 1), .ref (B0 + 4), .int (g (B0 + 3) (b2 - 1).toNatClampNeg), .int (g (B0 + 2) (b2 - 1).toNatClampNeg), .int (g (B0 + 1) (b2 - 1).toNatClampNeg), .int b2, .ref B0], aa_H g) rfl r
        obtain ⟨hb44, n43, ln43, r⟩ := rn_ial rfl (tw_a4 hB0).1 (tw_a4 hB0).2 r
        have r : rn_s _ 68 (55, [some (.ref B0), some (.int b1), some (.int b2)], [.int (g (B0 + 4) (b2 - 1).toNatClampNeg), .int (g (B0 + 3) (b2 - 1).toNatClampNeg), .int (g (B0 + 2) (b2 - 1).toNatClampNeg), .int (g (B0 + 1) (b2 - 1).toNatClampNeg), .int b2, .ref B0], aa_H g) v h := r
        obtain ⟨_, n45, v1, h1, -, ln45, rc, r⟩ := rn_cv (k := B0) (as := [.int b2, .int (g (B0 + 1) (b2 - 1).toNatClampNeg), .int (g (B0 + 2) (b2 - 1).toNatClampNeg), .int (g (B0 + 3) (b2 - 1).toNatClampNeg), .int (g (B0 + 4) (b2 - 1).toNatClampNeg)]) (rest := []) rfl (tw_hk hB0) (tw_hl hB0) rfl rfl r
        obtain ⟨rfl, rfl⟩ := dn_36 hB0 rc
        have r : rn_s _ 68 (58, [some (.ref B0), some (.int b1), some (.int b2)], [], aa_H (fn_36 g B0 b2 (g (B0 + 1) (b2 - 1).toNatClampNeg) (g (B0 + 2) (b2 - 1).toNatClampNeg) (g (B0 + 3) (b2 - 1).toNatClampNeg) (g (B0 + 4) (b2 - 1).toNatClampNeg))) v h := r
        exact dn_68_58 (lp_q (iw_s v h) d f) (fun n2 l2 => ih n2 (by omega) (by omega)) (fun z hz => hz) hB0 r
theorem dn_68_5 {v : Option Value} {h : zz_H} {n : Nat} {g : aa_G} {B0 : Nat} {b1 : Int32} {b2 : Int32} (hB0 : ct_tw B0) (r : rn_s n 68 (5, [some (.ref B0), some (.int b1), some (.int b2)], [], aa_H g) v h) : (iw_s v h) (fn_68_5 g B0 b1 b2) := dn_68_5l hB0 n (Nat.le_refl n) g b2 r
noncomputable def fn_68 (g : aa_G) (T : Nat) (a1 : Int32) : Int32 × aa_G := fn_68_5 g T a1 (g T 1)
theorem dn_68 {v : Option Value} {h : zz_H} {n : Nat} {g : aa_G} {T : Nat} {a1 : Int32} (hT : ct_tw T) (r : rn_s n 68 (0, zz_in [.ref T, .int a1] (zz_nl 68), [], aa_H g) v h) : iw_s v h (fn_68 g T a1) := by
  have r : rn_s n 68 (0, [some (.ref T), some (.int a1), none], [], aa_H g) v h := r
  unfold fn_68
  obtain ⟨n1, ln1, r⟩ := rn_steps 0 (1, [some (.ref T), some (.int a1), none], [.ref T], aa_H g) rfl r
  obtain ⟨n2, ln2, r⟩ := rn_gf rfl (tw_hk hT) (tw_hl hT) rfl r
  have r : rn_s _ 68 (4, [some (.ref T), some (.int a1), none], [.int (g T 1)], aa_H g) v h := r
  obtain ⟨n3, ln3, r⟩ := rn_steps 0 (5, [some (.ref T), some (.int a1), some (.int (g T 1))], [], aa_H g) rfl r
  exact dn_68_5 hT r
-- 67: UnequalHours Town putPoint
noncomputable def fn_67_29 (g : aa_G) (B0 : Nat) (b1 : Int32) (b2 : Int32) (b3 : Int32) (b4 : Int32) : aa_G := if b4 = (-1) then g else fn_36 g B0 b4 b1 b2 b3 (-1)
theorem dn_67_29 {v : Option Value} {h : zz_H} {n : Nat} {g : aa_G} {B0 : Nat} {b1 : Int32} {b2 : Int32} {b3 : Int32} {b4 : Int32} (hB0 : ct_tw B0) (r : rn_s n 67 (29, [some (.ref B0), some (.int b1), some (.int b2), some (.int b3), some (.int b4)], [], aa_H g) v h) : ig_s v h (fn_67_29 g B0 b1 b2 b3 b4) := by
  unfold fn_67_29
  obtain ⟨n15, ln15, r⟩ := rn_steps 1 (32, [some (.ref B0), some (.int b1), some (.int b2), some (.int b3), some (.int b4)], [.int (-1), .int b4], aa_H g) rfl r
  refine rn_ic (ig_s v h) rfl decide_eq_true_iff.symm r (fun c16 l17n l17 r => ?_) (fun c16 l17n l17 r => ?_)
  · exact rn_ret 1 rfl r
  · obtain ⟨n18, ln18, r⟩ := rn_steps 5 (42, [some (.ref B0), some (.int b1), some (.int b2), some (.int b3), some (.int b4)], [.int (-1), .int b3, .int b2, .int b1, .int b4, .ref B0], aa_H g) rfl r
    obtain ⟨_, n19, v1, h1, -, ln19, rc, r⟩ := rn_cv (k := B0) (as := [.int b4, .int b1, .int b2, .int b3, .int (-1)]) (rest := []) rfl (tw_hk hB0) (tw_hl hB0) rfl rfl r
    obtain ⟨rfl, rfl⟩ := dn_36 hB0 rc
    have r : rn_s _ 67 (45, [some (.ref B0), some (.int b1), some (.int b2), some (.int b3), some (.int b4)], [], aa_H (fn_36 g B0 b4 b1 b2 b3 (-1))) v h := r
    exact rn_ret 1 rfl r
noncomputable def fn_67_27 (g : aa_G) (B0 : Nat) (b1 : Int32) (b2 : Int32) (b3 : Int32) (s0 : Int32) : aa_G := fn_67_29 g B0 b1 b2 b3 s0
theorem dn_67_27 {v : Option Value} {h : zz_H} {n : Nat} {g : aa_G} {B0 : Nat} {b1 : Int32} {b2 : Int32} {b3 : Int32} {s0 : Int32} (hB0 : ct_tw B0) (x4 : Option Value) (jx4 : rn_jk x4) (r : rn_s n 67 (27, [some (.ref B0), some (.int b1), some (.int b2), some (.int b3), x4], [.int s0], aa_H g) v h) : ig_s v h (fn_67_27 g B0 b1 b2 b3 s0) := by
  unfold fn_67_27
  obtain ⟨n21, ln21, r⟩ := rn_steps 0 (29, [some (.ref B0), some (.int b1), some (.int b2), some (.int b3), some (.int s0)], [], aa_H g) rfl r
  exact dn_67_29 hB0 r
noncomputable def fn_67 (g : aa_G) (T : Nat) (a1 : Int32) (a2 : Int32) (a3 : Int32) : aa_G := if (fn_63 g T a1) ≠ (-1) then fn_67_29 g T a1 a2 a3 (fn_63 g T a1) else if 12 ≤ (g T 1) then fn_67_29 g T a1 a2 a3 (fn_63 g T a1) else fn_67_27 ((fn_68 g T a1).2) T a1 a2 a3 ((fn_68 g T a1).1)
theorem dn_67 {v : Option Value} {h : zz_H} {n : Nat} {g : aa_G} {T : Nat} {a1 : Int32} {a2 : Int32} {a3 : Int32} (hT : ct_tw T) (r : rn_s n 67 (0, zz_in [.ref T, .int a1, .int a2, .int a3] (zz_nl 67), [], aa_H g) v h) : ig_s v h (fn_67 g T a1 a2 a3) := by
  have r : rn_s n 67 (0, [some (.ref T), some (.int a1), some (.int a2), some (.int a3), none], [], aa_H g) v h := r
  unfold fn_67
  obtain ⟨n1, ln1, r⟩ := rn_steps 1 (2, [some (.ref T), some (.int a1), some (.int a2), some (.int a3), none], [.int a1, .ref T], aa_H g) rfl r
  obtain ⟨_, n2, v1, h1, -, ln2, rc, r⟩ := rn_cv (k := T) (as := [.int a1]) (rest := []) rfl (tw_hk hT) (tw_hl hT) rfl rfl r
  obtain ⟨rfl, rfl⟩ := dn_63 hT rc
  have r : rn_s _ 67 (5, [some (.ref T), some (.int a1), some (.int a2), some (.int a3), none], [.int (fn_63 g T a1)], aa_H g) v h := r
  obtain ⟨n4, ln4, r⟩ := rn_steps 2 (10, [some (.ref T), some (.int a1), some (.int a2), some (.int a3), some (.int (fn_63 g T a1))], [.int (-1), .int (fn_63 g T a1)], aa_H g) rfl r
  refine rn_ic (ig_s v h) rfl decide_eq_true_iff.symm r (fun c5 l6n l6 r => ?_) (fun c5 l6n l6 r => ?_)
  · exact dn_67_29 hT r
  · obtain ⟨n7, ln7, r⟩ := rn_steps 0 (14, [some (.ref T), some (.int a1), some (.int a2), some (.int a3), some (.int (fn_63 g T a1))], [.ref T], aa_H g) rfl r
    obtain ⟨n8, ln8, r⟩ := rn_gf rfl (tw_hk hT) (tw_hl hT) rfl r
    have r : rn_s _ 67 (17, [some (.ref T), some (.int a1), some (.int a2), some (.int a3), some (.int (fn_63 g T a1))], [.int (g T 1)], aa_H g) v h := r
    obtain ⟨n9, ln9, r⟩ := rn_steps 0 (19, [some (.ref T), some (.int a1), some (.int a2), some (.int a3), some (.int (fn_63 g T a1))], [.int 12, .int (g T 1)], aa_H g) rfl r
    refine rn_ic (ig_s v h) rfl decide_eq_true_iff.symm r (fun c10 l11n l11 r => ?_) (fun c10 l11n l11 r => ?_)
    · exact dn_67_29 hT r
    · obtain ⟨n12, ln12, r⟩ := rn_steps 1 (24, [some (.ref T), some (.int a1), some (.int a2), some (.int a3), some (.int (fn_63 g T a1))], [.int a1, .ref T], aa_H g) rfl r
      obtain ⟨_, n13, v1, h1, -, ln13, rc, r⟩ := rn_cv (k := T) (as := [.int a1]) (rest := []) rfl (tw_hk hT) (tw_hl hT) rfl rfl r
      obtain ⟨rfl, rfl⟩ := dn_68 hT rc
      have r : rn_s _ 67 (27, [some (.ref T), some (.int a1), some (.int a2), some (.int a3), some (.int (fn_63 g T a1))], [.int ((fn_68 g T a1).1)], aa_H ((fn_68 g T a1).2)) v h := r
      exact dn_67_27 hT (some (.int (fn_63 g T a1))) rn_ji r
-- 65: UnequalHours set
noncomputable def fn_65_95 (g : aa_G) (S0 : Nat) : Int32 × aa_G := (g S0 1, g)
theorem dn_65_95 {v : Option Value} {h : zz_H} {n : Nat} {g : aa_G} {S0 : Nat} (hS0 : ct_tw S0) (x0 x1 x2 x3 x4 x5 : Option Value) (jx0 : rn_jk x0) (jx1 : rn_jk x1) (jx2 : rn_jk x2) (jx3 : rn_jk x3) (jx4 : rn_jk x4) (jx5 : rn_jk x5) (r : rn_s n 65 (95, [x0, x1, x2, x3, x4, x5], [.ref S0], aa_H g) v h) : iw_s v h (fn_65_95 g S0) := by
  unfold fn_65_95
  obtain ⟨n50, ln50, r⟩ := rn_gf rfl (tw_hk hS0) (tw_hl hS0) rfl r
  have r : rn_s _ 65 (98, [x0, x1, x2, x3, x4, x5], [.int (g S0 1)], aa_H g) v h := r
  exact rn_ire rfl r
noncomputable def fn_65_84 (g : aa_G) (b2 : Int32) (b3 : Int32) (b4 : Int32) (B5 : Nat) : Int32 × aa_G := fn_65_95 (fn_67 g B5 b2 b3 b4) B5
theorem dn_65_84 {v : Option Value} {h : zz_H} {n : Nat} {g : aa_G} {b2 : Int32} {b3 : Int32} {b4 : Int32} {B5 : Nat} (hB5 : ct_tw B5) (x0 x1 : Option Value) (jx0 : rn_jk x0) (jx1 : rn_jk x1) (r : rn_s n 65 (84, [x0, x1, some (.int b2), some (.int b3), some (.int b4), some (.ref B5)], [], aa_H g) v h) : iw_s v h (fn_65_84 g b2 b3 b4 B5) := by
  unfold fn_65_84
  obtain ⟨n46, ln46, r⟩ := rn_steps 3 (90, [x0, x1, some (.int b2), some (.int b3), some (.int b4), some (.ref B5)], [.int b4, .int b3, .int b2, .ref B5], aa_H g) rfl r
  obtain ⟨_, n47, v1, h1, -, ln47, rc, r⟩ := rn_cv (k := B5) (as := [.int b2, .int b3, .int b4]) (rest := []) rfl (tw_hk hB5) (tw_hl hB5) rfl rfl r
  obtain ⟨rfl, rfl⟩ := dn_67 hB5 rc
  have r : rn_s _ 65 (93, [x0, x1, some (.int b2), some (.int b3), some (.int b4), some (.ref B5)], [], aa_H (fn_67 g B5 b2 b3 b4)) v h := r
  obtain ⟨n49, ln49, r⟩ := rn_steps 0 (95, [x0, x1, some (.int b2), some (.int b3), some (.int b4), some (.ref B5)], [.ref B5], aa_H (fn_67 g B5 b2 b3 b4)) rfl r
  exact dn_65_95 hB5 x0 x1 (some (.int b2)) (some (.int b3)) (some (.int b4)) (some (.ref B5)) jx0 jx1 rn_ji rn_ji rn_ji rn_jr r
noncomputable def fn_65_73 (g : aa_G) (b2 : Int32) (b3 : Int32) (b4 : Int32) (B5 : Nat) : Int32 × aa_G := fn_65_84 (fn_40 g) b2 b3 b4 B5
theorem dn_65_73 {v : Option Value} {h : zz_H} {n : Nat} {g : aa_G} {b2 : Int32} {b3 : Int32} {b4 : Int32} {B5 : Nat} (hB5 : ct_tw B5) (hi : rem_ok g) (x1 : Option Value) (jx1 : rn_jk x1) (r : rn_s n 65 (73, [some (.ref 1), x1, some (.int b2), some (.int b3), some (.int b4), some (.ref B5)], [], aa_H g) v h) : iw_s v h (fn_65_73 g b2 b3 b4 B5) := by
  unfold fn_65_73
  obtain ⟨n43, ln43, r⟩ := rn_steps 3 (81, [some (.ref 1), x1, some (.int b2), some (.int b3), some (.int b4), some (.ref B5)], [.ref 2, .ref 66], aa_H g) rfl r
  obtain ⟨_, n44, v1, h1, -, ln44, rc, r⟩ := rn_call (m2 := 40) (as := [.ref 66, .ref 2]) (rest := []) rfl rfl r
  obtain ⟨rfl, rfl⟩ := dn_40 hi rc
  have r : rn_s _ 65 (84, [some (.ref 1), x1, some (.int b2), some (.int b3), some (.int b4), some (.ref B5)], [], aa_H (fn_40 g)) v h := r
  exact dn_65_84 hB5 (some (.ref 1)) x1 rn_jr jx1 r
noncomputable def fn_65 (g : aa_G) (a1 : Int32) (a2 : Int32) (a3 : Int32) (a4 : Int32) : Int32 × aa_G := (match fn_31 g a1 with | none => ((-1, g)) | some W6 => (if (fn_14 a2 0 359) ≠ 0 then if (fn_66 a3) = 0 then (-1, g) else if (fn_66 a4) = 0 then (-1, g) else if a3 < a4 then if (fn_63 g W6 a2) ≠ (-1) then fn_65_73 g a2 a3 a4 W6 else if (g W6 1) < 12 then fn_65_73 g a2 a3 a4 W6 else (-1, g) else (-1, g) else (-1, g)))
theorem dn_65 {v : Option Value} {h : zz_H} {n : Nat} {g : aa_G} {a1 : Int32} {a2 : Int32} {a3 : Int32} {a4 : Int32} (hi : rem_ok g) (r : rn_s n 65 (0, zz_in [.ref 1, .int a1, .int a2, .int a3, .int a4] (zz_nl 65), [], aa_H g) v h) : iw_s v h (fn_65 g a1 a2 a3 a4) := by
  have r : rn_s n 65 (0, [some (.ref 1), some (.int a1), some (.int a2), some (.int a3), some (.int a4), none], [], aa_H g) v h := r
  unfold fn_65
  obtain ⟨n1, ln1, r⟩ := rn_steps 2 (5, [some (.ref 1), some (.int a1), some (.int a2), some (.int a3), some (.int a4), none], [.int a1, .ref 2], aa_H g) rfl r
  obtain ⟨_, n2, v1, h1, -, ln2, rc, r⟩ := rn_call (m2 := 31) (as := [.ref 2, .int a1]) (rest := []) rfl rfl r
  obtain ⟨rfl, rfl, ho4⟩ := dn_31 rc
  have r : rn_s _ 65 (8, [some (.ref 1), some (.int a1), some (.int a2), some (.int a3), some (.int a4), none], [zz_val (fn_31 g a1)], aa_H g) v h := r
  cases e5 : fn_31 g a1 with
  | none =>
    rw [e5] at r
    have r : rn_s _ 65 (8, [some (.ref 1), some (.int a1), some (.int a2), some (.int a3), some (.int a4), none], [.null], aa_H g) v h := r
    dsimp only
    obtain ⟨n8, ln8, r⟩ := rn_steps 3 (27, [some (.ref 1), some (.int a1), some (.int a2), some (.int a3), some (.int a4), some (.null)], [.int (-1)], aa_H g) rfl r
    exact rn_ire rfl r
  | some W6 =>
    rw [e5] at r
    have hw7 : ct_tw W6 := ho4 _ e5
    have r : rn_s _ 65 (8, [some (.ref 1), some (.int a1), some (.int a2), some (.int a3), some (.int a4), none], [.ref W6], aa_H g) v h := r
    dsimp only
    obtain ⟨n9, ln9, r⟩ := rn_steps 5 (20, [some (.ref 1), some (.int a1), some (.int a2), some (.int a3), some (.int a4), some (.ref W6)], [.int 359, .int 0, .int a2], aa_H g) rfl r
    obtain ⟨_, n10, v1, h1, -, ln10, rc, r⟩ := rn_call (m2 := 14) (as := [.int a2, .int 0, .int 359]) (rest := []) rfl rfl r
    obtain ⟨rfl, rfl⟩ := dn_14 rc
    have r : rn_s _ 65 (23, [some (.ref 1), some (.int a1), some (.int a2), some (.int a3), some (.int a4), some (.ref W6)], [.int (fn_14 a2 0 359)], aa_H g) v h := r
    refine rn_if (iw_s v h) rfl decide_eq_true_iff.symm r (fun c12 l13n l13 r => ?_) (fun c12 l13n l13 r => ?_)
    · obtain ⟨n14, ln14, r⟩ := rn_steps 0 (29, [some (.ref 1), some (.int a1), some (.int a2), some (.int a3), some (.int a4), some (.ref W6)], [.int a3], aa_H g) rfl r
      obtain ⟨_, n15, v1, h1, -, ln15, rc, r⟩ := rn_call (m2 := 66) (as := [.int a3]) (rest := []) rfl rfl r
      obtain ⟨rfl, rfl⟩ := dn_66 rc
      have r : rn_s _ 65 (32, [some (.ref 1), some (.int a1), some (.int a2), some (.int a3), some (.int a4), some (.ref W6)], [.int (fn_66 a3)], aa_H g) v h := r
      refine rn_if (iw_s v h) rfl decide_eq_true_iff.symm r (fun c17 l18n l18 r => ?_) (fun c17 l18n l18 r => ?_)
      · obtain ⟨n19, ln19, r⟩ := rn_steps 0 (50, [some (.ref 1), some (.int a1), some (.int a2), some (.int a3), some (.int a4), some (.ref W6)], [.int (-1)], aa_H g) rfl r
        exact rn_ire rfl r
      · obtain ⟨n20, ln20, r⟩ := rn_steps 0 (37, [some (.ref 1), some (.int a1), some (.int a2), some (.int a3), some (.int a4), some (.ref W6)], [.int a4], aa_H g) rfl r
        obtain ⟨_, n21, v1, h1, -, ln21, rc, r⟩ := rn_call (m2 := 66) (as := [.int a4]) (rest := []) rfl rfl r
        obtain ⟨rfl, rfl⟩ := dn_66 rc
        have r : rn_s _ 65 (40, [some (.ref 1), some (.int a1), some (.int a2), some (.int a3), some (.int a4), some (.ref W6)], [.int (fn_66 a4)], aa_H g) v h := r
        refine rn_if (iw_s v h) rfl decide_eq_true_iff.symm r (fun c23 l24n l24 r => ?_) (fun c23 l24n l24 r => ?_)
        · obtain ⟨n25, ln25, r⟩ := rn_steps 0 (50, [some (.ref 1), some (.int a1), some (.int a2), some (.int a3), some (.int a4), some (.ref W6)], [.int (-1)], aa_H g) rfl r
          exact rn_ire rfl r
        · obtain ⟨n26, ln26, r⟩ := rn_steps 1 (46, [some (.ref 1), some (.int a1), some (.int a2), some (.int a3), some (.int a4), some (.ref W6)], [.int a4, .int a3], aa_H g) rfl r
          refine rn_ic (iw_s v h) rfl decide_eq_true_iff.symm r (fun c27 l28n l28 r => ?_) (fun c27 l28n l28 r => ?_)
          · obtain ⟨n29, ln29, r⟩ := rn_steps 1 (54, [some (.ref 1), some (.int a1), some (.int a2), some (.int a3), some (.int a4), some (.ref W6)], [.int a2, .ref W6], aa_H g) rfl r
            obtain ⟨_, n30, v1, h1, -, ln30, rc, r⟩ := rn_cv (k := W6) (as := [.int a2]) (rest := []) rfl (tw_hk hw7) (tw_hl hw7) rfl rfl r
            obtain ⟨rfl, rfl⟩ := dn_63 hw7 rc
            have r : rn_s _ 65 (57, [some (.ref 1), some (.int a1), some (.int a2), some (.int a3), some (.int a4), some (.ref W6)], [.int (fn_63 g W6 a2)], aa_H g) v h := r
            obtain ⟨n32, ln32, r⟩ := rn_steps 0 (58, [some (.ref 1), some (.int a1), some (.int a2), some (.int a3), some (.int a4), some (.ref W6)], [.int (-1), .int (fn_63 g W6 a2)], aa_H g) rfl r
            refine rn_ic (iw_s v h) rfl decide_eq_true_iff.symm r (fun c33 l34n l34 r => ?_) (fun c33 l34n l34 r => ?_)
            · exact dn_65_73 hw7 hi (some (.int a1)) rn_ji r
            · obtain ⟨n35, ln35, r⟩ := rn_steps 0 (63, [some (.ref 1), some (.int a1), some (.int a2), some (.int a3), some (.int a4), some (.ref W6)], [.ref W6], aa_H g) rfl r
              obtain ⟨n36, ln36, r⟩ := rn_gf rfl (tw_hk hw7) (tw_hl hw7) rfl r
              have r : rn_s _ 65 (66, [some (.ref 1), some (.int a1), some (.int a2), some (.int a3), some (.int a4), some (.ref W6)], [.int (g W6 1)], aa_H g) v h := r
              obtain ⟨n37, ln37, r⟩ := rn_steps 0 (68, [some (.ref 1), some (.int a1), some (.int a2), some (.int a3), some (.int a4), some (.ref W6)], [.int 12, .int (g W6 1)], aa_H g) rfl r
              refine rn_ic (iw_s v h) rfl decide_eq_true_iff.symm r (fun c38 l39n l39 r => ?_) (fun c38 l39n l39 r => ?_)
              · exact dn_65_73 hw7 hi (some (.int a1)) rn_ji r
              · obtain ⟨n40, ln40, r⟩ := rn_steps 0 (72, [some (.ref 1), some (.int a1), some (.int a2), some (.int a3), some (.int a4), some (.ref W6)], [.int (-1)], aa_H g) rfl r
                exact rn_ire rfl r
          · obtain ⟨n41, ln41, r⟩ := rn_steps 0 (50, [some (.ref 1), some (.int a1), some (.int a2), some (.int a3), some (.int a4), some (.ref W6)], [.int (-1)], aa_H g) rfl r
            exact rn_ire rfl r
    · obtain ⟨n42, ln42, r⟩ := rn_steps 0 (27, [some (.ref 1), some (.int a1), some (.int a2), some (.int a3), some (.int a4), some (.ref W6)], [.int (-1)], aa_H g) rfl r
      exact rn_ire rfl r
-- 147: UnequalHours Written put
noncomputable def fn_147_22 (g : aa_G)  : aa_G := zz_w g 459 0 ((g 459 0) + 1)
theorem dn_147_22 {v : Option Value} {h : zz_H} {n : Nat} {g : aa_G}   (x0 x1 : Option Value) (jx0 : rn_jk x0) (jx1 : rn_jk x1) (r : rn_s n 147 (22, [x0, x1], [.ref 459, .ref 459], aa_H g) v h) : ig_s v h (fn_147_22 g) := by
  unfold fn_147_22
  obtain ⟨n8, ln8, r⟩ := rn_steps 3 (30, [x0, x1], [], aa_H (zz_w g 459 0 ((g 459 0) + 1))) rfl r
  exact rn_ret 1 rfl r
noncomputable def fn_147 (g : aa_G) (a1 : Int32) : aa_G := if 256 ≤ (g 459 0) then g else fn_147_22 (zz_w g 460 (g 459 0).toNatClampNeg a1)
theorem dn_147 {v : Option Value} {h : zz_H} {n : Nat} {g : aa_G} {a1 : Int32}  (r : rn_s n 147 (0, zz_in [.ref 459, .int a1] (zz_nl 147), [], aa_H g) v h) : ig_s v h (fn_147 g a1) := by
  have r : rn_s n 147 (0, [some (.ref 459), some (.int a1)], [], aa_H g) v h := r
  unfold fn_147
  obtain ⟨n1, ln1, r⟩ := rn_steps 2 (7, [some (.ref 459), some (.int a1)], [.int 256, .int (g 459 0)], aa_H g) rfl r
  refine rn_ic (ig_s v h) rfl decide_eq_true_iff.symm r (fun c2 l3n l3 r => ?_) (fun c2 l3n l3 r => ?_)
  · exact rn_ret 1 rfl r
  · obtain ⟨n4, ln4, r⟩ := rn_steps 4 (19, [some (.ref 459), some (.int a1)], [.int a1, .int (g 459 0), .ref 460], aa_H g) rfl r
    obtain ⟨hb6, n5, ln5, r⟩ := rn_ias (k := 460) rfl ⟨by decide, by decide⟩ rfl r
    have r : rn_s _ 147 (20, [some (.ref 459), some (.int a1)], [], aa_H (zz_w g 460 (g 459 0).toNatClampNeg a1)) v h := r
    obtain ⟨n7, ln7, r⟩ := rn_steps 1 (22, [some (.ref 459), some (.int a1)], [.ref 459, .ref 459], aa_H (zz_w g 460 (g 459 0).toNatClampNeg a1)) rfl r
    exact dn_147_22 (some (.ref 459)) (some (.int a1)) rn_jr rn_ji r
-- 148: UnequalHours Written putNumber
noncomputable def fn_148_46 (g : aa_G) (b2 : Int32) (b3 : Int32) : (aa_G × Int32) ⊕ aa_G := .inl (g, b3 / 10)
theorem dn_148_46 {v : Option Value} {h : zz_H} {n : Nat} {g : aa_G} {b2 : Int32} {b3 : Int32} (P : (aa_G × Int32) ⊕ aa_G → Prop) (hO0 : ∀ n2, n2 < n → ∀ (yg : aa_G) (yb3 : Int32) (yx1 : Option Value) (_ : rn_jk yx1), rn_s n2 148 (19, [some (.ref 459), yx1, some (.int b2), some (.int yb3)], [], aa_H yg) v h → P (.inl (yg, yb3))) (hR : ∀ E, ig_s v h E → P (.inr E))  (x1 : Option Value) (jx1 : rn_jk x1) (r : rn_s n 148 (46, [some (.ref 459), x1, some (.int b2), some (.int b3)], [], aa_H g) v h) : P (fn_148_46 g b2 b3) := by
  unfold fn_148_46
  obtain ⟨n23, ln23, r⟩ := rn_steps 4 (19, [some (.ref 459), x1, some (.int b2), some (.int (b3 / 10))], [], aa_H g) rfl r
  exact hO0 _ (by omega) g (b3 / 10) x1 jx1 r
noncomputable def fn_148_33 (g : aa_G) (b2 : Int32) (b3 : Int32) : (aa_G × Int32) ⊕ aa_G := fn_148_46 (fn_147 g (48 + ((b2 / b3) - (b2 / b3) / 10 * 10))) b2 b3
theorem dn_148_33 {v : Option Value} {h : zz_H} {n : Nat} {g : aa_G} {b2 : Int32} {b3 : Int32} (P : (aa_G × Int32) ⊕ aa_G → Prop) (hO0 : ∀ n2, n2 < n → ∀ (yg : aa_G) (yb3 : Int32) (yx1 : Option Value) (_ : rn_jk yx1), rn_s n2 148 (19, [some (.ref 459), yx1, some (.int b2), some (.int yb3)], [], aa_H yg) v h → P (.inl (yg, yb3))) (hR : ∀ E, ig_s v h E → P (.inr E))  (x1 : Option Value) (jx1 : rn_jk x1) (r : rn_s n 148 (33, [some (.ref 459), x1, some (.int b2), some (.int b3)], [], aa_H g) v h) : P (fn_148_33 g b2 b3) := by
  unfold fn_148_33
  obtain ⟨n17, ln17, r⟩ := rn_steps 3 (38, [some (.ref 459), x1, some (.int b2), some (.int b3)], [.int b3, .int b2, .int 48, .ref 459], aa_H g) rfl r
  obtain ⟨hd19, n18, ln18, r⟩ := rn_div rfl r
  have r : rn_s _ 148 (39, [some (.ref 459), x1, some (.int b2), some (.int b3)], [.int (b2 / b3), .int 48, .ref 459], aa_H g) v h := r
  obtain ⟨n20, ln20, r⟩ := rn_steps 2 (43, [some (.ref 459), x1, some (.int b2), some (.int b3)], [.int (48 + ((b2 / b3) - (b2 / b3) / 10 * 10)), .ref 459], aa_H g) rfl r
  obtain ⟨_, n21, v1, h1, -, ln21, rc, r⟩ := rn_call (m2 := 147) (as := [.ref 459, .int (48 + ((b2 / b3) - (b2 / b3) / 10 * 10))]) (rest := []) rfl rfl r
  obtain ⟨rfl, rfl⟩ := dn_147 rc
  have r : rn_s _ 148 (46, [some (.ref 459), x1, some (.int b2), some (.int b3)], [], aa_H (fn_147 g (48 + ((b2 / b3) - (b2 / b3) / 10 * 10)))) v h := r
  exact dn_148_46 (P) (fun n2 l2 => hO0 n2 (by omega)) (fun z hz => hR _ hz) x1 jx1 r
noncomputable def fn_148_19b (g : aa_G) (b2 : Int32) (b3 : Int32) : (aa_G × Int32) ⊕ aa_G := if b3 ≤ 0 then .inr g else if b3 ≤ b2 then fn_148_33 g b2 b3 else if b3 ≠ 1 then fn_148_46 g b2 b3 else fn_148_33 g b2 b3
noncomputable def fn_148_19 (g : aa_G) (b2 : Int32) (b3 : Int32) : aa_G := lp_f g (fun z : (aa_G × Int32) => fn_148_19b z.1 b2 z.2) (g, b3)
theorem dn_148_19l {v : Option Value} {h : zz_H} {N : Nat} {b2 : Int32} {d : aa_G} : ∀ (n : Nat), n ≤ N → ∀ (g : aa_G) (b3 : Int32) (x1 : Option Value) (jx1 : rn_jk x1), rn_s n 148 (19, [some (.ref 459), x1, some (.int b2), some (.int b3)], [], aa_H g) v h → (ig_s v h) (lp_f d (fun z : (aa_G × Int32) => fn_148_19b z.1 b2 z.2) (g, b3)) := by
  generalize hf : (fun z : (aa_G × Int32) => fn_148_19b z.1 b2 z.2) = f
  intro n
  induction n using Nat.strongRecOn with
  | _ n ih =>
    intro hN g b3 x1 jx1 r
    refine lp_go ?_
    rw [← congrFun hf (g, b3)]
    show lp_q (ig_s v h) d f (fn_148_19b g b2 b3)
    unfold fn_148_19b
    obtain ⟨n8, ln8, r⟩ := rn_steps 0 (20, [some (.ref 459), x1, some (.int b2), some (.int b3)], [.int b3], aa_H g) rfl r
    refine rn_if (lp_q (ig_s v h) d f) rfl decide_eq_true_iff.symm r (fun c9 l10n l10 r => ?_) (fun c9 l10n l10 r => ?_)
    · exact rn_ret 1 rfl r
    · obtain ⟨n11, ln11, r⟩ := rn_steps 1 (25, [some (.ref 459), x1, some (.int b2), some (.int b3)], [.int b3, .int b2], aa_H g) rfl r
      refine rn_ic (lp_q (ig_s v h) d f) rfl decide_eq_true_iff.symm r (fun c12 l13n l13 r => ?_) (fun c12 l13n l13 r => ?_)
      · exact dn_148_33 (lp_q (ig_s v h) d f) (fun n2 l2 => ih n2 (by omega) (by omega)) (fun z hz => hz) x1 jx1 r
      · obtain ⟨n14, ln14, r⟩ := rn_steps 1 (30, [some (.ref 459), x1, some (.int b2), some (.int b3)], [.int 1, .int b3], aa_H g) rfl r
        refine rn_ic (lp_q (ig_s v h) d f) rfl decide_eq_true_iff.symm r (fun c15 l16n l16 r => ?_) (fun c15 l16n l16 r => ?_)
        · exact dn_148_46 (lp_q (ig_s v h) d f) (fun n2 l2 => ih n2 (by omega) (by omega)) (fun z hz => hz) x1 jx1 r
        · exact dn_148_33 (lp_q (ig_s v h) d f) (fun n2 l2 => ih n2 (by omega) (by omega)) (fun z hz => hz) x1 jx1 r
theorem dn_148_19 {v : Option Value} {h : zz_H} {n : Nat} {g : aa_G} {b2 : Int32} {b3 : Int32}  (x1 : Option Value) (jx1 : rn_jk x1) (r : rn_s n 148 (19, [some (.ref 459), x1, some (.int b2), some (.int b3)], [], aa_H g) v h) : (ig_s v h) (fn_148_19 g b2 b3) := dn_148_19l  n (Nat.le_refl n) g b3 x1 jx1 r
noncomputable def fn_148_10 (g : aa_G) (b1 : Int32) : aa_G := fn_148_19 g (if 0 ≤ b1 then b1 else 0 - b1) 10000
theorem dn_148_10 {v : Option Value} {h : zz_H} {n : Nat} {g : aa_G} {b1 : Int32}  (x2 x3 : Option Value) (jx2 : rn_jk x2) (jx3 : rn_jk x3) (r : rn_s n 148 (10, [some (.ref 459), some (.int b1), x2, x3], [], aa_H g) v h) : ig_s v h (fn_148_10 g b1) := by
  unfold fn_148_10
  obtain ⟨n7, ln7, r⟩ := rn_steps 4 (19, [some (.ref 459), some (.int b1), some (.int (if 0 ≤ b1 then b1 else 0 - b1)), some (.int 10000)], [], aa_H g) rfl r
  exact dn_148_19 (some (.int b1)) rn_ji r
noncomputable def fn_148 (g : aa_G) (a1 : Int32) : aa_G := if 0 ≤ a1 then fn_148_10 g a1 else fn_148_10 (fn_147 g 45) a1
theorem dn_148 {v : Option Value} {h : zz_H} {n : Nat} {g : aa_G} {a1 : Int32}  (r : rn_s n 148 (0, zz_in [.ref 459, .int a1] (zz_nl 148), [], aa_H g) v h) : ig_s v h (fn_148 g a1) := by
  have r : rn_s n 148 (0, [some (.ref 459), some (.int a1), none, none], [], aa_H g) v h := r
  unfold fn_148
  obtain ⟨n1, ln1, r⟩ := rn_steps 0 (1, [some (.ref 459), some (.int a1), none, none], [.int a1], aa_H g) rfl r
  refine rn_if (ig_s v h) rfl decide_eq_true_iff.symm r (fun c2 l3n l3 r => ?_) (fun c2 l3n l3 r => ?_)
  · exact dn_148_10 none none rn_jn rn_jn r
  · obtain ⟨n4, ln4, r⟩ := rn_steps 1 (7, [some (.ref 459), some (.int a1), none, none], [.int 45, .ref 459], aa_H g) rfl r
    obtain ⟨_, n5, v1, h1, -, ln5, rc, r⟩ := rn_call (m2 := 147) (as := [.ref 459, .int 45]) (rest := []) rfl rfl r
    obtain ⟨rfl, rfl⟩ := dn_147 rc
    have r : rn_s _ 148 (10, [some (.ref 459), some (.int a1), none, none], [], aa_H (fn_147 g 45)) v h := r
    exact dn_148_10 none none rn_jn rn_jn r
-- 146: UnequalHours Written compose
noncomputable def fn_146_137 (g : aa_G) (B1 : Nat) (b2 : Int32) : (aa_G × Int32) ⊕ aa_G := .inl (g, b2 + 1)
theorem dn_146_137 {v : Option Value} {h : zz_H} {n : Nat} {g : aa_G} {B1 : Nat} {b2 : Int32} (P : (aa_G × Int32) ⊕ aa_G → Prop) (hO0 : ∀ n2, n2 < n → ∀ (yg : aa_G) (yb2 : Int32) (yx3 : Option Value) (_ : rn_jk yx3), rn_s n2 146 (27, [some (.ref 459), some (.ref B1), some (.int yb2), yx3], [], aa_H yg) v h → P (.inl (yg, yb2))) (hR : ∀ E, ig_s v h E → P (.inr E)) (hB1 : ct_tw B1) (x3 : Option Value) (jx3 : rn_jk x3) (r : rn_s n 146 (137, [some (.ref 459), some (.ref B1), some (.int b2), x3], [], aa_H g) v h) : P (fn_146_137 g B1 b2) := by
  unfold fn_146_137
  obtain ⟨n78, ln78, r⟩ := rn_steps 1 (27, [some (.ref 459), some (.ref B1), some (.int (b2 + 1)), x3], [], aa_H g) rfl r
  exact hO0 _ (by omega) g (b2 + 1) x3 jx3 r
noncomputable def fn_146_131 (g : aa_G) (B1 : Nat) (b2 : Int32) : (aa_G × Int32) ⊕ aa_G := fn_146_137 (fn_147 g 59) B1 b2
theorem dn_146_131 {v : Option Value} {h : zz_H} {n : Nat} {g : aa_G} {B1 : Nat} {b2 : Int32} (P : (aa_G × Int32) ⊕ aa_G → Prop) (hO0 : ∀ n2, n2 < n → ∀ (yg : aa_G) (yb2 : Int32) (yx3 : Option Value) (_ : rn_jk yx3), rn_s n2 146 (27, [some (.ref 459), some (.ref B1), some (.int yb2), yx3], [], aa_H yg) v h → P (.inl (yg, yb2))) (hR : ∀ E, ig_s v h E → P (.inr E)) (hB1 : ct_tw B1) (x3 : Option Value) (jx3 : rn_jk x3) (r : rn_s n 146 (131, [some (.ref 459), some (.ref B1), some (.int b2), x3], [], aa_H g) v h) : P (fn_146_131 g B1 b2) := by
  unfold fn_146_131
  obtain ⟨n68, ln68, r⟩ := rn_steps 1 (134, [some (.ref 459), some (.ref B1), some (.int b2), x3], [.int 59, .ref 459], aa_H g) rfl r
  obtain ⟨_, n69, v1, h1, -, ln69, rc, r⟩ := rn_call (m2 := 147) (as := [.ref 459, .int 59]) (rest := []) rfl rfl r
  obtain ⟨rfl, rfl⟩ := dn_147 rc
  have r : rn_s _ 146 (137, [some (.ref 459), some (.ref B1), some (.int b2), x3], [], aa_H (fn_147 g 59)) v h := r
  exact dn_146_137 (P) (fun n2 l2 => hO0 n2 (by omega)) (fun z hz => hR _ hz) hB1 x3 jx3 r
noncomputable def fn_146_121 (g : aa_G) (B1 : Nat) (b2 : Int32) : (aa_G × Int32) ⊕ aa_G := fn_146_131 (fn_148 g (g (B1 + 3) b2.toNatClampNeg)) B1 b2
theorem dn_146_121 {v : Option Value} {h : zz_H} {n : Nat} {g : aa_G} {B1 : Nat} {b2 : Int32} (P : (aa_G × Int32) ⊕ aa_G → Prop) (hO0 : ∀ n2, n2 < n → ∀ (yg : aa_G) (yb2 : Int32) (yx3 : Option Value) (_ : rn_jk yx3), rn_s n2 146 (27, [some (.ref 459), some (.ref B1), some (.int yb2), yx3], [], aa_H yg) v h → P (.inl (yg, yb2))) (hR : ∀ E, ig_s v h E → P (.inr E)) (hB1 : ct_tw B1) (x3 : Option Value) (jx3 : rn_jk x3) (r : rn_s n 146 (121, [some (.ref 459), some (.ref B1), some (.int b2), x3], [], aa_H g) v h) : P (fn_146_121 g B1 b2) := by
  unfold fn_146_121
  obtain ⟨n71, ln71, r⟩ := rn_steps 1 (123, [some (.ref 459), some (.ref B1), some (.int b2), x3], [.ref B1, .ref 459], aa_H g) rfl r
  obtain ⟨n72, ln72, r⟩ := rn_gr rfl (tw_hk hB1) (tw_hl hB1) rfl r
  have r : rn_s _ 146 (126, [some (.ref 459), some (.ref B1), some (.int b2), x3], [.ref (B1 + 3), .ref 459], aa_H g) v h := r
  obtain ⟨n73, ln73, r⟩ := rn_steps 0 (127, [some (.ref 459), some (.ref B1), some (.int b2), x3], [.int b2, .ref (B1 + 3), .ref 459], aa_H g) rfl r
  obtain ⟨hb75, n74, ln74, r⟩ := rn_ial rfl (tw_a3 hB1).1 (tw_a3 hB1).2 r
  have r : rn_s _ 146 (128, [some (.ref 459), some (.ref B1), some (.int b2), x3], [.int (g (B1 + 3) b2.toNatClampNeg), .ref 459], aa_H g) v h := r
  obtain ⟨_, n76, v1, h1, -, ln76, rc, r⟩ := rn_call (m2 := 148) (as := [.ref 459, .int (g (B1 + 3) b2.toNatClampNeg)]) (rest := []) rfl rfl r
  obtain ⟨rfl, rfl⟩ := dn_148 rc
  have r : rn_s _ 146 (131, [some (.ref 459), some (.ref B1), some (.int b2), x3], [], aa_H (fn_148 g (g (B1 + 3) b2.toNatClampNeg))) v h := r
  exact dn_146_131 (P) (fun n2 l2 => hO0 n2 (by omega)) (fun z hz => hR _ hz) hB1 x3 jx3 r
noncomputable def fn_146_111 (g : aa_G) (B1 : Nat) (b2 : Int32) (b3 : Int32) : (aa_G × Int32) ⊕ aa_G := if b3 ≠ 0 then fn_146_131 g B1 b2 else fn_146_121 (fn_147 g 44) B1 b2
theorem dn_146_111 {v : Option Value} {h : zz_H} {n : Nat} {g : aa_G} {B1 : Nat} {b2 : Int32} {b3 : Int32} (P : (aa_G × Int32) ⊕ aa_G → Prop) (hO0 : ∀ n2, n2 < n → ∀ (yg : aa_G) (yb2 : Int32) (yx3 : Option Value) (_ : rn_jk yx3), rn_s n2 146 (27, [some (.ref 459), some (.ref B1), some (.int yb2), yx3], [], aa_H yg) v h → P (.inl (yg, yb2))) (hR : ∀ E, ig_s v h E → P (.inr E)) (hB1 : ct_tw B1) (r : rn_s n 146 (111, [some (.ref 459), some (.ref B1), some (.int b2), some (.int b3)], [], aa_H g) v h) : P (fn_146_111 g B1 b2 b3) := by
  unfold fn_146_111
  obtain ⟨n62, ln62, r⟩ := rn_steps 0 (112, [some (.ref 459), some (.ref B1), some (.int b2), some (.int b3)], [.int b3], aa_H g) rfl r
  refine rn_if (P) rfl decide_eq_true_iff.symm r (fun c63 l64n l64 r => ?_) (fun c63 l64n l64 r => ?_)
  · exact dn_146_131 (P) (fun n2 l2 => hO0 n2 (by omega)) (fun z hz => hR _ hz) hB1 (some (.int b3)) rn_ji r
  · obtain ⟨n65, ln65, r⟩ := rn_steps 1 (118, [some (.ref 459), some (.ref B1), some (.int b2), some (.int b3)], [.int 44, .ref 459], aa_H g) rfl r
    obtain ⟨_, n66, v1, h1, -, ln66, rc, r⟩ := rn_call (m2 := 147) (as := [.ref 459, .int 44]) (rest := []) rfl rfl r
    obtain ⟨rfl, rfl⟩ := dn_147 rc
    have r : rn_s _ 146 (121, [some (.ref 459), some (.ref B1), some (.int b2), some (.int b3)], [], aa_H (fn_147 g 44)) v h := r
    exact dn_146_121 (P) (fun n2 l2 => hO0 n2 (by omega)) (fun z hz => hR _ hz) hB1 (some (.int b3)) rn_ji r
noncomputable def fn_146_108 (g : aa_G) (B1 : Nat) (b2 : Int32) (b3 : Int32) (s0 : Int32) : (aa_G × Int32) ⊕ aa_G := fn_146_111 (fn_148 g s0) B1 b2 b3
theorem dn_146_108 {v : Option Value} {h : zz_H} {n : Nat} {g : aa_G} {B1 : Nat} {b2 : Int32} {b3 : Int32} {s0 : Int32} (P : (aa_G × Int32) ⊕ aa_G → Prop) (hO0 : ∀ n2, n2 < n → ∀ (yg : aa_G) (yb2 : Int32) (yx3 : Option Value) (_ : rn_jk yx3), rn_s n2 146 (27, [some (.ref 459), some (.ref B1), some (.int yb2), yx3], [], aa_H yg) v h → P (.inl (yg, yb2))) (hR : ∀ E, ig_s v h E → P (.inr E)) (hB1 : ct_tw B1) (r : rn_s n 146 (108, [some (.ref 459), some (.ref B1), some (.int b2), some (.int b3)], [.int s0, .ref 459], aa_H g) v h) : P (fn_146_108 g B1 b2 b3 s0) := by
  unfold fn_146_108
  obtain ⟨_, n60, v1, h1, -, ln60, rc, r⟩ := rn_call (m2 := 148) (as := [.ref 459, .int s0]) (rest := []) rfl rfl r
  obtain ⟨rfl, rfl⟩ := dn_148 rc
  have r : rn_s _ 146 (111, [some (.ref 459), some (.ref B1), some (.int b2), some (.int b3)], [], aa_H (fn_148 g s0)) v h := r
  exact dn_146_111 (P) (fun n2 l2 => hO0 n2 (by omega)) (fun z hz => hR _ hz) hB1 r
noncomputable def fn_146_88 (g : aa_G) (B1 : Nat) (b2 : Int32) (b3 : Int32) : (aa_G × Int32) ⊕ aa_G := if b3 = 0 then fn_146_108 g B1 b2 b3 (g (B1 + 2) b2.toNatClampNeg) else fn_146_108 g B1 b2 b3 (g (B1 + 4) b2.toNatClampNeg)
theorem dn_146_88 {v : Option Value} {h : zz_H} {n : Nat} {g : aa_G} {B1 : Nat} {b2 : Int32} {b3 : Int32} (P : (aa_G × Int32) ⊕ aa_G → Prop) (hO0 : ∀ n2, n2 < n → ∀ (yg : aa_G) (yb2 : Int32) (yx3 : Option Value) (_ : rn_jk yx3), rn_s n2 146 (27, [some (.ref 459), some (.ref B1), some (.int yb2), yx3], [], aa_H yg) v h → P (.inl (yg, yb2))) (hR : ∀ E, ig_s v h E → P (.inr E)) (hB1 : ct_tw B1) (r : rn_s n 146 (88, [some (.ref 459), some (.ref B1), some (.int b2), some (.int b3)], [], aa_H g) v h) : P (fn_146_88 g B1 b2 b3) := by
  unfold fn_146_88
  obtain ⟨n46, ln46, r⟩ := rn_steps 1 (90, [some (.ref 459), some (.ref B1), some (.int b2), some (.int b3)], [.int b3, .ref 459], aa_H g) rfl r
  refine rn_if (P) rfl decide_eq_true_iff.symm r (fun c47 l48n l48 r => ?_) (fun c47 l48n l48 r => ?_)
  · obtain ⟨n49, ln49, r⟩ := rn_steps 0 (103, [some (.ref 459), some (.ref B1), some (.int b2), some (.int b3)], [.ref B1, .ref 459], aa_H g) rfl r
    obtain ⟨n50, ln50, r⟩ := rn_gr rfl (tw_hk hB1) (tw_hl hB1) rfl r
    have r : rn_s _ 146 (106, [some (.ref 459), some (.ref B1), some (.int b2), some (.int b3)], [.ref (B1 + 2), .ref 459], aa_H g) v h := r
    obtain ⟨n51, ln51, r⟩ := rn_steps 0 (107, [some (.ref 459), some (.ref B1), some (.int b2), some (.int b3)], [.int b2, .ref (B1 + 2), .ref 459], aa_H g) rfl r
    obtain ⟨hb53, n52, ln52, r⟩ := rn_ial rfl (tw_a2 hB1).1 (tw_a2 hB1).2 r
    have r : rn_s _ 146 (108, [some (.ref 459), some (.ref B1), some (.int b2), some (.int b3)], [.int (g (B1 + 2) b2.toNatClampNeg), .ref 459], aa_H g) v h := r
    exact dn_146_108 (P) (fun n2 l2 => hO0 n2 (by omega)) (fun z hz => hR _ hz) hB1 r
  · obtain ⟨n54, ln54, r⟩ := rn_steps 0 (94, [some (.ref 459), some (.ref B1), some (.int b2), some (.int b3)], [.ref B1, .ref 459], aa_H g) rfl r
    obtain ⟨n55, ln55, r⟩ := rn_gr rfl (tw_hk hB1) (tw_hl hB1) rfl r
    have r : rn_s _ 146 (97, [some (.ref 459), some (.ref B1), some (.int b2), some (.int b3)], [.ref (B1 + 4), .ref 459], aa_H g) v h := r
    obtain ⟨n56, ln56, r⟩ := rn_steps 0 (98, [some (.ref 459), some (.ref B1), some (.int b2), some (.int b3)], [.int b2, .ref (B1 + 4), .ref 459], aa_H g) rfl r
    obtain ⟨hb58, n57, ln57, r⟩ := rn_ial rfl (tw_a4 hB1).1 (tw_a4 hB1).2 r
    have r : rn_s _ 146 (99, [some (.ref 459), some (.ref B1), some (.int b2), some (.int b3)], [.int (g (B1 + 4) b2.toNatClampNeg), .ref 459], aa_H g) v h := r
    obtain ⟨n59, ln59, r⟩ := rn_steps 0 (108, [some (.ref 459), some (.ref B1), some (.int b2), some (.int b3)], [.int (g (B1 + 4) b2.toNatClampNeg), .ref 459], aa_H g) rfl r
    exact dn_146_108 (P) (fun n2 l2 => hO0 n2 (by omega)) (fun z hz => hR _ hz) hB1 r
noncomputable def fn_146_82 (g : aa_G) (B1 : Nat) (b2 : Int32) (b3 : Int32) : (aa_G × Int32) ⊕ aa_G := fn_146_88 (fn_147 g 44) B1 b2 b3
theorem dn_146_82 {v : Option Value} {h : zz_H} {n : Nat} {g : aa_G} {B1 : Nat} {b2 : Int32} {b3 : Int32} (P : (aa_G × Int32) ⊕ aa_G → Prop) (hO0 : ∀ n2, n2 < n → ∀ (yg : aa_G) (yb2 : Int32) (yx3 : Option Value) (_ : rn_jk yx3), rn_s n2 146 (27, [some (.ref 459), some (.ref B1), some (.int yb2), yx3], [], aa_H yg) v h → P (.inl (yg, yb2))) (hR : ∀ E, ig_s v h E → P (.inr E)) (hB1 : ct_tw B1) (r : rn_s n 146 (82, [some (.ref 459), some (.ref B1), some (.int b2), some (.int b3)], [], aa_H g) v h) : P (fn_146_82 g B1 b2 b3) := by
  unfold fn_146_82
  obtain ⟨n43, ln43, r⟩ := rn_steps 1 (85, [some (.ref 459), some (.ref B1), some (.int b2), some (.int b3)], [.int 44, .ref 459], aa_H g) rfl r
  obtain ⟨_, n44, v1, h1, -, ln44, rc, r⟩ := rn_call (m2 := 147) (as := [.ref 459, .int 44]) (rest := []) rfl rfl r
  obtain ⟨rfl, rfl⟩ := dn_147 rc
  have r : rn_s _ 146 (88, [some (.ref 459), some (.ref B1), some (.int b2), some (.int b3)], [], aa_H (fn_147 g 44)) v h := r
  exact dn_146_88 (P) (fun n2 l2 => hO0 n2 (by omega)) (fun z hz => hR _ hz) hB1 r
noncomputable def fn_146_72 (g : aa_G) (B1 : Nat) (b2 : Int32) (b3 : Int32) : (aa_G × Int32) ⊕ aa_G := fn_146_82 (fn_148 g (g (B1 + 1) b2.toNatClampNeg)) B1 b2 b3
theorem dn_146_72 {v : Option Value} {h : zz_H} {n : Nat} {g : aa_G} {B1 : Nat} {b2 : Int32} {b3 : Int32} (P : (aa_G × Int32) ⊕ aa_G → Prop) (hO0 : ∀ n2, n2 < n → ∀ (yg : aa_G) (yb2 : Int32) (yx3 : Option Value) (_ : rn_jk yx3), rn_s n2 146 (27, [some (.ref 459), some (.ref B1), some (.int yb2), yx3], [], aa_H yg) v h → P (.inl (yg, yb2))) (hR : ∀ E, ig_s v h E → P (.inr E)) (hB1 : ct_tw B1) (r : rn_s n 146 (72, [some (.ref 459), some (.ref B1), some (.int b2), some (.int b3)], [], aa_H g) v h) : P (fn_146_72 g B1 b2 b3) := by
  unfold fn_146_72
  obtain ⟨n36, ln36, r⟩ := rn_steps 1 (74, [some (.ref 459), some (.ref B1), some (.int b2), some (.int b3)], [.ref B1, .ref 459], aa_H g) rfl r
  obtain ⟨n37, ln37, r⟩ := rn_gr rfl (tw_hk hB1) (tw_hl hB1) rfl r
  have r : rn_s _ 146 (77, [some (.ref 459), some (.ref B1), some (.int b2), some (.int b3)], [.ref (B1 + 1), .ref 459], aa_H g) v h := r
  obtain ⟨n38, ln38, r⟩ := rn_steps 0 (78, [some (.ref 459), some (.ref B1), some (.int b2), some (.int b3)], [.int b2, .ref (B1 + 1), .ref 459], aa_H g) rfl r
  obtain ⟨hb40, n39, ln39, r⟩ := rn_ial rfl (tw_a1 hB1).1 (tw_a1 hB1).2 r
  have r : rn_s _ 146 (79, [some (.ref 459), some (.ref B1), some (.int b2), some (.int b3)], [.int (g (B1 + 1) b2.toNatClampNeg), .ref 459], aa_H g) v h := r
  obtain ⟨_, n41, v1, h1, -, ln41, rc, r⟩ := rn_call (m2 := 148) (as := [.ref 459, .int (g (B1 + 1) b2.toNatClampNeg)]) (rest := []) rfl rfl r
  obtain ⟨rfl, rfl⟩ := dn_148 rc
  have r : rn_s _ 146 (82, [some (.ref 459), some (.ref B1), some (.int b2), some (.int b3)], [], aa_H (fn_148 g (g (B1 + 1) b2.toNatClampNeg))) v h := r
  exact dn_146_82 (P) (fun n2 l2 => hO0 n2 (by omega)) (fun z hz => hR _ hz) hB1 r
noncomputable def fn_146_69 (g : aa_G) (B1 : Nat) (b2 : Int32) (b3 : Int32) (s0 : Int32) : (aa_G × Int32) ⊕ aa_G := fn_146_72 (fn_147 g s0) B1 b2 b3
theorem dn_146_69 {v : Option Value} {h : zz_H} {n : Nat} {g : aa_G} {B1 : Nat} {b2 : Int32} {b3 : Int32} {s0 : Int32} (P : (aa_G × Int32) ⊕ aa_G → Prop) (hO0 : ∀ n2, n2 < n → ∀ (yg : aa_G) (yb2 : Int32) (yx3 : Option Value) (_ : rn_jk yx3), rn_s n2 146 (27, [some (.ref 459), some (.ref B1), some (.int yb2), yx3], [], aa_H yg) v h → P (.inl (yg, yb2))) (hR : ∀ E, ig_s v h E → P (.inr E)) (hB1 : ct_tw B1) (r : rn_s n 146 (69, [some (.ref 459), some (.ref B1), some (.int b2), some (.int b3)], [.int s0, .ref 459], aa_H g) v h) : P (fn_146_69 g B1 b2 b3 s0) := by
  unfold fn_146_69
  obtain ⟨_, n34, v1, h1, -, ln34, rc, r⟩ := rn_call (m2 := 147) (as := [.ref 459, .int s0]) (rest := []) rfl rfl r
  obtain ⟨rfl, rfl⟩ := dn_147 rc
  have r : rn_s _ 146 (72, [some (.ref 459), some (.ref B1), some (.int b2), some (.int b3)], [], aa_H (fn_147 g s0)) v h := r
  exact dn_146_72 (P) (fun n2 l2 => hO0 n2 (by omega)) (fun z hz => hR _ hz) hB1 r
noncomputable def fn_146_56 (g : aa_G) (B1 : Nat) (b2 : Int32) (s0 : Int32) : (aa_G × Int32) ⊕ aa_G := if s0 = 0 then fn_146_69 g B1 b2 s0 112 else fn_146_69 g B1 b2 s0 120
theorem dn_146_56 {v : Option Value} {h : zz_H} {n : Nat} {g : aa_G} {B1 : Nat} {b2 : Int32} {s0 : Int32} (P : (aa_G × Int32) ⊕ aa_G → Prop) (hO0 : ∀ n2, n2 < n → ∀ (yg : aa_G) (yb2 : Int32) (yx3 : Option Value) (_ : rn_jk yx3), rn_s n2 146 (27, [some (.ref 459), some (.ref B1), some (.int yb2), yx3], [], aa_H yg) v h → P (.inl (yg, yb2))) (hR : ∀ E, ig_s v h E → P (.inr E)) (hB1 : ct_tw B1) (x3 : Option Value) (jx3 : rn_jk x3) (r : rn_s n 146 (56, [some (.ref 459), some (.ref B1), some (.int b2), x3], [.int s0], aa_H g) v h) : P (fn_146_56 g B1 b2 s0) := by
  unfold fn_146_56
  obtain ⟨n29, ln29, r⟩ := rn_steps 2 (59, [some (.ref 459), some (.ref B1), some (.int b2), some (.int s0)], [.int s0, .ref 459], aa_H g) rfl r
  refine rn_if (P) rfl decide_eq_true_iff.symm r (fun c30 l31n l31 r => ?_) (fun c30 l31n l31 r => ?_)
  · obtain ⟨n32, ln32, r⟩ := rn_steps 0 (69, [some (.ref 459), some (.ref B1), some (.int b2), some (.int s0)], [.int 112, .ref 459], aa_H g) rfl r
    exact dn_146_69 (P) (fun n2 l2 => hO0 n2 (by omega)) (fun z hz => hR _ hz) hB1 r
  · obtain ⟨n33, ln33, r⟩ := rn_steps 1 (69, [some (.ref 459), some (.ref B1), some (.int b2), some (.int s0)], [.int 120, .ref 459], aa_H g) rfl r
    exact dn_146_69 (P) (fun n2 l2 => hO0 n2 (by omega)) (fun z hz => hR _ hz) hB1 r
noncomputable def fn_146_27b (g : aa_G) (B1 : Nat) (b2 : Int32) : (aa_G × Int32) ⊕ aa_G := if (g B1 1) ≤ b2 then .inr g else if 12 ≤ b2 then .inr g else if (g (B1 + 4) b2.toNatClampNeg) = (-1) then fn_146_56 g B1 b2 0 else fn_146_56 g B1 b2 1
noncomputable def fn_146_27 (g : aa_G) (B1 : Nat) (b2 : Int32) : aa_G := lp_f g (fun z : (aa_G × Int32) => fn_146_27b z.1 B1 z.2) (g, b2)
theorem dn_146_27l {v : Option Value} {h : zz_H} {N : Nat} {B1 : Nat} (hB1 : ct_tw B1) {d : aa_G} : ∀ (n : Nat), n ≤ N → ∀ (g : aa_G) (b2 : Int32) (x3 : Option Value) (jx3 : rn_jk x3), rn_s n 146 (27, [some (.ref 459), some (.ref B1), some (.int b2), x3], [], aa_H g) v h → (ig_s v h) (lp_f d (fun z : (aa_G × Int32) => fn_146_27b z.1 B1 z.2) (g, b2)) := by
  generalize hf : (fun z : (aa_G × Int32) => fn_146_27b z.1 B1 z.2) = f
  intro n
  induction n using Nat.strongRecOn with
  | _ n ih =>
    intro hN g b2 x3 jx3 r
    refine lp_go ?_
    rw [← congrFun hf (g, b2)]
    show lp_q (ig_s v h) d f (fn_146_27b g B1 b2)
    unfold fn_146_27b
    obtain ⟨n12, ln12, r⟩ := rn_steps 1 (29, [some (.ref 459), some (.ref B1), some (.int b2), x3], [.ref B1, .int b2], aa_H g) rfl r
    obtain ⟨n13, ln13, r⟩ := rn_gf rfl (tw_hk hB1) (tw_hl hB1) rfl r
    have r : rn_s _ 146 (32, [some (.ref 459), some (.ref B1), some (.int b2), x3], [.int (g B1 1), .int b2], aa_H g) v h := r
    refine rn_ic (lp_q (ig_s v h) d f) rfl decide_eq_true_iff.symm r (fun c14 l15n l15 r => ?_) (fun c14 l15n l15 r => ?_)
    · exact rn_ret 1 rfl r
    · obtain ⟨n16, ln16, r⟩ := rn_steps 1 (38, [some (.ref 459), some (.ref B1), some (.int b2), x3], [.int 12, .int b2], aa_H g) rfl r
      refine rn_ic (lp_q (ig_s v h) d f) rfl decide_eq_true_iff.symm r (fun c17 l18n l18 r => ?_) (fun c17 l18n l18 r => ?_)
      · exact rn_ret 1 rfl r
      · obtain ⟨n19, ln19, r⟩ := rn_steps 0 (42, [some (.ref 459), some (.ref B1), some (.int b2), x3], [.ref B1], aa_H g) rfl r
        obtain ⟨n20, ln20, r⟩ := rn_gr rfl (tw_hk hB1) (tw_hl hB1) rfl r
        have r : rn_s _ 146 (45, [some (.ref 459), some (.ref B1), some (.int b2), x3], [.ref (B1 + 4)], aa_H g) v h := r
        obtain ⟨n21, ln21, r⟩ := rn_steps 0 (46, [some (.ref 459), some (.ref B1), some (.int b2), x3], [.int b2, .ref (B1 + 4)], aa_H g) rfl r
        obtain ⟨hb23, n22, ln22, r⟩ := rn_ial rfl (tw_a4 hB1).1 (tw_a4 hB1).2 r
        have r : rn_s _ 146 (47, [some (.ref 459), some (.ref B1), some (.int b2), x3], [.int (g (B1 + 4) b2.toNatClampNeg)], aa_H g) v h := r
        obtain ⟨n24, ln24, r⟩ := rn_steps 0 (48, [some (.ref 459), some (.ref B1), some (.int b2), x3], [.int (-1), .int (g (B1 + 4) b2.toNatClampNeg)], aa_H g) rfl r
        refine rn_ic (lp_q (ig_s v h) d f) rfl decide_eq_true_iff.symm r (fun c25 l26n l26 r => ?_) (fun c25 l26n l26 r => ?_)
        · obtain ⟨n27, ln27, r⟩ := rn_steps 0 (56, [some (.ref 459), some (.ref B1), some (.int b2), x3], [.int 0], aa_H g) rfl r
          exact dn_146_56 (lp_q (ig_s v h) d f) (fun n2 l2 => ih n2 (by omega) (by omega)) (fun z hz => hz) hB1 x3 jx3 r
        · obtain ⟨n28, ln28, r⟩ := rn_steps 1 (56, [some (.ref 459), some (.ref B1), some (.int b2), x3], [.int 1], aa_H g) rfl r
          exact dn_146_56 (lp_q (ig_s v h) d f) (fun n2 l2 => ih n2 (by omega) (by omega)) (fun z hz => hz) hB1 x3 jx3 r
theorem dn_146_27 {v : Option Value} {h : zz_H} {n : Nat} {g : aa_G} {B1 : Nat} {b2 : Int32} (hB1 : ct_tw B1) (x3 : Option Value) (jx3 : rn_jk x3) (r : rn_s n 146 (27, [some (.ref 459), some (.ref B1), some (.int b2), x3], [], aa_H g) v h) : (ig_s v h) (fn_146_27 g B1 b2) := dn_146_27l hB1 n (Nat.le_refl n) g b2 x3 jx3 r
noncomputable def fn_146_25 (g : aa_G) (B1 : Nat) : aa_G := fn_146_27 g B1 0
theorem dn_146_25 {v : Option Value} {h : zz_H} {n : Nat} {g : aa_G} {B1 : Nat} (hB1 : ct_tw B1) (x2 x3 : Option Value) (jx2 : rn_jk x2) (jx3 : rn_jk x3) (r : rn_s n 146 (25, [some (.ref 459), some (.ref B1), x2, x3], [], aa_H g) v h) : ig_s v h (fn_146_25 g B1) := by
  unfold fn_146_25
  obtain ⟨n11, ln11, r⟩ := rn_steps 1 (27, [some (.ref 459), some (.ref B1), some (.int 0), x3], [], aa_H g) rfl r
  exact dn_146_27 hB1 x3 jx3 r
noncomputable def fn_146_19 (g : aa_G) (B1 : Nat) : aa_G := fn_146_25 (fn_147 g 59) B1
theorem dn_146_19 {v : Option Value} {h : zz_H} {n : Nat} {g : aa_G} {B1 : Nat} (hB1 : ct_tw B1) (x2 x3 : Option Value) (jx2 : rn_jk x2) (jx3 : rn_jk x3) (r : rn_s n 146 (19, [some (.ref 459), some (.ref B1), x2, x3], [], aa_H g) v h) : ig_s v h (fn_146_19 g B1) := by
  unfold fn_146_19
  obtain ⟨n8, ln8, r⟩ := rn_steps 1 (22, [some (.ref 459), some (.ref B1), x2, x3], [.int 59, .ref 459], aa_H g) rfl r
  obtain ⟨_, n9, v1, h1, -, ln9, rc, r⟩ := rn_call (m2 := 147) (as := [.ref 459, .int 59]) (rest := []) rfl rfl r
  obtain ⟨rfl, rfl⟩ := dn_147 rc
  have r : rn_s _ 146 (25, [some (.ref 459), some (.ref B1), x2, x3], [], aa_H (fn_147 g 59)) v h := r
  exact dn_146_25 hB1 x2 x3 jx2 jx3 r
noncomputable def fn_146_11 (g : aa_G) (B1 : Nat) : aa_G := fn_146_19 (fn_148 g (g B1 0)) B1
theorem dn_146_11 {v : Option Value} {h : zz_H} {n : Nat} {g : aa_G} {B1 : Nat} (hB1 : ct_tw B1) (x2 x3 : Option Value) (jx2 : rn_jk x2) (jx3 : rn_jk x3) (r : rn_s n 146 (11, [some (.ref 459), some (.ref B1), x2, x3], [], aa_H g) v h) : ig_s v h (fn_146_11 g B1) := by
  unfold fn_146_11
  obtain ⟨n4, ln4, r⟩ := rn_steps 1 (13, [some (.ref 459), some (.ref B1), x2, x3], [.ref B1, .ref 459], aa_H g) rfl r
  obtain ⟨n5, ln5, r⟩ := rn_gf rfl (tw_hk hB1) (tw_hl hB1) rfl r
  have r : rn_s _ 146 (16, [some (.ref 459), some (.ref B1), x2, x3], [.int (g B1 0), .ref 459], aa_H g) v h := r
  obtain ⟨_, n6, v1, h1, -, ln6, rc, r⟩ := rn_call (m2 := 148) (as := [.ref 459, .int (g B1 0)]) (rest := []) rfl rfl r
  obtain ⟨rfl, rfl⟩ := dn_148 rc
  have r : rn_s _ 146 (19, [some (.ref 459), some (.ref B1), x2, x3], [], aa_H (fn_148 g (g B1 0))) v h := r
  exact dn_146_19 hB1 x2 x3 jx2 jx3 r
noncomputable def fn_146 (g : aa_G) (T : Nat) : aa_G := fn_146_11 (fn_147 (zz_w g 459 0 0) 116) T
theorem dn_146 {v : Option Value} {h : zz_H} {n : Nat} {g : aa_G} {T : Nat} (hT : ct_tw T) (r : rn_s n 146 (0, zz_in [.ref 459, .ref T] (zz_nl 146), [], aa_H g) v h) : ig_s v h (fn_146 g T) := by
  have r : rn_s n 146 (0, [some (.ref 459), some (.ref T), none, none], [], aa_H g) v h := r
  unfold fn_146
  obtain ⟨n1, ln1, r⟩ := rn_steps 4 (8, [some (.ref 459), some (.ref T), none, none], [.int 116, .ref 459], aa_H (zz_w g 459 0 0)) rfl r
  obtain ⟨_, n2, v1, h1, -, ln2, rc, r⟩ := rn_call (m2 := 147) (as := [.ref 459, .int 116]) (rest := []) rfl rfl r
  obtain ⟨rfl, rfl⟩ := dn_147 rc
  have r : rn_s _ 146 (11, [some (.ref 459), some (.ref T), none, none], [], aa_H (fn_147 (zz_w g 459 0 0) 116)) v h := r
  exact dn_146_11 hT none none rn_jn rn_jn r
-- 145: UnequalHours write
noncomputable def fn_145_27 (g : aa_G)  : Int32 × aa_G := (g 459 0, g)
theorem dn_145_27 {v : Option Value} {h : zz_H} {n : Nat} {g : aa_G}   (x0 x1 x2 : Option Value) (jx0 : rn_jk x0) (jx1 : rn_jk x1) (jx2 : rn_jk x2) (r : rn_s n 145 (27, [x0, x1, x2], [.ref 459], aa_H g) v h) : iw_s v h (fn_145_27 g) := by
  unfold fn_145_27
  obtain ⟨n13, ln13, r⟩ := rn_steps 0 (30, [x0, x1, x2], [.int (g 459 0)], aa_H g) rfl r
  exact rn_ire rfl r
noncomputable def fn_145 (g : aa_G) (a1 : Int32) : Int32 × aa_G := (match fn_31 g a1 with | none => ((-1, g)) | some W6 => (fn_145_27 (fn_146 g W6)))
theorem dn_145 {v : Option Value} {h : zz_H} {n : Nat} {g : aa_G} {a1 : Int32}  (r : rn_s n 145 (0, zz_in [.ref 1, .int a1] (zz_nl 145), [], aa_H g) v h) : iw_s v h (fn_145 g a1) := by
  have r : rn_s n 145 (0, [some (.ref 1), some (.int a1), none], [], aa_H g) v h := r
  unfold fn_145
  obtain ⟨n1, ln1, r⟩ := rn_steps 2 (5, [some (.ref 1), some (.int a1), none], [.int a1, .ref 2], aa_H g) rfl r
  obtain ⟨_, n2, v1, h1, -, ln2, rc, r⟩ := rn_call (m2 := 31) (as := [.ref 2, .int a1]) (rest := []) rfl rfl r
  obtain ⟨rfl, rfl, ho4⟩ := dn_31 rc
  have r : rn_s _ 145 (8, [some (.ref 1), some (.int a1), none], [zz_val (fn_31 g a1)], aa_H g) v h := r
  cases e5 : fn_31 g a1 with
  | none =>
    rw [e5] at r
    have r : rn_s _ 145 (8, [some (.ref 1), some (.int a1), none], [.null], aa_H g) v h := r
    dsimp only
    obtain ⟨n8, ln8, r⟩ := rn_steps 3 (14, [some (.ref 1), some (.int a1), some (.null)], [.int (-1)], aa_H g) rfl r
    exact rn_ire rfl r
  | some W6 =>
    rw [e5] at r
    have hw7 : ct_tw W6 := ho4 _ e5
    have r : rn_s _ 145 (8, [some (.ref 1), some (.int a1), none], [.ref W6], aa_H g) v h := r
    dsimp only
    obtain ⟨n9, ln9, r⟩ := rn_steps 5 (20, [some (.ref 1), some (.int a1), some (.ref W6)], [.ref W6, .ref 459], aa_H g) rfl r
    obtain ⟨_, n10, v1, h1, -, ln10, rc, r⟩ := rn_call (m2 := 146) (as := [.ref 459, .ref W6]) (rest := []) rfl rfl r
    obtain ⟨rfl, rfl⟩ := dn_146 hw7 rc
    have r : rn_s _ 145 (23, [some (.ref 1), some (.int a1), some (.ref W6)], [], aa_H (fn_146 g W6)) v h := r
    obtain ⟨n12, ln12, r⟩ := rn_steps 1 (27, [some (.ref 1), some (.int a1), some (.ref W6)], [.ref 459], aa_H (fn_146 g W6)) rfl r
    exact dn_145_27 (some (.ref 1)) (some (.int a1)) (some (.ref W6)) rn_jr rn_ji rn_jr r
-- 149: UnequalHours octet
noncomputable def fn_149 (g : aa_G) (a1 : Int32) : Int32 := if (fn_14 a1 0 ((g 459 0) - 1)) = 0 then -1 else g 460 a1.toNatClampNeg
theorem dn_149 {v : Option Value} {h : zz_H} {n : Nat} {g : aa_G} {a1 : Int32}  (r : rn_s n 149 (0, zz_in [.ref 1, .int a1] (zz_nl 149), [], aa_H g) v h) : ir_s g v h (fn_149 g a1) := by
  have r : rn_s n 149 (0, [some (.ref 1), some (.int a1)], [], aa_H g) v h := r
  unfold fn_149
  obtain ⟨n1, ln1, r⟩ := rn_steps 6 (11, [some (.ref 1), some (.int a1)], [.int ((g 459 0) - 1), .int 0, .int a1], aa_H g) rfl r
  obtain ⟨_, n2, v1, h1, -, ln2, rc, r⟩ := rn_call (m2 := 14) (as := [.int a1, .int 0, .int ((g 459 0) - 1)]) (rest := []) rfl rfl r
  obtain ⟨rfl, rfl⟩ := dn_14 rc
  have r : rn_s _ 149 (14, [some (.ref 1), some (.int a1)], [.int (fn_14 a1 0 ((g 459 0) - 1))], aa_H g) v h := r
  refine rn_if (ir_s g v h) rfl decide_eq_true_iff.symm r (fun c4 l5n l5 r => ?_) (fun c4 l5n l5 r => ?_)
  · obtain ⟨n6, ln6, r⟩ := rn_steps 0 (30, [some (.ref 1), some (.int a1)], [.int (-1)], aa_H g) rfl r
    exact rn_ire rfl r
  · obtain ⟨n7, ln7, r⟩ := rn_steps 3 (25, [some (.ref 1), some (.int a1)], [.int a1, .ref 460], aa_H g) rfl r
    obtain ⟨hb9, n8, ln8, r⟩ := rn_ial (k := 460) rfl ⟨by decide, by decide⟩ rfl r
    have r : rn_s _ 149 (26, [some (.ref 1), some (.int a1)], [.int (g 460 a1.toNatClampNeg)], aa_H g) v h := r
    obtain ⟨n10, ln10, r⟩ := rn_steps 0 (30, [some (.ref 1), some (.int a1)], [.int (g 460 a1.toNatClampNeg)], aa_H g) rfl r
    exact rn_ire rfl r
end
section
/-! METHODS READ (printed by wip/dc/dc.py) -/
-- 141: UnequalHours undo
noncomputable def fn_141_11 (g : aa_G) (s0 : Int32) : Int32 × aa_G := if s0 = 0 then (-1, g) else (g 66 0, g)
theorem dn_141_11 {v : Option Value} {h : zz_H} {n : Nat} {g : aa_G} {s0 : Int32}  (r : rn_s n 141 (11, [some (.ref 1)], [.int s0], aa_H g) v h) : iw_s v h (fn_141_11 g s0) := by
  unfold fn_141_11
  refine rn_if (iw_s v h) rfl decide_eq_true_iff.symm r (fun c4 l5n l5 r => ?_) (fun c4 l5n l5 r => ?_)
  · obtain ⟨n6, ln6, r⟩ := rn_steps 0 (25, [some (.ref 1)], [.int (-1)], aa_H g) rfl r
    exact rn_ire rfl r
  · obtain ⟨n7, ln7, r⟩ := rn_steps 3 (25, [some (.ref 1)], [.int (g 66 0)], aa_H g) rfl r
    exact rn_ire rfl r
noncomputable def fn_141 (g : aa_G)  : Int32 × aa_G := fn_141_11 ((fn_142 g).2) ((fn_142 g).1)
theorem dn_141 {v : Option Value} {h : zz_H} {n : Nat} {g : aa_G}  (hi : rem_ok g) (r : rn_s n 141 (0, zz_in [.ref 1] (zz_nl 141), [], aa_H g) v h) : iw_s v h (fn_141 g) := by
  have r : rn_s n 141 (0, [some (.ref 1)], [], aa_H g) v h := r
  unfold fn_141
  obtain ⟨n1, ln1, r⟩ := rn_steps 3 (8, [some (.ref 1)], [.ref 2, .ref 66], aa_H g) rfl r
  obtain ⟨_, n2, v1, h1, -, ln2, rc, r⟩ := rn_call (m2 := 142) (as := [.ref 66, .ref 2]) (rest := []) rfl rfl r
  obtain ⟨rfl, rfl⟩ := dn_142 hi rc
  have r : rn_s _ 141 (11, [some (.ref 1)], [.int ((fn_142 g).1)], aa_H ((fn_142 g).2)) v h := r
  exact dn_141_11 r
-- 143: UnequalHours keep
noncomputable def fn_143 (g : aa_G) (a1 : Int32) : Int32 × aa_G := if (fn_14 a1 0 1) ≠ 0 then (1, zz_w (fn_16 g (32 * a1.toNatClampNeg + 476) 2) 453 a1.toNatClampNeg (vp_nar .boolean 1)) else (0, g)
theorem dn_143 {v : Option Value} {h : zz_H} {n : Nat} {g : aa_G} {a1 : Int32}  (r : rn_s n 143 (0, zz_in [.ref 1, .int a1] (zz_nl 143), [], aa_H g) v h) : iw_s v h (fn_143 g a1) := by
  have r : rn_s n 143 (0, [some (.ref 1), some (.int a1)], [], aa_H g) v h := r
  unfold fn_143
  obtain ⟨n1, ln1, r⟩ := rn_steps 2 (3, [some (.ref 1), some (.int a1)], [.int 1, .int 0, .int a1], aa_H g) rfl r
  obtain ⟨_, n2, v1, h1, -, ln2, rc, r⟩ := rn_call (m2 := 14) (as := [.int a1, .int 0, .int 1]) (rest := []) rfl rfl r
  obtain ⟨rfl, rfl⟩ := dn_14 rc
  have r : rn_s _ 143 (6, [some (.ref 1), some (.int a1)], [.int (fn_14 a1 0 1)], aa_H g) v h := r
  refine rn_if (iw_s v h) rfl decide_eq_true_iff.symm r (fun c4 l5n l5 r => ?_) (fun c4 l5n l5 r => ?_)
  · obtain ⟨n6, ln6, r⟩ := rn_steps 2 (16, [some (.ref 1), some (.int a1)], [.int a1, .ref 452], aa_H g) rfl r
    obtain ⟨hb8, n7, ln7, r⟩ := rn_aal (k := 452) (c := 32) (b := 476) (N := 2) rfl ⟨by decide, by decide⟩ rfl rfl (by decide) (by decide) r
    have ho9 : cs_ok (32 * a1.toNatClampNeg + 476) := rn_stat hb8
    have r : rn_s _ 143 (17, [some (.ref 1), some (.int a1)], [.ref (32 * a1.toNatClampNeg + 476)], aa_H g) v h := r
    obtain ⟨n10, ln10, r⟩ := rn_steps 1 (21, [some (.ref 1), some (.int a1)], [.ref 2, .ref (32 * a1.toNatClampNeg + 476)], aa_H g) rfl r
    obtain ⟨_, n11, v1, h1, -, ln11, rc, r⟩ := rn_cv (k := 32 * a1.toNatClampNeg + 476) (as := [.ref 2]) (rest := []) rfl (st_hk ho9) (st_hl ho9) rfl rfl r
    obtain ⟨rfl, rfl⟩ := dn_16 (ho9) (cs_ok_2) (by omega) rc
    have r : rn_s _ 143 (24, [some (.ref 1), some (.int a1)], [], aa_H (fn_16 g (32 * a1.toNatClampNeg + 476) 2)) v h := r
    obtain ⟨n13, ln13, r⟩ := rn_steps 3 (30, [some (.ref 1), some (.int a1)], [.int 1, .int a1, .ref 453], aa_H (fn_16 g (32 * a1.toNatClampNeg + 476) 2)) rfl r
    obtain ⟨hb15, n14, ln14, r⟩ := rn_bas (k := 453) rfl ⟨by decide, by decide⟩ rfl (by decide) r
    have r : rn_s _ 143 (31, [some (.ref 1), some (.int a1)], [], aa_H (zz_w (fn_16 g (32 * a1.toNatClampNeg + 476) 2) 453 a1.toNatClampNeg (vp_nar .boolean 1))) v h := r
    obtain ⟨n16, ln16, r⟩ := rn_steps 0 (32, [some (.ref 1), some (.int a1)], [.int 1], aa_H (zz_w (fn_16 g (32 * a1.toNatClampNeg + 476) 2) 453 a1.toNatClampNeg (vp_nar .boolean 1))) rfl r
    exact rn_ire rfl r
  · obtain ⟨n17, ln17, r⟩ := rn_steps 0 (10, [some (.ref 1), some (.int a1)], [.int 0], aa_H g) rfl r
    exact rn_ire rfl r
-- 144: UnequalHours restore
noncomputable def fn_144 (g : aa_G) (a1 : Int32) : Int32 × aa_G := if (fn_14 a1 0 1) = 0 then (0, g) else if (g 453 a1.toNatClampNeg) ≠ 0 then (1, fn_39 g (32 * a1.toNatClampNeg + 476)) else (0, g)
theorem dn_144 {v : Option Value} {h : zz_H} {n : Nat} {g : aa_G} {a1 : Int32} (hi : rem_ok g) (r : rn_s n 144 (0, zz_in [.ref 1, .int a1] (zz_nl 144), [], aa_H g) v h) : iw_s v h (fn_144 g a1) := by
  have r : rn_s n 144 (0, [some (.ref 1), some (.int a1)], [], aa_H g) v h := r
  unfold fn_144
  obtain ⟨n1, ln1, r⟩ := rn_steps 2 (3, [some (.ref 1), some (.int a1)], [.int 1, .int 0, .int a1], aa_H g) rfl r
  obtain ⟨_, n2, v1, h1, -, ln2, rc, r⟩ := rn_call (m2 := 14) (as := [.int a1, .int 0, .int 1]) (rest := []) rfl rfl r
  obtain ⟨rfl, rfl⟩ := dn_14 rc
  have r : rn_s _ 144 (6, [some (.ref 1), some (.int a1)], [.int (fn_14 a1 0 1)], aa_H g) v h := r
  refine rn_if (iw_s v h) rfl decide_eq_true_iff.symm r (fun c4 l5n l5 r => ?_) (fun c4 l5n l5 r => ?_)
  · obtain ⟨n6, ln6, r⟩ := rn_steps 0 (19, [some (.ref 1), some (.int a1)], [.int 0], aa_H g) rfl r
    exact rn_ire rfl r
  · obtain ⟨n7, ln7, r⟩ := rn_steps 2 (14, [some (.ref 1), some (.int a1)], [.int a1, .ref 453], aa_H g) rfl r
    obtain ⟨hb9, n8, ln8, r⟩ := rn_bal (k := 453) rfl ⟨by decide, by decide⟩ rfl (by decide) r
    have r : rn_s _ 144 (15, [some (.ref 1), some (.int a1)], [.int (g 453 a1.toNatClampNeg)], aa_H g) v h := r
    refine rn_if (iw_s v h) rfl decide_eq_true_iff.symm r (fun c10 l11n l11 r => ?_) (fun c10 l11n l11 r => ?_)
    · obtain ⟨n12, ln12, r⟩ := rn_steps 3 (26, [some (.ref 1), some (.int a1)], [.int a1, .ref 452, .ref 1], aa_H g) rfl r
      obtain ⟨hb14, n13, ln13, r⟩ := rn_aal (k := 452) (c := 32) (b := 476) (N := 2) rfl ⟨by decide, by decide⟩ rfl rfl (by decide) (by decide) r
      have ho15 : cs_ok (32 * a1.toNatClampNeg + 476) := rn_stat hb14
      have r : rn_s _ 144 (27, [some (.ref 1), some (.int a1)], [.ref (32 * a1.toNatClampNeg + 476), .ref 1], aa_H g) v h := r
      obtain ⟨_, n16, v1, h1, -, ln16, rc, r⟩ := rn_call (m2 := 39) (as := [.ref 1, .ref (32 * a1.toNatClampNeg + 476)]) (rest := []) rfl rfl r
      obtain ⟨rfl, rfl⟩ := dn_39 (ho15) (by omega) hi rc
      have r : rn_s _ 144 (30, [some (.ref 1), some (.int a1)], [], aa_H (fn_39 g (32 * a1.toNatClampNeg + 476))) v h := r
      obtain ⟨n18, ln18, r⟩ := rn_steps 0 (31, [some (.ref 1), some (.int a1)], [.int 1], aa_H (fn_39 g (32 * a1.toNatClampNeg + 476))) rfl r
      exact rn_ire rfl r
    · obtain ⟨n19, ln19, r⟩ := rn_steps 0 (19, [some (.ref 1), some (.int a1)], [.int 0], aa_H g) rfl r
      exact rn_ire rfl r
end
section
/-! METHODS READ (printed by wip/dc/dc.py) -/
-- 152: UnequalHoursModel copyRow
noncomputable def fn_152_2b (g : aa_G) (b1 : Int32) (b2 : Int32) (b3 : Int32) : (aa_G × Int32) ⊕ aa_G := if 399 ≤ b3 then .inr g else .inl (zz_w g 541 ((399 * b2) + b3).toNatClampNeg (g 541 ((399 * b1) + b3).toNatClampNeg), b3 + 1)
noncomputable def fn_152_2 (g : aa_G) (b1 : Int32) (b2 : Int32) (b3 : Int32) : aa_G := lp_f g (fun z : (aa_G × Int32) => fn_152_2b z.1 b1 b2 z.2) (g, b3)
theorem dn_152_2l {v : Option Value} {h : zz_H} {N : Nat} {b1 : Int32} {b2 : Int32} {d : aa_G} : ∀ (n : Nat), n ≤ N → ∀ (g : aa_G) (b3 : Int32), rn_s n 152 (2, [some (.ref 540), some (.int b1), some (.int b2), some (.int b3)], [], aa_H g) v h → (ig_s v h) (lp_f d (fun z : (aa_G × Int32) => fn_152_2b z.1 b1 b2 z.2) (g, b3)) := by
  generalize hf : (fun z : (aa_G × Int32) => fn_152_2b z.1 b1 b2 z.2) = f
  intro n
  induction n using Nat.strongRecOn with
  | _ n ih =>
    intro hN g b3  r
    refine lp_go ?_
    rw [← congrFun hf (g, b3)]
    show lp_q (ig_s v h) d f (fn_152_2b g b1 b2 b3)
    unfold fn_152_2b
    obtain ⟨n2, ln2, r⟩ := rn_steps 1 (6, [some (.ref 540), some (.int b1), some (.int b2), some (.int b3)], [.int 399, .int b3], aa_H g) rfl r
    refine rn_ic (lp_q (ig_s v h) d f) rfl decide_eq_true_iff.symm r (fun c3 l4n l4 r => ?_) (fun c3 l4n l4 r => ?_)
    · exact rn_ret 1 rfl r
    · obtain ⟨n5, ln5, r⟩ := rn_steps 13 (31, [some (.ref 540), some (.int b1), some (.int b2), some (.int b3)], [.int ((399 * b1) + b3), .ref 541, .int ((399 * b2) + b3), .ref 541], aa_H g) rfl r
      obtain ⟨hb7, n6, ln6, r⟩ := rn_ial (k := 541) rfl ⟨by decide, by decide⟩ rfl r
      have r : rn_s _ 152 (32, [some (.ref 540), some (.int b1), some (.int b2), some (.int b3)], [.int (g 541 ((399 * b1) + b3).toNatClampNeg), .int ((399 * b2) + b3), .ref 541], aa_H g) v h := r
      obtain ⟨hb9, n8, ln8, r⟩ := rn_ias (k := 541) rfl ⟨by decide, by decide⟩ rfl r
      have r : rn_s _ 152 (33, [some (.ref 540), some (.int b1), some (.int b2), some (.int b3)], [], aa_H (zz_w g 541 ((399 * b2) + b3).toNatClampNeg (g 541 ((399 * b1) + b3).toNatClampNeg))) v h := r
      obtain ⟨n10, ln10, r⟩ := rn_steps 1 (2, [some (.ref 540), some (.int b1), some (.int b2), some (.int (b3 + 1))], [], aa_H (zz_w g 541 ((399 * b2) + b3).toNatClampNeg (g 541 ((399 * b1) + b3).toNatClampNeg))) rfl r
      exact ih _ (by omega) (by omega) (zz_w g 541 ((399 * b2) + b3).toNatClampNeg (g 541 ((399 * b1) + b3).toNatClampNeg)) (b3 + 1) r
theorem dn_152_2 {v : Option Value} {h : zz_H} {n : Nat} {g : aa_G} {b1 : Int32} {b2 : Int32} {b3 : Int32}  (r : rn_s n 152 (2, [some (.ref 540), some (.int b1), some (.int b2), some (.int b3)], [], aa_H g) v h) : (ig_s v h) (fn_152_2 g b1 b2 b3) := dn_152_2l  n (Nat.le_refl n) g b3 r
noncomputable def fn_152 (g : aa_G) (a1 : Int32) (a2 : Int32) : aa_G := fn_152_2 g a1 a2 0
theorem dn_152 {v : Option Value} {h : zz_H} {n : Nat} {g : aa_G} {a1 : Int32} {a2 : Int32}  (r : rn_s n 152 (0, zz_in [.ref 540, .int a1, .int a2] (zz_nl 152), [], aa_H g) v h) : ig_s v h (fn_152 g a1 a2) := by
  have r : rn_s n 152 (0, [some (.ref 540), some (.int a1), some (.int a2), none], [], aa_H g) v h := r
  unfold fn_152
  obtain ⟨n1, ln1, r⟩ := rn_steps 1 (2, [some (.ref 540), some (.int a1), some (.int a2), some (.int 0)], [], aa_H g) rfl r
  exact dn_152_2 r
-- 157: UnequalHoursModel deedOf
noncomputable def fn_157_29 (g : aa_G) (b1 : Int32) (b2 : Int32) : (aa_G × Int32) ⊕ aa_G := .inl (g, b2 + 1)
theorem dn_157_29 {v : Option Value} {h : zz_H} {n : Nat} {g : aa_G} {b1 : Int32} {b2 : Int32} (P : (aa_G × Int32) ⊕ aa_G → Prop) (hO0 : ∀ n2, n2 < n → ∀ (yg : aa_G) (yb2 : Int32), rn_s n2 157 (11, [some (.ref 540), some (.int b1), some (.int yb2)], [], aa_H yg) v h → P (.inl (yg, yb2))) (hR : ∀ E, ig_s v h E → P (.inr E))  (r : rn_s n 157 (29, [some (.ref 540), some (.int b1), some (.int b2)], [], aa_H g) v h) : P (fn_157_29 g b1 b2) := by
  unfold fn_157_29
  obtain ⟨n17, ln17, r⟩ := rn_steps 1 (11, [some (.ref 540), some (.int b1), some (.int (b2 + 1))], [], aa_H g) rfl r
  exact hO0 _ (by omega) g (b2 + 1) r
noncomputable def fn_157_58 (g : aa_G)  : aa_G := zz_w g 540 1 ((g 540 1) + 1)
theorem dn_157_58 {v : Option Value} {h : zz_H} {n : Nat} {g : aa_G}   (x0 x1 x2 : Option Value) (jx0 : rn_jk x0) (jx1 : rn_jk x1) (jx2 : rn_jk x2) (r : rn_s n 157 (58, [x0, x1, x2], [.ref 540, .ref 540], aa_H g) v h) : ig_s v h (fn_157_58 g) := by
  unfold fn_157_58
  obtain ⟨n16, ln16, r⟩ := rn_steps 3 (66, [x0, x1, x2], [], aa_H (zz_w g 540 1 ((g 540 1) + 1))) rfl r
  exact rn_ret 1 rfl r
noncomputable def fn_157_45 (g : aa_G) (b1 : Int32) : aa_G := fn_157_58 (fn_152 g b1 (3 + (g 540 1)))
theorem dn_157_45 {v : Option Value} {h : zz_H} {n : Nat} {g : aa_G} {b1 : Int32}  (x2 : Option Value) (jx2 : rn_jk x2) (r : rn_s n 157 (45, [some (.ref 540), some (.int b1), x2], [], aa_H g) v h) : ig_s v h (fn_157_45 g b1) := by
  unfold fn_157_45
  obtain ⟨n5, ln5, r⟩ := rn_steps 5 (53, [some (.ref 540), some (.int b1), x2], [.int (3 + (g 540 1)), .int b1, .ref 540], aa_H g) rfl r
  obtain ⟨_, n6, v1, h1, -, ln6, rc, r⟩ := rn_call (m2 := 152) (as := [.ref 540, .int b1, .int (3 + (g 540 1))]) (rest := []) rfl rfl r
  obtain ⟨rfl, rfl⟩ := dn_152 rc
  have r : rn_s _ 157 (56, [some (.ref 540), some (.int b1), x2], [], aa_H (fn_152 g b1 (3 + (g 540 1)))) v h := r
  obtain ⟨n8, ln8, r⟩ := rn_steps 1 (58, [some (.ref 540), some (.int b1), x2], [.ref 540, .ref 540], aa_H (fn_152 g b1 (3 + (g 540 1)))) rfl r
  exact dn_157_58 (some (.ref 540)) (some (.int b1)) x2 rn_jr rn_ji jx2 r
noncomputable def fn_157_11b (g : aa_G) (b1 : Int32) (b2 : Int32) : (aa_G × Int32) ⊕ aa_G := if 12 ≤ b2 then .inr (fn_157_45 (zz_w g 540 1 ((g 540 1) - 1)) b1) else fn_157_29 (fn_152 g (3 + b2) ((3 + b2) - 1)) b1 b2
noncomputable def fn_157_11 (g : aa_G) (b1 : Int32) (b2 : Int32) : aa_G := lp_f g (fun z : (aa_G × Int32) => fn_157_11b z.1 b1 z.2) (g, b2)
theorem dn_157_11l {v : Option Value} {h : zz_H} {N : Nat} {b1 : Int32} {d : aa_G} : ∀ (n : Nat), n ≤ N → ∀ (g : aa_G) (b2 : Int32), rn_s n 157 (11, [some (.ref 540), some (.int b1), some (.int b2)], [], aa_H g) v h → (ig_s v h) (lp_f d (fun z : (aa_G × Int32) => fn_157_11b z.1 b1 z.2) (g, b2)) := by
  generalize hf : (fun z : (aa_G × Int32) => fn_157_11b z.1 b1 z.2) = f
  intro n
  induction n using Nat.strongRecOn with
  | _ n ih =>
    intro hN g b2  r
    refine lp_go ?_
    rw [← congrFun hf (g, b2)]
    show lp_q (ig_s v h) d f (fn_157_11b g b1 b2)
    unfold fn_157_11b
    obtain ⟨n9, ln9, r⟩ := rn_steps 1 (14, [some (.ref 540), some (.int b1), some (.int b2)], [.int 12, .int b2], aa_H g) rfl r
    refine rn_ic (lp_q (ig_s v h) d f) rfl decide_eq_true_iff.symm r (fun c10 l11n l11 r => ?_) (fun c10 l11n l11 r => ?_)
    · obtain ⟨n12, ln12, r⟩ := rn_steps 5 (45, [some (.ref 540), some (.int b1), some (.int b2)], [], aa_H (zz_w g 540 1 ((g 540 1) - 1))) rfl r
      exact dn_157_45 (some (.int b2)) rn_ji r
    · obtain ⟨n13, ln13, r⟩ := rn_steps 8 (26, [some (.ref 540), some (.int b1), some (.int b2)], [.int ((3 + b2) - 1), .int (3 + b2), .ref 540], aa_H g) rfl r
      obtain ⟨_, n14, v1, h1, -, ln14, rc, r⟩ := rn_call (m2 := 152) (as := [.ref 540, .int (3 + b2), .int ((3 + b2) - 1)]) (rest := []) rfl rfl r
      obtain ⟨rfl, rfl⟩ := dn_152 rc
      have r : rn_s _ 157 (29, [some (.ref 540), some (.int b1), some (.int b2)], [], aa_H (fn_152 g (3 + b2) ((3 + b2) - 1))) v h := r
      exact dn_157_29 (lp_q (ig_s v h) d f) (fun n2 l2 => ih n2 (by omega) (by omega)) (fun z hz => hz) r
theorem dn_157_11 {v : Option Value} {h : zz_H} {n : Nat} {g : aa_G} {b1 : Int32} {b2 : Int32}  (r : rn_s n 157 (11, [some (.ref 540), some (.int b1), some (.int b2)], [], aa_H g) v h) : (ig_s v h) (fn_157_11 g b1 b2) := dn_157_11l  n (Nat.le_refl n) g b2 r
noncomputable def fn_157 (g : aa_G) (a1 : Int32) : aa_G := if (g 540 1) ≠ 12 then fn_157_45 g a1 else fn_157_11 g a1 1
theorem dn_157 {v : Option Value} {h : zz_H} {n : Nat} {g : aa_G} {a1 : Int32}  (r : rn_s n 157 (0, zz_in [.ref 540, .int a1] (zz_nl 157), [], aa_H g) v h) : ig_s v h (fn_157 g a1) := by
  have r : rn_s n 157 (0, [some (.ref 540), some (.int a1), none], [], aa_H g) v h := r
  unfold fn_157
  obtain ⟨n1, ln1, r⟩ := rn_steps 2 (6, [some (.ref 540), some (.int a1), none], [.int 12, .int (g 540 1)], aa_H g) rfl r
  refine rn_ic (ig_s v h) rfl decide_eq_true_iff.symm r (fun c2 l3n l3 r => ?_) (fun c2 l3n l3 r => ?_)
  · exact dn_157_45 none rn_jn r
  · obtain ⟨n4, ln4, r⟩ := rn_steps 1 (11, [some (.ref 540), some (.int a1), some (.int 1)], [], aa_H g) rfl r
    exact dn_157_11 r
-- 156: UnequalHoursModel deed
noncomputable def fn_156 (g : aa_G)  : aa_G := fn_157 g 0
theorem dn_156 {v : Option Value} {h : zz_H} {n : Nat} {g : aa_G}   (r : rn_s n 156 (0, zz_in [.ref 540] (zz_nl 156), [], aa_H g) v h) : ig_s v h (fn_156 g) := by
  have r : rn_s n 156 (0, [some (.ref 540)], [], aa_H g) v h := r
  unfold fn_156
  obtain ⟨n1, ln1, r⟩ := rn_steps 1 (2, [some (.ref 540)], [.int 0, .ref 540], aa_H g) rfl r
  obtain ⟨_, n2, v1, h1, -, ln2, rc, r⟩ := rn_call (m2 := 157) (as := [.ref 540, .int 0]) (rest := []) rfl rfl r
  obtain ⟨rfl, rfl⟩ := dn_157 rc
  have r : rn_s _ 156 (5, [some (.ref 540)], [], aa_H (fn_157 g 0)) v h := r
  exact rn_ret 1 rfl r
-- 255: UnequalHoursModel become
noncomputable def fn_255_4 (g : aa_G) (b1 : Int32) (b2 : Int32) : Int32 × aa_G := (g 541 b1.toNatClampNeg, zz_w g 541 b1.toNatClampNeg b2)
theorem dn_255_4 {v : Option Value} {h : zz_H} {n : Nat} {g : aa_G} {b1 : Int32} {b2 : Int32}  (x3 : Option Value) (jx3 : rn_jk x3) (r : rn_s n 255 (4, [some (.ref 540), some (.int b1), some (.int b2), x3], [], aa_H g) v h) : iw_s v h (fn_255_4 g b1 b2) := by
  unfold fn_255_4
  obtain ⟨n4, ln4, r⟩ := rn_steps 2 (9, [some (.ref 540), some (.int b1), some (.int b2), x3], [.int b1, .ref 541], aa_H g) rfl r
  obtain ⟨hb6, n5, ln5, r⟩ := rn_ial (k := 541) rfl ⟨by decide, by decide⟩ rfl r
  have r : rn_s _ 255 (10, [some (.ref 540), some (.int b1), some (.int b2), x3], [.int (g 541 b1.toNatClampNeg)], aa_H g) v h := r
  obtain ⟨n7, ln7, r⟩ := rn_steps 4 (17, [some (.ref 540), some (.int b1), some (.int b2), some (.int (g 541 b1.toNatClampNeg))], [.int b2, .int b1, .ref 541], aa_H g) rfl r
  obtain ⟨hb9, n8, ln8, r⟩ := rn_ias (k := 541) rfl ⟨by decide, by decide⟩ rfl r
  have r : rn_s _ 255 (18, [some (.ref 540), some (.int b1), some (.int b2), some (.int (g 541 b1.toNatClampNeg))], [], aa_H (zz_w g 541 b1.toNatClampNeg b2)) v h := r
  obtain ⟨n10, ln10, r⟩ := rn_steps 0 (19, [some (.ref 540), some (.int b1), some (.int b2), some (.int (g 541 b1.toNatClampNeg))], [.int (g 541 b1.toNatClampNeg)], aa_H (zz_w g 541 b1.toNatClampNeg b2)) rfl r
  exact rn_ire rfl r
noncomputable def fn_255 (g : aa_G) (a1 : Int32) (a2 : Int32) : Int32 × aa_G := fn_255_4 (fn_156 g) a1 a2
theorem dn_255 {v : Option Value} {h : zz_H} {n : Nat} {g : aa_G} {a1 : Int32} {a2 : Int32}  (r : rn_s n 255 (0, zz_in [.ref 540, .int a1, .int a2] (zz_nl 255), [], aa_H g) v h) : iw_s v h (fn_255 g a1 a2) := by
  have r : rn_s n 255 (0, [some (.ref 540), some (.int a1), some (.int a2), none], [], aa_H g) v h := r
  unfold fn_255
  obtain ⟨n1, ln1, r⟩ := rn_steps 0 (1, [some (.ref 540), some (.int a1), some (.int a2), none], [.ref 540], aa_H g) rfl r
  obtain ⟨_, n2, v1, h1, -, ln2, rc, r⟩ := rn_call (m2 := 156) (as := [.ref 540]) (rest := []) rfl rfl r
  obtain ⟨rfl, rfl⟩ := dn_156 rc
  have r : rn_s _ 255 (4, [some (.ref 540), some (.int a1), some (.int a2), none], [], aa_H (fn_156 g)) v h := r
  exact dn_255_4 none rn_jn r
-- 254: UnequalHoursModel offset
noncomputable def fn_254 (g : aa_G) (a1 : Int32) (a2 : Int32) : Int32 × aa_G := if (fn_192 g a1) = 0 then (-1000000, g) else if (fn_154 a2 (-43200) 43200) = 0 then (-1000000, g) else ((fn_255 g (fn_164 a1) a2).1, (fn_255 g (fn_164 a1) a2).2)
theorem dn_254 {v : Option Value} {h : zz_H} {n : Nat} {g : aa_G} {a1 : Int32} {a2 : Int32}  (r : rn_s n 254 (0, zz_in [.ref 540, .int a1, .int a2] (zz_nl 254), [], aa_H g) v h) : iw_s v h (fn_254 g a1 a2) := by
  have r : rn_s n 254 (0, [some (.ref 540), some (.int a1), some (.int a2)], [], aa_H g) v h := r
  unfold fn_254
  obtain ⟨n1, ln1, r⟩ := rn_steps 1 (2, [some (.ref 540), some (.int a1), some (.int a2)], [.int a1, .ref 540], aa_H g) rfl r
  obtain ⟨_, n2, v1, h1, -, ln2, rc, r⟩ := rn_call (m2 := 192) (as := [.ref 540, .int a1]) (rest := []) rfl rfl r
  obtain ⟨rfl, rfl⟩ := dn_192 rc
  have r : rn_s _ 254 (5, [some (.ref 540), some (.int a1), some (.int a2)], [.int (fn_192 g a1)], aa_H g) v h := r
  refine rn_if (iw_s v h) rfl decide_eq_true_iff.symm r (fun c4 l5n l5 r => ?_) (fun c4 l5n l5 r => ?_)
  · obtain ⟨n6, ln6, r⟩ := rn_steps 0 (34, [some (.ref 540), some (.int a1), some (.int a2)], [.int (-1000000)], aa_H g) rfl r
    exact rn_ire rfl r
  · obtain ⟨n7, ln7, r⟩ := rn_steps 2 (13, [some (.ref 540), some (.int a1), some (.int a2)], [.int 43200, .int (-43200), .int a2], aa_H g) rfl r
    obtain ⟨_, n8, v1, h1, -, ln8, rc, r⟩ := rn_call (m2 := 154) (as := [.int a2, .int (-43200), .int 43200]) (rest := []) rfl rfl r
    obtain ⟨rfl, rfl⟩ := dn_154 rc
    have r : rn_s _ 254 (16, [some (.ref 540), some (.int a1), some (.int a2)], [.int (fn_154 a2 (-43200) 43200)], aa_H g) v h := r
    refine rn_if (iw_s v h) rfl decide_eq_true_iff.symm r (fun c10 l11n l11 r => ?_) (fun c10 l11n l11 r => ?_)
    · obtain ⟨n12, ln12, r⟩ := rn_steps 0 (34, [some (.ref 540), some (.int a1), some (.int a2)], [.int (-1000000)], aa_H g) rfl r
      exact rn_ire rfl r
    · obtain ⟨n13, ln13, r⟩ := rn_steps 1 (21, [some (.ref 540), some (.int a1), some (.int a2)], [.int a1, .ref 540], aa_H g) rfl r
      obtain ⟨_, n14, v1, h1, -, ln14, rc, r⟩ := rn_call (m2 := 164) (as := [.int a1]) (rest := [.ref 540]) rfl rfl r
      obtain ⟨rfl, rfl⟩ := dn_164 rc
      have r : rn_s _ 254 (24, [some (.ref 540), some (.int a1), some (.int a2)], [.int (fn_164 a1), .ref 540], aa_H g) v h := r
      obtain ⟨n16, ln16, r⟩ := rn_steps 0 (25, [some (.ref 540), some (.int a1), some (.int a2)], [.int a2, .int (fn_164 a1), .ref 540], aa_H g) rfl r
      obtain ⟨_, n17, v1, h1, -, ln17, rc, r⟩ := rn_call (m2 := 255) (as := [.ref 540, .int (fn_164 a1), .int a2]) (rest := []) rfl rfl r
      obtain ⟨rfl, rfl⟩ := dn_255 rc
      have r : rn_s _ 254 (28, [some (.ref 540), some (.int a1), some (.int a2)], [.int ((fn_255 g (fn_164 a1) a2).1)], aa_H ((fn_255 g (fn_164 a1) a2).2)) v h := r
      obtain ⟨n19, ln19, r⟩ := rn_steps 0 (34, [some (.ref 540), some (.int a1), some (.int a2)], [.int ((fn_255 g (fn_164 a1) a2).1)], aa_H ((fn_255 g (fn_164 a1) a2).2)) rfl r
      exact rn_ire rfl r
-- 256: UnequalHoursModel parts
noncomputable def fn_256 (g : aa_G) (a1 : Int32) : Int32 × aa_G := if (fn_154 a1 1 3600) = 0 then (-1, g) else ((fn_255 g 1 a1).1, (fn_255 g 1 a1).2)
theorem dn_256 {v : Option Value} {h : zz_H} {n : Nat} {g : aa_G} {a1 : Int32}  (r : rn_s n 256 (0, zz_in [.ref 540, .int a1] (zz_nl 256), [], aa_H g) v h) : iw_s v h (fn_256 g a1) := by
  have r : rn_s n 256 (0, [some (.ref 540), some (.int a1)], [], aa_H g) v h := r
  unfold fn_256
  obtain ⟨n1, ln1, r⟩ := rn_steps 2 (5, [some (.ref 540), some (.int a1)], [.int 3600, .int 1, .int a1], aa_H g) rfl r
  obtain ⟨_, n2, v1, h1, -, ln2, rc, r⟩ := rn_call (m2 := 154) (as := [.int a1, .int 1, .int 3600]) (rest := []) rfl rfl r
  obtain ⟨rfl, rfl⟩ := dn_154 rc
  have r : rn_s _ 256 (8, [some (.ref 540), some (.int a1)], [.int (fn_154 a1 1 3600)], aa_H g) v h := r
  refine rn_if (iw_s v h) rfl decide_eq_true_iff.symm r (fun c4 l5n l5 r => ?_) (fun c4 l5n l5 r => ?_)
  · obtain ⟨n6, ln6, r⟩ := rn_steps 0 (21, [some (.ref 540), some (.int a1)], [.int (-1)], aa_H g) rfl r
    exact rn_ire rfl r
  · obtain ⟨n7, ln7, r⟩ := rn_steps 2 (14, [some (.ref 540), some (.int a1)], [.int a1, .int 1, .ref 540], aa_H g) rfl r
    obtain ⟨_, n8, v1, h1, -, ln8, rc, r⟩ := rn_call (m2 := 255) (as := [.ref 540, .int 1, .int a1]) (rest := []) rfl rfl r
    obtain ⟨rfl, rfl⟩ := dn_255 rc
    have r : rn_s _ 256 (17, [some (.ref 540), some (.int a1)], [.int ((fn_255 g 1 a1).1)], aa_H ((fn_255 g 1 a1).2)) v h := r
    obtain ⟨n10, ln10, r⟩ := rn_steps 0 (21, [some (.ref 540), some (.int a1)], [.int ((fn_255 g 1 a1).1)], aa_H ((fn_255 g 1 a1).2)) rfl r
    exact rn_ire rfl r
-- 177: UnequalHoursModel layPoint
noncomputable def fn_177 (g : aa_G) (a1 : Int32) (a2 : Int32) (a3 : Int32) (a4 : Int32) : aa_G := zz_w (zz_w (zz_w g 541 (a1 + 1).toNatClampNeg a2) 541 (a1 + 2).toNatClampNeg a3) 541 (a1 + 3).toNatClampNeg a4
theorem dn_177 {v : Option Value} {h : zz_H} {n : Nat} {g : aa_G} {a1 : Int32} {a2 : Int32} {a3 : Int32} {a4 : Int32}  (r : rn_s n 177 (0, zz_in [.ref 540, .int a1, .int a2, .int a3, .int a4] (zz_nl 177), [], aa_H g) v h) : ig_s v h (fn_177 g a1 a2 a3 a4) := by
  have r : rn_s n 177 (0, [some (.ref 540), some (.int a1), some (.int a2), some (.int a3), some (.int a4)], [], aa_H g) v h := r
  unfold fn_177
  obtain ⟨n1, ln1, r⟩ := rn_steps 5 (8, [some (.ref 540), some (.int a1), some (.int a2), some (.int a3), some (.int a4)], [.int a2, .int (a1 + 1), .ref 541], aa_H g) rfl r
  obtain ⟨hb3, n2, ln2, r⟩ := rn_ias (k := 541) rfl ⟨by decide, by decide⟩ rfl r
  have r : rn_s _ 177 (9, [some (.ref 540), some (.int a1), some (.int a2), some (.int a3), some (.int a4)], [], aa_H (zz_w g 541 (a1 + 1).toNatClampNeg a2)) v h := r
  obtain ⟨n4, ln4, r⟩ := rn_steps 5 (17, [some (.ref 540), some (.int a1), some (.int a2), some (.int a3), some (.int a4)], [.int a3, .int (a1 + 2), .ref 541], aa_H (zz_w g 541 (a1 + 1).toNatClampNeg a2)) rfl r
  obtain ⟨hb6, n5, ln5, r⟩ := rn_ias (k := 541) rfl ⟨by decide, by decide⟩ rfl r
  have r : rn_s _ 177 (18, [some (.ref 540), some (.int a1), some (.int a2), some (.int a3), some (.int a4)], [], aa_H (zz_w (zz_w g 541 (a1 + 1).toNatClampNeg a2) 541 (a1 + 2).toNatClampNeg a3)) v h := r
  obtain ⟨n7, ln7, r⟩ := rn_steps 5 (27, [some (.ref 540), some (.int a1), some (.int a2), some (.int a3), some (.int a4)], [.int a4, .int (a1 + 3), .ref 541], aa_H (zz_w (zz_w g 541 (a1 + 1).toNatClampNeg a2) 541 (a1 + 2).toNatClampNeg a3)) rfl r
  obtain ⟨hb9, n8, ln8, r⟩ := rn_ias (k := 541) rfl ⟨by decide, by decide⟩ rfl r
  have r : rn_s _ 177 (28, [some (.ref 540), some (.int a1), some (.int a2), some (.int a3), some (.int a4)], [], aa_H (zz_w (zz_w (zz_w g 541 (a1 + 1).toNatClampNeg a2) 541 (a1 + 2).toNatClampNeg a3) 541 (a1 + 3).toNatClampNeg a4)) v h := r
  exact rn_ret 1 rfl r
-- 258: UnequalHoursModel pointOf
noncomputable def fn_258_2b (g : aa_G) (b1 : Int32) (b2 : Int32) (b3 : Int32) : Int32 ⊕ Int32 := if (g 541 ((fn_164 b1) + 1).toNatClampNeg) ≤ b3 then .inr b3 else if b2 ≤ (g 541 (fn_175 b1 b3).toNatClampNeg) then .inr b3 else .inl (b3 + 1)
noncomputable def fn_258_2 (g : aa_G) (b1 : Int32) (b2 : Int32) (b3 : Int32) : Int32 := lp_f 0 (fun z : Int32 => fn_258_2b g b1 b2 z) b3
theorem dn_258_2l {v : Option Value} {h : zz_H} {N : Nat} {g : aa_G} {b1 : Int32} {b2 : Int32} {d : Int32} : ∀ (n : Nat), n ≤ N → ∀ (b3 : Int32), rn_s n 258 (2, [some (.ref 540), some (.int b1), some (.int b2), some (.int b3)], [], aa_H g) v h → (ir_s g v h) (lp_f d (fun z : Int32 => fn_258_2b g b1 b2 z) b3) := by
  generalize hf : (fun z : Int32 => fn_258_2b g b1 b2 z) = f
  intro n
  induction n using Nat.strongRecOn with
  | _ n ih =>
    intro hN b3  r
    refine lp_go ?_
    rw [← congrFun hf b3]
    show lp_q (ir_s g v h) d f (fn_258_2b g b1 b2 b3)
    unfold fn_258_2b
    obtain ⟨n2, ln2, r⟩ := rn_steps 3 (8, [some (.ref 540), some (.int b1), some (.int b2), some (.int b3)], [.int b1, .ref 541, .int b3], aa_H g) rfl r
    obtain ⟨_, n3, v1, h1, -, ln3, rc, r⟩ := rn_call (m2 := 164) (as := [.int b1]) (rest := [.ref 541, .int b3]) rfl rfl r
    obtain ⟨rfl, rfl⟩ := dn_164 rc
    have r : rn_s _ 258 (11, [some (.ref 540), some (.int b1), some (.int b2), some (.int b3)], [.int (fn_164 b1), .ref 541, .int b3], aa_H g) v h := r
    obtain ⟨n5, ln5, r⟩ := rn_steps 1 (13, [some (.ref 540), some (.int b1), some (.int b2), some (.int b3)], [.int ((fn_164 b1) + 1), .ref 541, .int b3], aa_H g) rfl r
    obtain ⟨hb7, n6, ln6, r⟩ := rn_ial (k := 541) rfl ⟨by decide, by decide⟩ rfl r
    have r : rn_s _ 258 (14, [some (.ref 540), some (.int b1), some (.int b2), some (.int b3)], [.int (g 541 ((fn_164 b1) + 1).toNatClampNeg), .int b3], aa_H g) v h := r
    refine rn_ic (lp_q (ir_s g v h) d f) rfl decide_eq_true_iff.symm r (fun c8 l9n l9 r => ?_) (fun c8 l9n l9 r => ?_)
    · obtain ⟨n10, ln10, r⟩ := rn_steps 0 (38, [some (.ref 540), some (.int b1), some (.int b2), some (.int b3)], [.int b3], aa_H g) rfl r
      exact rn_ire rfl r
    · obtain ⟨n11, ln11, r⟩ := rn_steps 3 (23, [some (.ref 540), some (.int b1), some (.int b2), some (.int b3)], [.int b3, .int b1, .ref 541], aa_H g) rfl r
      obtain ⟨_, n12, v1, h1, -, ln12, rc, r⟩ := rn_call (m2 := 175) (as := [.int b1, .int b3]) (rest := [.ref 541]) rfl rfl r
      obtain ⟨rfl, rfl⟩ := dn_175 rc
      have r : rn_s _ 258 (26, [some (.ref 540), some (.int b1), some (.int b2), some (.int b3)], [.int (fn_175 b1 b3), .ref 541], aa_H g) v h := r
      obtain ⟨hb15, n14, ln14, r⟩ := rn_ial (k := 541) rfl ⟨by decide, by decide⟩ rfl r
      have r : rn_s _ 258 (27, [some (.ref 540), some (.int b1), some (.int b2), some (.int b3)], [.int (g 541 (fn_175 b1 b3).toNatClampNeg)], aa_H g) v h := r
      obtain ⟨n16, ln16, r⟩ := rn_steps 0 (28, [some (.ref 540), some (.int b1), some (.int b2), some (.int b3)], [.int b2, .int (g 541 (fn_175 b1 b3).toNatClampNeg)], aa_H g) rfl r
      refine rn_ic (lp_q (ir_s g v h) d f) rfl decide_eq_true_iff.symm r (fun c17 l18n l18 r => ?_) (fun c17 l18n l18 r => ?_)
      · obtain ⟨n19, ln19, r⟩ := rn_steps 0 (38, [some (.ref 540), some (.int b1), some (.int b2), some (.int b3)], [.int b3], aa_H g) rfl r
        exact rn_ire rfl r
      · obtain ⟨n20, ln20, r⟩ := rn_steps 1 (2, [some (.ref 540), some (.int b1), some (.int b2), some (.int (b3 + 1))], [], aa_H g) rfl r
        exact ih _ (by omega) (by omega) (b3 + 1) r
theorem dn_258_2 {v : Option Value} {h : zz_H} {n : Nat} {g : aa_G} {b1 : Int32} {b2 : Int32} {b3 : Int32}  (r : rn_s n 258 (2, [some (.ref 540), some (.int b1), some (.int b2), some (.int b3)], [], aa_H g) v h) : (ir_s g v h) (fn_258_2 g b1 b2 b3) := dn_258_2l  n (Nat.le_refl n) b3 r
noncomputable def fn_258 (g : aa_G) (a1 : Int32) (a2 : Int32) : Int32 := fn_258_2 g a1 a2 0
theorem dn_258 {v : Option Value} {h : zz_H} {n : Nat} {g : aa_G} {a1 : Int32} {a2 : Int32}  (r : rn_s n 258 (0, zz_in [.ref 540, .int a1, .int a2] (zz_nl 258), [], aa_H g) v h) : ir_s g v h (fn_258 g a1 a2) := by
  have r : rn_s n 258 (0, [some (.ref 540), some (.int a1), some (.int a2), none], [], aa_H g) v h := r
  unfold fn_258
  obtain ⟨n1, ln1, r⟩ := rn_steps 1 (2, [some (.ref 540), some (.int a1), some (.int a2), some (.int 0)], [], aa_H g) rfl r
  exact dn_258_2 r
-- 257: UnequalHoursModel set
noncomputable def fn_257_211 (g : aa_G) (s0 : Int32) : Int32 × aa_G := (g 541 s0.toNatClampNeg, g)
theorem dn_257_211 {v : Option Value} {h : zz_H} {n : Nat} {g : aa_G} {s0 : Int32}  (x0 x1 x2 x3 x4 x5 x6 x7 x8 : Option Value) (jx0 : rn_jk x0) (jx1 : rn_jk x1) (jx2 : rn_jk x2) (jx3 : rn_jk x3) (jx4 : rn_jk x4) (jx5 : rn_jk x5) (jx6 : rn_jk x6) (jx7 : rn_jk x7) (jx8 : rn_jk x8) (r : rn_s n 257 (211, [x0, x1, x2, x3, x4, x5, x6, x7, x8], [.int s0, .ref 541], aa_H g) v h) : iw_s v h (fn_257_211 g s0) := by
  unfold fn_257_211
  obtain ⟨hb104, n103, ln103, r⟩ := rn_ial (k := 541) rfl ⟨by decide, by decide⟩ rfl r
  have r : rn_s _ 257 (212, [x0, x1, x2, x3, x4, x5, x6, x7, x8], [.int (g 541 s0.toNatClampNeg)], aa_H g) v h := r
  exact rn_ire rfl r
noncomputable def fn_257_179 (g : aa_G) (b1 : Int32) (b2 : Int32) (b3 : Int32) (b4 : Int32) (b5 : Int32) (b6 : Int32) : Int32 × aa_G := fn_257_211 (fn_177 (zz_w g 541 (fn_175 b1 b6).toNatClampNeg b2) (fn_175 b1 b6) b3 b4 (-1)) b5
theorem dn_257_179 {v : Option Value} {h : zz_H} {n : Nat} {g : aa_G} {b1 : Int32} {b2 : Int32} {b3 : Int32} {b4 : Int32} {b5 : Int32} {b6 : Int32}  (x7 x8 : Option Value) (jx7 : rn_jk x7) (jx8 : rn_jk x8) (r : rn_s n 257 (179, [some (.ref 540), some (.int b1), some (.int b2), some (.int b3), some (.int b4), some (.int b5), some (.int b6), x7, x8], [], aa_H g) v h) : iw_s v h (fn_257_179 g b1 b2 b3 b4 b5 b6) := by
  unfold fn_257_179
  obtain ⟨n72, ln72, r⟩ := rn_steps 3 (186, [some (.ref 540), some (.int b1), some (.int b2), some (.int b3), some (.int b4), some (.int b5), some (.int b6), x7, x8], [.int b6, .int b1, .ref 541], aa_H g) rfl r
  obtain ⟨_, n73, v1, h1, -, ln73, rc, r⟩ := rn_call (m2 := 175) (as := [.int b1, .int b6]) (rest := [.ref 541]) rfl rfl r
  obtain ⟨rfl, rfl⟩ := dn_175 rc
  have r : rn_s _ 257 (189, [some (.ref 540), some (.int b1), some (.int b2), some (.int b3), some (.int b4), some (.int b5), some (.int b6), x7, x8], [.int (fn_175 b1 b6), .ref 541], aa_H g) v h := r
  obtain ⟨n75, ln75, r⟩ := rn_steps 0 (190, [some (.ref 540), some (.int b1), some (.int b2), some (.int b3), some (.int b4), some (.int b5), some (.int b6), x7, x8], [.int b2, .int (fn_175 b1 b6), .ref 541], aa_H g) rfl r
  obtain ⟨hb77, n76, ln76, r⟩ := rn_ias (k := 541) rfl ⟨by decide, by decide⟩ rfl r
  have r : rn_s _ 257 (191, [some (.ref 540), some (.int b1), some (.int b2), some (.int b3), some (.int b4), some (.int b5), some (.int b6), x7, x8], [], aa_H (zz_w g 541 (fn_175 b1 b6).toNatClampNeg b2)) v h := r
  obtain ⟨n78, ln78, r⟩ := rn_steps 2 (195, [some (.ref 540), some (.int b1), some (.int b2), some (.int b3), some (.int b4), some (.int b5), some (.int b6), x7, x8], [.int b6, .int b1, .ref 540], aa_H (zz_w g 541 (fn_175 b1 b6).toNatClampNeg b2)) rfl r
  obtain ⟨_, n79, v1, h1, -, ln79, rc, r⟩ := rn_call (m2 := 175) (as := [.int b1, .int b6]) (rest := [.ref 540]) rfl rfl r
  obtain ⟨rfl, rfl⟩ := dn_175 rc
  have r : rn_s _ 257 (198, [some (.ref 540), some (.int b1), some (.int b2), some (.int b3), some (.int b4), some (.int b5), some (.int b6), x7, x8], [.int (fn_175 b1 b6), .ref 540], aa_H (zz_w g 541 (fn_175 b1 b6).toNatClampNeg b2)) v h := r
  obtain ⟨n81, ln81, r⟩ := rn_steps 2 (202, [some (.ref 540), some (.int b1), some (.int b2), some (.int b3), some (.int b4), some (.int b5), some (.int b6), x7, x8], [.int (-1), .int b4, .int b3, .int (fn_175 b1 b6), .ref 540], aa_H (zz_w g 541 (fn_175 b1 b6).toNatClampNeg b2)) rfl r
  obtain ⟨_, n82, v1, h1, -, ln82, rc, r⟩ := rn_call (m2 := 177) (as := [.ref 540, .int (fn_175 b1 b6), .int b3, .int b4, .int (-1)]) (rest := []) rfl rfl r
  obtain ⟨rfl, rfl⟩ := dn_177 rc
  have r : rn_s _ 257 (205, [some (.ref 540), some (.int b1), some (.int b2), some (.int b3), some (.int b4), some (.int b5), some (.int b6), x7, x8], [], aa_H (fn_177 (zz_w g 541 (fn_175 b1 b6).toNatClampNeg b2) (fn_175 b1 b6) b3 b4 (-1))) v h := r
  obtain ⟨n84, ln84, r⟩ := rn_steps 2 (211, [some (.ref 540), some (.int b1), some (.int b2), some (.int b3), some (.int b4), some (.int b5), some (.int b6), x7, x8], [.int b5, .ref 541], aa_H (fn_177 (zz_w g 541 (fn_175 b1 b6).toNatClampNeg b2) (fn_175 b1 b6) b3 b4 (-1))) rfl r
  exact dn_257_211 (some (.ref 540)) (some (.int b1)) (some (.int b2)) (some (.int b3)) (some (.int b4)) (some (.int b5)) (some (.int b6)) x7 x8 rn_jr rn_ji rn_ji rn_ji rn_ji rn_ji rn_ji jx7 jx8 r
noncomputable def fn_257_135b (g : aa_G) (b1 : Int32) (b2 : Int32) (b3 : Int32) (b4 : Int32) (b5 : Int32) (b6 : Int32) (b8 : Int32) : (aa_G × Int32) ⊕ (Int32 × aa_G) := if b8 < (fn_175 b1 b6) then .inr (fn_257_179 (zz_w g 541 b5.toNatClampNeg ((g 541 b5.toNatClampNeg) + 1)) b1 b2 b3 b4 b5 b6) else .inl (zz_w g 541 (b8 + 4).toNatClampNeg (g 541 b8.toNatClampNeg), b8 + (-1))
noncomputable def fn_257_135 (g : aa_G) (b1 : Int32) (b2 : Int32) (b3 : Int32) (b4 : Int32) (b5 : Int32) (b6 : Int32) (b8 : Int32) : Int32 × aa_G := lp_f (0, g) (fun z : (aa_G × Int32) => fn_257_135b z.1 b1 b2 b3 b4 b5 b6 z.2) (g, b8)
theorem dn_257_135l {v : Option Value} {h : zz_H} {N : Nat} {b1 : Int32} {b2 : Int32} {b3 : Int32} {b4 : Int32} {b5 : Int32} {b6 : Int32} {d : Int32 × aa_G} : ∀ (n : Nat), n ≤ N → ∀ (g : aa_G) (b8 : Int32) (x7 : Option Value) (jx7 : rn_jk x7), rn_s n 257 (135, [some (.ref 540), some (.int b1), some (.int b2), some (.int b3), some (.int b4), some (.int b5), some (.int b6), x7, some (.int b8)], [], aa_H g) v h → (iw_s v h) (lp_f d (fun z : (aa_G × Int32) => fn_257_135b z.1 b1 b2 b3 b4 b5 b6 z.2) (g, b8)) := by
  generalize hf : (fun z : (aa_G × Int32) => fn_257_135b z.1 b1 b2 b3 b4 b5 b6 z.2) = f
  intro n
  induction n using Nat.strongRecOn with
  | _ n ih =>
    intro hN g b8 x7 jx7 r
    refine lp_go ?_
    rw [← congrFun hf (g, b8)]
    show lp_q (iw_s v h) d f (fn_257_135b g b1 b2 b3 b4 b5 b6 b8)
    unfold fn_257_135b
    obtain ⟨n85, ln85, r⟩ := rn_steps 2 (140, [some (.ref 540), some (.int b1), some (.int b2), some (.int b3), some (.int b4), some (.int b5), some (.int b6), x7, some (.int b8)], [.int b6, .int b1, .int b8], aa_H g) rfl r
    obtain ⟨_, n86, v1, h1, -, ln86, rc, r⟩ := rn_call (m2 := 175) (as := [.int b1, .int b6]) (rest := [.int b8]) rfl rfl r
    obtain ⟨rfl, rfl⟩ := dn_175 rc
    have r : rn_s _ 257 (143, [some (.ref 540), some (.int b1), some (.int b2), some (.int b3), some (.int b4), some (.int b5), some (.int b6), x7, some (.int b8)], [.int (fn_175 b1 b6), .int b8], aa_H g) v h := r
    refine rn_ic (lp_q (iw_s v h) d f) rfl decide_eq_true_iff.symm r (fun c88 l89n l89 r => ?_) (fun c88 l89n l89 r => ?_)
    · obtain ⟨n90, ln90, r⟩ := rn_steps 3 (175, [some (.ref 540), some (.int b1), some (.int b2), some (.int b3), some (.int b4), some (.int b5), some (.int b6), x7, some (.int b8)], [.int b5, .ref 541, .int b5, .ref 541], aa_H g) rfl r
      obtain ⟨hb92, n91, ln91, r⟩ := rn_ial (k := 541) rfl ⟨by decide, by decide⟩ rfl r
      have r : rn_s _ 257 (176, [some (.ref 540), some (.int b1), some (.int b2), some (.int b3), some (.int b4), some (.int b5), some (.int b6), x7, some (.int b8)], [.int (g 541 b5.toNatClampNeg), .int b5, .ref 541], aa_H g) v h := r
      obtain ⟨n93, ln93, r⟩ := rn_steps 1 (178, [some (.ref 540), some (.int b1), some (.int b2), some (.int b3), some (.int b4), some (.int b5), some (.int b6), x7, some (.int b8)], [.int ((g 541 b5.toNatClampNeg) + 1), .int b5, .ref 541], aa_H g) rfl r
      obtain ⟨hb95, n94, ln94, r⟩ := rn_ias (k := 541) rfl ⟨by decide, by decide⟩ rfl r
      have r : rn_s _ 257 (179, [some (.ref 540), some (.int b1), some (.int b2), some (.int b3), some (.int b4), some (.int b5), some (.int b6), x7, some (.int b8)], [], aa_H (zz_w g 541 b5.toNatClampNeg ((g 541 b5.toNatClampNeg) + 1))) v h := r
      exact dn_257_179 x7 (some (.int b8)) jx7 rn_ji r
    · obtain ⟨n96, ln96, r⟩ := rn_steps 7 (160, [some (.ref 540), some (.int b1), some (.int b2), some (.int b3), some (.int b4), some (.int b5), some (.int b6), x7, some (.int b8)], [.int b8, .ref 541, .int (b8 + 4), .ref 541], aa_H g) rfl r
      obtain ⟨hb98, n97, ln97, r⟩ := rn_ial (k := 541) rfl ⟨by decide, by decide⟩ rfl r
      have r : rn_s _ 257 (161, [some (.ref 540), some (.int b1), some (.int b2), some (.int b3), some (.int b4), some (.int b5), some (.int b6), x7, some (.int b8)], [.int (g 541 b8.toNatClampNeg), .int (b8 + 4), .ref 541], aa_H g) v h := r
      obtain ⟨hb100, n99, ln99, r⟩ := rn_ias (k := 541) rfl ⟨by decide, by decide⟩ rfl r
      have r : rn_s _ 257 (162, [some (.ref 540), some (.int b1), some (.int b2), some (.int b3), some (.int b4), some (.int b5), some (.int b6), x7, some (.int b8)], [], aa_H (zz_w g 541 (b8 + 4).toNatClampNeg (g 541 b8.toNatClampNeg))) v h := r
      obtain ⟨n101, ln101, r⟩ := rn_iin (i := 8) rfl rfl jx7 rfl rfl ⟨Nat.le_of_ble_eq_true rfl, Nat.le_of_ble_eq_true rfl⟩ r
      have r : rn_s _ 257 (165, [some (.ref 540), some (.int b1), some (.int b2), some (.int b3), some (.int b4), some (.int b5), some (.int b6), x7, some (.int (b8 + (-1)))], [], aa_H (zz_w g 541 (b8 + 4).toNatClampNeg (g 541 b8.toNatClampNeg))) v h := r
      obtain ⟨n102, ln102, r⟩ := rn_steps 0 (135, [some (.ref 540), some (.int b1), some (.int b2), some (.int b3), some (.int b4), some (.int b5), some (.int b6), x7, some (.int (b8 + (-1)))], [], aa_H (zz_w g 541 (b8 + 4).toNatClampNeg (g 541 b8.toNatClampNeg))) rfl r
      exact ih _ (by omega) (by omega) (zz_w g 541 (b8 + 4).toNatClampNeg (g 541 b8.toNatClampNeg)) (b8 + (-1)) x7 jx7 r
theorem dn_257_135 {v : Option Value} {h : zz_H} {n : Nat} {g : aa_G} {b1 : Int32} {b2 : Int32} {b3 : Int32} {b4 : Int32} {b5 : Int32} {b6 : Int32} {b8 : Int32}  (x7 : Option Value) (jx7 : rn_jk x7) (r : rn_s n 257 (135, [some (.ref 540), some (.int b1), some (.int b2), some (.int b3), some (.int b4), some (.int b5), some (.int b6), x7, some (.int b8)], [], aa_H g) v h) : (iw_s v h) (fn_257_135 g b1 b2 b3 b4 b5 b6 b8) := dn_257_135l  n (Nat.le_refl n) g b8 x7 jx7 r
noncomputable def fn_257_115 (g : aa_G) (b1 : Int32) (b2 : Int32) (b3 : Int32) (b4 : Int32) (b5 : Int32) (b6 : Int32) (b7 : Int32) : Int32 × aa_G := if b7 ≠ 0 then fn_257_179 g b1 b2 b3 b4 b5 b6 else fn_257_135 g b1 b2 b3 b4 b5 b6 ((fn_175 b1 (g 541 b5.toNatClampNeg)) - 1)
theorem dn_257_115 {v : Option Value} {h : zz_H} {n : Nat} {g : aa_G} {b1 : Int32} {b2 : Int32} {b3 : Int32} {b4 : Int32} {b5 : Int32} {b6 : Int32} {b7 : Int32}  (x8 : Option Value) (jx8 : rn_jk x8) (r : rn_s n 257 (115, [some (.ref 540), some (.int b1), some (.int b2), some (.int b3), some (.int b4), some (.int b5), some (.int b6), some (.int b7), x8], [], aa_H g) v h) : iw_s v h (fn_257_115 g b1 b2 b3 b4 b5 b6 b7) := by
  unfold fn_257_115
  obtain ⟨n63, ln63, r⟩ := rn_steps 0 (117, [some (.ref 540), some (.int b1), some (.int b2), some (.int b3), some (.int b4), some (.int b5), some (.int b6), some (.int b7), x8], [.int b7], aa_H g) rfl r
  refine rn_if (iw_s v h) rfl decide_eq_true_iff.symm r (fun c64 l65n l65 r => ?_) (fun c64 l65n l65 r => ?_)
  · exact dn_257_179 (some (.int b7)) x8 rn_ji jx8 r
  · obtain ⟨n66, ln66, r⟩ := rn_steps 3 (127, [some (.ref 540), some (.int b1), some (.int b2), some (.int b3), some (.int b4), some (.int b5), some (.int b6), some (.int b7), x8], [.int b5, .ref 541, .int b1], aa_H g) rfl r
    obtain ⟨hb68, n67, ln67, r⟩ := rn_ial (k := 541) rfl ⟨by decide, by decide⟩ rfl r
    have r : rn_s _ 257 (128, [some (.ref 540), some (.int b1), some (.int b2), some (.int b3), some (.int b4), some (.int b5), some (.int b6), some (.int b7), x8], [.int (g 541 b5.toNatClampNeg), .int b1], aa_H g) v h := r
    obtain ⟨_, n69, v1, h1, -, ln69, rc, r⟩ := rn_call (m2 := 175) (as := [.int b1, .int (g 541 b5.toNatClampNeg)]) (rest := []) rfl rfl r
    obtain ⟨rfl, rfl⟩ := dn_175 rc
    have r : rn_s _ 257 (131, [some (.ref 540), some (.int b1), some (.int b2), some (.int b3), some (.int b4), some (.int b5), some (.int b6), some (.int b7), x8], [.int (fn_175 b1 (g 541 b5.toNatClampNeg))], aa_H g) v h := r
    obtain ⟨n71, ln71, r⟩ := rn_steps 2 (135, [some (.ref 540), some (.int b1), some (.int b2), some (.int b3), some (.int b4), some (.int b5), some (.int b6), some (.int b7), some (.int ((fn_175 b1 (g 541 b5.toNatClampNeg)) - 1))], [], aa_H g) rfl r
    exact dn_257_135 (some (.int b7)) rn_ji r
noncomputable def fn_257_111 (g : aa_G) (b1 : Int32) (b2 : Int32) (b3 : Int32) (b4 : Int32) (b5 : Int32) (b6 : Int32) (b7 : Int32) : Int32 × aa_G := fn_257_115 (fn_156 g) b1 b2 b3 b4 b5 b6 b7
theorem dn_257_111 {v : Option Value} {h : zz_H} {n : Nat} {g : aa_G} {b1 : Int32} {b2 : Int32} {b3 : Int32} {b4 : Int32} {b5 : Int32} {b6 : Int32} {b7 : Int32}  (x8 : Option Value) (jx8 : rn_jk x8) (r : rn_s n 257 (111, [some (.ref 540), some (.int b1), some (.int b2), some (.int b3), some (.int b4), some (.int b5), some (.int b6), some (.int b7), x8], [], aa_H g) v h) : iw_s v h (fn_257_111 g b1 b2 b3 b4 b5 b6 b7) := by
  unfold fn_257_111
  obtain ⟨n60, ln60, r⟩ := rn_steps 0 (112, [some (.ref 540), some (.int b1), some (.int b2), some (.int b3), some (.int b4), some (.int b5), some (.int b6), some (.int b7), x8], [.ref 540], aa_H g) rfl r
  obtain ⟨_, n61, v1, h1, -, ln61, rc, r⟩ := rn_call (m2 := 156) (as := [.ref 540]) (rest := []) rfl rfl r
  obtain ⟨rfl, rfl⟩ := dn_156 rc
  have r : rn_s _ 257 (115, [some (.ref 540), some (.int b1), some (.int b2), some (.int b3), some (.int b4), some (.int b5), some (.int b6), some (.int b7), x8], [], aa_H (fn_156 g)) v h := r
  exact dn_257_115 x8 jx8 r
noncomputable def fn_257_90 (g : aa_G) (b1 : Int32) (b2 : Int32) (b3 : Int32) (b4 : Int32) (b5 : Int32) (b6 : Int32) (s0 : Int32) : Int32 × aa_G := if s0 ≠ 0 then fn_257_111 g b1 b2 b3 b4 b5 b6 s0 else if (g 541 b5.toNatClampNeg) ≠ 12 then fn_257_111 g b1 b2 b3 b4 b5 b6 s0 else (-1, g)
theorem dn_257_90 {v : Option Value} {h : zz_H} {n : Nat} {g : aa_G} {b1 : Int32} {b2 : Int32} {b3 : Int32} {b4 : Int32} {b5 : Int32} {b6 : Int32} {s0 : Int32}  (x7 x8 : Option Value) (jx7 : rn_jk x7) (jx8 : rn_jk x8) (r : rn_s n 257 (90, [some (.ref 540), some (.int b1), some (.int b2), some (.int b3), some (.int b4), some (.int b5), some (.int b6), x7, x8], [.int s0], aa_H g) v h) : iw_s v h (fn_257_90 g b1 b2 b3 b4 b5 b6 s0) := by
  unfold fn_257_90
  obtain ⟨n50, ln50, r⟩ := rn_steps 1 (94, [some (.ref 540), some (.int b1), some (.int b2), some (.int b3), some (.int b4), some (.int b5), some (.int b6), some (.int s0), x8], [.int s0], aa_H g) rfl r
  refine rn_if (iw_s v h) rfl decide_eq_true_iff.symm r (fun c51 l52n l52 r => ?_) (fun c51 l52n l52 r => ?_)
  · exact dn_257_111 x8 jx8 r
  · obtain ⟨n53, ln53, r⟩ := rn_steps 2 (103, [some (.ref 540), some (.int b1), some (.int b2), some (.int b3), some (.int b4), some (.int b5), some (.int b6), some (.int s0), x8], [.int b5, .ref 541], aa_H g) rfl r
    obtain ⟨hb55, n54, ln54, r⟩ := rn_ial (k := 541) rfl ⟨by decide, by decide⟩ rfl r
    have r : rn_s _ 257 (104, [some (.ref 540), some (.int b1), some (.int b2), some (.int b3), some (.int b4), some (.int b5), some (.int b6), some (.int s0), x8], [.int (g 541 b5.toNatClampNeg)], aa_H g) v h := r
    obtain ⟨n56, ln56, r⟩ := rn_steps 0 (106, [some (.ref 540), some (.int b1), some (.int b2), some (.int b3), some (.int b4), some (.int b5), some (.int b6), some (.int s0), x8], [.int 12, .int (g 541 b5.toNatClampNeg)], aa_H g) rfl r
    refine rn_ic (iw_s v h) rfl decide_eq_true_iff.symm r (fun c57 l58n l58 r => ?_) (fun c57 l58n l58 r => ?_)
    · exact dn_257_111 x8 jx8 r
    · obtain ⟨n59, ln59, r⟩ := rn_steps 0 (110, [some (.ref 540), some (.int b1), some (.int b2), some (.int b3), some (.int b4), some (.int b5), some (.int b6), some (.int s0), x8], [.int (-1)], aa_H g) rfl r
      exact rn_ire rfl r
noncomputable def fn_257_89 (g : aa_G) (b1 : Int32) (b2 : Int32) (b3 : Int32) (b4 : Int32) (b5 : Int32) (b6 : Int32) : Int32 × aa_G := fn_257_90 g b1 b2 b3 b4 b5 b6 0
theorem dn_257_89 {v : Option Value} {h : zz_H} {n : Nat} {g : aa_G} {b1 : Int32} {b2 : Int32} {b3 : Int32} {b4 : Int32} {b5 : Int32} {b6 : Int32}  (x7 x8 : Option Value) (jx7 : rn_jk x7) (jx8 : rn_jk x8) (r : rn_s n 257 (89, [some (.ref 540), some (.int b1), some (.int b2), some (.int b3), some (.int b4), some (.int b5), some (.int b6), x7, x8], [], aa_H g) v h) : iw_s v h (fn_257_89 g b1 b2 b3 b4 b5 b6) := by
  unfold fn_257_89
  obtain ⟨n49, ln49, r⟩ := rn_steps 0 (90, [some (.ref 540), some (.int b1), some (.int b2), some (.int b3), some (.int b4), some (.int b5), some (.int b6), x7, x8], [.int 0], aa_H g) rfl r
  exact dn_257_90 x7 x8 jx7 jx8 r
noncomputable def fn_257 (g : aa_G) (a1 : Int32) (a2 : Int32) (a3 : Int32) (a4 : Int32) : Int32 × aa_G := if (fn_192 g a1) = 0 then (-1, g) else if (fn_154 a2 0 359) = 0 then (-1, g) else if (fn_199 a3) = 0 then (-1, g) else if (fn_199 a4) = 0 then (-1, g) else if a3 < a4 then if (g 541 ((fn_164 a1) + 1).toNatClampNeg) ≤ (fn_258 g a1 a2) then fn_257_89 g a1 a2 a3 a4 ((fn_164 a1) + 1) (fn_258 g a1 a2) else if (g 541 (fn_175 a1 (fn_258 g a1 a2)).toNatClampNeg) ≠ a2 then fn_257_89 g a1 a2 a3 a4 ((fn_164 a1) + 1) (fn_258 g a1 a2) else fn_257_90 g a1 a2 a3 a4 ((fn_164 a1) + 1) (fn_258 g a1 a2) 1 else (-1, g)
theorem dn_257 {v : Option Value} {h : zz_H} {n : Nat} {g : aa_G} {a1 : Int32} {a2 : Int32} {a3 : Int32} {a4 : Int32}  (r : rn_s n 257 (0, zz_in [.ref 540, .int a1, .int a2, .int a3, .int a4] (zz_nl 257), [], aa_H g) v h) : iw_s v h (fn_257 g a1 a2 a3 a4) := by
  have r : rn_s n 257 (0, [some (.ref 540), some (.int a1), some (.int a2), some (.int a3), some (.int a4), none, none, none, none], [], aa_H g) v h := r
  unfold fn_257
  obtain ⟨n1, ln1, r⟩ := rn_steps 1 (2, [some (.ref 540), some (.int a1), some (.int a2), some (.int a3), some (.int a4), none, none, none, none], [.int a1, .ref 540], aa_H g) rfl r
  obtain ⟨_, n2, v1, h1, -, ln2, rc, r⟩ := rn_call (m2 := 192) (as := [.ref 540, .int a1]) (rest := []) rfl rfl r
  obtain ⟨rfl, rfl⟩ := dn_192 rc
  have r : rn_s _ 257 (5, [some (.ref 540), some (.int a1), some (.int a2), some (.int a3), some (.int a4), none, none, none, none], [.int (fn_192 g a1)], aa_H g) v h := r
  refine rn_if (iw_s v h) rfl decide_eq_true_iff.symm r (fun c4 l5n l5 r => ?_) (fun c4 l5n l5 r => ?_)
  · obtain ⟨n6, ln6, r⟩ := rn_steps 0 (41, [some (.ref 540), some (.int a1), some (.int a2), some (.int a3), some (.int a4), none, none, none, none], [.int (-1)], aa_H g) rfl r
    exact rn_ire rfl r
  · obtain ⟨n7, ln7, r⟩ := rn_steps 2 (13, [some (.ref 540), some (.int a1), some (.int a2), some (.int a3), some (.int a4), none, none, none, none], [.int 359, .int 0, .int a2], aa_H g) rfl r
    obtain ⟨_, n8, v1, h1, -, ln8, rc, r⟩ := rn_call (m2 := 154) (as := [.int a2, .int 0, .int 359]) (rest := []) rfl rfl r
    obtain ⟨rfl, rfl⟩ := dn_154 rc
    have r : rn_s _ 257 (16, [some (.ref 540), some (.int a1), some (.int a2), some (.int a3), some (.int a4), none, none, none, none], [.int (fn_154 a2 0 359)], aa_H g) v h := r
    refine rn_if (iw_s v h) rfl decide_eq_true_iff.symm r (fun c10 l11n l11 r => ?_) (fun c10 l11n l11 r => ?_)
    · obtain ⟨n12, ln12, r⟩ := rn_steps 0 (41, [some (.ref 540), some (.int a1), some (.int a2), some (.int a3), some (.int a4), none, none, none, none], [.int (-1)], aa_H g) rfl r
      exact rn_ire rfl r
    · obtain ⟨n13, ln13, r⟩ := rn_steps 0 (20, [some (.ref 540), some (.int a1), some (.int a2), some (.int a3), some (.int a4), none, none, none, none], [.int a3], aa_H g) rfl r
      obtain ⟨_, n14, v1, h1, -, ln14, rc, r⟩ := rn_call (m2 := 199) (as := [.int a3]) (rest := []) rfl rfl r
      obtain ⟨rfl, rfl⟩ := dn_199 rc
      have r : rn_s _ 257 (23, [some (.ref 540), some (.int a1), some (.int a2), some (.int a3), some (.int a4), none, none, none, none], [.int (fn_199 a3)], aa_H g) v h := r
      refine rn_if (iw_s v h) rfl decide_eq_true_iff.symm r (fun c16 l17n l17 r => ?_) (fun c16 l17n l17 r => ?_)
      · obtain ⟨n18, ln18, r⟩ := rn_steps 0 (41, [some (.ref 540), some (.int a1), some (.int a2), some (.int a3), some (.int a4), none, none, none, none], [.int (-1)], aa_H g) rfl r
        exact rn_ire rfl r
      · obtain ⟨n19, ln19, r⟩ := rn_steps 0 (28, [some (.ref 540), some (.int a1), some (.int a2), some (.int a3), some (.int a4), none, none, none, none], [.int a4], aa_H g) rfl r
        obtain ⟨_, n20, v1, h1, -, ln20, rc, r⟩ := rn_call (m2 := 199) (as := [.int a4]) (rest := []) rfl rfl r
        obtain ⟨rfl, rfl⟩ := dn_199 rc
        have r : rn_s _ 257 (31, [some (.ref 540), some (.int a1), some (.int a2), some (.int a3), some (.int a4), none, none, none, none], [.int (fn_199 a4)], aa_H g) v h := r
        refine rn_if (iw_s v h) rfl decide_eq_true_iff.symm r (fun c22 l23n l23 r => ?_) (fun c22 l23n l23 r => ?_)
        · obtain ⟨n24, ln24, r⟩ := rn_steps 0 (41, [some (.ref 540), some (.int a1), some (.int a2), some (.int a3), some (.int a4), none, none, none, none], [.int (-1)], aa_H g) rfl r
          exact rn_ire rfl r
        · obtain ⟨n25, ln25, r⟩ := rn_steps 1 (37, [some (.ref 540), some (.int a1), some (.int a2), some (.int a3), some (.int a4), none, none, none, none], [.int a4, .int a3], aa_H g) rfl r
          refine rn_ic (iw_s v h) rfl decide_eq_true_iff.symm r (fun c26 l27n l27 r => ?_) (fun c26 l27n l27 r => ?_)
          · obtain ⟨n28, ln28, r⟩ := rn_steps 0 (43, [some (.ref 540), some (.int a1), some (.int a2), some (.int a3), some (.int a4), none, none, none, none], [.int a1], aa_H g) rfl r
            obtain ⟨_, n29, v1, h1, -, ln29, rc, r⟩ := rn_call (m2 := 164) (as := [.int a1]) (rest := []) rfl rfl r
            obtain ⟨rfl, rfl⟩ := dn_164 rc
            have r : rn_s _ 257 (46, [some (.ref 540), some (.int a1), some (.int a2), some (.int a3), some (.int a4), none, none, none, none], [.int (fn_164 a1)], aa_H g) v h := r
            obtain ⟨n31, ln31, r⟩ := rn_steps 5 (53, [some (.ref 540), some (.int a1), some (.int a2), some (.int a3), some (.int a4), some (.int ((fn_164 a1) + 1)), none, none, none], [.int a2, .int a1, .ref 540], aa_H g) rfl r
            obtain ⟨_, n32, v1, h1, -, ln32, rc, r⟩ := rn_call (m2 := 258) (as := [.ref 540, .int a1, .int a2]) (rest := []) rfl rfl r
            obtain ⟨rfl, rfl⟩ := dn_258 rc
            have r : rn_s _ 257 (56, [some (.ref 540), some (.int a1), some (.int a2), some (.int a3), some (.int a4), some (.int ((fn_164 a1) + 1)), none, none, none], [.int (fn_258 g a1 a2)], aa_H g) v h := r
            obtain ⟨n34, ln34, r⟩ := rn_steps 4 (66, [some (.ref 540), some (.int a1), some (.int a2), some (.int a3), some (.int a4), some (.int ((fn_164 a1) + 1)), some (.int (fn_258 g a1 a2)), none, none], [.int ((fn_164 a1) + 1), .ref 541, .int (fn_258 g a1 a2)], aa_H g) rfl r
            obtain ⟨hb36, n35, ln35, r⟩ := rn_ial (k := 541) rfl ⟨by decide, by decide⟩ rfl r
            have r : rn_s _ 257 (67, [some (.ref 540), some (.int a1), some (.int a2), some (.int a3), some (.int a4), some (.int ((fn_164 a1) + 1)), some (.int (fn_258 g a1 a2)), none, none], [.int (g 541 ((fn_164 a1) + 1).toNatClampNeg), .int (fn_258 g a1 a2)], aa_H g) v h := r
            refine rn_ic (iw_s v h) rfl decide_eq_true_iff.symm r (fun c37 l38n l38 r => ?_) (fun c37 l38n l38 r => ?_)
            · exact dn_257_89 none none rn_jn rn_jn r
            · obtain ⟨n39, ln39, r⟩ := rn_steps 3 (77, [some (.ref 540), some (.int a1), some (.int a2), some (.int a3), some (.int a4), some (.int ((fn_164 a1) + 1)), some (.int (fn_258 g a1 a2)), none, none], [.int (fn_258 g a1 a2), .int a1, .ref 541], aa_H g) rfl r
              obtain ⟨_, n40, v1, h1, -, ln40, rc, r⟩ := rn_call (m2 := 175) (as := [.int a1, .int (fn_258 g a1 a2)]) (rest := [.ref 541]) rfl rfl r
              obtain ⟨rfl, rfl⟩ := dn_175 rc
              have r : rn_s _ 257 (80, [some (.ref 540), some (.int a1), some (.int a2), some (.int a3), some (.int a4), some (.int ((fn_164 a1) + 1)), some (.int (fn_258 g a1 a2)), none, none], [.int (fn_175 a1 (fn_258 g a1 a2)), .ref 541], aa_H g) v h := r
              obtain ⟨hb43, n42, ln42, r⟩ := rn_ial (k := 541) rfl ⟨by decide, by decide⟩ rfl r
              have r : rn_s _ 257 (81, [some (.ref 540), some (.int a1), some (.int a2), some (.int a3), some (.int a4), some (.int ((fn_164 a1) + 1)), some (.int (fn_258 g a1 a2)), none, none], [.int (g 541 (fn_175 a1 (fn_258 g a1 a2)).toNatClampNeg)], aa_H g) v h := r
              obtain ⟨n44, ln44, r⟩ := rn_steps 0 (82, [some (.ref 540), some (.int a1), some (.int a2), some (.int a3), some (.int a4), some (.int ((fn_164 a1) + 1)), some (.int (fn_258 g a1 a2)), none, none], [.int a2, .int (g 541 (fn_175 a1 (fn_258 g a1 a2)).toNatClampNeg)], aa_H g) rfl r
              refine rn_ic (iw_s v h) rfl decide_eq_true_iff.symm r (fun c45 l46n l46 r => ?_) (fun c45 l46n l46 r => ?_)
              · exact dn_257_89 none none rn_jn rn_jn r
              · obtain ⟨n47, ln47, r⟩ := rn_steps 1 (90, [some (.ref 540), some (.int a1), some (.int a2), some (.int a3), some (.int a4), some (.int ((fn_164 a1) + 1)), some (.int (fn_258 g a1 a2)), none, none], [.int 1], aa_H g) rfl r
                exact dn_257_90 none none rn_jn rn_jn r
          · obtain ⟨n48, ln48, r⟩ := rn_steps 0 (41, [some (.ref 540), some (.int a1), some (.int a2), some (.int a3), some (.int a4), none, none, none, none], [.int (-1)], aa_H g) rfl r
            exact rn_ire rfl r
-- 259: UnequalHoursModel remove
noncomputable def fn_259_75b (g : aa_G) (b1 : Int32) (b3 : Int32) (b5 : Int32) : (aa_G × Int32) ⊕ (Int32 × aa_G) := if (fn_175 b1 (g 541 b3.toNatClampNeg)) ≤ b5 then .inr (g 541 b3.toNatClampNeg, g) else .inl (zz_w g 541 b5.toNatClampNeg (g 541 (b5 + 4).toNatClampNeg), b5 + 1)
noncomputable def fn_259_75 (g : aa_G) (b1 : Int32) (b3 : Int32) (b5 : Int32) : Int32 × aa_G := lp_f (0, g) (fun z : (aa_G × Int32) => fn_259_75b z.1 b1 b3 z.2) (g, b5)
theorem dn_259_75l {v : Option Value} {h : zz_H} {N : Nat} {b1 : Int32} {b3 : Int32} {d : Int32 × aa_G} : ∀ (n : Nat), n ≤ N → ∀ (g : aa_G) (b5 : Int32) (x2 x4 : Option Value) (jx2 : rn_jk x2) (jx4 : rn_jk x4), rn_s n 259 (75, [some (.ref 540), some (.int b1), x2, some (.int b3), x4, some (.int b5)], [], aa_H g) v h → (iw_s v h) (lp_f d (fun z : (aa_G × Int32) => fn_259_75b z.1 b1 b3 z.2) (g, b5)) := by
  generalize hf : (fun z : (aa_G × Int32) => fn_259_75b z.1 b1 b3 z.2) = f
  intro n
  induction n using Nat.strongRecOn with
  | _ n ih =>
    intro hN g b5 x2 x4 jx2 jx4 r
    refine lp_go ?_
    rw [← congrFun hf (g, b5)]
    show lp_q (iw_s v h) d f (fn_259_75b g b1 b3 b5)
    unfold fn_259_75b
    obtain ⟨n41, ln41, r⟩ := rn_steps 4 (83, [some (.ref 540), some (.int b1), x2, some (.int b3), x4, some (.int b5)], [.int b3, .ref 541, .int b1, .int b5], aa_H g) rfl r
    obtain ⟨hb43, n42, ln42, r⟩ := rn_ial (k := 541) rfl ⟨by decide, by decide⟩ rfl r
    have r : rn_s _ 259 (84, [some (.ref 540), some (.int b1), x2, some (.int b3), x4, some (.int b5)], [.int (g 541 b3.toNatClampNeg), .int b1, .int b5], aa_H g) v h := r
    obtain ⟨_, n44, v1, h1, -, ln44, rc, r⟩ := rn_call (m2 := 175) (as := [.int b1, .int (g 541 b3.toNatClampNeg)]) (rest := [.int b5]) rfl rfl r
    obtain ⟨rfl, rfl⟩ := dn_175 rc
    have r : rn_s _ 259 (87, [some (.ref 540), some (.int b1), x2, some (.int b3), x4, some (.int b5)], [.int (fn_175 b1 (g 541 b3.toNatClampNeg)), .int b5], aa_H g) v h := r
    refine rn_ic (lp_q (iw_s v h) d f) rfl decide_eq_true_iff.symm r (fun c46 l47n l47 r => ?_) (fun c46 l47n l47 r => ?_)
    · obtain ⟨n48, ln48, r⟩ := rn_steps 2 (117, [some (.ref 540), some (.int b1), x2, some (.int b3), x4, some (.int b5)], [.int b3, .ref 541], aa_H g) rfl r
      obtain ⟨hb50, n49, ln49, r⟩ := rn_ial (k := 541) rfl ⟨by decide, by decide⟩ rfl r
      have r : rn_s _ 259 (118, [some (.ref 540), some (.int b1), x2, some (.int b3), x4, some (.int b5)], [.int (g 541 b3.toNatClampNeg)], aa_H g) v h := r
      exact rn_ire rfl r
    · obtain ⟨n51, ln51, r⟩ := rn_steps 7 (104, [some (.ref 540), some (.int b1), x2, some (.int b3), x4, some (.int b5)], [.int (b5 + 4), .ref 541, .int b5, .ref 541], aa_H g) rfl r
      obtain ⟨hb53, n52, ln52, r⟩ := rn_ial (k := 541) rfl ⟨by decide, by decide⟩ rfl r
      have r : rn_s _ 259 (105, [some (.ref 540), some (.int b1), x2, some (.int b3), x4, some (.int b5)], [.int (g 541 (b5 + 4).toNatClampNeg), .int b5, .ref 541], aa_H g) v h := r
      obtain ⟨hb55, n54, ln54, r⟩ := rn_ias (k := 541) rfl ⟨by decide, by decide⟩ rfl r
      have r : rn_s _ 259 (106, [some (.ref 540), some (.int b1), x2, some (.int b3), x4, some (.int b5)], [], aa_H (zz_w g 541 b5.toNatClampNeg (g 541 (b5 + 4).toNatClampNeg))) v h := r
      obtain ⟨n56, ln56, r⟩ := rn_iin (i := 5) rfl rfl jx4 rfl rfl ⟨Nat.le_of_ble_eq_true rfl, Nat.le_of_ble_eq_true rfl⟩ r
      have r : rn_s _ 259 (109, [some (.ref 540), some (.int b1), x2, some (.int b3), x4, some (.int (b5 + 1))], [], aa_H (zz_w g 541 b5.toNatClampNeg (g 541 (b5 + 4).toNatClampNeg))) v h := r
      obtain ⟨n57, ln57, r⟩ := rn_steps 0 (75, [some (.ref 540), some (.int b1), x2, some (.int b3), x4, some (.int (b5 + 1))], [], aa_H (zz_w g 541 b5.toNatClampNeg (g 541 (b5 + 4).toNatClampNeg))) rfl r
      exact ih _ (by omega) (by omega) (zz_w g 541 b5.toNatClampNeg (g 541 (b5 + 4).toNatClampNeg)) (b5 + 1) x2 x4 jx2 jx4 r
theorem dn_259_75 {v : Option Value} {h : zz_H} {n : Nat} {g : aa_G} {b1 : Int32} {b3 : Int32} {b5 : Int32}  (x2 x4 : Option Value) (jx2 : rn_jk x2) (jx4 : rn_jk x4) (r : rn_s n 259 (75, [some (.ref 540), some (.int b1), x2, some (.int b3), x4, some (.int b5)], [], aa_H g) v h) : (iw_s v h) (fn_259_75 g b1 b3 b5) := dn_259_75l  n (Nat.le_refl n) g b5 x2 x4 jx2 jx4 r
noncomputable def fn_259_57 (g : aa_G) (b1 : Int32) (b3 : Int32) (b4 : Int32) : Int32 × aa_G := fn_259_75 (zz_w g 541 b3.toNatClampNeg ((g 541 b3.toNatClampNeg) - 1)) b1 b3 (fn_175 b1 b4)
theorem dn_259_57 {v : Option Value} {h : zz_H} {n : Nat} {g : aa_G} {b1 : Int32} {b3 : Int32} {b4 : Int32}  (x2 x5 : Option Value) (jx2 : rn_jk x2) (jx5 : rn_jk x5) (r : rn_s n 259 (57, [some (.ref 540), some (.int b1), x2, some (.int b3), some (.int b4), x5], [], aa_H g) v h) : iw_s v h (fn_259_57 g b1 b3 b4) := by
  unfold fn_259_57
  obtain ⟨n31, ln31, r⟩ := rn_steps 3 (63, [some (.ref 540), some (.int b1), x2, some (.int b3), some (.int b4), x5], [.int b3, .ref 541, .int b3, .ref 541], aa_H g) rfl r
  obtain ⟨hb33, n32, ln32, r⟩ := rn_ial (k := 541) rfl ⟨by decide, by decide⟩ rfl r
  have r : rn_s _ 259 (64, [some (.ref 540), some (.int b1), x2, some (.int b3), some (.int b4), x5], [.int (g 541 b3.toNatClampNeg), .int b3, .ref 541], aa_H g) v h := r
  obtain ⟨n34, ln34, r⟩ := rn_steps 1 (66, [some (.ref 540), some (.int b1), x2, some (.int b3), some (.int b4), x5], [.int ((g 541 b3.toNatClampNeg) - 1), .int b3, .ref 541], aa_H g) rfl r
  obtain ⟨hb36, n35, ln35, r⟩ := rn_ias (k := 541) rfl ⟨by decide, by decide⟩ rfl r
  have r : rn_s _ 259 (67, [some (.ref 540), some (.int b1), x2, some (.int b3), some (.int b4), x5], [], aa_H (zz_w g 541 b3.toNatClampNeg ((g 541 b3.toNatClampNeg) - 1))) v h := r
  obtain ⟨n37, ln37, r⟩ := rn_steps 1 (70, [some (.ref 540), some (.int b1), x2, some (.int b3), some (.int b4), x5], [.int b4, .int b1], aa_H (zz_w g 541 b3.toNatClampNeg ((g 541 b3.toNatClampNeg) - 1))) rfl r
  obtain ⟨_, n38, v1, h1, -, ln38, rc, r⟩ := rn_call (m2 := 175) (as := [.int b1, .int b4]) (rest := []) rfl rfl r
  obtain ⟨rfl, rfl⟩ := dn_175 rc
  have r : rn_s _ 259 (73, [some (.ref 540), some (.int b1), x2, some (.int b3), some (.int b4), x5], [.int (fn_175 b1 b4)], aa_H (zz_w g 541 b3.toNatClampNeg ((g 541 b3.toNatClampNeg) - 1))) v h := r
  obtain ⟨n40, ln40, r⟩ := rn_steps 0 (75, [some (.ref 540), some (.int b1), x2, some (.int b3), some (.int b4), some (.int (fn_175 b1 b4))], [], aa_H (zz_w g 541 b3.toNatClampNeg ((g 541 b3.toNatClampNeg) - 1))) rfl r
  exact dn_259_75 x2 (some (.int b4)) jx2 rn_ji r
noncomputable def fn_259 (g : aa_G) (a1 : Int32) (a2 : Int32) : Int32 × aa_G := if (fn_192 g a1) ≠ 0 then if (fn_258 g a1 a2) = (g 541 ((fn_164 a1) + 1).toNatClampNeg) then (-1, g) else if (g 541 (fn_175 a1 (fn_258 g a1 a2)).toNatClampNeg) = a2 then fn_259_57 (fn_156 g) a1 ((fn_164 a1) + 1) (fn_258 g a1 a2) else (-1, g) else (-1, g)
theorem dn_259 {v : Option Value} {h : zz_H} {n : Nat} {g : aa_G} {a1 : Int32} {a2 : Int32}  (r : rn_s n 259 (0, zz_in [.ref 540, .int a1, .int a2] (zz_nl 259), [], aa_H g) v h) : iw_s v h (fn_259 g a1 a2) := by
  have r : rn_s n 259 (0, [some (.ref 540), some (.int a1), some (.int a2), none, none, none], [], aa_H g) v h := r
  unfold fn_259
  obtain ⟨n1, ln1, r⟩ := rn_steps 1 (2, [some (.ref 540), some (.int a1), some (.int a2), none, none, none], [.int a1, .ref 540], aa_H g) rfl r
  obtain ⟨_, n2, v1, h1, -, ln2, rc, r⟩ := rn_call (m2 := 192) (as := [.ref 540, .int a1]) (rest := []) rfl rfl r
  obtain ⟨rfl, rfl⟩ := dn_192 rc
  have r : rn_s _ 259 (5, [some (.ref 540), some (.int a1), some (.int a2), none, none, none], [.int (fn_192 g a1)], aa_H g) v h := r
  refine rn_if (iw_s v h) rfl decide_eq_true_iff.symm r (fun c4 l5n l5 r => ?_) (fun c4 l5n l5 r => ?_)
  · obtain ⟨n6, ln6, r⟩ := rn_steps 0 (11, [some (.ref 540), some (.int a1), some (.int a2), none, none, none], [.int a1], aa_H g) rfl r
    obtain ⟨_, n7, v1, h1, -, ln7, rc, r⟩ := rn_call (m2 := 164) (as := [.int a1]) (rest := []) rfl rfl r
    obtain ⟨rfl, rfl⟩ := dn_164 rc
    have r : rn_s _ 259 (14, [some (.ref 540), some (.int a1), some (.int a2), none, none, none], [.int (fn_164 a1)], aa_H g) v h := r
    obtain ⟨n9, ln9, r⟩ := rn_steps 5 (20, [some (.ref 540), some (.int a1), some (.int a2), some (.int ((fn_164 a1) + 1)), none, none], [.int a2, .int a1, .ref 540], aa_H g) rfl r
    obtain ⟨_, n10, v1, h1, -, ln10, rc, r⟩ := rn_call (m2 := 258) (as := [.ref 540, .int a1, .int a2]) (rest := []) rfl rfl r
    obtain ⟨rfl, rfl⟩ := dn_258 rc
    have r : rn_s _ 259 (23, [some (.ref 540), some (.int a1), some (.int a2), some (.int ((fn_164 a1) + 1)), none, none], [.int (fn_258 g a1 a2)], aa_H g) v h := r
    obtain ⟨n12, ln12, r⟩ := rn_steps 4 (32, [some (.ref 540), some (.int a1), some (.int a2), some (.int ((fn_164 a1) + 1)), some (.int (fn_258 g a1 a2)), none], [.int ((fn_164 a1) + 1), .ref 541, .int (fn_258 g a1 a2)], aa_H g) rfl r
    obtain ⟨hb14, n13, ln13, r⟩ := rn_ial (k := 541) rfl ⟨by decide, by decide⟩ rfl r
    have r : rn_s _ 259 (33, [some (.ref 540), some (.int a1), some (.int a2), some (.int ((fn_164 a1) + 1)), some (.int (fn_258 g a1 a2)), none], [.int (g 541 ((fn_164 a1) + 1).toNatClampNeg), .int (fn_258 g a1 a2)], aa_H g) v h := r
    refine rn_ic (iw_s v h) rfl decide_eq_true_iff.symm r (fun c15 l16n l16 r => ?_) (fun c15 l16n l16 r => ?_)
    · obtain ⟨n17, ln17, r⟩ := rn_steps 0 (52, [some (.ref 540), some (.int a1), some (.int a2), some (.int ((fn_164 a1) + 1)), some (.int (fn_258 g a1 a2)), none], [.int (-1)], aa_H g) rfl r
      exact rn_ire rfl r
    · obtain ⟨n18, ln18, r⟩ := rn_steps 3 (43, [some (.ref 540), some (.int a1), some (.int a2), some (.int ((fn_164 a1) + 1)), some (.int (fn_258 g a1 a2)), none], [.int (fn_258 g a1 a2), .int a1, .ref 541], aa_H g) rfl r
      obtain ⟨_, n19, v1, h1, -, ln19, rc, r⟩ := rn_call (m2 := 175) (as := [.int a1, .int (fn_258 g a1 a2)]) (rest := [.ref 541]) rfl rfl r
      obtain ⟨rfl, rfl⟩ := dn_175 rc
      have r : rn_s _ 259 (46, [some (.ref 540), some (.int a1), some (.int a2), some (.int ((fn_164 a1) + 1)), some (.int (fn_258 g a1 a2)), none], [.int (fn_175 a1 (fn_258 g a1 a2)), .ref 541], aa_H g) v h := r
      obtain ⟨hb22, n21, ln21, r⟩ := rn_ial (k := 541) rfl ⟨by decide, by decide⟩ rfl r
      have r : rn_s _ 259 (47, [some (.ref 540), some (.int a1), some (.int a2), some (.int ((fn_164 a1) + 1)), some (.int (fn_258 g a1 a2)), none], [.int (g 541 (fn_175 a1 (fn_258 g a1 a2)).toNatClampNeg)], aa_H g) v h := r
      obtain ⟨n23, ln23, r⟩ := rn_steps 0 (48, [some (.ref 540), some (.int a1), some (.int a2), some (.int ((fn_164 a1) + 1)), some (.int (fn_258 g a1 a2)), none], [.int a2, .int (g 541 (fn_175 a1 (fn_258 g a1 a2)).toNatClampNeg)], aa_H g) rfl r
      refine rn_ic (iw_s v h) rfl decide_eq_true_iff.symm r (fun c24 l25n l25 r => ?_) (fun c24 l25n l25 r => ?_)
      · obtain ⟨n26, ln26, r⟩ := rn_steps 0 (54, [some (.ref 540), some (.int a1), some (.int a2), some (.int ((fn_164 a1) + 1)), some (.int (fn_258 g a1 a2)), none], [.ref 540], aa_H g) rfl r
        obtain ⟨_, n27, v1, h1, -, ln27, rc, r⟩ := rn_call (m2 := 156) (as := [.ref 540]) (rest := []) rfl rfl r
        obtain ⟨rfl, rfl⟩ := dn_156 rc
        have r : rn_s _ 259 (57, [some (.ref 540), some (.int a1), some (.int a2), some (.int ((fn_164 a1) + 1)), some (.int (fn_258 g a1 a2)), none], [], aa_H (fn_156 g)) v h := r
        exact dn_259_57 (some (.int a2)) none rn_ji rn_jn r
      · obtain ⟨n29, ln29, r⟩ := rn_steps 0 (52, [some (.ref 540), some (.int a1), some (.int a2), some (.int ((fn_164 a1) + 1)), some (.int (fn_258 g a1 a2)), none], [.int (-1)], aa_H g) rfl r
        exact rn_ire rfl r
  · obtain ⟨n30, ln30, r⟩ := rn_steps 0 (9, [some (.ref 540), some (.int a1), some (.int a2), none, none, none], [.int (-1)], aa_H g) rfl r
    exact rn_ire rfl r
-- 266: UnequalHoursModel writes
noncomputable def fn_266_13 (g : aa_G)  : aa_G := zz_w g 540 37 ((g 540 37) + 1)
theorem dn_266_13 {v : Option Value} {h : zz_H} {n : Nat} {g : aa_G}   (x0 x1 : Option Value) (jx0 : rn_jk x0) (jx1 : rn_jk x1) (r : rn_s n 266 (13, [x0, x1], [.ref 540, .ref 540], aa_H g) v h) : ig_s v h (fn_266_13 g) := by
  unfold fn_266_13
  obtain ⟨n5, ln5, r⟩ := rn_steps 3 (21, [x0, x1], [], aa_H (zz_w g 540 37 ((g 540 37) + 1))) rfl r
  exact rn_ret 1 rfl r
noncomputable def fn_266 (g : aa_G) (a1 : Int32) : aa_G := fn_266_13 (zz_w g 553 (g 540 37).toNatClampNeg (vp_nar .byte a1.toInt8.toInt32))
theorem dn_266 {v : Option Value} {h : zz_H} {n : Nat} {g : aa_G} {a1 : Int32}  (r : rn_s n 266 (0, zz_in [.ref 540, .int a1] (zz_nl 266), [], aa_H g) v h) : ig_s v h (fn_266 g a1) := by
  have r : rn_s n 266 (0, [some (.ref 540), some (.int a1)], [], aa_H g) v h := r
  unfold fn_266
  obtain ⟨n1, ln1, r⟩ := rn_steps 5 (10, [some (.ref 540), some (.int a1)], [.int a1.toInt8.toInt32, .int (g 540 37), .ref 553], aa_H g) rfl r
  obtain ⟨hb3, n2, ln2, r⟩ := rn_bas (k := 553) rfl ⟨by decide, by decide⟩ rfl (by decide) r
  have r : rn_s _ 266 (11, [some (.ref 540), some (.int a1)], [], aa_H (zz_w g 553 (g 540 37).toNatClampNeg (vp_nar .byte a1.toInt8.toInt32))) v h := r
  obtain ⟨n4, ln4, r⟩ := rn_steps 1 (13, [some (.ref 540), some (.int a1)], [.ref 540, .ref 540], aa_H (zz_w g 553 (g 540 37).toNatClampNeg (vp_nar .byte a1.toInt8.toInt32))) rfl r
  exact dn_266_13 (some (.ref 540)) (some (.int a1)) rn_jr rn_ji r
-- 267: UnequalHoursModel writeNumber
noncomputable def fn_267_50 (g : aa_G) (b2 : Int32) (b3 : Int32) : (aa_G × Int32) ⊕ aa_G := .inl (g, b3 / 10)
theorem dn_267_50 {v : Option Value} {h : zz_H} {n : Nat} {g : aa_G} {b2 : Int32} {b3 : Int32} (P : (aa_G × Int32) ⊕ aa_G → Prop) (hO0 : ∀ n2, n2 < n → ∀ (yg : aa_G) (yb3 : Int32) (yx1 : Option Value) (_ : rn_jk yx1), rn_s n2 267 (33, [some (.ref 540), yx1, some (.int b2), some (.int yb3)], [], aa_H yg) v h → P (.inl (yg, yb3))) (hR : ∀ E, ig_s v h E → P (.inr E))  (x1 : Option Value) (jx1 : rn_jk x1) (r : rn_s n 267 (50, [some (.ref 540), x1, some (.int b2), some (.int b3)], [], aa_H g) v h) : P (fn_267_50 g b2 b3) := by
  unfold fn_267_50
  obtain ⟨n27, ln27, r⟩ := rn_steps 4 (33, [some (.ref 540), x1, some (.int b2), some (.int (b3 / 10))], [], aa_H g) rfl r
  exact hO0 _ (by omega) g (b3 / 10) x1 jx1 r
noncomputable def fn_267_33b (g : aa_G) (b2 : Int32) (b3 : Int32) : (aa_G × Int32) ⊕ aa_G := if b3 ≤ 0 then .inr g else fn_267_50 (fn_266 g (48 + ((b2 / b3) - (b2 / b3) / 10 * 10))) b2 b3
noncomputable def fn_267_33 (g : aa_G) (b2 : Int32) (b3 : Int32) : aa_G := lp_f g (fun z : (aa_G × Int32) => fn_267_33b z.1 b2 z.2) (g, b3)
theorem dn_267_33l {v : Option Value} {h : zz_H} {N : Nat} {b2 : Int32} {d : aa_G} : ∀ (n : Nat), n ≤ N → ∀ (g : aa_G) (b3 : Int32) (x1 : Option Value) (jx1 : rn_jk x1), rn_s n 267 (33, [some (.ref 540), x1, some (.int b2), some (.int b3)], [], aa_H g) v h → (ig_s v h) (lp_f d (fun z : (aa_G × Int32) => fn_267_33b z.1 b2 z.2) (g, b3)) := by
  generalize hf : (fun z : (aa_G × Int32) => fn_267_33b z.1 b2 z.2) = f
  intro n
  induction n using Nat.strongRecOn with
  | _ n ih =>
    intro hN g b3 x1 jx1 r
    refine lp_go ?_
    rw [← congrFun hf (g, b3)]
    show lp_q (ig_s v h) d f (fn_267_33b g b2 b3)
    unfold fn_267_33b
    obtain ⟨n18, ln18, r⟩ := rn_steps 0 (34, [some (.ref 540), x1, some (.int b2), some (.int b3)], [.int b3], aa_H g) rfl r
    refine rn_if (lp_q (ig_s v h) d f) rfl decide_eq_true_iff.symm r (fun c19 l20n l20 r => ?_) (fun c19 l20n l20 r => ?_)
    · exact rn_ret 1 rfl r
    · obtain ⟨n21, ln21, r⟩ := rn_steps 3 (42, [some (.ref 540), x1, some (.int b2), some (.int b3)], [.int b3, .int b2, .int 48, .ref 540], aa_H g) rfl r
      obtain ⟨hd23, n22, ln22, r⟩ := rn_div rfl r
      have r : rn_s _ 267 (43, [some (.ref 540), x1, some (.int b2), some (.int b3)], [.int (b2 / b3), .int 48, .ref 540], aa_H g) v h := r
      obtain ⟨n24, ln24, r⟩ := rn_steps 2 (47, [some (.ref 540), x1, some (.int b2), some (.int b3)], [.int (48 + ((b2 / b3) - (b2 / b3) / 10 * 10)), .ref 540], aa_H g) rfl r
      obtain ⟨_, n25, v1, h1, -, ln25, rc, r⟩ := rn_call (m2 := 266) (as := [.ref 540, .int (48 + ((b2 / b3) - (b2 / b3) / 10 * 10))]) (rest := []) rfl rfl r
      obtain ⟨rfl, rfl⟩ := dn_266 rc
      have r : rn_s _ 267 (50, [some (.ref 540), x1, some (.int b2), some (.int b3)], [], aa_H (fn_266 g (48 + ((b2 / b3) - (b2 / b3) / 10 * 10)))) v h := r
      exact dn_267_50 (lp_q (ig_s v h) d f) (fun n2 l2 => ih n2 (by omega) (by omega)) (fun z hz => hz) x1 jx1 r
theorem dn_267_33 {v : Option Value} {h : zz_H} {n : Nat} {g : aa_G} {b2 : Int32} {b3 : Int32}  (x1 : Option Value) (jx1 : rn_jk x1) (r : rn_s n 267 (33, [some (.ref 540), x1, some (.int b2), some (.int b3)], [], aa_H g) v h) : (ig_s v h) (fn_267_33 g b2 b3) := dn_267_33l  n (Nat.le_refl n) g b3 x1 jx1 r
noncomputable def fn_267_17b (g : aa_G) (b2 : Int32) (b3 : Int32) : Int32 ⊕ aa_G := if (b2 / b3) ≤ 9 then .inr (fn_267_33 g b2 b3) else .inl (b3 * 10)
noncomputable def fn_267_17 (g : aa_G) (b2 : Int32) (b3 : Int32) : aa_G := lp_f g (fun z : Int32 => fn_267_17b g b2 z) b3
theorem dn_267_17l {v : Option Value} {h : zz_H} {N : Nat} {g : aa_G} {b2 : Int32} {d : aa_G} : ∀ (n : Nat), n ≤ N → ∀ (b3 : Int32) (x1 : Option Value) (jx1 : rn_jk x1), rn_s n 267 (17, [some (.ref 540), x1, some (.int b2), some (.int b3)], [], aa_H g) v h → (ig_s v h) (lp_f d (fun z : Int32 => fn_267_17b g b2 z) b3) := by
  generalize hf : (fun z : Int32 => fn_267_17b g b2 z) = f
  intro n
  induction n using Nat.strongRecOn with
  | _ n ih =>
    intro hN b3 x1 jx1 r
    refine lp_go ?_
    rw [← congrFun hf b3]
    show lp_q (ig_s v h) d f (fn_267_17b g b2 b3)
    unfold fn_267_17b
    obtain ⟨n11, ln11, r⟩ := rn_steps 1 (19, [some (.ref 540), x1, some (.int b2), some (.int b3)], [.int b3, .int b2], aa_H g) rfl r
    obtain ⟨hd13, n12, ln12, r⟩ := rn_div rfl r
    have r : rn_s _ 267 (20, [some (.ref 540), x1, some (.int b2), some (.int b3)], [.int (b2 / b3)], aa_H g) v h := r
    obtain ⟨n14, ln14, r⟩ := rn_steps 0 (22, [some (.ref 540), x1, some (.int b2), some (.int b3)], [.int 9, .int (b2 / b3)], aa_H g) rfl r
    refine rn_ic (lp_q (ig_s v h) d f) rfl decide_eq_true_iff.symm r (fun c15 l16n l16 r => ?_) (fun c15 l16n l16 r => ?_)
    · exact dn_267_33 x1 jx1 r
    · obtain ⟨n17, ln17, r⟩ := rn_steps 4 (17, [some (.ref 540), x1, some (.int b2), some (.int (b3 * 10))], [], aa_H g) rfl r
      exact ih _ (by omega) (by omega) (b3 * 10) x1 jx1 r
theorem dn_267_17 {v : Option Value} {h : zz_H} {n : Nat} {g : aa_G} {b2 : Int32} {b3 : Int32}  (x1 : Option Value) (jx1 : rn_jk x1) (r : rn_s n 267 (17, [some (.ref 540), x1, some (.int b2), some (.int b3)], [], aa_H g) v h) : (ig_s v h) (fn_267_17 g b2 b3) := dn_267_17l  n (Nat.le_refl n) b3 x1 jx1 r
noncomputable def fn_267_15 (g : aa_G) (b2 : Int32) : aa_G := fn_267_17 g b2 1
theorem dn_267_15 {v : Option Value} {h : zz_H} {n : Nat} {g : aa_G} {b2 : Int32}  (x1 x3 : Option Value) (jx1 : rn_jk x1) (jx3 : rn_jk x3) (r : rn_s n 267 (15, [some (.ref 540), x1, some (.int b2), x3], [], aa_H g) v h) : ig_s v h (fn_267_15 g b2) := by
  unfold fn_267_15
  obtain ⟨n10, ln10, r⟩ := rn_steps 1 (17, [some (.ref 540), x1, some (.int b2), some (.int 1)], [], aa_H g) rfl r
  exact dn_267_17 x1 jx1 r
noncomputable def fn_267 (g : aa_G) (a1 : Int32) : aa_G := if 0 ≤ a1 then fn_267_15 g (fn_227 a1) else fn_267_15 (fn_266 g 45) (fn_227 a1)
theorem dn_267 {v : Option Value} {h : zz_H} {n : Nat} {g : aa_G} {a1 : Int32}  (r : rn_s n 267 (0, zz_in [.ref 540, .int a1] (zz_nl 267), [], aa_H g) v h) : ig_s v h (fn_267 g a1) := by
  have r : rn_s n 267 (0, [some (.ref 540), some (.int a1), none, none], [], aa_H g) v h := r
  unfold fn_267
  obtain ⟨n1, ln1, r⟩ := rn_steps 0 (1, [some (.ref 540), some (.int a1), none, none], [.int a1], aa_H g) rfl r
  obtain ⟨_, n2, v1, h1, -, ln2, rc, r⟩ := rn_call (m2 := 227) (as := [.int a1]) (rest := []) rfl rfl r
  obtain ⟨rfl, rfl⟩ := dn_227 rc
  have r : rn_s _ 267 (4, [some (.ref 540), some (.int a1), none, none], [.int (fn_227 a1)], aa_H g) v h := r
  obtain ⟨n4, ln4, r⟩ := rn_steps 1 (6, [some (.ref 540), some (.int a1), some (.int (fn_227 a1)), none], [.int a1], aa_H g) rfl r
  refine rn_if (ig_s v h) rfl decide_eq_true_iff.symm r (fun c5 l6n l6 r => ?_) (fun c5 l6n l6 r => ?_)
  · exact dn_267_15 (some (.int a1)) none rn_ji rn_jn r
  · obtain ⟨n7, ln7, r⟩ := rn_steps 1 (12, [some (.ref 540), some (.int a1), some (.int (fn_227 a1)), none], [.int 45, .ref 540], aa_H g) rfl r
    obtain ⟨_, n8, v1, h1, -, ln8, rc, r⟩ := rn_call (m2 := 266) (as := [.ref 540, .int 45]) (rest := []) rfl rfl r
    obtain ⟨rfl, rfl⟩ := dn_266 rc
    have r : rn_s _ 267 (15, [some (.ref 540), some (.int a1), some (.int (fn_227 a1)), none], [], aa_H (fn_266 g 45)) v h := r
    exact dn_267_15 (some (.int a1)) none rn_ji rn_jn r
-- 268: UnequalHoursModel writePoint
noncomputable def fn_268_98 (g : aa_G)  : aa_G := fn_266 g 59
theorem dn_268_98 {v : Option Value} {h : zz_H} {n : Nat} {g : aa_G}   (x1 x2 : Option Value) (jx1 : rn_jk x1) (jx2 : rn_jk x2) (r : rn_s n 268 (98, [some (.ref 540), x1, x2], [], aa_H g) v h) : ig_s v h (fn_268_98 g) := by
  unfold fn_268_98
  obtain ⟨n42, ln42, r⟩ := rn_steps 1 (101, [some (.ref 540), x1, x2], [.int 59, .ref 540], aa_H g) rfl r
  obtain ⟨_, n43, v1, h1, -, ln43, rc, r⟩ := rn_call (m2 := 266) (as := [.ref 540, .int 59]) (rest := []) rfl rfl r
  obtain ⟨rfl, rfl⟩ := dn_266 rc
  have r : rn_s _ 268 (104, [some (.ref 540), x1, x2], [], aa_H (fn_266 g 59)) v h := r
  exact rn_ret 1 rfl r
noncomputable def fn_268_86 (g : aa_G) (b1 : Int32) : aa_G := fn_268_98 (fn_267 g (g 541 (b1 + 2).toNatClampNeg))
theorem dn_268_86 {v : Option Value} {h : zz_H} {n : Nat} {g : aa_G} {b1 : Int32}  (x2 : Option Value) (jx2 : rn_jk x2) (r : rn_s n 268 (86, [some (.ref 540), some (.int b1), x2], [], aa_H g) v h) : ig_s v h (fn_268_86 g b1) := by
  unfold fn_268_86
  obtain ⟨n45, ln45, r⟩ := rn_steps 5 (94, [some (.ref 540), some (.int b1), x2], [.int (b1 + 2), .ref 541, .ref 540], aa_H g) rfl r
  obtain ⟨hb47, n46, ln46, r⟩ := rn_ial (k := 541) rfl ⟨by decide, by decide⟩ rfl r
  have r : rn_s _ 268 (95, [some (.ref 540), some (.int b1), x2], [.int (g 541 (b1 + 2).toNatClampNeg), .ref 540], aa_H g) v h := r
  obtain ⟨_, n48, v1, h1, -, ln48, rc, r⟩ := rn_call (m2 := 267) (as := [.ref 540, .int (g 541 (b1 + 2).toNatClampNeg)]) (rest := []) rfl rfl r
  obtain ⟨rfl, rfl⟩ := dn_267 rc
  have r : rn_s _ 268 (98, [some (.ref 540), some (.int b1), x2], [], aa_H (fn_267 g (g 541 (b1 + 2).toNatClampNeg))) v h := r
  exact dn_268_98 (some (.int b1)) x2 rn_ji jx2 r
noncomputable def fn_268_76 (g : aa_G) (b1 : Int32) (b2 : Int32) : aa_G := if b2 ≠ 0 then fn_268_98 g else fn_268_86 (fn_266 g 44) b1
theorem dn_268_76 {v : Option Value} {h : zz_H} {n : Nat} {g : aa_G} {b1 : Int32} {b2 : Int32}  (r : rn_s n 268 (76, [some (.ref 540), some (.int b1), some (.int b2)], [], aa_H g) v h) : ig_s v h (fn_268_76 g b1 b2) := by
  unfold fn_268_76
  obtain ⟨n36, ln36, r⟩ := rn_steps 0 (77, [some (.ref 540), some (.int b1), some (.int b2)], [.int b2], aa_H g) rfl r
  refine rn_if (ig_s v h) rfl decide_eq_true_iff.symm r (fun c37 l38n l38 r => ?_) (fun c37 l38n l38 r => ?_)
  · exact dn_268_98 (some (.int b1)) (some (.int b2)) rn_ji rn_ji r
  · obtain ⟨n39, ln39, r⟩ := rn_steps 1 (83, [some (.ref 540), some (.int b1), some (.int b2)], [.int 44, .ref 540], aa_H g) rfl r
    obtain ⟨_, n40, v1, h1, -, ln40, rc, r⟩ := rn_call (m2 := 266) (as := [.ref 540, .int 44]) (rest := []) rfl rfl r
    obtain ⟨rfl, rfl⟩ := dn_266 rc
    have r : rn_s _ 268 (86, [some (.ref 540), some (.int b1), some (.int b2)], [], aa_H (fn_266 g 44)) v h := r
    exact dn_268_86 (some (.int b2)) rn_ji r
noncomputable def fn_268_73 (g : aa_G) (b1 : Int32) (b2 : Int32) (s0 : Int32) : aa_G := fn_268_76 (fn_267 g s0) b1 b2
theorem dn_268_73 {v : Option Value} {h : zz_H} {n : Nat} {g : aa_G} {b1 : Int32} {b2 : Int32} {s0 : Int32}  (r : rn_s n 268 (73, [some (.ref 540), some (.int b1), some (.int b2)], [.int s0, .ref 540], aa_H g) v h) : ig_s v h (fn_268_73 g b1 b2 s0) := by
  unfold fn_268_73
  obtain ⟨_, n34, v1, h1, -, ln34, rc, r⟩ := rn_call (m2 := 267) (as := [.ref 540, .int s0]) (rest := []) rfl rfl r
  obtain ⟨rfl, rfl⟩ := dn_267 rc
  have r : rn_s _ 268 (76, [some (.ref 540), some (.int b1), some (.int b2)], [], aa_H (fn_267 g s0)) v h := r
  exact dn_268_76 r
noncomputable def fn_268_49 (g : aa_G) (b1 : Int32) (b2 : Int32) : aa_G := if b2 = 0 then fn_268_73 g b1 b2 (g 541 (b1 + 1).toNatClampNeg) else fn_268_73 g b1 b2 (g 541 (b1 + 3).toNatClampNeg)
theorem dn_268_49 {v : Option Value} {h : zz_H} {n : Nat} {g : aa_G} {b1 : Int32} {b2 : Int32}  (r : rn_s n 268 (49, [some (.ref 540), some (.int b1), some (.int b2)], [], aa_H g) v h) : ig_s v h (fn_268_49 g b1 b2) := by
  unfold fn_268_49
  obtain ⟨n24, ln24, r⟩ := rn_steps 1 (51, [some (.ref 540), some (.int b1), some (.int b2)], [.int b2, .ref 540], aa_H g) rfl r
  refine rn_if (ig_s v h) rfl decide_eq_true_iff.symm r (fun c25 l26n l26 r => ?_) (fun c25 l26n l26 r => ?_)
  · obtain ⟨n27, ln27, r⟩ := rn_steps 4 (72, [some (.ref 540), some (.int b1), some (.int b2)], [.int (b1 + 1), .ref 541, .ref 540], aa_H g) rfl r
    obtain ⟨hb29, n28, ln28, r⟩ := rn_ial (k := 541) rfl ⟨by decide, by decide⟩ rfl r
    have r : rn_s _ 268 (73, [some (.ref 540), some (.int b1), some (.int b2)], [.int (g 541 (b1 + 1).toNatClampNeg), .ref 540], aa_H g) v h := r
    exact dn_268_73 r
  · obtain ⟨n30, ln30, r⟩ := rn_steps 4 (61, [some (.ref 540), some (.int b1), some (.int b2)], [.int (b1 + 3), .ref 541, .ref 540], aa_H g) rfl r
    obtain ⟨hb32, n31, ln31, r⟩ := rn_ial (k := 541) rfl ⟨by decide, by decide⟩ rfl r
    have r : rn_s _ 268 (62, [some (.ref 540), some (.int b1), some (.int b2)], [.int (g 541 (b1 + 3).toNatClampNeg), .ref 540], aa_H g) v h := r
    obtain ⟨n33, ln33, r⟩ := rn_steps 0 (73, [some (.ref 540), some (.int b1), some (.int b2)], [.int (g 541 (b1 + 3).toNatClampNeg), .ref 540], aa_H g) rfl r
    exact dn_268_73 r
noncomputable def fn_268_43 (g : aa_G) (b1 : Int32) (b2 : Int32) : aa_G := fn_268_49 (fn_266 g 44) b1 b2
theorem dn_268_43 {v : Option Value} {h : zz_H} {n : Nat} {g : aa_G} {b1 : Int32} {b2 : Int32}  (r : rn_s n 268 (43, [some (.ref 540), some (.int b1), some (.int b2)], [], aa_H g) v h) : ig_s v h (fn_268_43 g b1 b2) := by
  unfold fn_268_43
  obtain ⟨n21, ln21, r⟩ := rn_steps 1 (46, [some (.ref 540), some (.int b1), some (.int b2)], [.int 44, .ref 540], aa_H g) rfl r
  obtain ⟨_, n22, v1, h1, -, ln22, rc, r⟩ := rn_call (m2 := 266) (as := [.ref 540, .int 44]) (rest := []) rfl rfl r
  obtain ⟨rfl, rfl⟩ := dn_266 rc
  have r : rn_s _ 268 (49, [some (.ref 540), some (.int b1), some (.int b2)], [], aa_H (fn_266 g 44)) v h := r
  exact dn_268_49 r
noncomputable def fn_268_33 (g : aa_G) (b1 : Int32) (b2 : Int32) : aa_G := fn_268_43 (fn_267 g (g 541 b1.toNatClampNeg)) b1 b2
theorem dn_268_33 {v : Option Value} {h : zz_H} {n : Nat} {g : aa_G} {b1 : Int32} {b2 : Int32}  (r : rn_s n 268 (33, [some (.ref 540), some (.int b1), some (.int b2)], [], aa_H g) v h) : ig_s v h (fn_268_33 g b1 b2) := by
  unfold fn_268_33
  obtain ⟨n16, ln16, r⟩ := rn_steps 3 (39, [some (.ref 540), some (.int b1), some (.int b2)], [.int b1, .ref 541, .ref 540], aa_H g) rfl r
  obtain ⟨hb18, n17, ln17, r⟩ := rn_ial (k := 541) rfl ⟨by decide, by decide⟩ rfl r
  have r : rn_s _ 268 (40, [some (.ref 540), some (.int b1), some (.int b2)], [.int (g 541 b1.toNatClampNeg), .ref 540], aa_H g) v h := r
  obtain ⟨_, n19, v1, h1, -, ln19, rc, r⟩ := rn_call (m2 := 267) (as := [.ref 540, .int (g 541 b1.toNatClampNeg)]) (rest := []) rfl rfl r
  obtain ⟨rfl, rfl⟩ := dn_267 rc
  have r : rn_s _ 268 (43, [some (.ref 540), some (.int b1), some (.int b2)], [], aa_H (fn_267 g (g 541 b1.toNatClampNeg))) v h := r
  exact dn_268_43 r
noncomputable def fn_268_30 (g : aa_G) (b1 : Int32) (b2 : Int32) (s0 : Int32) : aa_G := fn_268_33 (fn_266 g s0) b1 b2
theorem dn_268_30 {v : Option Value} {h : zz_H} {n : Nat} {g : aa_G} {b1 : Int32} {b2 : Int32} {s0 : Int32}  (r : rn_s n 268 (30, [some (.ref 540), some (.int b1), some (.int b2)], [.int s0, .ref 540], aa_H g) v h) : ig_s v h (fn_268_30 g b1 b2 s0) := by
  unfold fn_268_30
  obtain ⟨_, n14, v1, h1, -, ln14, rc, r⟩ := rn_call (m2 := 266) (as := [.ref 540, .int s0]) (rest := []) rfl rfl r
  obtain ⟨rfl, rfl⟩ := dn_266 rc
  have r : rn_s _ 268 (33, [some (.ref 540), some (.int b1), some (.int b2)], [], aa_H (fn_266 g s0)) v h := r
  exact dn_268_33 r
noncomputable def fn_268_17 (g : aa_G) (b1 : Int32) (s0 : Int32) : aa_G := if s0 = 0 then fn_268_30 g b1 s0 112 else fn_268_30 g b1 s0 120
theorem dn_268_17 {v : Option Value} {h : zz_H} {n : Nat} {g : aa_G} {b1 : Int32} {s0 : Int32}  (x2 : Option Value) (jx2 : rn_jk x2) (r : rn_s n 268 (17, [some (.ref 540), some (.int b1), x2], [.int s0], aa_H g) v h) : ig_s v h (fn_268_17 g b1 s0) := by
  unfold fn_268_17
  obtain ⟨n9, ln9, r⟩ := rn_steps 2 (20, [some (.ref 540), some (.int b1), some (.int s0)], [.int s0, .ref 540], aa_H g) rfl r
  refine rn_if (ig_s v h) rfl decide_eq_true_iff.symm r (fun c10 l11n l11 r => ?_) (fun c10 l11n l11 r => ?_)
  · obtain ⟨n12, ln12, r⟩ := rn_steps 0 (30, [some (.ref 540), some (.int b1), some (.int s0)], [.int 112, .ref 540], aa_H g) rfl r
    exact dn_268_30 r
  · obtain ⟨n13, ln13, r⟩ := rn_steps 1 (30, [some (.ref 540), some (.int b1), some (.int s0)], [.int 120, .ref 540], aa_H g) rfl r
    exact dn_268_30 r
noncomputable def fn_268 (g : aa_G) (a1 : Int32) : aa_G := if (g 541 (a1 + 3).toNatClampNeg) = (-1) then fn_268_17 g a1 0 else fn_268_17 g a1 1
theorem dn_268 {v : Option Value} {h : zz_H} {n : Nat} {g : aa_G} {a1 : Int32}  (r : rn_s n 268 (0, zz_in [.ref 540, .int a1] (zz_nl 268), [], aa_H g) v h) : ig_s v h (fn_268 g a1) := by
  have r : rn_s n 268 (0, [some (.ref 540), some (.int a1), none], [], aa_H g) v h := r
  unfold fn_268
  obtain ⟨n1, ln1, r⟩ := rn_steps 4 (7, [some (.ref 540), some (.int a1), none], [.int (a1 + 3), .ref 541], aa_H g) rfl r
  obtain ⟨hb3, n2, ln2, r⟩ := rn_ial (k := 541) rfl ⟨by decide, by decide⟩ rfl r
  have r : rn_s _ 268 (8, [some (.ref 540), some (.int a1), none], [.int (g 541 (a1 + 3).toNatClampNeg)], aa_H g) v h := r
  obtain ⟨n4, ln4, r⟩ := rn_steps 0 (9, [some (.ref 540), some (.int a1), none], [.int (-1), .int (g 541 (a1 + 3).toNatClampNeg)], aa_H g) rfl r
  refine rn_ic (ig_s v h) rfl decide_eq_true_iff.symm r (fun c5 l6n l6 r => ?_) (fun c5 l6n l6 r => ?_)
  · obtain ⟨n7, ln7, r⟩ := rn_steps 0 (17, [some (.ref 540), some (.int a1), none], [.int 0], aa_H g) rfl r
    exact dn_268_17 none rn_jn r
  · obtain ⟨n8, ln8, r⟩ := rn_steps 1 (17, [some (.ref 540), some (.int a1), none], [.int 1], aa_H g) rfl r
    exact dn_268_17 none rn_jn r
-- 265: UnequalHoursModel write
noncomputable def fn_265_62 (g : aa_G) (b1 : Int32) (b2 : Int32) : (aa_G × Int32) ⊕ (Int32 × aa_G) := .inl (g, b2 + 1)
theorem dn_265_62 {v : Option Value} {h : zz_H} {n : Nat} {g : aa_G} {b1 : Int32} {b2 : Int32} (P : (aa_G × Int32) ⊕ (Int32 × aa_G) → Prop) (hO0 : ∀ n2, n2 < n → ∀ (yg : aa_G) (yb2 : Int32), rn_s n2 265 (38, [some (.ref 540), some (.int b1), some (.int yb2)], [], aa_H yg) v h → P (.inl (yg, yb2))) (hR : ∀ E, iw_s v h E → P (.inr E))  (r : rn_s n 265 (62, [some (.ref 540), some (.int b1), some (.int b2)], [], aa_H g) v h) : P (fn_265_62 g b1 b2) := by
  unfold fn_265_62
  obtain ⟨n33, ln33, r⟩ := rn_steps 1 (38, [some (.ref 540), some (.int b1), some (.int (b2 + 1))], [], aa_H g) rfl r
  exact hO0 _ (by omega) g (b2 + 1) r
noncomputable def fn_265_38b (g : aa_G) (b1 : Int32) (b2 : Int32) : (aa_G × Int32) ⊕ (Int32 × aa_G) := if (g 541 ((fn_164 b1) + 1).toNatClampNeg) ≤ b2 then .inr (g 540 37, g) else fn_265_62 (fn_268 g (fn_175 b1 b2)) b1 b2
noncomputable def fn_265_38 (g : aa_G) (b1 : Int32) (b2 : Int32) : Int32 × aa_G := lp_f (0, g) (fun z : (aa_G × Int32) => fn_265_38b z.1 b1 z.2) (g, b2)
theorem dn_265_38l {v : Option Value} {h : zz_H} {N : Nat} {b1 : Int32} {d : Int32 × aa_G} : ∀ (n : Nat), n ≤ N → ∀ (g : aa_G) (b2 : Int32), rn_s n 265 (38, [some (.ref 540), some (.int b1), some (.int b2)], [], aa_H g) v h → (iw_s v h) (lp_f d (fun z : (aa_G × Int32) => fn_265_38b z.1 b1 z.2) (g, b2)) := by
  generalize hf : (fun z : (aa_G × Int32) => fn_265_38b z.1 b1 z.2) = f
  intro n
  induction n using Nat.strongRecOn with
  | _ n ih =>
    intro hN g b2  r
    refine lp_go ?_
    rw [← congrFun hf (g, b2)]
    show lp_q (iw_s v h) d f (fn_265_38b g b1 b2)
    unfold fn_265_38b
    obtain ⟨n19, ln19, r⟩ := rn_steps 3 (44, [some (.ref 540), some (.int b1), some (.int b2)], [.int b1, .ref 541, .int b2], aa_H g) rfl r
    obtain ⟨_, n20, v1, h1, -, ln20, rc, r⟩ := rn_call (m2 := 164) (as := [.int b1]) (rest := [.ref 541, .int b2]) rfl rfl r
    obtain ⟨rfl, rfl⟩ := dn_164 rc
    have r : rn_s _ 265 (47, [some (.ref 540), some (.int b1), some (.int b2)], [.int (fn_164 b1), .ref 541, .int b2], aa_H g) v h := r
    obtain ⟨n22, ln22, r⟩ := rn_steps 1 (49, [some (.ref 540), some (.int b1), some (.int b2)], [.int ((fn_164 b1) + 1), .ref 541, .int b2], aa_H g) rfl r
    obtain ⟨hb24, n23, ln23, r⟩ := rn_ial (k := 541) rfl ⟨by decide, by decide⟩ rfl r
    have r : rn_s _ 265 (50, [some (.ref 540), some (.int b1), some (.int b2)], [.int (g 541 ((fn_164 b1) + 1).toNatClampNeg), .int b2], aa_H g) v h := r
    refine rn_ic (lp_q (iw_s v h) d f) rfl decide_eq_true_iff.symm r (fun c25 l26n l26 r => ?_) (fun c25 l26n l26 r => ?_)
    · obtain ⟨n27, ln27, r⟩ := rn_steps 1 (72, [some (.ref 540), some (.int b1), some (.int b2)], [.int (g 540 37)], aa_H g) rfl r
      exact rn_ire rfl r
    · obtain ⟨n28, ln28, r⟩ := rn_steps 2 (56, [some (.ref 540), some (.int b1), some (.int b2)], [.int b2, .int b1, .ref 540], aa_H g) rfl r
      obtain ⟨_, n29, v1, h1, -, ln29, rc, r⟩ := rn_call (m2 := 175) (as := [.int b1, .int b2]) (rest := [.ref 540]) rfl rfl r
      obtain ⟨rfl, rfl⟩ := dn_175 rc
      have r : rn_s _ 265 (59, [some (.ref 540), some (.int b1), some (.int b2)], [.int (fn_175 b1 b2), .ref 540], aa_H g) v h := r
      obtain ⟨_, n31, v1, h1, -, ln31, rc, r⟩ := rn_call (m2 := 268) (as := [.ref 540, .int (fn_175 b1 b2)]) (rest := []) rfl rfl r
      obtain ⟨rfl, rfl⟩ := dn_268 rc
      have r : rn_s _ 265 (62, [some (.ref 540), some (.int b1), some (.int b2)], [], aa_H (fn_268 g (fn_175 b1 b2))) v h := r
      exact dn_265_62 (lp_q (iw_s v h) d f) (fun n2 l2 => ih n2 (by omega) (by omega)) (fun z hz => hz) r
theorem dn_265_38 {v : Option Value} {h : zz_H} {n : Nat} {g : aa_G} {b1 : Int32} {b2 : Int32}  (r : rn_s n 265 (38, [some (.ref 540), some (.int b1), some (.int b2)], [], aa_H g) v h) : (iw_s v h) (fn_265_38 g b1 b2) := dn_265_38l  n (Nat.le_refl n) g b2 r
noncomputable def fn_265_36 (g : aa_G) (b1 : Int32) : Int32 × aa_G := fn_265_38 g b1 0
theorem dn_265_36 {v : Option Value} {h : zz_H} {n : Nat} {g : aa_G} {b1 : Int32}  (x2 : Option Value) (jx2 : rn_jk x2) (r : rn_s n 265 (36, [some (.ref 540), some (.int b1), x2], [], aa_H g) v h) : iw_s v h (fn_265_36 g b1) := by
  unfold fn_265_36
  obtain ⟨n18, ln18, r⟩ := rn_steps 1 (38, [some (.ref 540), some (.int b1), some (.int 0)], [], aa_H g) rfl r
  exact dn_265_38 r
noncomputable def fn_265_30 (g : aa_G) (b1 : Int32) : Int32 × aa_G := fn_265_36 (fn_266 g 59) b1
theorem dn_265_30 {v : Option Value} {h : zz_H} {n : Nat} {g : aa_G} {b1 : Int32}  (x2 : Option Value) (jx2 : rn_jk x2) (r : rn_s n 265 (30, [some (.ref 540), some (.int b1), x2], [], aa_H g) v h) : iw_s v h (fn_265_30 g b1) := by
  unfold fn_265_30
  obtain ⟨n15, ln15, r⟩ := rn_steps 1 (33, [some (.ref 540), some (.int b1), x2], [.int 59, .ref 540], aa_H g) rfl r
  obtain ⟨_, n16, v1, h1, -, ln16, rc, r⟩ := rn_call (m2 := 266) (as := [.ref 540, .int 59]) (rest := []) rfl rfl r
  obtain ⟨rfl, rfl⟩ := dn_266 rc
  have r : rn_s _ 265 (36, [some (.ref 540), some (.int b1), x2], [], aa_H (fn_266 g 59)) v h := r
  exact dn_265_36 x2 jx2 r
noncomputable def fn_265_21 (g : aa_G) (b1 : Int32) : Int32 × aa_G := fn_265_30 (fn_267 g (fn_209 g b1)) b1
theorem dn_265_21 {v : Option Value} {h : zz_H} {n : Nat} {g : aa_G} {b1 : Int32}  (x2 : Option Value) (jx2 : rn_jk x2) (r : rn_s n 265 (21, [some (.ref 540), some (.int b1), x2], [], aa_H g) v h) : iw_s v h (fn_265_21 g b1) := by
  unfold fn_265_21
  obtain ⟨n10, ln10, r⟩ := rn_steps 2 (24, [some (.ref 540), some (.int b1), x2], [.int b1, .ref 540, .ref 540], aa_H g) rfl r
  obtain ⟨_, n11, v1, h1, -, ln11, rc, r⟩ := rn_call (m2 := 209) (as := [.ref 540, .int b1]) (rest := [.ref 540]) rfl rfl r
  obtain ⟨rfl, rfl⟩ := dn_209 rc
  have r : rn_s _ 265 (27, [some (.ref 540), some (.int b1), x2], [.int (fn_209 g b1), .ref 540], aa_H g) v h := r
  obtain ⟨_, n13, v1, h1, -, ln13, rc, r⟩ := rn_call (m2 := 267) (as := [.ref 540, .int (fn_209 g b1)]) (rest := []) rfl rfl r
  obtain ⟨rfl, rfl⟩ := dn_267 rc
  have r : rn_s _ 265 (30, [some (.ref 540), some (.int b1), x2], [], aa_H (fn_267 g (fn_209 g b1))) v h := r
  exact dn_265_30 x2 jx2 r
noncomputable def fn_265 (g : aa_G) (a1 : Int32) : Int32 × aa_G := if (fn_192 g a1) ≠ 0 then fn_265_21 (fn_266 (zz_w g 540 37 0) 116) a1 else (-1, g)
theorem dn_265 {v : Option Value} {h : zz_H} {n : Nat} {g : aa_G} {a1 : Int32}  (r : rn_s n 265 (0, zz_in [.ref 540, .int a1] (zz_nl 265), [], aa_H g) v h) : iw_s v h (fn_265 g a1) := by
  have r : rn_s n 265 (0, [some (.ref 540), some (.int a1), none], [], aa_H g) v h := r
  unfold fn_265
  obtain ⟨n1, ln1, r⟩ := rn_steps 1 (2, [some (.ref 540), some (.int a1), none], [.int a1, .ref 540], aa_H g) rfl r
  obtain ⟨_, n2, v1, h1, -, ln2, rc, r⟩ := rn_call (m2 := 192) (as := [.ref 540, .int a1]) (rest := []) rfl rfl r
  obtain ⟨rfl, rfl⟩ := dn_192 rc
  have r : rn_s _ 265 (5, [some (.ref 540), some (.int a1), none], [.int (fn_192 g a1)], aa_H g) v h := r
  refine rn_if (iw_s v h) rfl decide_eq_true_iff.symm r (fun c4 l5n l5 r => ?_) (fun c4 l5n l5 r => ?_)
  · obtain ⟨n6, ln6, r⟩ := rn_steps 4 (18, [some (.ref 540), some (.int a1), none], [.int 116, .ref 540], aa_H (zz_w g 540 37 0)) rfl r
    obtain ⟨_, n7, v1, h1, -, ln7, rc, r⟩ := rn_call (m2 := 266) (as := [.ref 540, .int 116]) (rest := []) rfl rfl r
    obtain ⟨rfl, rfl⟩ := dn_266 rc
    have r : rn_s _ 265 (21, [some (.ref 540), some (.int a1), none], [], aa_H (fn_266 (zz_w g 540 37 0) 116)) v h := r
    exact dn_265_21 none rn_jn r
  · obtain ⟨n9, ln9, r⟩ := rn_steps 0 (9, [some (.ref 540), some (.int a1), none], [.int (-1)], aa_H g) rfl r
    exact rn_ire rfl r
-- 269: UnequalHoursModel octet
noncomputable def fn_269 (g : aa_G) (a1 : Int32) : Int32 := if (fn_154 a1 0 ((g 540 37) - 1)) = 0 then -1 else g 553 a1.toNatClampNeg
theorem dn_269 {v : Option Value} {h : zz_H} {n : Nat} {g : aa_G} {a1 : Int32}  (r : rn_s n 269 (0, zz_in [.ref 540, .int a1] (zz_nl 269), [], aa_H g) v h) : ir_s g v h (fn_269 g a1) := by
  have r : rn_s n 269 (0, [some (.ref 540), some (.int a1)], [], aa_H g) v h := r
  unfold fn_269
  obtain ⟨n1, ln1, r⟩ := rn_steps 5 (8, [some (.ref 540), some (.int a1)], [.int ((g 540 37) - 1), .int 0, .int a1], aa_H g) rfl r
  obtain ⟨_, n2, v1, h1, -, ln2, rc, r⟩ := rn_call (m2 := 154) (as := [.int a1, .int 0, .int ((g 540 37) - 1)]) (rest := []) rfl rfl r
  obtain ⟨rfl, rfl⟩ := dn_154 rc
  have r : rn_s _ 269 (11, [some (.ref 540), some (.int a1)], [.int (fn_154 a1 0 ((g 540 37) - 1))], aa_H g) v h := r
  refine rn_if (ir_s g v h) rfl decide_eq_true_iff.symm r (fun c4 l5n l5 r => ?_) (fun c4 l5n l5 r => ?_)
  · obtain ⟨n6, ln6, r⟩ := rn_steps 0 (24, [some (.ref 540), some (.int a1)], [.int (-1)], aa_H g) rfl r
    exact rn_ire rfl r
  · obtain ⟨n7, ln7, r⟩ := rn_steps 2 (19, [some (.ref 540), some (.int a1)], [.int a1, .ref 553], aa_H g) rfl r
    obtain ⟨hb9, n8, ln8, r⟩ := rn_bal (k := 553) rfl ⟨by decide, by decide⟩ rfl (by decide) r
    have r : rn_s _ 269 (20, [some (.ref 540), some (.int a1)], [.int (g 553 a1.toNatClampNeg)], aa_H g) v h := r
    obtain ⟨n10, ln10, r⟩ := rn_steps 0 (24, [some (.ref 540), some (.int a1)], [.int (g 553 a1.toNatClampNeg)], aa_H g) rfl r
    exact rn_ire rfl r
-- 151: UnequalHoursModel undo
noncomputable def fn_151_31 (g : aa_G)  : Int32 × aa_G := (g 540 1, g)
theorem dn_151_31 {v : Option Value} {h : zz_H} {n : Nat} {g : aa_G}   (x0 : Option Value) (jx0 : rn_jk x0) (r : rn_s n 151 (31, [x0], [.ref 540], aa_H g) v h) : iw_s v h (fn_151_31 g) := by
  unfold fn_151_31
  obtain ⟨n9, ln9, r⟩ := rn_steps 0 (34, [x0], [.int (g 540 1)], aa_H g) rfl r
  exact rn_ire rfl r
noncomputable def fn_151 (g : aa_G)  : Int32 × aa_G := if (g 540 1) ≠ 0 then fn_151_31 (fn_152 (zz_w g 540 1 ((g 540 1) - 1)) (3 + ((g 540 1) - 1)) 0) else (-1, g)
theorem dn_151 {v : Option Value} {h : zz_H} {n : Nat} {g : aa_G}   (r : rn_s n 151 (0, zz_in [.ref 540] (zz_nl 151), [], aa_H g) v h) : iw_s v h (fn_151 g) := by
  have r : rn_s n 151 (0, [some (.ref 540)], [], aa_H g) v h := r
  unfold fn_151
  obtain ⟨n1, ln1, r⟩ := rn_steps 1 (4, [some (.ref 540)], [.int (g 540 1)], aa_H g) rfl r
  refine rn_if (iw_s v h) rfl decide_eq_true_iff.symm r (fun c2 l3n l3 r => ?_) (fun c2 l3n l3 r => ?_)
  · obtain ⟨n4, ln4, r⟩ := rn_steps 11 (27, [some (.ref 540)], [.int 0, .int (3 + ((g 540 1) - 1)), .ref 540], aa_H (zz_w g 540 1 ((g 540 1) - 1))) rfl r
    obtain ⟨_, n5, v1, h1, -, ln5, rc, r⟩ := rn_call (m2 := 152) (as := [.ref 540, .int (3 + ((g 540 1) - 1)), .int 0]) (rest := []) rfl rfl r
    obtain ⟨rfl, rfl⟩ := dn_152 rc
    have r : rn_s _ 151 (30, [some (.ref 540)], [], aa_H (fn_152 (zz_w g 540 1 ((g 540 1) - 1)) (3 + ((g 540 1) - 1)) 0)) v h := r
    obtain ⟨n7, ln7, r⟩ := rn_steps 0 (31, [some (.ref 540)], [.ref 540], aa_H (fn_152 (zz_w g 540 1 ((g 540 1) - 1)) (3 + ((g 540 1) - 1)) 0)) rfl r
    exact dn_151_31 (some (.ref 540)) rn_jr r
  · obtain ⟨n8, ln8, r⟩ := rn_steps 0 (8, [some (.ref 540)], [.int (-1)], aa_H g) rfl r
    exact rn_ire rfl r
-- 153: UnequalHoursModel keep
noncomputable def fn_153 (g : aa_G) (a1 : Int32) : Int32 × aa_G := if (fn_154 a1 0 1) ≠ 0 then (1, zz_w (fn_152 g 0 (1 + a1)) 542 a1.toNatClampNeg (vp_nar .boolean 1)) else (0, g)
theorem dn_153 {v : Option Value} {h : zz_H} {n : Nat} {g : aa_G} {a1 : Int32}  (r : rn_s n 153 (0, zz_in [.ref 540, .int a1] (zz_nl 153), [], aa_H g) v h) : iw_s v h (fn_153 g a1) := by
  have r : rn_s n 153 (0, [some (.ref 540), some (.int a1)], [], aa_H g) v h := r
  unfold fn_153
  obtain ⟨n1, ln1, r⟩ := rn_steps 2 (3, [some (.ref 540), some (.int a1)], [.int 1, .int 0, .int a1], aa_H g) rfl r
  obtain ⟨_, n2, v1, h1, -, ln2, rc, r⟩ := rn_call (m2 := 154) (as := [.int a1, .int 0, .int 1]) (rest := []) rfl rfl r
  obtain ⟨rfl, rfl⟩ := dn_154 rc
  have r : rn_s _ 153 (6, [some (.ref 540), some (.int a1)], [.int (fn_154 a1 0 1)], aa_H g) v h := r
  refine rn_if (iw_s v h) rfl decide_eq_true_iff.symm r (fun c4 l5n l5 r => ?_) (fun c4 l5n l5 r => ?_)
  · obtain ⟨n6, ln6, r⟩ := rn_steps 4 (16, [some (.ref 540), some (.int a1)], [.int (1 + a1), .int 0, .ref 540], aa_H g) rfl r
    obtain ⟨_, n7, v1, h1, -, ln7, rc, r⟩ := rn_call (m2 := 152) (as := [.ref 540, .int 0, .int (1 + a1)]) (rest := []) rfl rfl r
    obtain ⟨rfl, rfl⟩ := dn_152 rc
    have r : rn_s _ 153 (19, [some (.ref 540), some (.int a1)], [], aa_H (fn_152 g 0 (1 + a1))) v h := r
    obtain ⟨n9, ln9, r⟩ := rn_steps 3 (25, [some (.ref 540), some (.int a1)], [.int 1, .int a1, .ref 542], aa_H (fn_152 g 0 (1 + a1))) rfl r
    obtain ⟨hb11, n10, ln10, r⟩ := rn_bas (k := 542) rfl ⟨by decide, by decide⟩ rfl (by decide) r
    have r : rn_s _ 153 (26, [some (.ref 540), some (.int a1)], [], aa_H (zz_w (fn_152 g 0 (1 + a1)) 542 a1.toNatClampNeg (vp_nar .boolean 1))) v h := r
    obtain ⟨n12, ln12, r⟩ := rn_steps 0 (27, [some (.ref 540), some (.int a1)], [.int 1], aa_H (zz_w (fn_152 g 0 (1 + a1)) 542 a1.toNatClampNeg (vp_nar .boolean 1))) rfl r
    exact rn_ire rfl r
  · obtain ⟨n13, ln13, r⟩ := rn_steps 0 (10, [some (.ref 540), some (.int a1)], [.int 0], aa_H g) rfl r
    exact rn_ire rfl r
-- 155: UnequalHoursModel restore
noncomputable def fn_155_24 (g : aa_G) (b1 : Int32) : Int32 × aa_G := (1, fn_152 g (1 + b1) 0)
theorem dn_155_24 {v : Option Value} {h : zz_H} {n : Nat} {g : aa_G} {b1 : Int32}  (r : rn_s n 155 (24, [some (.ref 540), some (.int b1)], [], aa_H g) v h) : iw_s v h (fn_155_24 g b1) := by
  unfold fn_155_24
  obtain ⟨n16, ln16, r⟩ := rn_steps 4 (29, [some (.ref 540), some (.int b1)], [.int 0, .int (1 + b1), .ref 540], aa_H g) rfl r
  obtain ⟨_, n17, v1, h1, -, ln17, rc, r⟩ := rn_call (m2 := 152) (as := [.ref 540, .int (1 + b1), .int 0]) (rest := []) rfl rfl r
  obtain ⟨rfl, rfl⟩ := dn_152 rc
  have r : rn_s _ 155 (32, [some (.ref 540), some (.int b1)], [], aa_H (fn_152 g (1 + b1) 0)) v h := r
  obtain ⟨n19, ln19, r⟩ := rn_steps 0 (33, [some (.ref 540), some (.int b1)], [.int 1], aa_H (fn_152 g (1 + b1) 0)) rfl r
  exact rn_ire rfl r
noncomputable def fn_155 (g : aa_G) (a1 : Int32) : Int32 × aa_G := if (fn_154 a1 0 1) = 0 then (0, g) else if (g 542 a1.toNatClampNeg) ≠ 0 then fn_155_24 (fn_156 g) a1 else (0, g)
theorem dn_155 {v : Option Value} {h : zz_H} {n : Nat} {g : aa_G} {a1 : Int32}  (r : rn_s n 155 (0, zz_in [.ref 540, .int a1] (zz_nl 155), [], aa_H g) v h) : iw_s v h (fn_155 g a1) := by
  have r : rn_s n 155 (0, [some (.ref 540), some (.int a1)], [], aa_H g) v h := r
  unfold fn_155
  obtain ⟨n1, ln1, r⟩ := rn_steps 2 (3, [some (.ref 540), some (.int a1)], [.int 1, .int 0, .int a1], aa_H g) rfl r
  obtain ⟨_, n2, v1, h1, -, ln2, rc, r⟩ := rn_call (m2 := 154) (as := [.int a1, .int 0, .int 1]) (rest := []) rfl rfl r
  obtain ⟨rfl, rfl⟩ := dn_154 rc
  have r : rn_s _ 155 (6, [some (.ref 540), some (.int a1)], [.int (fn_154 a1 0 1)], aa_H g) v h := r
  refine rn_if (iw_s v h) rfl decide_eq_true_iff.symm r (fun c4 l5n l5 r => ?_) (fun c4 l5n l5 r => ?_)
  · obtain ⟨n6, ln6, r⟩ := rn_steps 0 (19, [some (.ref 540), some (.int a1)], [.int 0], aa_H g) rfl r
    exact rn_ire rfl r
  · obtain ⟨n7, ln7, r⟩ := rn_steps 2 (14, [some (.ref 540), some (.int a1)], [.int a1, .ref 542], aa_H g) rfl r
    obtain ⟨hb9, n8, ln8, r⟩ := rn_bal (k := 542) rfl ⟨by decide, by decide⟩ rfl (by decide) r
    have r : rn_s _ 155 (15, [some (.ref 540), some (.int a1)], [.int (g 542 a1.toNatClampNeg)], aa_H g) v h := r
    refine rn_if (iw_s v h) rfl decide_eq_true_iff.symm r (fun c10 l11n l11 r => ?_) (fun c10 l11n l11 r => ?_)
    · obtain ⟨n12, ln12, r⟩ := rn_steps 0 (21, [some (.ref 540), some (.int a1)], [.ref 540], aa_H g) rfl r
      obtain ⟨_, n13, v1, h1, -, ln13, rc, r⟩ := rn_call (m2 := 156) (as := [.ref 540]) (rest := []) rfl rfl r
      obtain ⟨rfl, rfl⟩ := dn_156 rc
      have r : rn_s _ 155 (24, [some (.ref 540), some (.int a1)], [], aa_H (fn_156 g)) v h := r
      exact dn_155_24 r
    · obtain ⟨n15, ln15, r⟩ := rn_steps 0 (19, [some (.ref 540), some (.int a1)], [.int 0], aa_H g) rfl r
      exact rn_ire rfl r
end
section
/-! EDITS: offset(), parts() on both sides; a town that is changed -/
/-- what the BELLS' part of the relation hangs on -/
def rq_bf (B : rq_Q) : Prop := ∀ (gc gc' gm gm' : aa_G) (S r : Nat), (∀ k j, S + 2 ≤ k → k ≤ S + 11 → gc' k j = gc k j) → (∀ q, q < 399 → (q = 2 ∨ 203 ≤ q) → gm' 541 (399 * r + q) = gm 541 (399 * r + q)) → B gc gm S r → B gc' gm' S r
def qb_s (B : rq_Q) : rq_Q := fun gc gm S r => q1_s gc gm S r ∧ B gc gm S r
theorem qb_cp {B : rq_Q} (h : rq_cp B) : rq_cp (qb_s B) := fun gc gc' gm gm' S S' r r' hi hr hc hm k => ⟨q1_cp gc gc' gm gm' S S' r r' hi hr hc hm k.1, h gc gc' gm gm' S S' r r' hi hr hc hm k.2⟩
theorem tq_same {gc gc' gm gm' : aa_G} {T p : Nat} (h12 : (gm 541 (p + 1)).toInt ≤ 12) (hc : ∀ k j, T ≤ k → k ≤ T + 4 → gc' k j = gc k j) (hm : ∀ q, q < 50 → gm' 541 (p + q) = gm 541 (p + q)) (h : tq_t gc gm T p) : tq_t gc' gm' T p := by
  obtain ⟨a1, a2, a3, a4⟩ := h
  have m0 := hm 0 (by omega)
  rw [Nat.add_zero] at m0
  have m1 := hm 1 (by omega)
  refine ⟨(hc T 0 (by omega) (by omega)).trans (a1.trans m0.symm), (hc T 1 (by omega) (by omega)).trans (a2.trans m1.symm), fun i hi o o1 o2 => ?_, fun i hi => ?_⟩
  · rw [m1] at hi
    have e := hm (1 + 4 * i + o) (by omega)
    rw [show p + (1 + 4 * i + o) = p + 1 + 4 * i + o by omega] at e
    rw [hc _ i (by omega) (by omega), e]
    exact a3 i hi o o1 o2
  · rw [m1] at hi
    have e := hm (1 + 4 * i + 1) (by omega)
    have e2 := hm (1 + 4 * (i + 1) + 1) (by omega)
    rw [show p + (1 + 4 * i + 1) = p + 1 + 4 * i + 1 by omega] at e
    rw [show p + (1 + 4 * (i + 1) + 1) = p + 1 + 4 * (i + 1) + 1 by omega] at e2
    rw [e, e2]
    exact a4 i hi
section MU
variable {B : rq_Q} {gc gm gc1 gm1 gc2 gm2 : aa_G} {c e : Nat}
/-- behind a deed: the state that is now, and all that is kept, as it was -/
theorem mu_rest (hcp : rq_cp B) (hi : aa_inv gm) (h : rr_g (qb_s B) gc gm) (hd : rd_g (qb_s B) gc gm c e) (hc : cd_push gc gc1 2 e c) (hm : md_push gm gm1 0 c) (f2 : ∀ k j, ¬ (2 ≤ k ∧ k ≤ 33) → gc2 k j = gc1 k j) (f3 : ∀ k j, ¬ (k = 541 ∧ j < 399) → gm2 k j = gm1 k j) (hq : qb_s B gc2 gm2 2 0) : rr_g (qb_s B) gc2 gm2 := by
  obtain ⟨h0, h2, -, s1, s2, s3, s4, s5, s6, s7⟩ := h
  have he := hd.1.2
  obtain ⟨p1, p2, p3, p4⟩ := hc
  obtain ⟨m1, m2, m3, m4⟩ := hm
  have fc : ∀ k j, ¬ (2 ≤ k ∧ k ≤ 33) → ¬ (32 * e + 68 ≤ k ∧ k ≤ 32 * e + 99) → ¬ (k = 66 ∧ j ≤ 1) → gc2 k j = gc k j := fun k j a1 a2 a3 => (f2 k j a1).trans (p4 k j a2 a3)
  have fm : ∀ k j, ¬ (k = 541 ∧ j < 399) → ¬ (k = 541 ∧ 1197 ≤ j ∧ j < 5985) → ¬ (k = 540 ∧ j = 1) → gm2 k j = gm k j := fun k j a1 a2 a3 => (f3 k j a1).trans (m4 k j a2 a3)
  refine ⟨hq, fun k hk => ⟨?_, fun z => ?_⟩, ⟨_, _, rd_push (qb_cp hcp) hi h0 hd (cp_via p1 fun k j q1 q2 => f2 k j (by omega)) ((f2 66 0 (by omega)).trans p2) ((f2 66 1 (by omega)).trans p3) (fun k j q1 q2 q3 => fc k j (by omega) q3 (by omega)) ((f3 540 1 (by omega)).trans m1) (fun q hq => (f3 541 _ (by omega)).trans (m2 q hq)) (fun i q hq hi' => (f3 541 _ (by omega)).trans (m3 i q hq hi'))⟩, ?_⟩
  · rw [fc 453 k (by omega) (by omega) (by omega), fm 542 k (by omega) (by omega) (by omega)]
    exact (h2 k hk).1
  · rw [fm 542 k (by omega) (by omega) (by omega)] at z
    exact rq_same (qb_cp hcp) hi (by omega) (fun k' j q1 q2 => fc k' j (by omega) (by omega) (by omega)) (fun q hq => fm 541 _ (by omega) (by omega) (by omega)) ((h2 k hk).2 z)
  · refine ⟨?_, fun k hk => ?_, ?_, ?_, ?_, ?_, fun j hj => ?_⟩
    · rw [fc 454 0 (by omega) (by omega) (by omega), fm 540 4 (by omega) (by omega) (by omega)]; exact s1
    · rw [fm 543 k (by omega) (by omega) (by omega), fc 455 k (by omega) (by omega) (by omega)]; exact s2 k hk
    · rw [fc 1 13 (by omega) (by omega) (by omega), fm 540 6 (by omega) (by omega) (by omega)]; exact s3
    · rw [fc 1 14 (by omega) (by omega) (by omega), fm 540 35 (by omega) (by omega) (by omega)]; exact s4
    · rw [fm 540 16 (by omega) (by omega) (by omega)]; exact s5
    · rw [fc 459 0 (by omega) (by omega) (by omega), fm 540 37 (by omega) (by omega) (by omega)]; exact s6
    · rw [fm 540 37 (by omega) (by omega) (by omega)] at hj
      rw [fc 460 j (by omega) (by omega) (by omega), fm 553 j (by omega) (by omega) (by omega)]; exact s7 j hj
/-- the now of both sides behind a deed is the now ahead of it -/
theorem mu_now (hcp : rq_cp B) (hi : aa_inv gm) (h0 : qb_s B gc gm 2 0) (he : e < 12) (hc : cd_push gc gc1 2 e c) (hm : md_push gm gm1 0 c) : qb_s B gc1 gm1 2 0 :=
  rq_same (qb_cp hcp) hi (by omega) (fun k j q1 q2 => hc.2.2.2 k j (by omega) (by omega)) (fun q hq => hm.2.2.2 541 _ (by omega) (by omega)) h0
/-- one town is another -/
theorem mu_town (hcp : rq_cp B) (hbf : rq_bf B) {t : Nat} (hi : aa_inv gm) (ht : (t : Int) < (gm 541 0).toInt) (h : rr_g (qb_s B) gc gm) (hd : rd_g (qb_s B) gc gm c e) (hc : cd_push gc gc1 2 e c) (hm : md_push gm gm1 0 c) (f2 : ∀ k j, ¬ (5 * t + 14 ≤ k ∧ k ≤ 5 * t + 18) → gc2 k j = gc1 k j) (f3 : ∀ k j, ¬ (k = 541 ∧ 50 * t + 3 ≤ j ∧ j < 50 * t + 53) → gm2 k j = gm1 k j) (hq : tq_t gc2 gm2 (5 * t + 14) (50 * t + 3)) : rr_g (qb_s B) gc2 gm2 := by
  have n4 : 0 ≤ (gm 541 0).toInt ∧ (gm 541 0).toInt ≤ 4 := iv_n hi (r := 0)
  have he := hd.1.2
  refine mu_rest hcp hi h hd hc hm (fun k j z => f2 k j (by omega)) (fun k j z => f3 k j (by omega)) ?_
  obtain ⟨h0, -⟩ := h
  have g1 := mu_now hcp hi h0 he hc hm
  obtain ⟨⟨q1, q2, q3, q4⟩, b⟩ := g1
  have c0 : ∀ j, gm1 541 j = gm 541 j ∨ 1197 ≤ j := fun j => by
    by_cases z : 1197 ≤ j
    · exact .inr z
    · exact .inl (hm.2.2.2 541 j (by omega) (by omega))
  have c00 := (c0 0).resolve_right (by omega)
  refine ⟨⟨?_, ?_, ?_, fun u hu => ?_⟩, hbf gc1 gc2 gm1 gm2 2 0 (fun k j a1 a2 => f2 k j (by omega)) (fun q hq z => f3 541 _ (by omega)) b⟩
  · rw [f2 2 0 (by omega), f3 541 _ (by omega)]; exact q1
  · rw [f2 2 1 (by omega), f3 541 _ (by omega)]; exact q2
  · rw [f2 (2 + 2) 0 (by omega), f3 541 _ (by omega)]; exact q3
  · rw [f3 541 _ (by omega)] at hu
    have hu4 : (u : Int) < 4 := by
      have : gm1 541 (399 * 0) = gm 541 0 := c00
      rw [this] at hu
      omega
    by_cases hut : u = t
    · subst hut
      rw [show 5 * u + (2 + 12) = 5 * u + 14 by omega, show 399 * 0 + 50 * u + 3 = 50 * u + 3 by omega]
      exact hq
    · have k := q4 u hu
      have cc := iv_c hi (r := 0) (t := u) (by omega)
      refine tq_same ?_ (fun k j a1 a2 => f2 k j (by omega)) (fun q hq => f3 541 _ (by omega)) k
      rw [(c0 _).resolve_right (by omega)]
      exact cc.2
end MU
theorem dm_deed {g : aa_G} {c : Nat} (hc : g 540 1 = Int32.ofNat c) (h12 : c ≤ 12) : md_push g (fn_156 g) 0 c := by
  obtain ⟨n, v, h, r, -, g', rfl, p⟩ := rn_of (md_deed (row := 0) (.inl rfl) hc h12)
  have e := ep_H (dn_157 r).2
  have e2 : fn_156 g = fn_157 g (Int32.ofNat 0) := rfl
  rw [e2, ← e]
  exact p
theorem rr_rem {Q : rq_Q} {gc gm : aa_G} {c e : Nat} (hd : rd_g Q gc gm c e) : rem_ok gc := ⟨c, e, hd.1.1, hd.1.2, hd.2.1.1, hd.2.1.2.2⟩
theorem rr_push {Q : rq_Q} {gc gm : aa_G} {c e : Nat} (hd : rd_g Q gc gm c e) : cd_push gc (fn_40 gc) 2 e c ∧ md_push gm (fn_156 gm) 0 c := ⟨dk_40 hd.1.1 hd.1.2 hd.2.1.1 hd.2.1.2.2, dm_deed hd.2.1.2.1 hd.1.1⟩
/-- which town is asked of, on two heaps -/
theorem ct_two {B : rq_Q} {gc gm : aa_G} (hi : aa_inv gm) (h : qb_s B gc gm 2 0) (a : Int32) : (∃ t : Nat, t < 4 ∧ a = Int32.ofNat t ∧ (t : Int) < (gm 541 0).toInt ∧ fn_31 gc a = some (5 * t + 14) ∧ fn_192 gm a = 1 ∧ tq_t gc gm (5 * t + 14) (50 * t + 3)) ∨ (¬ (0 ≤ a.toInt ∧ a.toInt < (gm 541 0).toInt) ∧ fn_31 gc a = none ∧ fn_192 gm a = 0) := by
  have n4 : 0 ≤ (gm 541 0).toInt ∧ (gm 541 0).toInt ≤ 4 := iv_n hi (r := 0)
  obtain ⟨⟨e0, -, -, q4⟩, -⟩ := h
  have e0 : gc 2 0 = gm 541 0 := e0
  have es : (gm 541 0 - 1).toInt = (gm 541 0).toInt - 1 := aa_sub32 (by rw [show (1 : Int32).toInt = 1 from rfl]; omega) (by rw [show (1 : Int32).toInt = 1 from rfl]; omega)
  have e192 : fn_192 gm a = fn_154 a 0 (gm 541 0 - 1) := rfl
  unfold fn_31
  rw [e192, e0]
  by_cases h : 0 ≤ a.toInt ∧ a.toInt < (gm 541 0).toInt
  · left
    obtain ⟨t, t1, rfl, t3⟩ := ti_nat h.1
    have k := q4 t (by show (t : Int) < (gm 541 0).toInt; omega)
    rw [show 5 * t + (2 + 12) = 5 * t + 14 by omega, show 399 * 0 + 50 * t + 3 = 50 * t + 3 by omega] at k
    refine ⟨t, by omega, rfl, by omega, ?_, ?_, k⟩
    · rw [if_neg (ti_14n.mpr (by rw [es]; exact ⟨h.1, by omega⟩)), zz_toN t1]
    · rw [ti_154, if_pos (by rw [es]; exact ⟨h.1, by omega⟩)]
  · right
    refine ⟨h, ?_, ?_⟩
    · rw [if_pos (ti_14z.mpr (by rw [es]; exact fun z => h ⟨z.1, by omega⟩))]
    · rw [ti_154, if_neg (by rw [es]; exact fun z => h ⟨z.1, by omega⟩)]
/-- a mutating call of both sides: like answers, like states -/
def mu_ok (B : rq_Q) (rc rm : Int32 × aa_G) : Prop := rc.1 = rm.1 ∧ rr_g (qb_s B) rc.2 rm.2
theorem mu_mk {B : rq_Q} {a c : Int32} {x y : aa_G} (h1 : a = c) (h2 : rr_g (qb_s B) x y) : mu_ok B (a, x) (c, y) := ⟨h1, h2⟩
theorem mu_offset {B : rq_Q} (hcp : rq_cp B) (hbf : rq_bf B) {gc gm : aa_G} (hi : aa_inv gm) (h : rr_g (qb_s B) gc gm) (a n : Int32) : mu_ok B (fn_60 gc a n) (fn_254 gm a n) := by
  have h' := h
  obtain ⟨h0, h2, ⟨c, e, hd⟩, hs⟩ := h
  have h := h'
  obtain ⟨pc, pm⟩ := rr_push hd
  have he := hd.1.2
  unfold fn_60 fn_254
  rcases ct_two hi h0 a with ⟨t, t4, rfl, tn, e1, e2, k⟩ | ⟨tn, e1, e2⟩
  · rw [e1, e2, if_neg (by decide)]
    dsimp only
    by_cases hn : (-43200 : Int32).toInt ≤ n.toInt ∧ n.toInt ≤ (43200 : Int32).toInt
    · rw [if_pos (ti_14n.mpr hn), if_neg (ti_154n.mpr hn)]
      unfold fn_60_40 fn_255 fn_255_4
      rw [ml_ta, zz_toN (by omega)]
      dsimp only
      have k1 := mu_now hcp hi h0 he pc pm
      have x1 : fn_40 gc (5 * t + 14) 0 = gc (5 * t + 14) 0 := pc.2.2.2 _ _ (by omega) (by omega)
      have x2 : ∀ q, q < 399 → fn_156 gm 541 q = gm 541 q := fun q hq => pm.2.2.2 _ _ (by omega) (by omega)
      refine mu_mk ?_ (mu_town hcp hbf hi tn h hd pc pm (fun k j z => aa_w_ne _ _ (by omega)) (fun k j z => aa_w_ne _ _ (by omega)) ?_)
      · show fn_40 gc (5 * t + 14) 0 = fn_156 gm 541 (50 * t + 3)
        rw [x1, x2 _ (by omega)]
        exact k.1
      · have cc := iv_c hi (r := 0) t4
        rw [show 399 * 0 + 50 * t + 3 + 1 = 50 * t + 3 + 1 by omega] at cc
        have k2 : tq_t (fn_40 gc) (fn_156 gm) (5 * t + 14) (50 * t + 3) := tq_same cc.2 (fun k j a1 a2 => pc.2.2.2 k j (by omega) (by omega)) (fun q hq => x2 _ (by omega)) k
        obtain ⟨b1, b2, b3, b4⟩ := k2
        have w : ∀ q, q < 50 → 1 ≤ q → zz_w (fn_156 gm) 541 (50 * t + 3) n 541 (50 * t + 3 + q) = fn_156 gm 541 (50 * t + 3 + q) := fun q _ _ => aa_w_ne _ _ (by omega)
        have wc : (fn_156 gm 541 (50 * t + 3 + 1)).toInt ≤ 12 := by rw [x2 _ (by omega)]; exact cc.2
        refine ⟨?_, ?_, fun i hi' o o1 o2 => ?_, fun i hi' => ?_⟩
        · rw [aa_w_at, aa_w_at]
        · rw [aa_w_ne _ _ (by omega), w 1 (by omega) (by omega)]; exact b2
        · rw [w 1 (by omega) (by omega)] at hi'
          have e := w (1 + 4 * i + o) (by omega) (by omega)
          rw [show 50 * t + 3 + (1 + 4 * i + o) = 50 * t + 3 + 1 + 4 * i + o by omega] at e
          rw [aa_w_ne _ _ (by omega), e]
          exact b3 i hi' o o1 o2
        · rw [w 1 (by omega) (by omega)] at hi'
          have e := w (1 + 4 * i + 1) (by omega) (by omega)
          have e3 := w (1 + 4 * (i + 1) + 1) (by omega) (by omega)
          rw [show 50 * t + 3 + (1 + 4 * i + 1) = 50 * t + 3 + 1 + 4 * i + 1 by omega] at e
          rw [show 50 * t + 3 + (1 + 4 * (i + 1) + 1) = 50 * t + 3 + 1 + 4 * (i + 1) + 1 by omega] at e3
          rw [e, e3]
          exact b4 i hi'
    · rw [if_neg (fun z => hn (ti_14n.mp z)), if_pos (ti_154z.mpr hn)]
      exact mu_mk rfl h
  · rw [e1, e2, if_pos rfl]
    exact mu_mk rfl h
theorem mu_parts {B : rq_Q} (hcp : rq_cp B) (hbf : rq_bf B) {gc gm : aa_G} (hi : aa_inv gm) (h : rr_g (qb_s B) gc gm) (n : Int32) : mu_ok B (fn_61 gc n) (fn_256 gm n) := by
  have h' := h
  obtain ⟨h0, h2, ⟨c, e, hd⟩, hs⟩ := h
  have h := h'
  obtain ⟨pc, pm⟩ := rr_push hd
  have he := hd.1.2
  have n4 : 0 ≤ (gm 541 0).toInt ∧ (gm 541 0).toInt ≤ 4 := iv_n hi (r := 0)
  unfold fn_61 fn_256
  by_cases hn : (1 : Int32).toInt ≤ n.toInt ∧ n.toInt ≤ (3600 : Int32).toInt
  · rw [if_pos (ti_14n.mpr hn), if_neg (ti_154n.mpr hn)]
    unfold fn_61_24 fn_255 fn_255_4
    rw [show (1 : Int32).toNatClampNeg = 1 from rfl]
    dsimp only
    have k1 := mu_now hcp hi h0 he pc pm
    have x2 : ∀ q, q < 399 → fn_156 gm 541 q = gm 541 q := fun q hq => pm.2.2.2 _ _ (by omega) (by omega)
    obtain ⟨⟨q1, q2, q3, q4⟩, b⟩ := k1
    refine mu_mk q2 (mu_rest hcp hi h hd pc pm (fun k j z => aa_w_ne _ _ (by omega)) (fun k j z => aa_w_ne _ _ (by omega)) ⟨⟨?_, ?_, ?_, fun u hu => ?_⟩, hbf _ _ _ _ 2 0 (fun k j a1 a2 => aa_w_ne _ _ (by omega)) (fun q hq z => aa_w_ne _ _ (by omega)) b⟩)
    · exact (aa_w_ne _ _ (by omega)).trans (q1.trans (aa_w_ne _ _ (by omega)).symm)
    · exact (aa_w_at _ _ _ _).trans (aa_w_at _ _ _ _).symm
    · exact (aa_w_ne _ _ (by omega)).trans (q3.trans (aa_w_ne _ _ (by omega)).symm)
    · have hu : (u : Int) < (fn_156 gm 541 0).toInt := by
        have e : zz_w (fn_156 gm) 541 1 n 541 (399 * 0) = fn_156 gm 541 0 := aa_w_ne _ _ (by omega)
        have hu : (u : Int) < (zz_w (fn_156 gm) 541 1 n 541 (399 * 0)).toInt := hu
        rw [e] at hu
        exact hu
      have k := q4 u hu
      rw [x2 0 (by omega)] at hu
      have cc := iv_c hi (r := 0) (t := u) (by omega)
      refine tq_same ?_ (fun k j a1 a2 => aa_w_ne _ _ (by omega)) (fun q hq => aa_w_ne _ _ (by omega)) k
      rw [x2 _ (by omega)]
      exact cc.2
  · rw [if_neg (fun z => hn (ti_14n.mp z)), if_pos (ti_154z.mpr hn)]
    exact mu_mk rfl h
end
section
/-! EDITS: set(), remove() on both sides -/
theorem i_12 {n : Nat} (h : n ≤ 12) : (Int32.ofNat n).toInt = n := zz_ofN (by omega)
theorem i_le {a b : Nat} (ha : a < 2147483648) (hb : b < 2147483648) : Int32.ofNat a ≤ Int32.ofNat b ↔ a ≤ b := by
  rw [aa_le32, zz_ofN ha, zz_ofN hb]
  omega
theorem i_sub1 {a : Nat} (h : 0 < a) (ha : a < 2147483648) : Int32.ofNat a - 1 = Int32.ofNat (a - 1) := ti_eq.mpr (by
  rw [aa_sub32 (by rw [zz_ofN ha, show (1 : Int32).toInt = 1 from rfl]; omega) (by rw [zz_ofN ha, show (1 : Int32).toInt = 1 from rfl]; omega), zz_ofN ha, zz_ofN (by omega), show (1 : Int32).toInt = 1 from rfl]
  omega)
theorem i_dec {a : Nat} (h : 0 < a) (ha : a < 2147483648) : Int32.ofNat a + (-1) = Int32.ofNat (a - 1) := ti_eq.mpr (by
  rw [aa_add32 (by rw [zz_ofN ha, ti_m1]; omega) (by rw [zz_ofN ha, ti_m1]; omega), zz_ofN ha, zz_ofN (by omega), ti_m1]
  omega)
theorem i_add (a b : Nat) : Int32.ofNat a + Int32.ofNat b = Int32.ofNat (a + b) := (Int32.ofNat_add a b).symm
/-- the place of a point of this YDAY -/
theorem po_loop {g : aa_G} {T c : Nat} {d : Int32} (h1 : g T 1 = Int32.ofNat c) (hc : c ≤ 12) : ∀ (m i : Nat), i + m = c → (∃ x, i ≤ x ∧ x < c ∧ g (T + 1) x = d ∧ (∀ j, i ≤ j → j < x → g (T + 1) j ≠ d) ∧ fn_63_2 g T d (Int32.ofNat i) = Int32.ofNat x) ∨ ((∀ j, i ≤ j → j < c → g (T + 1) j ≠ d) ∧ fn_63_2 g T d (Int32.ofNat i) = -1)
  | 0, i, hi => by
    right
    refine ⟨fun j a b => by omega, ?_⟩
    unfold fn_63_2
    refine lp_r ?_
    show fn_63_2b g T d (Int32.ofNat i) = _
    unfold fn_63_2b
    rw [h1, if_pos ((i_le (by omega) (by omega)).mpr (by omega))]
  | m + 1, i, hi => by
    have hb : fn_63_2b g T d (Int32.ofNat i) = if g (T + 1) i ≠ d then .inl (Int32.ofNat (i + 1)) else .inr (Int32.ofNat i) := by
      unfold fn_63_2b
      rw [h1, if_neg (fun z => by have := (i_le (by omega) (by omega)).mp z; omega), zz_toN (by omega), aa_succ]
    by_cases e : g (T + 1) i = d
    · left
      refine ⟨i, Nat.le_refl i, by omega, e, fun j a b => by omega, ?_⟩
      unfold fn_63_2
      refine lp_r ?_
      show fn_63_2b g T d (Int32.ofNat i) = _
      rw [hb, if_neg (fun z => z e)]
    · have hs : fn_63_2 g T d (Int32.ofNat i) = fn_63_2 g T d (Int32.ofNat (i + 1)) := by
        unfold fn_63_2
        refine lp_l ?_
        show fn_63_2b g T d (Int32.ofNat i) = _
        rw [hb, if_pos e]
      rw [hs]
      rcases po_loop h1 hc m (i + 1) (by omega) with ⟨x, x1, x2, x3, x4, x5⟩ | ⟨x1, x2⟩
      · refine .inl ⟨x, by omega, x2, x3, fun j a b => ?_, x5⟩
        by_cases hj : j = i
        · rw [hj]; exact e
        · exact x4 j (by omega) b
      · refine .inr ⟨fun j a b => ?_, x2⟩
        by_cases hj : j = i
        · rw [hj]; exact e
        · exact x1 j (by omega) b
theorem po_all {g : aa_G} {T c : Nat} {d : Int32} (h1 : g T 1 = Int32.ofNat c) (hc : c ≤ 12) : (∃ x, x < c ∧ g (T + 1) x = d ∧ (∀ j, j < x → g (T + 1) j ≠ d) ∧ fn_63 g T d = Int32.ofNat x) ∨ ((∀ j, j < c → g (T + 1) j ≠ d) ∧ fn_63 g T d = -1) := by
  rcases po_loop h1 hc c 0 (by omega) with ⟨x, -, x2, x3, x4, x5⟩ | ⟨x1, x2⟩
  · exact .inl ⟨x, x2, x3, fun j b => x4 j (Nat.zero_le _) b, x5⟩
  · exact .inr ⟨fun j b => x1 j (Nat.zero_le _) b, x2⟩
theorem pf_loop {g : aa_G} {t c : Nat} {d : Int32} (ht : t < 4) (h1 : g 541 (50 * t + 4) = Int32.ofNat c) (hc : c ≤ 12) : ∀ (m i : Nat), i + m = c → ∃ x, i ≤ x ∧ x ≤ c ∧ fn_258_2 g (Int32.ofNat t) d (Int32.ofNat i) = Int32.ofNat x ∧ (∀ j, i ≤ j → j < x → (g 541 (50 * t + 4 * j + 5)).toInt < d.toInt) ∧ (x < c → d.toInt ≤ (g 541 (50 * t + 4 * x + 5)).toInt)
  | 0, i, hi => by
    refine ⟨i, Nat.le_refl i, by omega, ?_, fun j a b => by omega, fun z => by omega⟩
    unfold fn_258_2
    refine lp_r ?_
    show fn_258_2b g (Int32.ofNat t) d (Int32.ofNat i) = _
    unfold fn_258_2b
    rw [ml_ta, show Int32.ofNat (50 * t + 3) + 1 = Int32.ofNat (50 * t + 4) from i_add _ 1, zz_toN (by omega), h1, if_pos ((i_le (by omega) (by omega)).mpr (by omega))]
  | m + 1, i, hi => by
    have hb : fn_258_2b g (Int32.ofNat t) d (Int32.ofNat i) = if d ≤ g 541 (50 * t + 4 * i + 5) then .inr (Int32.ofNat i) else .inl (Int32.ofNat (i + 1)) := by
      unfold fn_258_2b
      rw [ml_ta, show Int32.ofNat (50 * t + 3) + 1 = Int32.ofNat (50 * t + 4) from i_add _ 1, zz_toN (by omega), h1, if_neg (fun z => by have := (i_le (by omega) (by omega)).mp z; omega), ml_pa, zz_toN (by omega), aa_succ]
    by_cases e : d ≤ g 541 (50 * t + 4 * i + 5)
    · refine ⟨i, Nat.le_refl i, by omega, ?_, fun j a b => by omega, fun _ => aa_le32.mp e⟩
      unfold fn_258_2
      refine lp_r ?_
      show fn_258_2b g (Int32.ofNat t) d (Int32.ofNat i) = _
      rw [hb, if_pos e]
    · have hs : fn_258_2 g (Int32.ofNat t) d (Int32.ofNat i) = fn_258_2 g (Int32.ofNat t) d (Int32.ofNat (i + 1)) := by
        unfold fn_258_2
        refine lp_l ?_
        show fn_258_2b g (Int32.ofNat t) d (Int32.ofNat i) = _
        rw [hb, if_neg e]
      rw [hs]
      obtain ⟨x, x1, x2, x3, x4, x5⟩ := pf_loop ht h1 hc m (i + 1) (by omega)
      refine ⟨x, by omega, x2, x3, fun j a b => ?_, x5⟩
      by_cases hj : j = i
      · rw [hj]
        have := mt aa_le32.mpr e
        omega
      · exact x4 j (by omega) b
theorem pf_all {g : aa_G} {t c : Nat} {d : Int32} (ht : t < 4) (h1 : g 541 (50 * t + 4) = Int32.ofNat c) (hc : c ≤ 12) : ∃ x, x ≤ c ∧ fn_258 g (Int32.ofNat t) d = Int32.ofNat x ∧ (∀ j, j < x → (g 541 (50 * t + 4 * j + 5)).toInt < d.toInt) ∧ (x < c → d.toInt ≤ (g 541 (50 * t + 4 * x + 5)).toInt) := by
  obtain ⟨x, -, x2, x3, x4, x5⟩ := pf_loop (d := d) ht h1 hc c 0 (by omega)
  exact ⟨x, x2, x3, fun j b => x4 j (Nat.zero_le _) b, x5⟩
/-- sorted YDAYS -/
theorem tq_mono {gc gm : aa_G} {T p c : Nat} (h : tq_t gc gm T p) (hc : (gm 541 (p + 1)).toInt = c) : ∀ (d i : Nat), i + d < c → (gm 541 (p + 1 + 4 * i + 1)).toInt + d ≤ (gm 541 (p + 1 + 4 * (i + d) + 1)).toInt
  | 0, i, _ => by simp
  | d + 1, i, hi => by
    have h1 := tq_mono h hc d i (by omega)
    have h2 := h.2.2.2 (i + d) (by omega)
    have e : i + (d + 1) = i + d + 1 := by omega
    rw [e]
    omega
/-- fill -/
theorem fl_all {g : aa_G} {T i : Nat} {d1 d2 d3 d4 : Int32} (hi : i < 12) : (fn_36 g T (Int32.ofNat i) d1 d2 d3 d4) = zz_w (zz_w (zz_w (zz_w g (T + 1) i d1) (T + 2) i d2) (T + 3) i d3) (T + 4) i d4 := by
  unfold fn_36
  rw [if_pos (ti_14n.mpr (by rw [i_12 (by omega)]; exact ⟨by show (0 : Int) ≤ _; omega, by show _ ≤ (11 : Int); omega⟩)), zz_toN (by omega)]
theorem fl_at {g : aa_G} {T i : Nat} {d : Nat → Int32} : ∀ o j, 1 ≤ o → o ≤ 4 → zz_w (zz_w (zz_w (zz_w g (T + 1) i (d 1)) (T + 2) i (d 2)) (T + 3) i (d 3)) (T + 4) i (d 4) (T + o) j = if j = i then d o else g (T + o) j := by
  intro o j o1 o2
  by_cases hj : j = i
  · rw [if_pos hj, hj]
    rcases (show o = 1 ∨ o = 2 ∨ o = 3 ∨ o = 4 by omega) with rfl | rfl | rfl | rfl
    · rw [aa_w_ne _ _ (by omega), aa_w_ne _ _ (by omega), aa_w_ne _ _ (by omega), aa_w_at]
    · rw [aa_w_ne _ _ (by omega), aa_w_ne _ _ (by omega), aa_w_at]
    · rw [aa_w_ne _ _ (by omega), aa_w_at]
    · rw [aa_w_at]
  · rw [if_neg hj, aa_w_ne _ _ (by omega), aa_w_ne _ _ (by omega), aa_w_ne _ _ (by omega), aa_w_ne _ _ (by omega)]
theorem fl_ne {g : aa_G} {T i : Nat} {d1 d2 d3 d4 : Int32} {k j : Nat} (h : ¬ (T + 1 ≤ k ∧ k ≤ T + 4)) : zz_w (zz_w (zz_w (zz_w g (T + 1) i d1) (T + 2) i d2) (T + 3) i d3) (T + 4) i d4 k j = g k j := by
  rw [aa_w_ne _ _ (by omega), aa_w_ne _ _ (by omega), aa_w_ne _ _ (by omega), aa_w_ne _ _ (by omega)]
/-- a point goes: the class's rows -/
def sh_c (g0 g : aa_G) (T i k : Nat) : Prop := (∀ o j, 1 ≤ o → o ≤ 4 → g (T + o) j = if i ≤ j ∧ j < k then g0 (T + o) (j + 1) else g0 (T + o) j) ∧ ∀ k' j, ¬ (T + 1 ≤ k' ∧ k' ≤ T + 4) → g k' j = g0 k' j
theorem dp_loop {g0 : aa_G} {T i c : Nat} (hc : c ≤ 12) (h0 : 0 < c) (h1 : g0 T 1 = Int32.ofNat c) : ∀ (m k : Nat) (g : aa_G), k + m = c - 1 → i ≤ k → sh_c g0 g T i k → ∃ g', fn_64_17 g T (Int32.ofNat k) = zz_w g' T 1 (Int32.ofNat (c - 1)) ∧ sh_c g0 g' T i (c - 1)
  | 0, k, g, hk, hik, h => by
    have e1 : g T 1 = Int32.ofNat c := (h.2 T 1 (by omega)).trans h1
    refine ⟨g, ?_, by rw [show c - 1 = k by omega]; exact h⟩
    unfold fn_64_17
    refine lp_r ?_
    show fn_64_17b g T (Int32.ofNat k) = _
    unfold fn_64_17b
    rw [e1, i_sub1 h0 (by omega), if_pos ((i_le (by omega) (by omega)).mpr (by omega))]
  | m + 1, k, g, hk, hik, h => by
    have e1 : g T 1 = Int32.ofNat c := (h.2 T 1 (by omega)).trans h1
    have hs : fn_64_17 g T (Int32.ofNat k) = fn_64_17 (zz_w (zz_w (zz_w (zz_w g (T + 1) k (g (T + 1) (k + 1))) (T + 2) k (g (T + 2) (k + 1))) (T + 3) k (g (T + 3) (k + 1))) (T + 4) k (g (T + 4) (k + 1))) T (Int32.ofNat (k + 1)) := by
      unfold fn_64_17
      refine lp_l ?_
      show fn_64_17b g T (Int32.ofNat k) = _
      unfold fn_64_17b fn_64_64
      rw [e1, i_sub1 h0 (by omega), if_neg (fun z => by have := (i_le (by omega) (by omega)).mp z; omega), aa_succ, zz_toN (by omega), fl_all (by omega)]
    rw [hs]
    refine dp_loop hc h0 h1 m (k + 1) _ (by omega) (by omega) ⟨fun o j o1 o2 => ?_, fun k' j z => ?_⟩
    · rw [fl_at (d := fun o => g (T + o) (k + 1)) o j o1 o2]
      by_cases hj : j = k
      · rw [if_pos hj, if_pos (by omega), hj, h.1 o (k + 1) o1 o2, if_neg (by omega)]
      · rw [if_neg hj, h.1 o j o1 o2]
        by_cases hr : i ≤ j ∧ j < k
        · rw [if_pos hr, if_pos (by omega)]
        · rw [if_neg hr, if_neg (by omega)]
    · rw [fl_ne z]
      exact h.2 k' j z
/-- the model's row -/
def sh_m (g0 g : aa_G) (lo p : Nat) : Prop := (∀ q, g 541 q = if lo ≤ q ∧ q < p then g0 541 (q + 4) else g0 541 q) ∧ ∀ k j, k ≠ 541 → g k j = g0 k j
theorem dm_loop {g0 : aa_G} {t i c1 : Nat} (ht : t < 4) (hc : c1 ≤ 12) (hi : i ≤ c1) (h1 : g0 541 (50 * t + 4) = Int32.ofNat c1) : ∀ (m p : Nat) (g : aa_G), p + m = 50 * t + 4 * c1 + 5 → 50 * t + 4 * i + 5 ≤ p → sh_m g0 g (50 * t + 4 * i + 5) p → ∃ g', fn_259_75 g (Int32.ofNat t) (Int32.ofNat (50 * t + 4)) (Int32.ofNat p) = (Int32.ofNat c1, g') ∧ sh_m g0 g' (50 * t + 4 * i + 5) (50 * t + 4 * c1 + 5)
  | 0, p, g, hk, hik, h => by
    have e1 : g 541 (50 * t + 4) = Int32.ofNat c1 := by rw [h.1, if_neg (by omega), h1]
    refine ⟨g, ?_, by rw [show 50 * t + 4 * c1 + 5 = p by omega]; exact h⟩
    unfold fn_259_75
    refine lp_r ?_
    show fn_259_75b g (Int32.ofNat t) (Int32.ofNat (50 * t + 4)) (Int32.ofNat p) = _
    unfold fn_259_75b
    rw [zz_toN (by omega), e1, ml_pa, if_pos ((i_le (by omega) (by omega)).mpr (by omega))]
  | m + 1, p, g, hk, hik, h => by
    have e1 : g 541 (50 * t + 4) = Int32.ofNat c1 := by rw [h.1, if_neg (by omega), h1]
    have hs : fn_259_75 g (Int32.ofNat t) (Int32.ofNat (50 * t + 4)) (Int32.ofNat p) = fn_259_75 (zz_w g 541 p (g 541 (p + 4))) (Int32.ofNat t) (Int32.ofNat (50 * t + 4)) (Int32.ofNat (p + 1)) := by
      unfold fn_259_75
      refine lp_l ?_
      show fn_259_75b g (Int32.ofNat t) (Int32.ofNat (50 * t + 4)) (Int32.ofNat p) = _
      unfold fn_259_75b
      rw [zz_toN (by omega), e1, ml_pa, if_neg (fun z => by have := (i_le (by omega) (by omega)).mp z; omega), zz_toN (by omega), show Int32.ofNat p + 4 = Int32.ofNat (p + 4) from i_add _ 4, zz_toN (by omega), aa_succ]
    rw [hs]
    refine dm_loop ht hc hi h1 m (p + 1) _ (by omega) (by omega) ⟨fun q => ?_, fun k j z => ?_⟩
    · by_cases hq : q = p
      · rw [hq, aa_w_at, if_pos (by omega), h.1 (p + 4), if_neg (by omega)]
      · rw [aa_w_ne _ _ (by omega), h.1 q]
        by_cases hr : 50 * t + 4 * i + 5 ≤ q ∧ q < p
        · rw [if_pos hr, if_pos (by omega)]
        · rw [if_neg hr, if_neg (by omega)]
    · rw [aa_w_ne _ _ (by omega)]
      exact h.2 k j z
/-- a town of both sides: its count, and where a YDAY's point is -/
theorem tq_find {gc gm : aa_G} {t c : Nat} {d : Int32} (ht : t < 4) (k : tq_t gc gm (5 * t + 14) (50 * t + 3)) (hc : c ≤ 12) (h1 : gm 541 (50 * t + 4) = Int32.ofNat c) : ∃ i, i ≤ c ∧ fn_258 gm (Int32.ofNat t) d = Int32.ofNat i ∧ (∀ j, j < i → (gm 541 (50 * t + 4 * j + 5)).toInt < d.toInt) ∧ (∀ j, i < j → j < c → d.toInt < (gm 541 (50 * t + 4 * j + 5)).toInt) ∧ ((i < c ∧ gm 541 (50 * t + 4 * i + 5) = d ∧ fn_63 gc (5 * t + 14) d = Int32.ofNat i) ∨ ((i < c → d.toInt < (gm 541 (50 * t + 4 * i + 5)).toInt) ∧ fn_63 gc (5 * t + 14) d = -1)) := by
  have hcz : (gm 541 (50 * t + 3 + 1)).toInt = c := by
    show (gm 541 (50 * t + 4)).toInt = c
    rw [h1, i_12 hc]
  have e1 : gc (5 * t + 14) 1 = Int32.ofNat c := k.2.1.trans h1
  have ec : ∀ i, i < c → gc (5 * t + 14 + 1) i = gm 541 (50 * t + 4 * i + 5) := fun i hi => by
    have := k.2.2.1 i (by rw [hcz]; omega) 1 (by omega) (by omega)
    rwa [show 50 * t + 3 + 1 + 4 * i + 1 = 50 * t + 4 * i + 5 by omega] at this
  have mono : ∀ (dd i : Nat), i + dd < c → (gm 541 (50 * t + 4 * i + 5)).toInt + dd ≤ (gm 541 (50 * t + 4 * (i + dd) + 5)).toInt := fun dd i hi => by
    have := tq_mono k hcz dd i hi
    rwa [show 50 * t + 3 + 1 + 4 * i + 1 = 50 * t + 4 * i + 5 by omega, show 50 * t + 3 + 1 + 4 * (i + dd) + 1 = 50 * t + 4 * (i + dd) + 5 by omega] at this
  obtain ⟨i, i1, i2, i3, i4⟩ := pf_all (d := d) ht h1 hc
  refine ⟨i, i1, i2, i3, fun j a b => ?_, ?_⟩
  · have := mono (j - i) i (by omega)
    rw [show i + (j - i) = j by omega] at this
    have := i4 (by omega)
    omega
  · rcases po_all (d := d) e1 hc with ⟨x, x1, x2, x3, x4⟩ | ⟨x1, x2⟩
    · left
      have hxi : x = i := by
        rw [ec x x1] at x2
        rcases Nat.lt_trichotomy x i with z | z | z
        · have := i3 x z
          rw [x2] at this
          omega
        · exact z
        · have h5 := i4 (by omega)
          have := mono (x - i) i (by omega)
          rw [show i + (x - i) = x by omega, x2] at this
          omega
      subst hxi
      rw [ec x x1] at x2
      exact ⟨x1, x2, x4⟩
    · right
      refine ⟨fun z => ?_, x2⟩
      have h5 := i4 z
      have h6 := x1 i z
      rw [ec i z] at h6
      have h7 := ti_ne.mp h6
      omega
theorem tq_count {gm : aa_G} (hi : aa_inv gm) {t : Nat} (ht : t < 4) : ∃ c, c ≤ 12 ∧ gm 541 (50 * t + 4) = Int32.ofNat c := by
  have cc := iv_c hi (r := 0) ht
  rw [show 399 * 0 + 50 * t + 3 + 1 = 50 * t + 4 by omega] at cc
  obtain ⟨c, c1, c2, c3⟩ := ti_nat cc.1
  exact ⟨c, by omega, c2⟩
theorem mu_remove {B : rq_Q} (hcp : rq_cp B) (hbf : rq_bf B) {gc gm : aa_G} (hi : aa_inv gm) (h : rr_g (qb_s B) gc gm) (a d : Int32) : mu_ok B (fn_62 gc a d) (fn_259 gm a d) := by
  have h' := h
  obtain ⟨h0, h2, ⟨cc, e, hd⟩, hs⟩ := h
  have h := h'
  obtain ⟨pc, pm⟩ := rr_push hd
  have he := hd.1.2
  unfold fn_62 fn_259
  rcases ct_two hi h0 a with ⟨t, t4, rfl, tn, e1, e2, k⟩ | ⟨tn, e1, e2⟩
  · rw [e1, e2, if_pos (by decide)]
    dsimp only
    obtain ⟨c, hc, h1⟩ := tq_count hi t4
    obtain ⟨i, i1, i2, i3, i4, i5⟩ := tq_find (d := d) t4 k hc h1
    rw [i2, ml_ta, show Int32.ofNat (50 * t + 3) + 1 = Int32.ofNat (50 * t + 4) from i_add _ 1, zz_toN (by omega), h1, ml_pa, zz_toN (by omega)]
    have x2 : ∀ q, q < 399 → fn_156 gm 541 q = gm 541 q := fun q hq => pm.2.2.2 _ _ (by omega) (by omega)
    have xc : ∀ k j, 2 ≤ k → k ≤ 33 → fn_40 gc k j = gc k j := fun k j a1 a2 => pc.2.2.2 k j (by omega) (by omega)
    rcases i5 with ⟨j1, j2, j3⟩ | ⟨j1, j2⟩
    · rw [j3, if_pos (c := Int32.ofNat i ≠ -1) (ml_n1 (by omega)), if_neg (c := Int32.ofNat i = Int32.ofNat c) (fun z => by
        have := congrArg Int32.toInt z
        rw [i_12 (by omega), i_12 hc] at this
        omega), if_pos j2]
      -- the class
      have k2 : tq_t (fn_40 gc) (fn_156 gm) (5 * t + 14) (50 * t + 3) := tq_same (by rw [show gm 541 (50 * t + 3 + 1) = gm 541 (50 * t + 4) from rfl, h1, i_12 hc]; omega) (fun k j a1 a2 => xc k j (by omega) (by omega)) (fun q hq => x2 _ (by omega)) k
      have m1 : fn_156 gm 541 (50 * t + 4) = Int32.ofNat c := (x2 _ (by omega)).trans h1
      have c1 : fn_40 gc (5 * t + 14) 1 = Int32.ofNat c := (xc _ _ (by omega) (by omega)).trans (k.2.1.trans h1)
      have f63 : fn_63 (fn_40 gc) (5 * t + 14) d = Int32.ofNat i := by
        obtain ⟨i', -, p2, p3, p4, p5⟩ := tq_find (d := d) t4 k2 hc m1
        rcases p5 with ⟨q1, q2, q3⟩ | ⟨q1, q2⟩
        · rw [q3]
          congr 1
          rw [x2 _ (by omega)] at q2
          rcases Nat.lt_trichotomy i i' with z | z | z
          · have := p3 i z
            rw [x2 _ (by omega), j2] at this
            omega
          · exact z.symm
          · have := i3 i' z
            rw [q2] at this
            omega
        · exfalso
          rcases Nat.lt_trichotomy i i' with z | z | z
          · have := p3 i z
            rw [x2 _ (by omega), j2] at this
            omega
          · have := q1 (by omega)
            rw [x2 _ (by omega), ← z, j2] at this
            omega
          · have := p4 i z j1
            rw [x2 _ (by omega), j2] at this
            omega
      unfold fn_62_35 fn_62_45
      rw [f63]
      obtain ⟨gx, ex, sx⟩ := dp_loop hc (by omega) c1 (c - 1 - i) i (fn_40 gc) (by omega) (Nat.le_refl i) ⟨fun o j o1 o2 => by rw [if_neg (by omega)], fun _ _ _ => rfl⟩
      have e64 : fn_64 (fn_40 gc) (5 * t + 14) (Int32.ofNat i) = zz_w gx (5 * t + 14) 1 (Int32.ofNat (c - 1)) := by
        unfold fn_64
        rw [c1, i_sub1 (by omega) (by omega), if_pos (ti_14n.mpr (by rw [i_12 (by omega), i_12 (by omega)]; exact ⟨by show (0 : Int) ≤ _; omega, by omega⟩))]
        exact ex
      rw [e64, aa_w_at]
      -- the model
      unfold fn_259_57
      rw [zz_toN (by omega), m1, i_sub1 (by omega) (by omega), ml_pa]
      obtain ⟨gy, ey, sy⟩ := dm_loop (g0 := zz_w (fn_156 gm) 541 (50 * t + 4) (Int32.ofNat (c - 1))) (i := i) (c1 := c - 1) t4 (by omega) (by omega) (aa_w_at _ _ _ _) (4 * (c - 1) - 4 * i) (50 * t + 4 * i + 5) _ (by omega) (Nat.le_refl _) ⟨fun q => by rw [if_neg (by omega)], fun _ _ _ => rfl⟩
      rw [ey]
      have Y : ∀ j o, o ≤ 4 → 1 ≤ o → j < c - 1 → gy 541 (50 * t + 3 + 1 + 4 * j + o) = if i ≤ j then fn_156 gm 541 (50 * t + 3 + 1 + 4 * (j + 1) + o) else fn_156 gm 541 (50 * t + 3 + 1 + 4 * j + o) := by
        intro j o o1 o2 hj
        rw [sy.1]
        by_cases hij : i ≤ j
        · rw [if_pos hij, if_pos (by omega), aa_w_ne _ _ (by omega), show 50 * t + 3 + 1 + 4 * j + o + 4 = 50 * t + 3 + 1 + 4 * (j + 1) + o by omega]
        · rw [if_neg hij, if_neg (by omega), aa_w_ne _ _ (by omega)]
      have Y0 : gy 541 (50 * t + 3) = fn_156 gm 541 (50 * t + 3) := by rw [sy.1, if_neg (by omega), aa_w_ne _ _ (by omega)]
      have Y1 : gy 541 (50 * t + 3 + 1) = Int32.ofNat (c - 1) := by rw [sy.1, if_neg (by omega), show 50 * t + 3 + 1 = 50 * t + 4 by omega, aa_w_at]
      have mz : (fn_156 gm 541 (50 * t + 3 + 1)).toInt = c := by
        show (fn_156 gm 541 (50 * t + 4)).toInt = c
        rw [m1, i_12 hc]
      refine mu_mk rfl (mu_town hcp hbf hi tn h hd pc pm (fun k j z => ?_) (fun k j z => ?_) ⟨?_, ?_, fun j hj o o1 o2 => ?_, fun j hj => ?_⟩)
      · rw [aa_w_ne _ _ (by omega)]
        exact sx.2 k j (by omega)
      · by_cases hk : k = 541
        · subst hk
          rw [sy.1, if_neg (by omega), aa_w_ne _ _ (by omega)]
        · rw [sy.2 k j hk, aa_w_ne _ _ (by omega)]
      · rw [aa_w_ne _ _ (by omega), sx.2 _ _ (by omega), Y0]
        exact k2.1
      · rw [aa_w_at, Y1]
      · rw [Y1, i_12 (by omega)] at hj
        rw [aa_w_ne _ _ (by omega), sx.1 o j o1 o2, Y j o o2 o1 (by omega)]
        by_cases hij : i ≤ j
        · rw [if_pos hij, if_pos (by omega)]
          exact k2.2.2.1 (j + 1) (by rw [mz]; omega) o o1 o2
        · rw [if_neg hij, if_neg (by omega)]
          exact k2.2.2.1 j (by rw [mz]; omega) o o1 o2
      · rw [Y1, i_12 (by omega)] at hj
        rw [Y j 1 (by omega) (by omega) (by omega), Y (j + 1) 1 (by omega) (by omega) (by omega)]
        have s1 := k2.2.2.2 j (by rw [mz]; omega)
        have s2 := k2.2.2.2 (j + 1) (by rw [mz]; omega)
        by_cases hij : i ≤ j
        · rw [if_pos hij, if_pos (by omega)]
          exact s2
        · rw [if_neg hij]
          by_cases hij2 : i ≤ j + 1
          · rw [if_pos hij2]
            omega
          · rw [if_neg hij2]
            exact s1
    · rw [j2, if_neg (c := (-1 : Int32) ≠ -1) (fun z => z rfl)]
      by_cases hic : i = c
      · rw [if_pos (by rw [hic])]
        exact mu_mk rfl h
      · rw [if_neg (c := Int32.ofNat i = Int32.ofNat c) (fun z => by
          have := congrArg Int32.toInt z
          rw [i_12 (by omega), i_12 hc] at this
          omega), if_neg (fun z => by
          have := j1 (by omega)
          rw [z] at this
          omega)]
        exact mu_mk rfl h
  · rw [e1, e2, if_neg (by decide)]
    exact mu_mk rfl h
end
section
/-! EDITS: set() on both sides -/
/-- place is made: the class's rows -/
def op_c (g0 g : aa_G) (T c k : Nat) : Prop := (∀ o j, 1 ≤ o → o ≤ 4 → g (T + o) j = if k < j ∧ j ≤ c then g0 (T + o) (j - 1) else g0 (T + o) j) ∧ ∀ k' j, ¬ (T + 1 ≤ k' ∧ k' ≤ T + 4) → g k' j = g0 k' j
theorem op_loop {g0 : aa_G} {T c i : Nat} {d : Int32} (hc : c < 12) (hi : i ≤ c) (h1 : g0 T 1 = Int32.ofNat c) (hlo : ∀ j, j < i → (g0 (T + 1) j).toInt ≤ d.toInt) (hhi : ∀ j, i ≤ j → j < c → d.toInt < (g0 (T + 1) j).toInt) : ∀ (m k : Nat) (g : aa_G), i + m = k → k ≤ c → op_c g0 g T c k → ∃ g', fn_68_5 g T d (Int32.ofNat k) = (Int32.ofNat i, zz_w g' T 1 (Int32.ofNat (c + 1))) ∧ op_c g0 g' T c i
  | 0, k, g, hk, hkc, h => by
    have hk : k = i := by omega
    subst hk
    have e1 : g T 1 = Int32.ofNat c := (h.2 T 1 (by omega)).trans h1
    refine ⟨g, ?_, h⟩
    unfold fn_68_5
    refine lp_r ?_
    show fn_68_5b g T d (Int32.ofNat k) = _
    unfold fn_68_5b
    rw [e1, aa_succ]
    by_cases h0 : k = 0
    · rw [if_pos (by rw [h0]; decide)]
    · rw [if_neg (fun z => by
        have := aa_le32.mp z
        rw [i_12 (by omega), show (0 : Int32).toInt = 0 from rfl] at this
        omega), i_sub1 (by omega) (by omega), zz_toN (by omega), if_pos]
      rw [h.1 1 (k - 1) (by omega) (by omega), if_neg (by omega)]
      exact aa_le32.mpr (hlo _ (by omega))
  | m + 1, k, g, hk, hkc, h => by
    have e1 : g T 1 = Int32.ofNat c := (h.2 T 1 (by omega)).trans h1
    have hs : fn_68_5 g T d (Int32.ofNat k) = fn_68_5 (zz_w (zz_w (zz_w (zz_w g (T + 1) k (g (T + 1) (k - 1))) (T + 2) k (g (T + 2) (k - 1))) (T + 3) k (g (T + 3) (k - 1))) (T + 4) k (g (T + 4) (k - 1))) T d (Int32.ofNat (k - 1)) := by
      unfold fn_68_5
      refine lp_l ?_
      show fn_68_5b g T d (Int32.ofNat k) = _
      unfold fn_68_5b fn_68_58
      rw [if_neg (fun z => by
        have := aa_le32.mp z
        rw [i_12 (by omega), show (0 : Int32).toInt = 0 from rfl] at this
        omega), i_sub1 (by omega) (by omega), zz_toN (by omega), if_neg (fun z => by
        have := aa_le32.mp z
        rw [h.1 1 (k - 1) (by omega) (by omega), if_neg (by omega)] at this
        have := hhi (k - 1) (by omega) (by omega)
        omega), fl_all (by omega), i_dec (by omega) (by omega)]
    rw [hs]
    refine op_loop hc hi h1 hlo hhi m (k - 1) _ (by omega) (by omega) ⟨fun o j o1 o2 => ?_, fun k' j z => ?_⟩
    · rw [fl_at (d := fun o => g (T + o) (k - 1)) o j o1 o2]
      by_cases hj : j = k
      · rw [if_pos hj, if_pos (by omega), hj, h.1 o (k - 1) o1 o2, if_neg (by omega)]
      · rw [if_neg hj, h.1 o j o1 o2]
        by_cases hr : k < j ∧ j ≤ c
        · rw [if_pos hr, if_pos (by omega)]
        · rw [if_neg hr, if_neg (by omega)]
    · rw [fl_ne z]
      exact h.2 k' j z
/-- the model's row: all from lo to hi four places on -/
def op_m (g0 g : aa_G) (p hi : Nat) : Prop := (∀ q, g 541 q = if p + 4 ≤ q ∧ q < hi + 4 then g0 541 (q - 4) else g0 541 q) ∧ ∀ k j, k ≠ 541 → g k j = g0 k j
theorem om_loop {g0 : aa_G} {t i c : Nat} {a2 a3 a4 b5 : Int32} (ht : t < 4) (hc : c < 12) (hi : i ≤ c) : ∀ (m p : Nat) (g : aa_G), 50 * t + 4 * i + 5 + m = p → p ≤ 50 * t + 4 * c + 5 → op_m g0 g p (50 * t + 4 * c + 5) → ∃ g', fn_257_135 g (Int32.ofNat t) a2 a3 a4 b5 (Int32.ofNat i) (Int32.ofNat (p - 1)) = fn_257_179 (zz_w g' 541 b5.toNatClampNeg ((g' 541 b5.toNatClampNeg) + 1)) (Int32.ofNat t) a2 a3 a4 b5 (Int32.ofNat i) ∧ op_m g0 g' (50 * t + 4 * i + 5) (50 * t + 4 * c + 5)
  | 0, p, g, hk, hp, h => by
    refine ⟨g, ?_, by rw [show 50 * t + 4 * i + 5 = p by omega]; exact h⟩
    unfold fn_257_135
    refine lp_r ?_
    show fn_257_135b g (Int32.ofNat t) a2 a3 a4 b5 (Int32.ofNat i) (Int32.ofNat (p - 1)) = _
    unfold fn_257_135b
    rw [ml_pa, if_pos]
    refine aa_lt32.mpr ?_
    rw [zz_ofN (by omega), zz_ofN (by omega)]
    omega
  | m + 1, p, g, hk, hp, h => by
    have hs : fn_257_135 g (Int32.ofNat t) a2 a3 a4 b5 (Int32.ofNat i) (Int32.ofNat (p - 1)) = fn_257_135 (zz_w g 541 (p - 1 + 4) (g 541 (p - 1))) (Int32.ofNat t) a2 a3 a4 b5 (Int32.ofNat i) (Int32.ofNat (p - 1 - 1)) := by
      unfold fn_257_135
      refine lp_l ?_
      show fn_257_135b g (Int32.ofNat t) a2 a3 a4 b5 (Int32.ofNat i) (Int32.ofNat (p - 1)) = _
      unfold fn_257_135b
      rw [ml_pa, if_neg (fun z => by
        have := aa_lt32.mp z
        rw [zz_ofN (by omega), zz_ofN (by omega)] at this
        omega), show Int32.ofNat (p - 1) + 4 = Int32.ofNat (p - 1 + 4) from i_add _ 4, zz_toN (by omega), zz_toN (by omega), i_dec (by omega) (by omega)]
    rw [hs]
    refine om_loop ht hc hi m (p - 1) _ (by omega) (by omega) ⟨fun q => ?_, fun k j z => ?_⟩
    · by_cases hq : q = p - 1 + 4
      · rw [hq, aa_w_at, if_pos (by omega), h.1 (p - 1), if_neg (by omega), show p - 1 + 4 - 4 = p - 1 by omega]
      · rw [aa_w_ne _ _ (by omega), h.1 q]
        by_cases hr : p + 4 ≤ q ∧ q < 50 * t + 4 * c + 5 + 4
        · rw [if_pos hr, if_pos (by omega)]
        · rw [if_neg hr, if_neg (by omega)]
    · rw [aa_w_ne _ _ (by omega)]
      exact h.2 k j z
/-- the model's point is laid down -/
theorem lm_all {g : aa_G} {t i : Nat} {d1 d2 d3 : Int32} (ht : t < 4) (hi : i < 12) : fn_257_179 g (Int32.ofNat t) d1 d2 d3 (Int32.ofNat (50 * t + 4)) (Int32.ofNat i) = (g 541 (50 * t + 4), zz_w (zz_w (zz_w (zz_w g 541 (50 * t + 4 * i + 5) d1) 541 (50 * t + 4 * i + 6) d2) 541 (50 * t + 4 * i + 7) d3) 541 (50 * t + 4 * i + 8) (-1)) := by
  unfold fn_257_179 fn_257_211 fn_177
  rw [ml_pa, zz_toN (by omega), zz_toN (by omega), show Int32.ofNat (50 * t + 4 * i + 5) + 1 = Int32.ofNat (50 * t + 4 * i + 6) from i_add _ 1, show Int32.ofNat (50 * t + 4 * i + 5) + 2 = Int32.ofNat (50 * t + 4 * i + 7) from i_add _ 2, show Int32.ofNat (50 * t + 4 * i + 5) + 3 = Int32.ofNat (50 * t + 4 * i + 8) from i_add _ 3, zz_toN (by omega), zz_toN (by omega), zz_toN (by omega), aa_w_ne _ _ (by omega), aa_w_ne _ _ (by omega), aa_w_ne _ _ (by omega), aa_w_ne _ _ (by omega)]
theorem lm_at {g : aa_G} {P : Nat} {d : Nat → Int32} {q : Nat} : zz_w (zz_w (zz_w (zz_w g 541 (P + 1) (d 1)) 541 (P + 2) (d 2)) 541 (P + 3) (d 3)) 541 (P + 4) (d 4) 541 q = if P + 1 ≤ q ∧ q ≤ P + 4 then d (q - P) else g 541 q := by
  by_cases h : P + 1 ≤ q ∧ q ≤ P + 4
  · rw [if_pos h]
    rcases (show q = P + 1 ∨ q = P + 2 ∨ q = P + 3 ∨ q = P + 4 by omega) with rfl | rfl | rfl | rfl
    · rw [aa_w_ne _ _ (by omega), aa_w_ne _ _ (by omega), aa_w_ne _ _ (by omega), aa_w_at, show P + 1 - P = 1 by omega]
    · rw [aa_w_ne _ _ (by omega), aa_w_ne _ _ (by omega), aa_w_at, show P + 2 - P = 2 by omega]
    · rw [aa_w_ne _ _ (by omega), aa_w_at, show P + 3 - P = 3 by omega]
    · rw [aa_w_at, show P + 4 - P = 4 by omega]
  · rw [if_neg h, aa_w_ne _ _ (by omega), aa_w_ne _ _ (by omega), aa_w_ne _ _ (by omega), aa_w_ne _ _ (by omega)]
theorem mu_set {B : rq_Q} (hcp : rq_cp B) (hbf : rq_bf B) {gc gm : aa_G} (hi : aa_inv gm) (h : rr_g (qb_s B) gc gm) (a d x y : Int32) : mu_ok B (fn_65 gc a d x y) (fn_257 gm a d x y) := by
  have h' := h
  obtain ⟨h0, h2, ⟨cc, e, hd⟩, hs⟩ := h
  have h := h'
  obtain ⟨pc, pm⟩ := rr_push hd
  have he := hd.1.2
  have h66 : ∀ z, fn_66 z = fn_14 z 0 86399 := fun _ => rfl
  have h199 : ∀ z, fn_199 z = fn_154 z 0 86399 := fun _ => rfl
  unfold fn_65 fn_257
  rw [h66, h66, h199, h199]
  rcases ct_two hi h0 a with ⟨t, t4, rfl, tn, e1, e2, k⟩ | ⟨tn, e1, e2⟩
  · rw [e1, e2, if_neg (c := (1 : Int32) = 0) (by decide)]
    dsimp only
    by_cases g1 : (0 : Int32).toInt ≤ d.toInt ∧ d.toInt ≤ (359 : Int32).toInt
    · rw [if_pos (ti_14n.mpr g1), if_neg (ti_154n.mpr g1)]
      by_cases g2 : (0 : Int32).toInt ≤ x.toInt ∧ x.toInt ≤ (86399 : Int32).toInt
      · rw [if_neg (ti_14n.mpr g2), if_neg (ti_154n.mpr g2)]
        by_cases g3 : (0 : Int32).toInt ≤ y.toInt ∧ y.toInt ≤ (86399 : Int32).toInt
        · rw [if_neg (ti_14n.mpr g3), if_neg (ti_154n.mpr g3)]
          by_cases g4 : x < y
          · rw [if_pos g4, if_pos g4]
            obtain ⟨c, hc, h1⟩ := tq_count hi t4
            obtain ⟨i, i1, i2, i3, i4, i5⟩ := tq_find (d := d) t4 k hc h1
            have x2 : ∀ q, q < 399 → fn_156 gm 541 q = gm 541 q := fun q hq => pm.2.2.2 _ _ (by omega) (by omega)
            have xc : ∀ k j, 2 ≤ k → k ≤ 33 → fn_40 gc k j = gc k j := fun k j a1 a2 => pc.2.2.2 k j (by omega) (by omega)
            have k2 : tq_t (fn_40 gc) (fn_156 gm) (5 * t + 14) (50 * t + 3) := tq_same (by rw [show gm 541 (50 * t + 3 + 1) = gm 541 (50 * t + 4) from rfl, h1, i_12 hc]; omega) (fun k j a1 a2 => xc k j (by omega) (by omega)) (fun q hq => x2 _ (by omega)) k
            have m1 : fn_156 gm 541 (50 * t + 4) = Int32.ofNat c := (x2 _ (by omega)).trans h1
            have c1 : fn_40 gc (5 * t + 14) 1 = Int32.ofNat c := (xc _ _ (by omega) (by omega)).trans (k.2.1.trans h1)
            have c1' : gc (5 * t + 14) 1 = Int32.ofNat c := k.2.1.trans h1
            have mz : (fn_156 gm 541 (50 * t + 3 + 1)).toInt = c := by
              show (fn_156 gm 541 (50 * t + 4)).toInt = c
              rw [m1, i_12 hc]
            have YA : ∀ j, fn_156 gm 541 (50 * t + 3 + 1 + 4 * j + 1) = fn_156 gm 541 (50 * t + 4 * j + 5) := fun j => by rw [show 50 * t + 3 + 1 + 4 * j + 1 = 50 * t + 4 * j + 5 by omega]
            rw [i2, ml_ta, show Int32.ofNat (50 * t + 3) + 1 = Int32.ofNat (50 * t + 4) from i_add _ 1, zz_toN (by omega), h1, ml_pa, zz_toN (by omega)]
            rcases i5 with ⟨j1, j2, j3⟩ | ⟨j1, j2⟩
            · -- the point is there: it is another one
              rw [j3, if_pos (c := Int32.ofNat i ≠ -1) (ml_n1 (by omega)), if_neg (c := Int32.ofNat c ≤ Int32.ofNat i) (fun z => by
                have := (i_le (by omega) (by omega)).mp z
                omega), if_neg (c := gm 541 (50 * t + 4 * i + 5) ≠ d) (fun z => z j2)]
              have f63 : fn_63 (fn_40 gc) (5 * t + 14) d = Int32.ofNat i := by
                rcases po_all (d := d) c1 hc with ⟨x', x1', x2', x3', x4'⟩ | ⟨x1', x2'⟩
                · rw [x4']
                  congr 1
                  have v : ∀ z, z < c → fn_40 gc (5 * t + 14 + 1) z = gm 541 (50 * t + 4 * z + 5) := fun z hz => by
                    have := k2.2.2.1 z (by rw [mz]; omega) 1 (by omega) (by omega)
                    rw [this, YA, x2 _ (by omega)]
                  rw [v _ x1'] at x2'
                  rcases Nat.lt_trichotomy x' i with z | z | z
                  · have := i3 x' z
                    rw [x2'] at this
                    omega
                  · exact z
                  · have := i4 x' z x1'
                    rw [x2'] at this
                    omega
                · exact absurd (by
                    have := k2.2.2.1 i (by rw [mz]; omega) 1 (by omega) (by omega)
                    rw [this, YA, x2 _ (by omega), j2]) (x1' i j1)
              unfold fn_65_73 fn_65_84 fn_65_95 fn_67 fn_67_29
              rw [f63, if_pos (c := Int32.ofNat i ≠ -1) (ml_n1 (by omega)), if_neg (c := Int32.ofNat i = -1) (ml_n1 (by omega)), fl_all (by omega)]
              unfold fn_257_90 fn_257_111 fn_257_115
              rw [if_pos (c := (1 : Int32) ≠ 0) (by decide), if_pos (c := (1 : Int32) ≠ 0) (by decide), lm_all t4 (by omega), fl_ne (by omega), c1, m1]
              have L : ∀ q, zz_w (zz_w (zz_w (zz_w (fn_156 gm) 541 (50 * t + 4 * i + 5) d) 541 (50 * t + 4 * i + 6) x) 541 (50 * t + 4 * i + 7) y) 541 (50 * t + 4 * i + 8) (-1) 541 q = if 50 * t + 4 * i + 4 + 1 ≤ q ∧ q ≤ 50 * t + 4 * i + 4 + 4 then (fun o => if o = 1 then d else if o = 2 then x else if o = 3 then y else -1) (q - (50 * t + 4 * i + 4)) else fn_156 gm 541 q := fun q => lm_at (P := 50 * t + 4 * i + 4) (d := fun o => if o = 1 then d else if o = 2 then x else if o = 3 then y else -1)
              have F : ∀ o j, 1 ≤ o → o ≤ 4 → zz_w (zz_w (zz_w (zz_w (fn_40 gc) (5 * t + 14 + 1) i d) (5 * t + 14 + 2) i x) (5 * t + 14 + 3) i y) (5 * t + 14 + 4) i (-1) (5 * t + 14 + o) j = if j = i then (fun o => if o = 1 then d else if o = 2 then x else if o = 3 then y else -1) o else fn_40 gc (5 * t + 14 + o) j := fl_at (d := fun o => if o = 1 then d else if o = 2 then x else if o = 3 then y else -1)
              refine mu_mk rfl (mu_town hcp hbf hi tn h hd pc pm (fun k j z => fl_ne (by omega)) (fun k j z => ?_) ⟨?_, ?_, fun j hj o o1 o2 => ?_, fun j hj => ?_⟩)
              · rw [aa_w_ne _ _ (by omega), aa_w_ne _ _ (by omega), aa_w_ne _ _ (by omega), aa_w_ne _ _ (by omega)]
              · rw [fl_ne (by omega), L, if_neg (by omega)]
                exact k2.1
              · rw [fl_ne (by omega), L, if_neg (by omega)]
                exact k2.2.1
              · rw [L, if_neg (by omega)] at hj
                rw [F o j o1 o2, L]
                by_cases hji : j = i
                · rw [if_pos hji, if_pos (by omega), show 50 * t + 3 + 1 + 4 * j + o - (50 * t + 4 * i + 4) = o by omega]
                · rw [if_neg hji, if_neg (by omega)]
                  exact k2.2.2.1 j hj o o1 o2
              · rw [L, if_neg (by omega)] at hj
                have V : ∀ j, (if 50 * t + 4 * i + 4 + 1 ≤ 50 * t + 3 + 1 + 4 * j + 1 ∧ 50 * t + 3 + 1 + 4 * j + 1 ≤ 50 * t + 4 * i + 4 + 4 then (fun o => if o = 1 then d else if o = 2 then x else if o = 3 then y else -1) (50 * t + 3 + 1 + 4 * j + 1 - (50 * t + 4 * i + 4)) else fn_156 gm 541 (50 * t + 3 + 1 + 4 * j + 1)) = fn_156 gm 541 (50 * t + 3 + 1 + 4 * j + 1) := fun j => by
                  by_cases hji : j = i
                  · rw [if_pos (by omega), show 50 * t + 3 + 1 + 4 * j + 1 - (50 * t + 4 * i + 4) = 1 by omega, hji, YA, x2 _ (by omega), j2]
                    rfl
                  · rw [if_neg (by omega)]
                rw [L, L, V, V]
                exact k2.2.2.2 j hj
            · -- a point more
              rw [j2, if_neg (c := (-1 : Int32) ≠ -1) (fun z => z rfl), c1']
              have em : (if Int32.ofNat c ≤ Int32.ofNat i then fn_257_89 gm (Int32.ofNat t) d x y (Int32.ofNat (50 * t + 4)) (Int32.ofNat i) else if gm 541 (50 * t + 4 * i + 5) ≠ d then fn_257_89 gm (Int32.ofNat t) d x y (Int32.ofNat (50 * t + 4)) (Int32.ofNat i) else fn_257_90 gm (Int32.ofNat t) d x y (Int32.ofNat (50 * t + 4)) (Int32.ofNat i) 1) = fn_257_89 gm (Int32.ofNat t) d x y (Int32.ofNat (50 * t + 4)) (Int32.ofNat i) := by
                by_cases hic : Int32.ofNat c ≤ Int32.ofNat i
                · rw [if_pos hic]
                · rw [if_neg hic, if_pos]
                  intro z
                  have h9 := mt (i_le (a := c) (b := i) (by omega) (by omega)).mpr hic
                  have := j1 (by omega)
                  rw [z] at this
                  omega
              rw [em]
              unfold fn_257_89 fn_257_90 fn_257_111 fn_257_115
              rw [if_neg (c := (0 : Int32) ≠ 0) (fun z => z rfl), if_neg (c := (0 : Int32) ≠ 0) (fun z => z rfl), zz_toN (by omega), h1, m1]
              by_cases h12 : c < 12
              · rw [if_pos (aa_lt32.mpr (by rw [i_12 hc]; show (c : Int) < 12; omega)), if_pos (c := Int32.ofNat c ≠ 12) (fun z => by
                  have := congrArg Int32.toInt z
                  rw [i_12 hc, show (12 : Int32).toInt = 12 from rfl] at this
                  omega), ml_pa, i_sub1 (by omega) (by omega)]
                have v : ∀ z, z < c → fn_40 gc (5 * t + 14 + 1) z = gm 541 (50 * t + 4 * z + 5) := fun z hz => by
                  have := k2.2.2.1 z (by rw [mz]; omega) 1 (by omega) (by omega)
                  rw [this, YA, x2 _ (by omega)]
                obtain ⟨gx, ex, sx⟩ := op_loop (g0 := fn_40 gc) (T := 5 * t + 14) (d := d) h12 i1 c1 (fun j hj => by rw [v j (by omega)]; have := i3 j hj; omega) (fun j ha hb => by
                  rw [v j hb]
                  by_cases z : j = i
                  · rw [z]; exact j1 (by omega)
                  · exact i4 j (by omega) hb) (c - i) c (fn_40 gc) (by omega) (Nat.le_refl c) ⟨fun o j o1 o2 => by rw [if_neg (by omega)], fun _ _ _ => rfl⟩
                obtain ⟨gy, ey, sy⟩ := om_loop (g0 := fn_156 gm) (a2 := d) (a3 := x) (a4 := y) (b5 := Int32.ofNat (50 * t + 4)) t4 h12 i1 (4 * c - 4 * i) (50 * t + 4 * c + 5) (fn_156 gm) (by omega) (Nat.le_refl _) ⟨fun q => by rw [if_neg (by omega)], fun _ _ _ => rfl⟩
                rw [ey, zz_toN (by omega)]
                have sy4 : gy 541 (50 * t + 4) = Int32.ofNat c := by rw [sy.1, if_neg (by omega), m1]
                rw [sy4, aa_succ, lm_all t4 (by omega), aa_w_at]
                have f63 : fn_63 (fn_40 gc) (5 * t + 14) d = -1 := by
                  rcases po_all (d := d) c1 hc with ⟨x', x1', x2', x3', x4'⟩ | ⟨x1', x2'⟩
                  · rw [v _ x1'] at x2'
                    exfalso
                    rcases Nat.lt_trichotomy x' i with z | z | z
                    · have := i3 x' z
                      rw [x2'] at this
                      omega
                    · have := j1 (by omega)
                      rw [← z, x2'] at this
                      omega
                    · have := i4 x' z x1'
                      rw [x2'] at this
                      omega
                  · exact x2'
                unfold fn_65_73 fn_65_84 fn_65_95 fn_67 fn_67_27 fn_67_29
                rw [f63, if_neg (c := (-1 : Int32) ≠ -1) (fun z => z rfl), c1, if_neg (c := (12 : Int32) ≤ Int32.ofNat c) (fun z => by
                  have := aa_le32.mp z
                  rw [i_12 hc, show (12 : Int32).toInt = 12 from rfl] at this
                  omega)]
                have e68 : fn_68 (fn_40 gc) (5 * t + 14) d = (Int32.ofNat i, zz_w gx (5 * t + 14) 1 (Int32.ofNat (c + 1))) := by
                  unfold fn_68
                  rw [c1]
                  exact ex
                rw [e68]
                dsimp only
                rw [if_neg (c := Int32.ofNat i = -1) (ml_n1 (by omega)), fl_all (by omega), fl_ne (by omega), aa_w_at]
                have L : ∀ q, zz_w (zz_w (zz_w (zz_w (zz_w gy 541 (50 * t + 4) (Int32.ofNat (c + 1))) 541 (50 * t + 4 * i + 5) d) 541 (50 * t + 4 * i + 6) x) 541 (50 * t + 4 * i + 7) y) 541 (50 * t + 4 * i + 8) (-1) 541 q = if 50 * t + 4 * i + 4 + 1 ≤ q ∧ q ≤ 50 * t + 4 * i + 4 + 4 then (fun o => if o = 1 then d else if o = 2 then x else if o = 3 then y else -1) (q - (50 * t + 4 * i + 4)) else zz_w gy 541 (50 * t + 4) (Int32.ofNat (c + 1)) 541 q := fun q => lm_at (P := 50 * t + 4 * i + 4) (d := fun o => if o = 1 then d else if o = 2 then x else if o = 3 then y else -1)
                have F : ∀ o j, 1 ≤ o → o ≤ 4 → zz_w (zz_w (zz_w (zz_w (zz_w gx (5 * t + 14) 1 (Int32.ofNat (c + 1))) (5 * t + 14 + 1) i d) (5 * t + 14 + 2) i x) (5 * t + 14 + 3) i y) (5 * t + 14 + 4) i (-1) (5 * t + 14 + o) j = if j = i then (fun o => if o = 1 then d else if o = 2 then x else if o = 3 then y else -1) o else zz_w gx (5 * t + 14) 1 (Int32.ofNat (c + 1)) (5 * t + 14 + o) j := fl_at (d := fun o => if o = 1 then d else if o = 2 then x else if o = 3 then y else -1)
                have M1 : ∀ q, 50 * t + 4 * i + 4 + 4 < q → q ≤ 50 * t + 4 * c + 8 → zz_w gy 541 (50 * t + 4) (Int32.ofNat (c + 1)) 541 q = fn_156 gm 541 (q - 4) := fun q q1 q2 => by
                  rw [aa_w_ne _ _ (by omega), sy.1, if_pos (by omega)]
                have M2 : ∀ q, q < 50 * t + 4 * i + 5 → q ≠ 50 * t + 4 → zz_w gy 541 (50 * t + 4) (Int32.ofNat (c + 1)) 541 q = fn_156 gm 541 q := fun q q1 q2 => by
                  rw [aa_w_ne _ _ (by omega), sy.1, if_neg (by omega)]
                refine mu_mk rfl (mu_town hcp hbf hi tn h hd pc pm (fun k j z => ?_) (fun k j z => ?_) ⟨?_, ?_, fun j hj o o1 o2 => ?_, fun j hj => ?_⟩)
                · rw [fl_ne (by omega), aa_w_ne _ _ (by omega)]
                  exact sx.2 k j (by omega)
                · rw [aa_w_ne _ _ (by omega), aa_w_ne _ _ (by omega), aa_w_ne _ _ (by omega), aa_w_ne _ _ (by omega), aa_w_ne _ _ (by omega)]
                  by_cases hk : k = 541
                  · subst hk
                    rw [sy.1, if_neg (by omega)]
                  · exact sy.2 k j hk
                · rw [fl_ne (by omega), L, if_neg (by omega), M2 _ (by omega) (by omega), aa_w_ne _ _ (by omega), sx.2 _ _ (by omega)]
                  exact k2.1
                · rw [fl_ne (by omega), L, if_neg (by omega), show 50 * t + 3 + 1 = 50 * t + 4 by omega, aa_w_at, aa_w_at]
                · rw [L, if_neg (by omega), show 50 * t + 3 + 1 = 50 * t + 4 by omega, aa_w_at, i_12 (by omega)] at hj
                  rw [F o j o1 o2, L]
                  by_cases hji : j = i
                  · rw [if_pos hji, if_pos (by omega), show 50 * t + 3 + 1 + 4 * j + o - (50 * t + 4 * i + 4) = o by omega]
                  · rw [if_neg hji, if_neg (by omega), aa_w_ne _ _ (by omega), sx.1 o j o1 o2]
                    by_cases hjl : i < j
                    · rw [if_pos (by omega), M1 _ (by omega) (by omega), show 50 * t + 3 + 1 + 4 * j + o - 4 = 50 * t + 3 + 1 + 4 * (j - 1) + o by omega]
                      exact k2.2.2.1 (j - 1) (by rw [mz]; omega) o o1 o2
                    · rw [if_neg (by omega), M2 _ (by omega) (by omega)]
                      exact k2.2.2.1 j (by rw [mz]; omega) o o1 o2
                · rw [L, if_neg (by omega), show 50 * t + 3 + 1 = 50 * t + 4 by omega, aa_w_at, i_12 (by omega)] at hj
                  have s1 : j + 1 < c → _ := fun z => k2.2.2.2 j (by rw [mz]; omega)
                  have s2 : 1 ≤ j → j < c → _ := fun z1 z2 => k2.2.2.2 (j - 1) (by rw [mz]; omega)
                  have z1 : j < i → _ := i3 j
                  have z2 : i < c → d.toInt < _ := j1
                  rw [L, L]
                  by_cases c1 : j = i
                  · rw [if_pos (by omega), show 50 * t + 3 + 1 + 4 * j + 1 - (50 * t + 4 * i + 4) = 1 by omega, if_neg (by omega), M1 _ (by omega) (by omega), show 50 * t + 3 + 1 + 4 * (j + 1) + 1 - 4 = 50 * t + 4 * i + 5 by omega, x2 _ (by omega)]
                    exact j1 (by omega)
                  · by_cases c2 : j + 1 = i
                    · rw [if_neg (by omega), M2 _ (by omega) (by omega), if_pos (by omega), show 50 * t + 3 + 1 + 4 * (j + 1) + 1 - (50 * t + 4 * i + 4) = 1 by omega, YA, x2 _ (by omega)]
                      exact i3 j (by omega)
                    · by_cases c3 : j < i
                      · rw [if_neg (by omega), M2 _ (by omega) (by omega), if_neg (by omega), M2 _ (by omega) (by omega)]
                        exact s1 (by omega)
                      · rw [if_neg (by omega), M1 _ (by omega) (by omega), if_neg (by omega), M1 _ (by omega) (by omega), show 50 * t + 3 + 1 + 4 * j + 1 - 4 = 50 * t + 3 + 1 + 4 * (j - 1) + 1 by omega, show 50 * t + 3 + 1 + 4 * (j + 1) + 1 - 4 = 50 * t + 3 + 1 + 4 * (j - 1 + 1) + 1 by omega]
                        exact s2 (by omega) (by omega)
              · have hc12 : c = 12 := by omega
                subst hc12
                rw [if_neg (by decide), if_neg (c := Int32.ofNat 12 ≠ 12) (fun z => z rfl)]
                exact mu_mk rfl h
          · rw [if_neg g4, if_neg g4]
            exact mu_mk rfl h
        · rw [if_pos (ti_14z.mpr g3), if_pos (ti_154z.mpr g3)]
          exact mu_mk rfl h
      · rw [if_pos (ti_14z.mpr g2), if_pos (ti_154z.mpr g2)]
        exact mu_mk rfl h
    · rw [if_neg (fun z => g1 (ti_14n.mp z)), if_pos (ti_154z.mpr g1)]
      exact mu_mk rfl h
  · rw [e1, e2, if_pos rfl]
    exact mu_mk rfl h
end
