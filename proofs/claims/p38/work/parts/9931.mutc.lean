/-! METHODS READ (printed by wip/dc/dc.py) -/
-- 60: UnequalHours offset
noncomputable def fn_60_40 (g : aa_G) (b2 : Int32) (B3 : Nat) : Int32 × aa_G := (g B3 0, zz_w g B3 0 b2)
theorem dn_60_40 {v : Option Value} {h : zz_H} {n : Nat} {g : aa_G} {b2 : Int32} {B3 : Nat} (hB3 : ct_tw B3) (x0 x1 x4 : Option Value) (jx0 : rn_jk x0) (jx1 : rn_jk x1) (jx4 : rn_jk x4) (r : rn_s n 60 (40, [x0, x1, some (.int b2), some (.ref B3), x4], [.ref B3], aa_H g) v h) : iw_s v h (fn_60_40 g b2 B3) := by
  unfold fn_60_40
  obtain ⟨n19, ln19, r⟩ := rn_gf rfl (tw_hk hB3) (tw_hl hB3) rfl r
  have r : rn_s _ 60 (43, [x0, x1, some (.int b2), some (.ref B3), x4], [.int (g B3 0)], aa_H g) v h := r
  obtain ⟨n20, ln20, r⟩ := rn_steps 2 (47, [x0, x1, some (.int b2), some (.ref B3), some (.int (g B3 0))], [.int b2, .ref B3], aa_H g) rfl r
  obtain ⟨n21, ln21, r⟩ := rn_pf rfl (tw_hk hB3) (tw_hl hB3) rfl r
  have r : rn_s _ 60 (50, [x0, x1, some (.int b2), some (.ref B3), some (.int (g B3 0))], [], aa_H (zz_w g B3 0 b2)) v h := r
  obtain ⟨n22, ln22, r⟩ := rn_steps 0 (52, [x0, x1, some (.int b2), some (.ref B3), some (.int (g B3 0))], [.int (g B3 0)], aa_H (zz_w g B3 0 b2)) rfl r
  exact rn_ire rfl r
noncomputable def fn_60 (g : aa_G) (a1 : Int32) (a2 : Int32) : Int32 × aa_G := (match fn_31 g a1 with | none => ((-1000000, g)) | some W6 => (if (fn_14 a2 (-43200) 43200) ≠ 0 then fn_60_40 (fn_40 g) a2 W6 else (-1000000, g)))
theorem dn_60 {v : Option Value} {h : zz_H} {n : Nat} {g : aa_G} {a1 : Int32} {a2 : Int32} (hi : rem_ok g) (r : rn_s n 60 (0, zz_in [.ref 1, .int a1, .int a2] (zz_nl 60), [], aa_H g) v h) : iw_s v h (fn_60 g a1 a2) := by
  have r : rn_s n 60 (0, [some (.ref 1), some (.int a1), some (.int a2), none, none], [], aa_H g) v h := r
  unfold fn_60
  obtain ⟨n1, ln1, r⟩ := rn_steps 2 (5, [some (.ref 1), some (.int a1), some (.int a2), none, none], [.int a1, .ref 2], aa_H g) rfl r
  obtain ⟨_, n2, v1, h1, -, ln2, rc, r⟩ := rn_call (m2 := 31) (as := [.ref 2, .int a1]) (rest := []) rfl rfl r
  obtain ⟨rfl, rfl, ho4⟩ := dn_31 rc
  have r : rn_s _ 60 (8, [some (.ref 1), some (.int a1), some (.int a2), none, none], [zz_val (fn_31 g a1)], aa_H g) v h := r
  cases e5 : fn_31 g a1 with
  | none =>
    rw [e5] at r
    have r : rn_s _ 60 (8, [some (.ref 1), some (.int a1), some (.int a2), none, none], [.null], aa_H g) v h := r
    dsimp only
    obtain ⟨n8, ln8, r⟩ := rn_steps 3 (27, [some (.ref 1), some (.int a1), some (.int a2), some (.null), none], [.int (-1000000)], aa_H g) rfl r
    exact rn_ire rfl r
  | some W6 =>
    rw [e5] at r
    have hw7 : ct_tw W6 := ho4 _ e5
    have r : rn_s _ 60 (8, [some (.ref 1), some (.int a1), some (.int a2), none, none], [.ref W6], aa_H g) v h := r
    dsimp only
    obtain ⟨n9, ln9, r⟩ := rn_steps 5 (19, [some (.ref 1), some (.int a1), some (.int a2), some (.ref W6), none], [.int 43200, .int (-43200), .int a2], aa_H g) rfl r
    obtain ⟨_, n10, v1, h1, -, ln10, rc, r⟩ := rn_call (m2 := 14) (as := [.int a2, .int (-43200), .int 43200]) (rest := []) rfl rfl r
    obtain ⟨rfl, rfl⟩ := dn_14 rc
    have r : rn_s _ 60 (22, [some (.ref 1), some (.int a1), some (.int a2), some (.ref W6), none], [.int (fn_14 a2 (-43200) 43200)], aa_H g) v h := r
    refine rn_if (iw_s v h) rfl decide_eq_true_iff.symm r (fun c12 l13n l13 r => ?_) (fun c12 l13n l13 r => ?_)
    · obtain ⟨n14, ln14, r⟩ := rn_steps 3 (36, [some (.ref 1), some (.int a1), some (.int a2), some (.ref W6), none], [.ref 2, .ref 66], aa_H g) rfl r
      obtain ⟨_, n15, v1, h1, -, ln15, rc, r⟩ := rn_call (m2 := 40) (as := [.ref 66, .ref 2]) (rest := []) rfl rfl r
      obtain ⟨rfl, rfl⟩ := dn_40 hi rc
      have r : rn_s _ 60 (39, [some (.ref 1), some (.int a1), some (.int a2), some (.ref W6), none], [], aa_H (fn_40 g)) v h := r
      obtain ⟨n17, ln17, r⟩ := rn_steps 0 (40, [some (.ref 1), some (.int a1), some (.int a2), some (.ref W6), none], [.ref W6], aa_H (fn_40 g)) rfl r
      exact dn_60_40 hw7 (some (.ref 1)) (some (.int a1)) none rn_jr rn_ji rn_jn r
    · obtain ⟨n18, ln18, r⟩ := rn_steps 0 (27, [some (.ref 1), some (.int a1), some (.int a2), some (.ref W6), none], [.int (-1000000)], aa_H g) rfl r
      exact rn_ire rfl r
-- 61: UnequalHours parts
noncomputable def fn_61_24 (g : aa_G) (b1 : Int32) : Int32 × aa_G := (g 2 1, zz_w g 2 1 b1)
theorem dn_61_24 {v : Option Value} {h : zz_H} {n : Nat} {g : aa_G} {b1 : Int32}  (x2 : Option Value) (jx2 : rn_jk x2) (r : rn_s n 61 (24, [some (.ref 1), some (.int b1), x2], [], aa_H g) v h) : iw_s v h (fn_61_24 g b1) := by
  unfold fn_61_24
  obtain ⟨n10, ln10, r⟩ := rn_steps 8 (41, [some (.ref 1), some (.int b1), some (.int (g 2 1))], [.int (g 2 1)], aa_H (zz_w g 2 1 b1)) rfl r
  exact rn_ire rfl r
noncomputable def fn_61 (g : aa_G) (a1 : Int32) : Int32 × aa_G := if (fn_14 a1 1 3600) ≠ 0 then fn_61_24 (fn_40 g) a1 else (-1, g)
theorem dn_61 {v : Option Value} {h : zz_H} {n : Nat} {g : aa_G} {a1 : Int32} (hi : rem_ok g) (r : rn_s n 61 (0, zz_in [.ref 1, .int a1] (zz_nl 61), [], aa_H g) v h) : iw_s v h (fn_61 g a1) := by
  have r : rn_s n 61 (0, [some (.ref 1), some (.int a1), none], [], aa_H g) v h := r
  unfold fn_61
  obtain ⟨n1, ln1, r⟩ := rn_steps 2 (5, [some (.ref 1), some (.int a1), none], [.int 3600, .int 1, .int a1], aa_H g) rfl r
  obtain ⟨_, n2, v1, h1, -, ln2, rc, r⟩ := rn_call (m2 := 14) (as := [.int a1, .int 1, .int 3600]) (rest := []) rfl rfl r
  obtain ⟨rfl, rfl⟩ := dn_14 rc
  have r : rn_s _ 61 (8, [some (.ref 1), some (.int a1), none], [.int (fn_14 a1 1 3600)], aa_H g) v h := r
  refine rn_if (iw_s v h) rfl decide_eq_true_iff.symm r (fun c4 l5n l5 r => ?_) (fun c4 l5n l5 r => ?_)
  · obtain ⟨n6, ln6, r⟩ := rn_steps 3 (21, [some (.ref 1), some (.int a1), none], [.ref 2, .ref 66], aa_H g) rfl r
    obtain ⟨_, n7, v1, h1, -, ln7, rc, r⟩ := rn_call (m2 := 40) (as := [.ref 66, .ref 2]) (rest := []) rfl rfl r
    obtain ⟨rfl, rfl⟩ := dn_40 hi rc
    have r : rn_s _ 61 (24, [some (.ref 1), some (.int a1), none], [], aa_H (fn_40 g)) v h := r
    exact dn_61_24 none rn_jn r
  · obtain ⟨n9, ln9, r⟩ := rn_steps 0 (12, [some (.ref 1), some (.int a1), none], [.int (-1)], aa_H g) rfl r
    exact rn_ire rfl r
-- 36: UnequalHours Town fill
noncomputable def fn_36 (g : aa_G) (T : Nat) (a1 : Int32) (a2 : Int32) (a3 : Int32) (a4 : Int32) (a5 : Int32) : aa_G := if (fn_14 a1 0 11) ≠ 0 then zz_w (zz_w (zz_w (zz_w g (T + 1) a1.toNatClampNeg a2) (T + 2) a1.toNatClampNeg a3) (T + 3) a1.toNatClampNeg a4) (T + 4) a1.toNatClampNeg a5 else g
theorem dn_36 {v : Option Value} {h : zz_H} {n : Nat} {g : aa_G} {T : Nat} {a1 : Int32} {a2 : Int32} {a3 : Int32} {a4 : Int32} {a5 : Int32} (hT : ct_tw T) (r : rn_s n 36 (0, zz_in [.ref T, .int a1, .int a2, .int a3, .int a4, .int a5] (zz_nl 36), [], aa_H g) v h) : ig_s v h (fn_36 g T a1 a2 a3 a4 a5) := by
  have r : rn_s n 36 (0, [some (.ref T), some (.int a1), some (.int a2), some (.int a3), some (.int a4), some (.int a5)], [], aa_H g) v h := r
  unfold fn_36
  obtain ⟨n1, ln1, r⟩ := rn_steps 2 (4, [some (.ref T), some (.int a1), some (.int a2), some (.int a3), some (.int a4), some (.int a5)], [.int 11, .int 0, .int a1], aa_H g) rfl r
  obtain ⟨_, n2, v1, h1, -, ln2, rc, r⟩ := rn_call (m2 := 14) (as := [.int a1, .int 0, .int 11]) (rest := []) rfl rfl r
  obtain ⟨rfl, rfl⟩ := dn_14 rc
  have r : rn_s _ 36 (7, [some (.ref T), some (.int a1), some (.int a2), some (.int a3), some (.int a4), some (.int a5)], [.int (fn_14 a1 0 11)], aa_H g) v h := r
  refine rn_if (ig_s v h) rfl decide_eq_true_iff.symm r (fun c4 l5n l5 r => ?_) (fun c4 l5n l5 r => ?_)
  · obtain ⟨n6, ln6, r⟩ := rn_steps 0 (12, [some (.ref T), some (.int a1), some (.int a2), some (.int a3), some (.int a4), some (.int a5)], [.ref T], aa_H g) rfl r
    obtain ⟨n7, ln7, r⟩ := rn_gr rfl (tw_hk hT) (tw_hl hT) rfl r
    have r : rn_s _ 36 (15, [some (.ref T), some (.int a1), some (.int a2), some (.int a3), some (.int a4), some (.int a5)], [.ref (T + 1)], aa_H g) v h := r
    obtain ⟨n8, ln8, r⟩ := rn_steps 1 (17, [some (.ref T), some (.int a1), some (.int a2), some (.int a3), some (.int a4), some (.int a5)], [.int a2, .int a1, .ref (T + 1)], aa_H g) rfl r
    obtain ⟨hb10, n9, ln9, r⟩ := rn_ias rfl (tw_a1 hT).1 (tw_a1 hT).2 r
    have r : rn_s _ 36 (18, [some (.ref T), some (.int a1), some (.int a2), some (.int a3), some (.int a4), some (.int a5)], [], aa_H (zz_w g (T + 1) a1.toNatClampNeg a2)) v h := r
    obtain ⟨n11, ln11, r⟩ := rn_steps 0 (19, [some (.ref T), some (.int a1), some (.int a2), some (.int a3), some (.int a4), some (.int a5)], [.ref T], aa_H (zz_w g (T + 1) a1.toNatClampNeg a2)) rfl r
    obtain ⟨n12, ln12, r⟩ := rn_gr rfl (tw_hk hT) (tw_hl hT) rfl r
    have r : rn_s _ 36 (22, [some (.ref T), some (.int a1), some (.int a2), some (.int a3), some (.int a4), some (.int a5)], [.ref (T + 2)], aa_H (zz_w g (T + 1) a1.toNatClampNeg a2)) v h := r
    obtain ⟨n13, ln13, r⟩ := rn_steps 1 (24, [some (.ref T), some (.int a1), some (.int a2), some (.int a3), some (.int a4), some (.int a5)], [.int a3, .int a1, .ref (T + 2)], aa_H (zz_w g (T + 1) a1.toNatClampNeg a2)) rfl r
    obtain ⟨hb15, n14, ln14, r⟩ := rn_ias rfl (tw_a2 hT).1 (tw_a2 hT).2 r
    have r : rn_s _ 36 (25, [some (.ref T), some (.int a1), some (.int a2), some (.int a3), some (.int a4), some (.int a5)], [], aa_H (zz_w (zz_w g (T + 1) a1.toNatClampNeg a2) (T + 2) a1.toNatClampNeg a3)) v h := r
    obtain ⟨n16, ln16, r⟩ := rn_steps 0 (26, [some (.ref T), some (.int a1), some (.int a2), some (.int a3), some (.int a4), some (.int a5)], [.ref T], aa_H (zz_w (zz_w g (T + 1) a1.toNatClampNeg a2) (T + 2) a1.toNatClampNeg a3)) rfl r
    obtain ⟨n17, ln17, r⟩ := rn_gr rfl (tw_hk hT) (tw_hl hT) rfl r
    have r : rn_s _ 36 (29, [some (.ref T), some (.int a1), some (.int a2), some (.int a3), some (.int a4), some (.int a5)], [.ref (T + 3)], aa_H (zz_w (zz_w g (T + 1) a1.toNatClampNeg a2) (T + 2) a1.toNatClampNeg a3)) v h := r
    obtain ⟨n18, ln18, r⟩ := rn_steps 1 (32, [some (.ref T), some (.int a1), some (.int a2), some (.int a3), some (.int a4), some (.int a5)], [.int a4, .int a1, .ref (T + 3)], aa_H (zz_w (zz_w g (T + 1) a1.toNatClampNeg a2) (T + 2) a1.toNatClampNeg a3)) rfl r
    obtain ⟨hb20, n19, ln19, r⟩ := rn_ias rfl (tw_a3 hT).1 (tw_a3 hT).2 r
    have r : rn_s _ 36 (33, [some (.ref T), some (.int a1), some (.int a2), some (.int a3), some (.int a4), some (.int a5)], [], aa_H (zz_w (zz_w (zz_w g (T + 1) a1.toNatClampNeg a2) (T + 2) a1.toNatClampNeg a3) (T + 3) a1.toNatClampNeg a4)) v h := r
    obtain ⟨n21, ln21, r⟩ := rn_steps 0 (34, [some (.ref T), some (.int a1), some (.int a2), some (.int a3), some (.int a4), some (.int a5)], [.ref T], aa_H (zz_w (zz_w (zz_w g (T + 1) a1.toNatClampNeg a2) (T + 2) a1.toNatClampNeg a3) (T + 3) a1.toNatClampNeg a4)) rfl r
    obtain ⟨n22, ln22, r⟩ := rn_gr rfl (tw_hk hT) (tw_hl hT) rfl r
    have r : rn_s _ 36 (37, [some (.ref T), some (.int a1), some (.int a2), some (.int a3), some (.int a4), some (.int a5)], [.ref (T + 4)], aa_H (zz_w (zz_w (zz_w g (T + 1) a1.toNatClampNeg a2) (T + 2) a1.toNatClampNeg a3) (T + 3) a1.toNatClampNeg a4)) v h := r
    obtain ⟨n23, ln23, r⟩ := rn_steps 1 (40, [some (.ref T), some (.int a1), some (.int a2), some (.int a3), some (.int a4), some (.int a5)], [.int a5, .int a1, .ref (T + 4)], aa_H (zz_w (zz_w (zz_w g (T + 1) a1.toNatClampNeg a2) (T + 2) a1.toNatClampNeg a3) (T + 3) a1.toNatClampNeg a4)) rfl r
    obtain ⟨hb25, n24, ln24, r⟩ := rn_ias rfl (tw_a4 hT).1 (tw_a4 hT).2 r
    have r : rn_s _ 36 (41, [some (.ref T), some (.int a1), some (.int a2), some (.int a3), some (.int a4), some (.int a5)], [], aa_H (zz_w (zz_w (zz_w (zz_w g (T + 1) a1.toNatClampNeg a2) (T + 2) a1.toNatClampNeg a3) (T + 3) a1.toNatClampNeg a4) (T + 4) a1.toNatClampNeg a5)) v h := r
    exact rn_ret 1 rfl r
  · exact rn_ret 1 rfl r
-- 64: UnequalHours Town dropPoint
noncomputable def fn_64_64 (g : aa_G) (B0 : Nat) (b2 : Int32) : (aa_G × Int32) ⊕ aa_G := .inl (g, b2 + 1)
theorem dn_64_64 {v : Option Value} {h : zz_H} {n : Nat} {g : aa_G} {B0 : Nat} {b2 : Int32} (P : (aa_G × Int32) ⊕ aa_G → Prop) (hO0 : ∀ n2, n2 < n → ∀ (yg : aa_G) (yb2 : Int32) (yx1 : Option Value) (_ : rn_jk yx1), rn_s n2 64 (17, [some (.ref B0), yx1, some (.int yb2)], [], aa_H yg) v h → P (.inl (yg, yb2))) (hR : ∀ E, ig_s v h E → P (.inr E)) (hB0 : ct_tw B0) (x1 : Option Value) (jx1 : rn_jk x1) (r : rn_s n 64 (64, [some (.ref B0), x1, some (.int b2)], [], aa_H g) v h) : P (fn_64_64 g B0 b2) := by
  unfold fn_64_64
  obtain ⟨n40, ln40, r⟩ := rn_iin (i := 2) rfl rfl jx1 rfl rfl ⟨Nat.le_of_ble_eq_true rfl, Nat.le_of_ble_eq_true rfl⟩ r
  have r : rn_s _ 64 (67, [some (.ref B0), x1, some (.int (b2 + 1))], [], aa_H g) v h := r
  obtain ⟨n41, ln41, r⟩ := rn_steps 0 (17, [some (.ref B0), x1, some (.int (b2 + 1))], [], aa_H g) rfl r
  exact hO0 _ (by omega) g (b2 + 1) x1 jx1 r
noncomputable def fn_64_17b (g : aa_G) (B0 : Nat) (b2 : Int32) : (aa_G × Int32) ⊕ aa_G := if ((g B0 1) - 1) ≤ b2 then .inr (zz_w g B0 1 ((g B0 1) - 1)) else fn_64_64 (fn_36 g B0 b2 (g (B0 + 1) (b2 + 1).toNatClampNeg) (g (B0 + 2) (b2 + 1).toNatClampNeg) (g (B0 + 3) (b2 + 1).toNatClampNeg) (g (B0 + 4) (b2 + 1).toNatClampNeg)) B0 b2
noncomputable def fn_64_17 (g : aa_G) (B0 : Nat) (b2 : Int32) : aa_G := lp_f g (fun z : (aa_G × Int32) => fn_64_17b z.1 B0 z.2) (g, b2)
theorem dn_64_17l {v : Option Value} {h : zz_H} {N : Nat} {B0 : Nat} (hB0 : ct_tw B0) {d : aa_G} : ∀ (n : Nat), n ≤ N → ∀ (g : aa_G) (b2 : Int32) (x1 : Option Value) (jx1 : rn_jk x1), rn_s n 64 (17, [some (.ref B0), x1, some (.int b2)], [], aa_H g) v h → (ig_s v h) (lp_f d (fun z : (aa_G × Int32) => fn_64_17b z.1 B0 z.2) (g, b2)) := by
  generalize hf : (fun z : (aa_G × Int32) => fn_64_17b z.1 B0 z.2) = f
  intro n
  induction n using Nat.strongRecOn with
  | _ n ih =>
    intro hN g b2 x1 jx1 r
    refine lp_go ?_
    rw [← congrFun hf (g, b2)]
    show lp_q (ig_s v h) d f (fn_64_17b g B0 b2)
    unfold fn_64_17b
    obtain ⟨n9, ln9, r⟩ := rn_steps 1 (19, [some (.ref B0), x1, some (.int b2)], [.ref B0, .int b2], aa_H g) rfl r
    obtain ⟨n10, ln10, r⟩ := rn_gf rfl (tw_hk hB0) (tw_hl hB0) rfl r
    have r : rn_s _ 64 (22, [some (.ref B0), x1, some (.int b2)], [.int (g B0 1), .int b2], aa_H g) v h := r
    obtain ⟨n11, ln11, r⟩ := rn_steps 1 (24, [some (.ref B0), x1, some (.int b2)], [.int ((g B0 1) - 1), .int b2], aa_H g) rfl r
    refine rn_ic (lp_q (ig_s v h) d f) rfl decide_eq_true_iff.symm r (fun c12 l13n l13 r => ?_) (fun c12 l13n l13 r => ?_)
    · obtain ⟨n14, ln14, r⟩ := rn_steps 1 (72, [some (.ref B0), x1, some (.int b2)], [.ref B0, .ref B0], aa_H g) rfl r
      obtain ⟨n15, ln15, r⟩ := rn_gf rfl (tw_hk hB0) (tw_hl hB0) rfl r
      have r : rn_s _ 64 (75, [some (.ref B0), x1, some (.int b2)], [.int (g B0 1), .ref B0], aa_H g) v h := r
      obtain ⟨n16, ln16, r⟩ := rn_steps 1 (77, [some (.ref B0), x1, some (.int b2)], [.int ((g B0 1) - 1), .ref B0], aa_H g) rfl r
      obtain ⟨n17, ln17, r⟩ := rn_pf rfl (tw_hk hB0) (tw_hl hB0) rfl r
      have r : rn_s _ 64 (80, [some (.ref B0), x1, some (.int b2)], [], aa_H (zz_w g B0 1 ((g B0 1) - 1))) v h := r
      exact rn_ret 1 rfl r
    · obtain ⟨n18, ln18, r⟩ := rn_steps 2 (30, [some (.ref B0), x1, some (.int b2)], [.ref B0, .int b2, .ref B0], aa_H g) rfl r
      obtain ⟨n19, ln19, r⟩ := rn_gr rfl (tw_hk hB0) (tw_hl hB0) rfl r
      have r : rn_s _ 64 (33, [some (.ref B0), x1, some (.int b2)], [.ref (B0 + 1), .int b2, .ref B0], aa_H g) v h := r
      obtain ⟨n20, ln20, r⟩ := rn_steps 2 (36, [some (.ref B0), x1, some (.int b2)], [.int (b2 + 1), .ref (B0 + 1), .int b2, .ref B0], aa_H g) rfl r
      obtain ⟨hb22, n21, ln21, r⟩ := rn_ial rfl (tw_a1 hB0).1 (tw_a1 hB0).2 r
      have r : rn_s _ 64 (37, [some (.ref B0), x1, some (.int b2)], [.int (g (B0 + 1) (b2 + 1).toNatClampNeg), .int b2, .ref B0], aa_H g) v h := r
      obtain ⟨n23, ln23, r⟩ := rn_steps 0 (38, [some (.ref B0), x1, some (.int b2)], [.ref B0, .int (g (B0 + 1) (b2 + 1).toNatClampNeg), .int b2, .ref B0], aa_H g) rfl r
      obtain ⟨n24, ln24, r⟩ := rn_gr rfl (tw_hk hB0) (tw_hl hB0) rfl r
      have r : rn_s _ 64 (41, [some (.ref B0), x1, some (.int b2)], [.ref (B0 + 2), .int (g (B0 + 1) (b2 + 1).toNatClampNeg), .int b2, .ref B0], aa_H g) v h := r
      obtain ⟨n25, ln25, r⟩ := rn_steps 2 (44, [some (.ref B0), x1, some (.int b2)], [.int (b2 + 1), .ref (B0 + 2), .int (g (B0 + 1) (b2 + 1).toNatClampNeg), .int b2, .ref B0], aa_H g) rfl r
      obtain ⟨hb27, n26, ln26, r⟩ := rn_ial rfl (tw_a2 hB0).1 (tw_a2 hB0).2 r
      have r : rn_s _ 64 (45, [some (.ref B0), x1, some (.int b2)], [.int (g (B0 + 2) (b2 + 1).toNatClampNeg), .int (g (B0 + 1) (b2 + 1).toNatClampNeg), .int b2, .ref B0], aa_H g) v h := r
      obtain ⟨n28, ln28, r⟩ := rn_steps 0 (46, [some (.ref B0), x1, some (.int b2)], [.ref B0, .int (g (B0 + 2) (b2 + 1).toNatClampNeg), .int (g (B0 + 1) (b2 + 1).toNatClampNeg), .int b2, .ref B0], aa_H g) rfl r
      obtain ⟨n29, ln29, r⟩ := rn_gr rfl (tw_hk hB0) (tw_hl hB0) rfl r
      have r : rn_s _ 64 (49, [some (.ref B0), x1, some (.int b2)], [.ref (B0 + 3), .int (g (B0 + 2) (b2 + 1).toNatClampNeg), .int (g (B0 + 1) (b2 + 1).toNatClampNeg), .int b2, .ref B0], aa_H g) v h := r
      obtain ⟨n30, ln30, r⟩ := rn_steps 2 (52, [some (.ref B0), x1, some (.int b2)], [.int (b2 + 1), .ref (B0 + 3), .int (g (B0 + 2) (b2 + 1).toNatClampNeg), .int (g (B0 + 1) (b2 + 1).toNatClampNeg), .int b2, .ref B0], aa_H g) rfl r
      obtain ⟨hb32, n31, ln31, r⟩ := rn_ial rfl (tw_a3 hB0).1 (tw_a3 hB0).2 r
      have r : rn_s _ 64 (53, [some (.ref B0), x1, some (.int b2)], [.int (g (B0 + 3) (b2 + 1).toNatClampNeg), .int (g (B0 + 2) (b2 + 1).toNatClampNeg), .int (g (B0 + 1) (b2 + 1).toNatClampNeg), .int b2, .ref B0], aa_H g) v h := r
      obtain ⟨n33, ln33, r⟩ := rn_steps 0 (54, [some (.ref B0), x1, some (.int b2)], [.ref B0, .int (g (B0 + 3) (b2 + 1).toNatClampNeg), .int (g (B0 + 2) (b2 + 1).toNatClampNeg), .int (g (B0 + 1) (b2 + 1).toNatClampNeg), .int b2, .ref B0], aa_H g) rfl r
      obtain ⟨n34, ln34, r⟩ := rn_gr rfl (tw_hk hB0) (tw_hl hB0) rfl r
      have r : rn_s _ 64 (57, [some (.ref B0), x1, some (.int b2)], [.ref (B0 + 4), .int (g (B0 + 3) (b2 + 1).toNatClampNeg), .int (g (B0 + 2) (b2 + 1).toNatClampNeg), .int (g (B0 + 1) (b2 + 1).toNatClampNeg), .int b2, .ref B0], aa_H g) v h := r
      obtain ⟨n35, ln35, r⟩ := rn_steps 2 (60, [some (.ref B0), x1, some (.int b2)], [.int (b2 + 1), .ref (B0 + 4), .int (g (B0 + 3) (b2 + 1).toNatClampNeg), .int (g (B0 + 2) (b2 + 1).toNatClampNeg), .int (g (B0 + 1) (b2 + 1).toNatClampNeg), .int b2, .ref B0], aa_H g) rfl r
      obtain ⟨hb37, n36, ln36, r⟩ := rn_ial rfl (tw_a4 hB0).1 (tw_a4 hB0).2 r
      have r : rn_s _ 64 (61, [some (.ref B0), x1, some (.int b2)], [.int (g (B0 + 4) (b2 + 1).toNatClampNeg), .int (g (B0 + 3) (b2 + 1).toNatClampNeg), .int (g (B0 + 2) (b2 + 1).toNatClampNeg), .int (g (B0 + 1) (b2 + 1).toNatClampNeg), .int b2, .ref B0], aa_H g) v h := r
      obtain ⟨_, n38, v1, h1, -, ln38, rc, r⟩ := rn_cv (k := B0) (as := [.int b2, .int (g (B0 + 1) (b2 + 1).toNatClampNeg), .int (g (B0 + 2) (b2 + 1).toNatClampNeg), .int (g (B0 + 3) (b2 + 1).toNatClampNeg), .int (g (B0 + 4) (b2 + 1).toNatClampNeg)]) (rest := []) rfl (tw_hk hB0) (tw_hl hB0) rfl rfl r
      obtain ⟨rfl, rfl⟩ := dn_36 hB0 rc
      have r : rn_s _ 64 (64, [some (.ref B0), x1, some (.int b2)], [], aa_H (fn_36 g B0 b2 (g (B0 + 1) (b2 + 1).toNatClampNeg) (g (B0 + 2) (b2 + 1).toNatClampNeg) (g (B0 + 3) (b2 + 1).toNatClampNeg) (g (B0 + 4) (b2 + 1).toNatClampNeg))) v h := r
      exact dn_64_64 (lp_q (ig_s v h) d f) (fun n2 l2 => ih n2 (by omega) (by omega)) (fun z hz => hz) hB0 x1 jx1 r
theorem dn_64_17 {v : Option Value} {h : zz_H} {n : Nat} {g : aa_G} {B0 : Nat} {b2 : Int32} (hB0 : ct_tw B0) (x1 : Option Value) (jx1 : rn_jk x1) (r : rn_s n 64 (17, [some (.ref B0), x1, some (.int b2)], [], aa_H g) v h) : (ig_s v h) (fn_64_17 g B0 b2) := dn_64_17l hB0 n (Nat.le_refl n) g b2 x1 jx1 r
noncomputable def fn_64 (g : aa_G) (T : Nat) (a1 : Int32) : aa_G := if (fn_14 a1 0 ((g T 1) - 1)) ≠ 0 then fn_64_17 g T a1 else g
theorem dn_64 {v : Option Value} {h : zz_H} {n : Nat} {g : aa_G} {T : Nat} {a1 : Int32} (hT : ct_tw T) (r : rn_s n 64 (0, zz_in [.ref T, .int a1] (zz_nl 64), [], aa_H g) v h) : ig_s v h (fn_64 g T a1) := by
  have r : rn_s n 64 (0, [some (.ref T), some (.int a1), none], [], aa_H g) v h := r
  unfold fn_64
  obtain ⟨n1, ln1, r⟩ := rn_steps 2 (3, [some (.ref T), some (.int a1), none], [.ref T, .int 0, .int a1], aa_H g) rfl r
  obtain ⟨n2, ln2, r⟩ := rn_gf rfl (tw_hk hT) (tw_hl hT) rfl r
  have r : rn_s _ 64 (6, [some (.ref T), some (.int a1), none], [.int (g T 1), .int 0, .int a1], aa_H g) v h := r
  obtain ⟨n3, ln3, r⟩ := rn_steps 1 (8, [some (.ref T), some (.int a1), none], [.int ((g T 1) - 1), .int 0, .int a1], aa_H g) rfl r
  obtain ⟨_, n4, v1, h1, -, ln4, rc, r⟩ := rn_call (m2 := 14) (as := [.int a1, .int 0, .int ((g T 1) - 1)]) (rest := []) rfl rfl r
  obtain ⟨rfl, rfl⟩ := dn_14 rc
  have r : rn_s _ 64 (11, [some (.ref T), some (.int a1), none], [.int (fn_14 a1 0 ((g T 1) - 1))], aa_H g) v h := r
  refine rn_if (ig_s v h) rfl decide_eq_true_iff.symm r (fun c6 l7n l7 r => ?_) (fun c6 l7n l7 r => ?_)
  · obtain ⟨n8, ln8, r⟩ := rn_steps 1 (17, [some (.ref T), some (.int a1), some (.int a1)], [], aa_H g) rfl r
    exact dn_64_17 hT (some (.int a1)) rn_ji r
  · exact rn_ret 1 rfl r
-- 63: UnequalHours Town pointOn
noncomputable def fn_63_2b (g : aa_G) (B0 : Nat) (b1 : Int32) (b2 : Int32) : Int32 ⊕ Int32 := if (g B0 1) ≤ b2 then .inr (-1) else if (g (B0 + 1) b2.toNatClampNeg) ≠ b1 then .inl (b2 + 1) else .inr b2
noncomputable def fn_63_2 (g : aa_G) (B0 : Nat) (b1 : Int32) (b2 : Int32) : Int32 := lp_f 0 (fun z : Int32 => fn_63_2b g B0 b1 z) b2
theorem dn_63_2l {v : Option Value} {h : zz_H} {N : Nat} {g : aa_G} {B0 : Nat} {b1 : Int32} (hB0 : ct_tw B0) {d : Int32} : ∀ (n : Nat), n ≤ N → ∀ (b2 : Int32), rn_s n 63 (2, [some (.ref B0), some (.int b1), some (.int b2)], [], aa_H g) v h → (ir_s g v h) (lp_f d (fun z : Int32 => fn_63_2b g B0 b1 z) b2) := by
  generalize hf : (fun z : Int32 => fn_63_2b g B0 b1 z) = f
  intro n
  induction n using Nat.strongRecOn with
  | _ n ih =>
    intro hN b2  r
    refine lp_go ?_
    rw [← congrFun hf b2]
    show lp_q (ir_s g v h) d f (fn_63_2b g B0 b1 b2)
    unfold fn_63_2b
    obtain ⟨n2, ln2, r⟩ := rn_steps 1 (4, [some (.ref B0), some (.int b1), some (.int b2)], [.ref B0, .int b2], aa_H g) rfl r
    obtain ⟨n3, ln3, r⟩ := rn_gf rfl (tw_hk hB0) (tw_hl hB0) rfl r
    have r : rn_s _ 63 (7, [some (.ref B0), some (.int b1), some (.int b2)], [.int (g B0 1), .int b2], aa_H g) v h := r
    refine rn_ic (lp_q (ir_s g v h) d f) rfl decide_eq_true_iff.symm r (fun c4 l5n l5 r => ?_) (fun c4 l5n l5 r => ?_)
    · obtain ⟨n6, ln6, r⟩ := rn_steps 0 (29, [some (.ref B0), some (.int b1), some (.int b2)], [.int (-1)], aa_H g) rfl r
      exact rn_ire rfl r
    · obtain ⟨n7, ln7, r⟩ := rn_steps 0 (11, [some (.ref B0), some (.int b1), some (.int b2)], [.ref B0], aa_H g) rfl r
      obtain ⟨n8, ln8, r⟩ := rn_gr rfl (tw_hk hB0) (tw_hl hB0) rfl r
      have r : rn_s _ 63 (14, [some (.ref B0), some (.int b1), some (.int b2)], [.ref (B0 + 1)], aa_H g) v h := r
      obtain ⟨n9, ln9, r⟩ := rn_steps 0 (15, [some (.ref B0), some (.int b1), some (.int b2)], [.int b2, .ref (B0 + 1)], aa_H g) rfl r
      obtain ⟨hb11, n10, ln10, r⟩ := rn_ial rfl (tw_a1 hB0).1 (tw_a1 hB0).2 r
      have r : rn_s _ 63 (16, [some (.ref B0), some (.int b1), some (.int b2)], [.int (g (B0 + 1) b2.toNatClampNeg)], aa_H g) v h := r
      obtain ⟨n12, ln12, r⟩ := rn_steps 0 (17, [some (.ref B0), some (.int b1), some (.int b2)], [.int b1, .int (g (B0 + 1) b2.toNatClampNeg)], aa_H g) rfl r
      refine rn_ic (lp_q (ir_s g v h) d f) rfl decide_eq_true_iff.symm r (fun c13 l14n l14 r => ?_) (fun c13 l14n l14 r => ?_)
      · obtain ⟨n15, ln15, r⟩ := rn_steps 1 (2, [some (.ref B0), some (.int b1), some (.int (b2 + 1))], [], aa_H g) rfl r
        exact ih _ (by omega) (by omega) (b2 + 1) r
      · obtain ⟨n16, ln16, r⟩ := rn_steps 0 (21, [some (.ref B0), some (.int b1), some (.int b2)], [.int b2], aa_H g) rfl r
        exact rn_ire rfl r
theorem dn_63_2 {v : Option Value} {h : zz_H} {n : Nat} {g : aa_G} {B0 : Nat} {b1 : Int32} {b2 : Int32} (hB0 : ct_tw B0) (r : rn_s n 63 (2, [some (.ref B0), some (.int b1), some (.int b2)], [], aa_H g) v h) : (ir_s g v h) (fn_63_2 g B0 b1 b2) := dn_63_2l hB0 n (Nat.le_refl n) b2 r
noncomputable def fn_63 (g : aa_G) (T : Nat) (a1 : Int32) : Int32 := fn_63_2 g T a1 0
theorem dn_63 {v : Option Value} {h : zz_H} {n : Nat} {g : aa_G} {T : Nat} {a1 : Int32} (hT : ct_tw T) (r : rn_s n 63 (0, zz_in [.ref T, .int a1] (zz_nl 63), [], aa_H g) v h) : ir_s g v h (fn_63 g T a1) := by
  have r : rn_s n 63 (0, [some (.ref T), some (.int a1), none], [], aa_H g) v h := r
  unfold fn_63
  obtain ⟨n1, ln1, r⟩ := rn_steps 1 (2, [some (.ref T), some (.int a1), some (.int 0)], [], aa_H g) rfl r
  exact dn_63_2 hT r
-- 62: UnequalHours remove
noncomputable def fn_62_45 (g : aa_G) (S0 : Nat) : Int32 × aa_G := (g S0 1, g)
theorem dn_62_45 {v : Option Value} {h : zz_H} {n : Nat} {g : aa_G} {S0 : Nat} (hS0 : ct_tw S0) (x0 x1 x2 x3 : Option Value) (jx0 : rn_jk x0) (jx1 : rn_jk x1) (jx2 : rn_jk x2) (jx3 : rn_jk x3) (r : rn_s n 62 (45, [x0, x1, x2, x3], [.ref S0], aa_H g) v h) : iw_s v h (fn_62_45 g S0) := by
  unfold fn_62_45
  obtain ⟨n25, ln25, r⟩ := rn_gf rfl (tw_hk hS0) (tw_hl hS0) rfl r
  have r : rn_s _ 62 (48, [x0, x1, x2, x3], [.int (g S0 1)], aa_H g) v h := r
  exact rn_ire rfl r
noncomputable def fn_62_35 (g : aa_G) (b2 : Int32) (B3 : Nat) : Int32 × aa_G := fn_62_45 (fn_64 g B3 (fn_63 g B3 b2)) B3
theorem dn_62_35 {v : Option Value} {h : zz_H} {n : Nat} {g : aa_G} {b2 : Int32} {B3 : Nat} (hB3 : ct_tw B3) (x0 x1 : Option Value) (jx0 : rn_jk x0) (jx1 : rn_jk x1) (r : rn_s n 62 (35, [x0, x1, some (.int b2), some (.ref B3)], [], aa_H g) v h) : iw_s v h (fn_62_35 g b2 B3) := by
  unfold fn_62_35
  obtain ⟨n19, ln19, r⟩ := rn_steps 2 (38, [x0, x1, some (.int b2), some (.ref B3)], [.int b2, .ref B3, .ref B3], aa_H g) rfl r
  obtain ⟨_, n20, v1, h1, -, ln20, rc, r⟩ := rn_cv (k := B3) (as := [.int b2]) (rest := [.ref B3]) rfl (tw_hk hB3) (tw_hl hB3) rfl rfl r
  obtain ⟨rfl, rfl⟩ := dn_63 hB3 rc
  have r : rn_s _ 62 (41, [x0, x1, some (.int b2), some (.ref B3)], [.int (fn_63 g B3 b2), .ref B3], aa_H g) v h := r
  obtain ⟨_, n22, v1, h1, -, ln22, rc, r⟩ := rn_cv (k := B3) (as := [.int (fn_63 g B3 b2)]) (rest := []) rfl (tw_hk hB3) (tw_hl hB3) rfl rfl r
  obtain ⟨rfl, rfl⟩ := dn_64 hB3 rc
  have r : rn_s _ 62 (44, [x0, x1, some (.int b2), some (.ref B3)], [], aa_H (fn_64 g B3 (fn_63 g B3 b2))) v h := r
  obtain ⟨n24, ln24, r⟩ := rn_steps 0 (45, [x0, x1, some (.int b2), some (.ref B3)], [.ref B3], aa_H (fn_64 g B3 (fn_63 g B3 b2))) rfl r
  exact dn_62_45 hB3 x0 x1 (some (.int b2)) (some (.ref B3)) jx0 jx1 rn_ji rn_jr r
noncomputable def fn_62 (g : aa_G) (a1 : Int32) (a2 : Int32) : Int32 × aa_G := (match fn_31 g a1 with | none => ((-1, g)) | some W6 => (if (fn_63 g W6 a2) ≠ (-1) then fn_62_35 (fn_40 g) a2 W6 else (-1, g)))
theorem dn_62 {v : Option Value} {h : zz_H} {n : Nat} {g : aa_G} {a1 : Int32} {a2 : Int32} (hi : rem_ok g) (r : rn_s n 62 (0, zz_in [.ref 1, .int a1, .int a2] (zz_nl 62), [], aa_H g) v h) : iw_s v h (fn_62 g a1 a2) := by
  have r : rn_s n 62 (0, [some (.ref 1), some (.int a1), some (.int a2), none], [], aa_H g) v h := r
  unfold fn_62
  obtain ⟨n1, ln1, r⟩ := rn_steps 2 (5, [some (.ref 1), some (.int a1), some (.int a2), none], [.int a1, .ref 2], aa_H g) rfl r
  obtain ⟨_, n2, v1, h1, -, ln2, rc, r⟩ := rn_call (m2 := 31) (as := [.ref 2, .int a1]) (rest := []) rfl rfl r
  obtain ⟨rfl, rfl, ho4⟩ := dn_31 rc
  have r : rn_s _ 62 (8, [some (.ref 1), some (.int a1), some (.int a2), none], [zz_val (fn_31 g a1)], aa_H g) v h := r
  cases e5 : fn_31 g a1 with
  | none =>
    rw [e5] at r
    have r : rn_s _ 62 (8, [some (.ref 1), some (.int a1), some (.int a2), none], [.null], aa_H g) v h := r
    dsimp only
    obtain ⟨n8, ln8, r⟩ := rn_steps 3 (23, [some (.ref 1), some (.int a1), some (.int a2), some (.null)], [.int (-1)], aa_H g) rfl r
    exact rn_ire rfl r
  | some W6 =>
    rw [e5] at r
    have hw7 : ct_tw W6 := ho4 _ e5
    have r : rn_s _ 62 (8, [some (.ref 1), some (.int a1), some (.int a2), none], [.ref W6], aa_H g) v h := r
    dsimp only
    obtain ⟨n9, ln9, r⟩ := rn_steps 4 (15, [some (.ref 1), some (.int a1), some (.int a2), some (.ref W6)], [.int a2, .ref W6], aa_H g) rfl r
    obtain ⟨_, n10, v1, h1, -, ln10, rc, r⟩ := rn_cv (k := W6) (as := [.int a2]) (rest := []) rfl (tw_hk hw7) (tw_hl hw7) rfl rfl r
    obtain ⟨rfl, rfl⟩ := dn_63 hw7 rc
    have r : rn_s _ 62 (18, [some (.ref 1), some (.int a1), some (.int a2), some (.ref W6)], [.int (fn_63 g W6 a2)], aa_H g) v h := r
    obtain ⟨n12, ln12, r⟩ := rn_steps 0 (19, [some (.ref 1), some (.int a1), some (.int a2), some (.ref W6)], [.int (-1), .int (fn_63 g W6 a2)], aa_H g) rfl r
    refine rn_ic (iw_s v h) rfl decide_eq_true_iff.symm r (fun c13 l14n l14 r => ?_) (fun c13 l14n l14 r => ?_)
    · obtain ⟨n15, ln15, r⟩ := rn_steps 3 (32, [some (.ref 1), some (.int a1), some (.int a2), some (.ref W6)], [.ref 2, .ref 66], aa_H g) rfl r
      obtain ⟨_, n16, v1, h1, -, ln16, rc, r⟩ := rn_call (m2 := 40) (as := [.ref 66, .ref 2]) (rest := []) rfl rfl r
      obtain ⟨rfl, rfl⟩ := dn_40 hi rc
      have r : rn_s _ 62 (35, [some (.ref 1), some (.int a1), some (.int a2), some (.ref W6)], [], aa_H (fn_40 g)) v h := r
      exact dn_62_35 hw7 (some (.ref 1)) (some (.int a1)) rn_jr rn_ji r
    · obtain ⟨n18, ln18, r⟩ := rn_steps 0 (23, [some (.ref 1), some (.int a1), some (.int a2), some (.ref W6)], [.int (-1)], aa_H g) rfl r
      exact rn_ire rfl r
-- 68: UnequalHours Town openAt
noncomputable def fn_68_58 (g : aa_G) (B0 : Nat) (b1 : Int32) (b2 : Int32) : (aa_G × Int32) ⊕ (Int32 × aa_G) := .inl (g, b2 + (-1))
theorem dn_68_58 {v : Option Value} {h : zz_H} {n : Nat} {g : aa_G} {B0 : Nat} {b1 : Int32} {b2 : Int32} (P : (aa_G × Int32) ⊕ (Int32 × aa_G) → Prop) (hO0 : ∀ n2, n2 < n → ∀ (yg : aa_G) (yb2 : Int32), rn_s n2 68 (5, [some (.ref B0), some (.int b1), some (.int yb2)], [], aa_H yg) v h → P (.inl (yg, yb2))) (hR : ∀ E, iw_s v h E → P (.inr E)) (hB0 : ct_tw B0) (r : rn_s n 68 (58, [some (.ref B0), some (.int b1), some (.int b2)], [], aa_H g) v h) : P (fn_68_58 g B0 b1 b2) := by
  unfold fn_68_58
  obtain ⟨n47, ln47, r⟩ := rn_steps 1 (5, [some (.ref B0), some (.int b1), some (.int (b2 + (-1)))], [], aa_H g) rfl r
  exact hO0 _ (by omega) g (b2 + (-1)) r
noncomputable def fn_68_5b (g : aa_G) (B0 : Nat) (b1 : Int32) (b2 : Int32) : (aa_G × Int32) ⊕ (Int32 × aa_G) := if b2 ≤ 0 then .inr (b2, zz_w g B0 1 ((g B0 1) + 1)) else if (g (B0 + 1) (b2 - 1).toNatClampNeg) ≤ b1 then .inr (b2, zz_w g B0 1 ((g B0 1) + 1)) else fn_68_58 (fn_36 g B0 b2 (g (B0 + 1) (b2 - 1).toNatClampNeg) (g (B0 + 2) (b2 - 1).toNatClampNeg) (g (B0 + 3) (b2 - 1).toNatClampNeg) (g (B0 + 4) (b2 - 1).toNatClampNeg)) B0 b1 b2
noncomputable def fn_68_5 (g : aa_G) (B0 : Nat) (b1 : Int32) (b2 : Int32) : Int32 × aa_G := lp_f (0, g) (fun z : (aa_G × Int32) => fn_68_5b z.1 B0 b1 z.2) (g, b2)
theorem dn_68_5l {v : Option Value} {h : zz_H} {N : Nat} {B0 : Nat} {b1 : Int32} (hB0 : ct_tw B0) {d : Int32 × aa_G} : ∀ (n : Nat), n ≤ N → ∀ (g : aa_G) (b2 : Int32), rn_s n 68 (5, [some (.ref B0), some (.int b1), some (.int b2)], [], aa_H g) v h → (iw_s v h) (lp_f d (fun z : (aa_G × Int32) => fn_68_5b z.1 B0 b1 z.2) (g, b2)) := by
  generalize hf : (fun z : (aa_G × Int32) => fn_68_5b z.1 B0 b1 z.2) = f
  intro n
  induction n using Nat.strongRecOn with
  | _ n ih =>
    intro hN g b2  r
    refine lp_go ?_
    rw [← congrFun hf (g, b2)]
    show lp_q (iw_s v h) d f (fn_68_5b g B0 b1 b2)
    unfold fn_68_5b
    obtain ⟨n4, ln4, r⟩ := rn_steps 0 (6, [some (.ref B0), some (.int b1), some (.int b2)], [.int b2], aa_H g) rfl r
    refine rn_if (lp_q (iw_s v h) d f) rfl decide_eq_true_iff.symm r (fun c5 l6n l6 r => ?_) (fun c5 l6n l6 r => ?_)
    · obtain ⟨n7, ln7, r⟩ := rn_steps 1 (66, [some (.ref B0), some (.int b1), some (.int b2)], [.ref B0, .ref B0], aa_H g) rfl r
      obtain ⟨n8, ln8, r⟩ := rn_gf rfl (tw_hk hB0) (tw_hl hB0) rfl r
      have r : rn_s _ 68 (69, [some (.ref B0), some (.int b1), some (.int b2)], [.int (g B0 1), .ref B0], aa_H g) v h := r
      obtain ⟨n9, ln9, r⟩ := rn_steps 1 (71, [some (.ref B0), some (.int b1), some (.int b2)], [.int ((g B0 1) + 1), .ref B0], aa_H g) rfl r
      obtain ⟨n10, ln10, r⟩ := rn_pf rfl (tw_hk hB0) (tw_hl hB0) rfl r
      have r : rn_s _ 68 (74, [some (.ref B0), some (.int b1), some (.int b2)], [], aa_H (zz_w g B0 1 ((g B0 1) + 1))) v h := r
      obtain ⟨n11, ln11, r⟩ := rn_steps 0 (75, [some (.ref B0), some (.int b1), some (.int b2)], [.int b2], aa_H (zz_w g B0 1 ((g B0 1) + 1))) rfl r
      exact rn_ire rfl r
    · obtain ⟨n12, ln12, r⟩ := rn_steps 0 (10, [some (.ref B0), some (.int b1), some (.int b2)], [.ref B0], aa_H g) rfl r
      obtain ⟨n13, ln13, r⟩ := rn_gr rfl (tw_hk hB0) (tw_hl hB0) rfl r
      have r : rn_s _ 68 (13, [some (.ref B0), some (.int b1), some (.int b2)], [.ref (B0 + 1)], aa_H g) v h := r
      obtain ⟨n14, ln14, r⟩ := rn_steps 2 (16, [some (.ref B0), some (.int b1), some (.int b2)], [.int (b2 - 1), .ref (B0 + 1)], aa_H g) rfl r
      obtain ⟨hb16, n15, ln15, r⟩ := rn_ial rfl (tw_a1 hB0).1 (tw_a1 hB0).2 r
      have r : rn_s _ 68 (17, [some (.ref B0), some (.int b1), some (.int b2)], [.int (g (B0 + 1) (b2 - 1).toNatClampNeg)], aa_H g) v h := r
      obtain ⟨n17, ln17, r⟩ := rn_steps 0 (18, [some (.ref B0), some (.int b1), some (.int b2)], [.int b1, .int (g (B0 + 1) (b2 - 1).toNatClampNeg)], aa_H g) rfl r
      refine rn_ic (lp_q (iw_s v h) d f) rfl decide_eq_true_iff.symm r (fun c18 l19n l19 r => ?_) (fun c18 l19n l19 r => ?_)
      · obtain ⟨n20, ln20, r⟩ := rn_steps 1 (66, [some (.ref B0), some (.int b1), some (.int b2)], [.ref B0, .ref B0], aa_H g) rfl r
        obtain ⟨n21, ln21, r⟩ := rn_gf rfl (tw_hk hB0) (tw_hl hB0) rfl r
        have r : rn_s _ 68 (69, [some (.ref B0), some (.int b1), some (.int b2)], [.int (g B0 1), .ref B0], aa_H g) v h := r
        obtain ⟨n22, ln22, r⟩ := rn_steps 1 (71, [some (.ref B0), some (.int b1), some (.int b2)], [.int ((g B0 1) + 1), .ref B0], aa_H g) rfl r
        obtain ⟨n23, ln23, r⟩ := rn_pf rfl (tw_hk hB0) (tw_hl hB0) rfl r
        have r : rn_s _ 68 (74, [some (.ref B0), some (.int b1), some (.int b2)], [], aa_H (zz_w g B0 1 ((g B0 1) + 1))) v h := r
        obtain ⟨n24, ln24, r⟩ := rn_steps 0 (75, [some (.ref B0), some (.int b1), some (.int b2)], [.int b2], aa_H (zz_w g B0 1 ((g B0 1) + 1))) rfl r
        exact rn_ire rfl r
      · obtain ⟨n25, ln25, r⟩ := rn_steps 2 (24, [some (.ref B0), some (.int b1), some (.int b2)], [.ref B0, .int b2, .ref B0], aa_H g) rfl r
        obtain ⟨n26, ln26, r⟩ := rn_gr rfl (tw_hk hB0) (tw_hl hB0) rfl r
        have r : rn_s _ 68 (27, [some (.ref B0), some (.int b1), some (.int b2)], [.ref (B0 + 1), .int b2, .ref B0], aa_H g) v h := r
        obtain ⟨n27, ln27, r⟩ := rn_steps 2 (30, [some (.ref B0), some (.int b1), some (.int b2)], [.int (b2 - 1), .ref (B0 + 1), .int b2, .ref B0], aa_H g) rfl r
        obtain ⟨hb29, n28, ln28, r⟩ := rn_ial rfl (tw_a1 hB0).1 (tw_a1 hB0).2 r
        have r : rn_s _ 68 (31, [some (.ref B0), some (.int b1), some (.int b2)], [.int (g (B0 + 1) (b2 - 1).toNatClampNeg), .int b2, .ref B0], aa_H g) v h := r
        obtain ⟨n30, ln30, r⟩ := rn_steps 0 (32, [some (.ref B0), some (.int b1), some (.int b2)], [.ref B0, .int (g (B0 + 1) (b2 - 1).toNatClampNeg), .int b2, .ref B0], aa_H g) rfl r
        obtain ⟨n31, ln31, r⟩ := rn_gr rfl (tw_hk hB0) (tw_hl hB0) rfl r
        have r : rn_s _ 68 (35, [some (.ref B0), some (.int b1), some (.int b2)], [.ref (B0 + 2), .int (g (B0 + 1) (b2 - 1).toNatClampNeg), .int b2, .ref B0], aa_H g) v h := r
        obtain ⟨n32, ln32, r⟩ := rn_steps 2 (38, [some (.ref B0), some (.int b1), some (.int b2)], [.int (b2 - 1), .ref (B0 + 2), .int (g (B0 + 1) (b2 - 1).toNatClampNeg), .int b2, .ref B0], aa_H g) rfl r
        obtain ⟨hb34, n33, ln33, r⟩ := rn_ial rfl (tw_a2 hB0).1 (tw_a2 hB0).2 r
        have r : rn_s _ 68 (39, [some (.ref B0), some (.int b1), some (.int b2)], [.int (g (B0 + 2) (b2 - 1).toNatClampNeg), .int (g (B0 + 1) (b2 - 1).toNatClampNeg), .int b2, .ref B0], aa_H g) v h := r
        obtain ⟨n35, ln35, r⟩ := rn_steps 0 (40, [some (.ref B0), some (.int b1), some (.int b2)], [.ref B0, .int (g (B0 + 2) (b2 - 1).toNatClampNeg), .int (g (B0 + 1) (b2 - 1).toNatClampNeg), .int b2, .ref B0], aa_H g) rfl r
        obtain ⟨n36, ln36, r⟩ := rn_gr rfl (tw_hk hB0) (tw_hl hB0) rfl r
        have r : rn_s _ 68 (43, [some (.ref B0), some (.int b1), some (.int b2)], [.ref (B0 + 3), .int (g (B0 + 2) (b2 - 1).toNatClampNeg), .int (g (B0 + 1) (b2 - 1).toNatClampNeg), .int b2, .ref B0], aa_H g) v h := r
        obtain ⟨n37, ln37, r⟩ := rn_steps 2 (46, [some (.ref B0), some (.int b1), some (.int b2)], [.int (b2 - 1), .ref (B0 + 3), .int (g (B0 + 2) (b2 - 1).toNatClampNeg), .int (g (B0 + 1) (b2 - 1).toNatClampNeg), .int b2, .ref B0], aa_H g) rfl r
        obtain ⟨hb39, n38, ln38, r⟩ := rn_ial rfl (tw_a3 hB0).1 (tw_a3 hB0).2 r
        have r : rn_s _ 68 (47, [some (.ref B0), some (.int b1), some (.int b2)], [.int (g (B0 + 3) (b2 - 1).toNatClampNeg), .int (g (B0 + 2) (b2 - 1).toNatClampNeg), .int (g (B0 + 1) (b2 - 1).toNatClampNeg), .int b2, .ref B0], aa_H g) v h := r
        obtain ⟨n40, ln40, r⟩ := rn_steps 0 (48, [some (.ref B0), some (.int b1), some (.int b2)], [.ref B0, .int (g (B0 + 3) (b2 - 1).toNatClampNeg), .int (g (B0 + 2) (b2 - 1).toNatClampNeg), .int (g (B0 + 1) (b2 - 1).toNatClampNeg), .int b2, .ref B0], aa_H g) rfl r
        obtain ⟨n41, ln41, r⟩ := rn_gr rfl (tw_hk hB0) (tw_hl hB0) rfl r
        have r : rn_s _ 68 (51, [some (.ref B0), some (.int b1), some (.int b2)], [.ref (B0 + 4), .int (g (B0 + 3) (b2 - 1).toNatClampNeg), .int (g (B0 + 2) (b2 - 1).toNatClampNeg), .int (g (B0 + 1) (b2 - 1).toNatClampNeg), .int b2, .ref B0], aa_H g) v h := r
        obtain ⟨n42, ln42, r⟩ := rn_steps 2 (54, [some (.ref B0), some (.int b1), some (.int b2)], [.int (b2 - 1), .ref (B0 + 4), .int (g (B0 + 3) (b2 - 1).toNatClampNeg), .int (g (B0 + 2) (b2 - 1).toNatClampNeg), .int (g (B0 + 1) (b2 - 1).toNatClampNeg), .int b2, .ref B0], aa_H g) rfl r
        obtain ⟨hb44, n43, ln43, r⟩ := rn_ial rfl (tw_a4 hB0).1 (tw_a4 hB0).2 r
        have r : rn_s _ 68 (55, [some (.ref B0), some (.int b1), some (.int b2)], [.int (g (B0 + 4) (b2 - 1).toNatClampNeg), .int (g (B0 + 3) (b2 - 1).toNatClampNeg), .int (g (B0 + 2) (b2 - 1).toNatClampNeg), .int (g (B0 + 1) (b2 - 1).toNatClampNeg), .int b2, .ref B0], aa_H g) v h := r
        obtain ⟨_, n45, v1, h1, -, ln45, rc, r⟩ := rn_cv (k := B0) (as := [.int b2, .int (g (B0 + 1) (b2 - 1).toNatClampNeg), .int (g (B0 + 2) (b2 - 1).toNatClampNeg), .int (g (B0 + 3) (b2 - 1).toNatClampNeg), .int (g (B0 + 4) (b2 - 1).toNatClampNeg)]) (rest := []) rfl (tw_hk hB0) (tw_hl hB0) rfl rfl r
        obtain ⟨rfl, rfl⟩ := dn_36 hB0 rc
        have r : rn_s _ 68 (58, [some (.ref B0), some (.int b1), some (.int b2)], [], aa_H (fn_36 g B0 b2 (g (B0 + 1) (b2 - 1).toNatClampNeg) (g (B0 + 2) (b2 - 1).toNatClampNeg) (g (B0 + 3) (b2 - 1).toNatClampNeg) (g (B0 + 4) (b2 - 1).toNatClampNeg))) v h := r
        exact dn_68_58 (lp_q (iw_s v h) d f) (fun n2 l2 => ih n2 (by omega) (by omega)) (fun z hz => hz) hB0 r
theorem dn_68_5 {v : Option Value} {h : zz_H} {n : Nat} {g : aa_G} {B0 : Nat} {b1 : Int32} {b2 : Int32} (hB0 : ct_tw B0) (r : rn_s n 68 (5, [some (.ref B0), some (.int b1), some (.int b2)], [], aa_H g) v h) : (iw_s v h) (fn_68_5 g B0 b1 b2) := dn_68_5l hB0 n (Nat.le_refl n) g b2 r
noncomputable def fn_68 (g : aa_G) (T : Nat) (a1 : Int32) : Int32 × aa_G := fn_68_5 g T a1 (g T 1)
theorem dn_68 {v : Option Value} {h : zz_H} {n : Nat} {g : aa_G} {T : Nat} {a1 : Int32} (hT : ct_tw T) (r : rn_s n 68 (0, zz_in [.ref T, .int a1] (zz_nl 68), [], aa_H g) v h) : iw_s v h (fn_68 g T a1) := by
  have r : rn_s n 68 (0, [some (.ref T), some (.int a1), none], [], aa_H g) v h := r
  unfold fn_68
  obtain ⟨n1, ln1, r⟩ := rn_steps 0 (1, [some (.ref T), some (.int a1), none], [.ref T], aa_H g) rfl r
  obtain ⟨n2, ln2, r⟩ := rn_gf rfl (tw_hk hT) (tw_hl hT) rfl r
  have r : rn_s _ 68 (4, [some (.ref T), some (.int a1), none], [.int (g T 1)], aa_H g) v h := r
  obtain ⟨n3, ln3, r⟩ := rn_steps 0 (5, [some (.ref T), some (.int a1), some (.int (g T 1))], [], aa_H g) rfl r
  exact dn_68_5 hT r
-- 67: UnequalHours Town putPoint
noncomputable def fn_67_29 (g : aa_G) (B0 : Nat) (b1 : Int32) (b2 : Int32) (b3 : Int32) (b4 : Int32) : aa_G := if b4 = (-1) then g else fn_36 g B0 b4 b1 b2 b3 (-1)
theorem dn_67_29 {v : Option Value} {h : zz_H} {n : Nat} {g : aa_G} {B0 : Nat} {b1 : Int32} {b2 : Int32} {b3 : Int32} {b4 : Int32} (hB0 : ct_tw B0) (r : rn_s n 67 (29, [some (.ref B0), some (.int b1), some (.int b2), some (.int b3), some (.int b4)], [], aa_H g) v h) : ig_s v h (fn_67_29 g B0 b1 b2 b3 b4) := by
  unfold fn_67_29
  obtain ⟨n15, ln15, r⟩ := rn_steps 1 (32, [some (.ref B0), some (.int b1), some (.int b2), some (.int b3), some (.int b4)], [.int (-1), .int b4], aa_H g) rfl r
  refine rn_ic (ig_s v h) rfl decide_eq_true_iff.symm r (fun c16 l17n l17 r => ?_) (fun c16 l17n l17 r => ?_)
  · exact rn_ret 1 rfl r
  · obtain ⟨n18, ln18, r⟩ := rn_steps 5 (42, [some (.ref B0), some (.int b1), some (.int b2), some (.int b3), some (.int b4)], [.int (-1), .int b3, .int b2, .int b1, .int b4, .ref B0], aa_H g) rfl r
    obtain ⟨_, n19, v1, h1, -, ln19, rc, r⟩ := rn_cv (k := B0) (as := [.int b4, .int b1, .int b2, .int b3, .int (-1)]) (rest := []) rfl (tw_hk hB0) (tw_hl hB0) rfl rfl r
    obtain ⟨rfl, rfl⟩ := dn_36 hB0 rc
    have r : rn_s _ 67 (45, [some (.ref B0), some (.int b1), some (.int b2), some (.int b3), some (.int b4)], [], aa_H (fn_36 g B0 b4 b1 b2 b3 (-1))) v h := r
    exact rn_ret 1 rfl r
noncomputable def fn_67_27 (g : aa_G) (B0 : Nat) (b1 : Int32) (b2 : Int32) (b3 : Int32) (s0 : Int32) : aa_G := fn_67_29 g B0 b1 b2 b3 s0
theorem dn_67_27 {v : Option Value} {h : zz_H} {n : Nat} {g : aa_G} {B0 : Nat} {b1 : Int32} {b2 : Int32} {b3 : Int32} {s0 : Int32} (hB0 : ct_tw B0) (x4 : Option Value) (jx4 : rn_jk x4) (r : rn_s n 67 (27, [some (.ref B0), some (.int b1), some (.int b2), some (.int b3), x4], [.int s0], aa_H g) v h) : ig_s v h (fn_67_27 g B0 b1 b2 b3 s0) := by
  unfold fn_67_27
  obtain ⟨n21, ln21, r⟩ := rn_steps 0 (29, [some (.ref B0), some (.int b1), some (.int b2), some (.int b3), some (.int s0)], [], aa_H g) rfl r
  exact dn_67_29 hB0 r
noncomputable def fn_67 (g : aa_G) (T : Nat) (a1 : Int32) (a2 : Int32) (a3 : Int32) : aa_G := if (fn_63 g T a1) ≠ (-1) then fn_67_29 g T a1 a2 a3 (fn_63 g T a1) else if 12 ≤ (g T 1) then fn_67_29 g T a1 a2 a3 (fn_63 g T a1) else fn_67_27 ((fn_68 g T a1).2) T a1 a2 a3 ((fn_68 g T a1).1)
theorem dn_67 {v : Option Value} {h : zz_H} {n : Nat} {g : aa_G} {T : Nat} {a1 : Int32} {a2 : Int32} {a3 : Int32} (hT : ct_tw T) (r : rn_s n 67 (0, zz_in [.ref T, .int a1, .int a2, .int a3] (zz_nl 67), [], aa_H g) v h) : ig_s v h (fn_67 g T a1 a2 a3) := by
  have r : rn_s n 67 (0, [some (.ref T), some (.int a1), some (.int a2), some (.int a3), none], [], aa_H g) v h := r
  unfold fn_67
  obtain ⟨n1, ln1, r⟩ := rn_steps 1 (2, [some (.ref T), some (.int a1), some (.int a2), some (.int a3), none], [.int a1, .ref T], aa_H g) rfl r
  obtain ⟨_, n2, v1, h1, -, ln2, rc, r⟩ := rn_cv (k := T) (as := [.int a1]) (rest := []) rfl (tw_hk hT) (tw_hl hT) rfl rfl r
  obtain ⟨rfl, rfl⟩ := dn_63 hT rc
  have r : rn_s _ 67 (5, [some (.ref T), some (.int a1), some (.int a2), some (.int a3), none], [.int (fn_63 g T a1)], aa_H g) v h := r
  obtain ⟨n4, ln4, r⟩ := rn_steps 2 (10, [some (.ref T), some (.int a1), some (.int a2), some (.int a3), some (.int (fn_63 g T a1))], [.int (-1), .int (fn_63 g T a1)], aa_H g) rfl r
  refine rn_ic (ig_s v h) rfl decide_eq_true_iff.symm r (fun c5 l6n l6 r => ?_) (fun c5 l6n l6 r => ?_)
  · exact dn_67_29 hT r
  · obtain ⟨n7, ln7, r⟩ := rn_steps 0 (14, [some (.ref T), some (.int a1), some (.int a2), some (.int a3), some (.int (fn_63 g T a1))], [.ref T], aa_H g) rfl r
    obtain ⟨n8, ln8, r⟩ := rn_gf rfl (tw_hk hT) (tw_hl hT) rfl r
    have r : rn_s _ 67 (17, [some (.ref T), some (.int a1), some (.int a2), some (.int a3), some (.int (fn_63 g T a1))], [.int (g T 1)], aa_H g) v h := r
    obtain ⟨n9, ln9, r⟩ := rn_steps 0 (19, [some (.ref T), some (.int a1), some (.int a2), some (.int a3), some (.int (fn_63 g T a1))], [.int 12, .int (g T 1)], aa_H g) rfl r
    refine rn_ic (ig_s v h) rfl decide_eq_true_iff.symm r (fun c10 l11n l11 r => ?_) (fun c10 l11n l11 r => ?_)
    · exact dn_67_29 hT r
    · obtain ⟨n12, ln12, r⟩ := rn_steps 1 (24, [some (.ref T), some (.int a1), some (.int a2), some (.int a3), some (.int (fn_63 g T a1))], [.int a1, .ref T], aa_H g) rfl r
      obtain ⟨_, n13, v1, h1, -, ln13, rc, r⟩ := rn_cv (k := T) (as := [.int a1]) (rest := []) rfl (tw_hk hT) (tw_hl hT) rfl rfl r
      obtain ⟨rfl, rfl⟩ := dn_68 hT rc
      have r : rn_s _ 67 (27, [some (.ref T), some (.int a1), some (.int a2), some (.int a3), some (.int (fn_63 g T a1))], [.int ((fn_68 g T a1).1)], aa_H ((fn_68 g T a1).2)) v h := r
      exact dn_67_27 hT (some (.int (fn_63 g T a1))) rn_ji r
-- 65: UnequalHours set
noncomputable def fn_65_95 (g : aa_G) (S0 : Nat) : Int32 × aa_G := (g S0 1, g)
theorem dn_65_95 {v : Option Value} {h : zz_H} {n : Nat} {g : aa_G} {S0 : Nat} (hS0 : ct_tw S0) (x0 x1 x2 x3 x4 x5 : Option Value) (jx0 : rn_jk x0) (jx1 : rn_jk x1) (jx2 : rn_jk x2) (jx3 : rn_jk x3) (jx4 : rn_jk x4) (jx5 : rn_jk x5) (r : rn_s n 65 (95, [x0, x1, x2, x3, x4, x5], [.ref S0], aa_H g) v h) : iw_s v h (fn_65_95 g S0) := by
  unfold fn_65_95
  obtain ⟨n50, ln50, r⟩ := rn_gf rfl (tw_hk hS0) (tw_hl hS0) rfl r
  have r : rn_s _ 65 (98, [x0, x1, x2, x3, x4, x5], [.int (g S0 1)], aa_H g) v h := r
  exact rn_ire rfl r
noncomputable def fn_65_84 (g : aa_G) (b2 : Int32) (b3 : Int32) (b4 : Int32) (B5 : Nat) : Int32 × aa_G := fn_65_95 (fn_67 g B5 b2 b3 b4) B5
theorem dn_65_84 {v : Option Value} {h : zz_H} {n : Nat} {g : aa_G} {b2 : Int32} {b3 : Int32} {b4 : Int32} {B5 : Nat} (hB5 : ct_tw B5) (x0 x1 : Option Value) (jx0 : rn_jk x0) (jx1 : rn_jk x1) (r : rn_s n 65 (84, [x0, x1, some (.int b2), some (.int b3), some (.int b4), some (.ref B5)], [], aa_H g) v h) : iw_s v h (fn_65_84 g b2 b3 b4 B5) := by
  unfold fn_65_84
  obtain ⟨n46, ln46, r⟩ := rn_steps 3 (90, [x0, x1, some (.int b2), some (.int b3), some (.int b4), some (.ref B5)], [.int b4, .int b3, .int b2, .ref B5], aa_H g) rfl r
  obtain ⟨_, n47, v1, h1, -, ln47, rc, r⟩ := rn_cv (k := B5) (as := [.int b2, .int b3, .int b4]) (rest := []) rfl (tw_hk hB5) (tw_hl hB5) rfl rfl r
  obtain ⟨rfl, rfl⟩ := dn_67 hB5 rc
  have r : rn_s _ 65 (93, [x0, x1, some (.int b2), some (.int b3), some (.int b4), some (.ref B5)], [], aa_H (fn_67 g B5 b2 b3 b4)) v h := r
  obtain ⟨n49, ln49, r⟩ := rn_steps 0 (95, [x0, x1, some (.int b2), some (.int b3), some (.int b4), some (.ref B5)], [.ref B5], aa_H (fn_67 g B5 b2 b3 b4)) rfl r
  exact dn_65_95 hB5 x0 x1 (some (.int b2)) (some (.int b3)) (some (.int b4)) (some (.ref B5)) jx0 jx1 rn_ji rn_ji rn_ji rn_jr r
noncomputable def fn_65_73 (g : aa_G) (b2 : Int32) (b3 : Int32) (b4 : Int32) (B5 : Nat) : Int32 × aa_G := fn_65_84 (fn_40 g) b2 b3 b4 B5
theorem dn_65_73 {v : Option Value} {h : zz_H} {n : Nat} {g : aa_G} {b2 : Int32} {b3 : Int32} {b4 : Int32} {B5 : Nat} (hB5 : ct_tw B5) (hi : rem_ok g) (x1 : Option Value) (jx1 : rn_jk x1) (r : rn_s n 65 (73, [some (.ref 1), x1, some (.int b2), some (.int b3), some (.int b4), some (.ref B5)], [], aa_H g) v h) : iw_s v h (fn_65_73 g b2 b3 b4 B5) := by
  unfold fn_65_73
  obtain ⟨n43, ln43, r⟩ := rn_steps 3 (81, [some (.ref 1), x1, some (.int b2), some (.int b3), some (.int b4), some (.ref B5)], [.ref 2, .ref 66], aa_H g) rfl r
  obtain ⟨_, n44, v1, h1, -, ln44, rc, r⟩ := rn_call (m2 := 40) (as := [.ref 66, .ref 2]) (rest := []) rfl rfl r
  obtain ⟨rfl, rfl⟩ := dn_40 hi rc
  have r : rn_s _ 65 (84, [some (.ref 1), x1, some (.int b2), some (.int b3), some (.int b4), some (.ref B5)], [], aa_H (fn_40 g)) v h := r
  exact dn_65_84 hB5 (some (.ref 1)) x1 rn_jr jx1 r
noncomputable def fn_65 (g : aa_G) (a1 : Int32) (a2 : Int32) (a3 : Int32) (a4 : Int32) : Int32 × aa_G := (match fn_31 g a1 with | none => ((-1, g)) | some W6 => (if (fn_14 a2 0 359) ≠ 0 then if (fn_66 a3) = 0 then (-1, g) else if (fn_66 a4) = 0 then (-1, g) else if a3 < a4 then if (fn_63 g W6 a2) ≠ (-1) then fn_65_73 g a2 a3 a4 W6 else if (g W6 1) < 12 then fn_65_73 g a2 a3 a4 W6 else (-1, g) else (-1, g) else (-1, g)))
theorem dn_65 {v : Option Value} {h : zz_H} {n : Nat} {g : aa_G} {a1 : Int32} {a2 : Int32} {a3 : Int32} {a4 : Int32} (hi : rem_ok g) (r : rn_s n 65 (0, zz_in [.ref 1, .int a1, .int a2, .int a3, .int a4] (zz_nl 65), [], aa_H g) v h) : iw_s v h (fn_65 g a1 a2 a3 a4) := by
  have r : rn_s n 65 (0, [some (.ref 1), some (.int a1), some (.int a2), some (.int a3), some (.int a4), none], [], aa_H g) v h := r
  unfold fn_65
  obtain ⟨n1, ln1, r⟩ := rn_steps 2 (5, [some (.ref 1), some (.int a1), some (.int a2), some (.int a3), some (.int a4), none], [.int a1, .ref 2], aa_H g) rfl r
  obtain ⟨_, n2, v1, h1, -, ln2, rc, r⟩ := rn_call (m2 := 31) (as := [.ref 2, .int a1]) (rest := []) rfl rfl r
  obtain ⟨rfl, rfl, ho4⟩ := dn_31 rc
  have r : rn_s _ 65 (8, [some (.ref 1), some (.int a1), some (.int a2), some (.int a3), some (.int a4), none], [zz_val (fn_31 g a1)], aa_H g) v h := r
  cases e5 : fn_31 g a1 with
  | none =>
    rw [e5] at r
    have r : rn_s _ 65 (8, [some (.ref 1), some (.int a1), some (.int a2), some (.int a3), some (.int a4), none], [.null], aa_H g) v h := r
    dsimp only
    obtain ⟨n8, ln8, r⟩ := rn_steps 3 (27, [some (.ref 1), some (.int a1), some (.int a2), some (.int a3), some (.int a4), some (.null)], [.int (-1)], aa_H g) rfl r
    exact rn_ire rfl r
  | some W6 =>
    rw [e5] at r
    have hw7 : ct_tw W6 := ho4 _ e5
    have r : rn_s _ 65 (8, [some (.ref 1), some (.int a1), some (.int a2), some (.int a3), some (.int a4), none], [.ref W6], aa_H g) v h := r
    dsimp only
    obtain ⟨n9, ln9, r⟩ := rn_steps 5 (20, [some (.ref 1), some (.int a1), some (.int a2), some (.int a3), some (.int a4), some (.ref W6)], [.int 359, .int 0, .int a2], aa_H g) rfl r
    obtain ⟨_, n10, v1, h1, -, ln10, rc, r⟩ := rn_call (m2 := 14) (as := [.int a2, .int 0, .int 359]) (rest := []) rfl rfl r
    obtain ⟨rfl, rfl⟩ := dn_14 rc
    have r : rn_s _ 65 (23, [some (.ref 1), some (.int a1), some (.int a2), some (.int a3), some (.int a4), some (.ref W6)], [.int (fn_14 a2 0 359)], aa_H g) v h := r
    refine rn_if (iw_s v h) rfl decide_eq_true_iff.symm r (fun c12 l13n l13 r => ?_) (fun c12 l13n l13 r => ?_)
    · obtain ⟨n14, ln14, r⟩ := rn_steps 0 (29, [some (.ref 1), some (.int a1), some (.int a2), some (.int a3), some (.int a4), some (.ref W6)], [.int a3], aa_H g) rfl r
      obtain ⟨_, n15, v1, h1, -, ln15, rc, r⟩ := rn_call (m2 := 66) (as := [.int a3]) (rest := []) rfl rfl r
      obtain ⟨rfl, rfl⟩ := dn_66 rc
      have r : rn_s _ 65 (32, [some (.ref 1), some (.int a1), some (.int a2), some (.int a3), some (.int a4), some (.ref W6)], [.int (fn_66 a3)], aa_H g) v h := r
      refine rn_if (iw_s v h) rfl decide_eq_true_iff.symm r (fun c17 l18n l18 r => ?_) (fun c17 l18n l18 r => ?_)
      · obtain ⟨n19, ln19, r⟩ := rn_steps 0 (50, [some (.ref 1), some (.int a1), some (.int a2), some (.int a3), some (.int a4), some (.ref W6)], [.int (-1)], aa_H g) rfl r
        exact rn_ire rfl r
      · obtain ⟨n20, ln20, r⟩ := rn_steps 0 (37, [some (.ref 1), some (.int a1), some (.int a2), some (.int a3), some (.int a4), some (.ref W6)], [.int a4], aa_H g) rfl r
        obtain ⟨_, n21, v1, h1, -, ln21, rc, r⟩ := rn_call (m2 := 66) (as := [.int a4]) (rest := []) rfl rfl r
        obtain ⟨rfl, rfl⟩ := dn_66 rc
        have r : rn_s _ 65 (40, [some (.ref 1), some (.int a1), some (.int a2), some (.int a3), some (.int a4), some (.ref W6)], [.int (fn_66 a4)], aa_H g) v h := r
        refine rn_if (iw_s v h) rfl decide_eq_true_iff.symm r (fun c23 l24n l24 r => ?_) (fun c23 l24n l24 r => ?_)
        · obtain ⟨n25, ln25, r⟩ := rn_steps 0 (50, [some (.ref 1), some (.int a1), some (.int a2), some (.int a3), some (.int a4), some (.ref W6)], [.int (-1)], aa_H g) rfl r
          exact rn_ire rfl r
        · obtain ⟨n26, ln26, r⟩ := rn_steps 1 (46, [some (.ref 1), some (.int a1), some (.int a2), some (.int a3), some (.int a4), some (.ref W6)], [.int a4, .int a3], aa_H g) rfl r
          refine rn_ic (iw_s v h) rfl decide_eq_true_iff.symm r (fun c27 l28n l28 r => ?_) (fun c27 l28n l28 r => ?_)
          · obtain ⟨n29, ln29, r⟩ := rn_steps 1 (54, [some (.ref 1), some (.int a1), some (.int a2), some (.int a3), some (.int a4), some (.ref W6)], [.int a2, .ref W6], aa_H g) rfl r
            obtain ⟨_, n30, v1, h1, -, ln30, rc, r⟩ := rn_cv (k := W6) (as := [.int a2]) (rest := []) rfl (tw_hk hw7) (tw_hl hw7) rfl rfl r
            obtain ⟨rfl, rfl⟩ := dn_63 hw7 rc
            have r : rn_s _ 65 (57, [some (.ref 1), some (.int a1), some (.int a2), some (.int a3), some (.int a4), some (.ref W6)], [.int (fn_63 g W6 a2)], aa_H g) v h := r
            obtain ⟨n32, ln32, r⟩ := rn_steps 0 (58, [some (.ref 1), some (.int a1), some (.int a2), some (.int a3), some (.int a4), some (.ref W6)], [.int (-1), .int (fn_63 g W6 a2)], aa_H g) rfl r
            refine rn_ic (iw_s v h) rfl decide_eq_true_iff.symm r (fun c33 l34n l34 r => ?_) (fun c33 l34n l34 r => ?_)
            · exact dn_65_73 hw7 hi (some (.int a1)) rn_ji r
            · obtain ⟨n35, ln35, r⟩ := rn_steps 0 (63, [some (.ref 1), some (.int a1), some (.int a2), some (.int a3), some (.int a4), some (.ref W6)], [.ref W6], aa_H g) rfl r
              obtain ⟨n36, ln36, r⟩ := rn_gf rfl (tw_hk hw7) (tw_hl hw7) rfl r
              have r : rn_s _ 65 (66, [some (.ref 1), some (.int a1), some (.int a2), some (.int a3), some (.int a4), some (.ref W6)], [.int (g W6 1)], aa_H g) v h := r
              obtain ⟨n37, ln37, r⟩ := rn_steps 0 (68, [some (.ref 1), some (.int a1), some (.int a2), some (.int a3), some (.int a4), some (.ref W6)], [.int 12, .int (g W6 1)], aa_H g) rfl r
              refine rn_ic (iw_s v h) rfl decide_eq_true_iff.symm r (fun c38 l39n l39 r => ?_) (fun c38 l39n l39 r => ?_)
              · exact dn_65_73 hw7 hi (some (.int a1)) rn_ji r
              · obtain ⟨n40, ln40, r⟩ := rn_steps 0 (72, [some (.ref 1), some (.int a1), some (.int a2), some (.int a3), some (.int a4), some (.ref W6)], [.int (-1)], aa_H g) rfl r
                exact rn_ire rfl r
          · obtain ⟨n41, ln41, r⟩ := rn_steps 0 (50, [some (.ref 1), some (.int a1), some (.int a2), some (.int a3), some (.int a4), some (.ref W6)], [.int (-1)], aa_H g) rfl r
            exact rn_ire rfl r
    · obtain ⟨n42, ln42, r⟩ := rn_steps 0 (27, [some (.ref 1), some (.int a1), some (.int a2), some (.int a3), some (.int a4), some (.ref W6)], [.int (-1)], aa_H g) rfl r
      exact rn_ire rfl r
-- 147: UnequalHours Written put
noncomputable def fn_147_22 (g : aa_G)  : aa_G := zz_w g 459 0 ((g 459 0) + 1)
theorem dn_147_22 {v : Option Value} {h : zz_H} {n : Nat} {g : aa_G}   (x0 x1 : Option Value) (jx0 : rn_jk x0) (jx1 : rn_jk x1) (r : rn_s n 147 (22, [x0, x1], [.ref 459, .ref 459], aa_H g) v h) : ig_s v h (fn_147_22 g) := by
  unfold fn_147_22
  obtain ⟨n8, ln8, r⟩ := rn_steps 3 (30, [x0, x1], [], aa_H (zz_w g 459 0 ((g 459 0) + 1))) rfl r
  exact rn_ret 1 rfl r
noncomputable def fn_147 (g : aa_G) (a1 : Int32) : aa_G := if 256 ≤ (g 459 0) then g else fn_147_22 (zz_w g 460 (g 459 0).toNatClampNeg a1)
theorem dn_147 {v : Option Value} {h : zz_H} {n : Nat} {g : aa_G} {a1 : Int32}  (r : rn_s n 147 (0, zz_in [.ref 459, .int a1] (zz_nl 147), [], aa_H g) v h) : ig_s v h (fn_147 g a1) := by
  have r : rn_s n 147 (0, [some (.ref 459), some (.int a1)], [], aa_H g) v h := r
  unfold fn_147
  obtain ⟨n1, ln1, r⟩ := rn_steps 2 (7, [some (.ref 459), some (.int a1)], [.int 256, .int (g 459 0)], aa_H g) rfl r
  refine rn_ic (ig_s v h) rfl decide_eq_true_iff.symm r (fun c2 l3n l3 r => ?_) (fun c2 l3n l3 r => ?_)
  · exact rn_ret 1 rfl r
  · obtain ⟨n4, ln4, r⟩ := rn_steps 4 (19, [some (.ref 459), some (.int a1)], [.int a1, .int (g 459 0), .ref 460], aa_H g) rfl r
    obtain ⟨hb6, n5, ln5, r⟩ := rn_ias (k := 460) rfl ⟨by decide, by decide⟩ rfl r
    have r : rn_s _ 147 (20, [some (.ref 459), some (.int a1)], [], aa_H (zz_w g 460 (g 459 0).toNatClampNeg a1)) v h := r
    obtain ⟨n7, ln7, r⟩ := rn_steps 1 (22, [some (.ref 459), some (.int a1)], [.ref 459, .ref 459], aa_H (zz_w g 460 (g 459 0).toNatClampNeg a1)) rfl r
    exact dn_147_22 (some (.ref 459)) (some (.int a1)) rn_jr rn_ji r
-- 148: UnequalHours Written putNumber
noncomputable def fn_148_46 (g : aa_G) (b2 : Int32) (b3 : Int32) : (aa_G × Int32) ⊕ aa_G := .inl (g, b3 / 10)
theorem dn_148_46 {v : Option Value} {h : zz_H} {n : Nat} {g : aa_G} {b2 : Int32} {b3 : Int32} (P : (aa_G × Int32) ⊕ aa_G → Prop) (hO0 : ∀ n2, n2 < n → ∀ (yg : aa_G) (yb3 : Int32) (yx1 : Option Value) (_ : rn_jk yx1), rn_s n2 148 (19, [some (.ref 459), yx1, some (.int b2), some (.int yb3)], [], aa_H yg) v h → P (.inl (yg, yb3))) (hR : ∀ E, ig_s v h E → P (.inr E))  (x1 : Option Value) (jx1 : rn_jk x1) (r : rn_s n 148 (46, [some (.ref 459), x1, some (.int b2), some (.int b3)], [], aa_H g) v h) : P (fn_148_46 g b2 b3) := by
  unfold fn_148_46
  obtain ⟨n23, ln23, r⟩ := rn_steps 4 (19, [some (.ref 459), x1, some (.int b2), some (.int (b3 / 10))], [], aa_H g) rfl r
  exact hO0 _ (by omega) g (b3 / 10) x1 jx1 r
noncomputable def fn_148_33 (g : aa_G) (b2 : Int32) (b3 : Int32) : (aa_G × Int32) ⊕ aa_G := fn_148_46 (fn_147 g (48 + ((b2 / b3) - (b2 / b3) / 10 * 10))) b2 b3
theorem dn_148_33 {v : Option Value} {h : zz_H} {n : Nat} {g : aa_G} {b2 : Int32} {b3 : Int32} (P : (aa_G × Int32) ⊕ aa_G → Prop) (hO0 : ∀ n2, n2 < n → ∀ (yg : aa_G) (yb3 : Int32) (yx1 : Option Value) (_ : rn_jk yx1), rn_s n2 148 (19, [some (.ref 459), yx1, some (.int b2), some (.int yb3)], [], aa_H yg) v h → P (.inl (yg, yb3))) (hR : ∀ E, ig_s v h E → P (.inr E))  (x1 : Option Value) (jx1 : rn_jk x1) (r : rn_s n 148 (33, [some (.ref 459), x1, some (.int b2), some (.int b3)], [], aa_H g) v h) : P (fn_148_33 g b2 b3) := by
  unfold fn_148_33
  obtain ⟨n17, ln17, r⟩ := rn_steps 3 (38, [some (.ref 459), x1, some (.int b2), some (.int b3)], [.int b3, .int b2, .int 48, .ref 459], aa_H g) rfl r
  obtain ⟨hd19, n18, ln18, r⟩ := rn_div rfl r
  have r : rn_s _ 148 (39, [some (.ref 459), x1, some (.int b2), some (.int b3)], [.int (b2 / b3), .int 48, .ref 459], aa_H g) v h := r
  obtain ⟨n20, ln20, r⟩ := rn_steps 2 (43, [some (.ref 459), x1, some (.int b2), some (.int b3)], [.int (48 + ((b2 / b3) - (b2 / b3) / 10 * 10)), .ref 459], aa_H g) rfl r
  obtain ⟨_, n21, v1, h1, -, ln21, rc, r⟩ := rn_call (m2 := 147) (as := [.ref 459, .int (48 + ((b2 / b3) - (b2 / b3) / 10 * 10))]) (rest := []) rfl rfl r
  obtain ⟨rfl, rfl⟩ := dn_147 rc
  have r : rn_s _ 148 (46, [some (.ref 459), x1, some (.int b2), some (.int b3)], [], aa_H (fn_147 g (48 + ((b2 / b3) - (b2 / b3) / 10 * 10)))) v h := r
  exact dn_148_46 (P) (fun n2 l2 => hO0 n2 (by omega)) (fun z hz => hR _ hz) x1 jx1 r
noncomputable def fn_148_19b (g : aa_G) (b2 : Int32) (b3 : Int32) : (aa_G × Int32) ⊕ aa_G := if b3 ≤ 0 then .inr g else if b3 ≤ b2 then fn_148_33 g b2 b3 else if b3 ≠ 1 then fn_148_46 g b2 b3 else fn_148_33 g b2 b3
noncomputable def fn_148_19 (g : aa_G) (b2 : Int32) (b3 : Int32) : aa_G := lp_f g (fun z : (aa_G × Int32) => fn_148_19b z.1 b2 z.2) (g, b3)
theorem dn_148_19l {v : Option Value} {h : zz_H} {N : Nat} {b2 : Int32} {d : aa_G} : ∀ (n : Nat), n ≤ N → ∀ (g : aa_G) (b3 : Int32) (x1 : Option Value) (jx1 : rn_jk x1), rn_s n 148 (19, [some (.ref 459), x1, some (.int b2), some (.int b3)], [], aa_H g) v h → (ig_s v h) (lp_f d (fun z : (aa_G × Int32) => fn_148_19b z.1 b2 z.2) (g, b3)) := by
  generalize hf : (fun z : (aa_G × Int32) => fn_148_19b z.1 b2 z.2) = f
  intro n
  induction n using Nat.strongRecOn with
  | _ n ih =>
    intro hN g b3 x1 jx1 r
    refine lp_go ?_
    rw [← congrFun hf (g, b3)]
    show lp_q (ig_s v h) d f (fn_148_19b g b2 b3)
    unfold fn_148_19b
    obtain ⟨n8, ln8, r⟩ := rn_steps 0 (20, [some (.ref 459), x1, some (.int b2), some (.int b3)], [.int b3], aa_H g) rfl r
    refine rn_if (lp_q (ig_s v h) d f) rfl decide_eq_true_iff.symm r (fun c9 l10n l10 r => ?_) (fun c9 l10n l10 r => ?_)
    · exact rn_ret 1 rfl r
    · obtain ⟨n11, ln11, r⟩ := rn_steps 1 (25, [some (.ref 459), x1, some (.int b2), some (.int b3)], [.int b3, .int b2], aa_H g) rfl r
      refine rn_ic (lp_q (ig_s v h) d f) rfl decide_eq_true_iff.symm r (fun c12 l13n l13 r => ?_) (fun c12 l13n l13 r => ?_)
      · exact dn_148_33 (lp_q (ig_s v h) d f) (fun n2 l2 => ih n2 (by omega) (by omega)) (fun z hz => hz) x1 jx1 r
      · obtain ⟨n14, ln14, r⟩ := rn_steps 1 (30, [some (.ref 459), x1, some (.int b2), some (.int b3)], [.int 1, .int b3], aa_H g) rfl r
        refine rn_ic (lp_q (ig_s v h) d f) rfl decide_eq_true_iff.symm r (fun c15 l16n l16 r => ?_) (fun c15 l16n l16 r => ?_)
        · exact dn_148_46 (lp_q (ig_s v h) d f) (fun n2 l2 => ih n2 (by omega) (by omega)) (fun z hz => hz) x1 jx1 r
        · exact dn_148_33 (lp_q (ig_s v h) d f) (fun n2 l2 => ih n2 (by omega) (by omega)) (fun z hz => hz) x1 jx1 r
theorem dn_148_19 {v : Option Value} {h : zz_H} {n : Nat} {g : aa_G} {b2 : Int32} {b3 : Int32}  (x1 : Option Value) (jx1 : rn_jk x1) (r : rn_s n 148 (19, [some (.ref 459), x1, some (.int b2), some (.int b3)], [], aa_H g) v h) : (ig_s v h) (fn_148_19 g b2 b3) := dn_148_19l  n (Nat.le_refl n) g b3 x1 jx1 r
noncomputable def fn_148_10 (g : aa_G) (b1 : Int32) : aa_G := fn_148_19 g (if 0 ≤ b1 then b1 else 0 - b1) 10000
theorem dn_148_10 {v : Option Value} {h : zz_H} {n : Nat} {g : aa_G} {b1 : Int32}  (x2 x3 : Option Value) (jx2 : rn_jk x2) (jx3 : rn_jk x3) (r : rn_s n 148 (10, [some (.ref 459), some (.int b1), x2, x3], [], aa_H g) v h) : ig_s v h (fn_148_10 g b1) := by
  unfold fn_148_10
  obtain ⟨n7, ln7, r⟩ := rn_steps 4 (19, [some (.ref 459), some (.int b1), some (.int (if 0 ≤ b1 then b1 else 0 - b1)), some (.int 10000)], [], aa_H g) rfl r
  exact dn_148_19 (some (.int b1)) rn_ji r
noncomputable def fn_148 (g : aa_G) (a1 : Int32) : aa_G := if 0 ≤ a1 then fn_148_10 g a1 else fn_148_10 (fn_147 g 45) a1
theorem dn_148 {v : Option Value} {h : zz_H} {n : Nat} {g : aa_G} {a1 : Int32}  (r : rn_s n 148 (0, zz_in [.ref 459, .int a1] (zz_nl 148), [], aa_H g) v h) : ig_s v h (fn_148 g a1) := by
  have r : rn_s n 148 (0, [some (.ref 459), some (.int a1), none, none], [], aa_H g) v h := r
  unfold fn_148
  obtain ⟨n1, ln1, r⟩ := rn_steps 0 (1, [some (.ref 459), some (.int a1), none, none], [.int a1], aa_H g) rfl r
  refine rn_if (ig_s v h) rfl decide_eq_true_iff.symm r (fun c2 l3n l3 r => ?_) (fun c2 l3n l3 r => ?_)
  · exact dn_148_10 none none rn_jn rn_jn r
  · obtain ⟨n4, ln4, r⟩ := rn_steps 1 (7, [some (.ref 459), some (.int a1), none, none], [.int 45, .ref 459], aa_H g) rfl r
    obtain ⟨_, n5, v1, h1, -, ln5, rc, r⟩ := rn_call (m2 := 147) (as := [.ref 459, .int 45]) (rest := []) rfl rfl r
    obtain ⟨rfl, rfl⟩ := dn_147 rc
    have r : rn_s _ 148 (10, [some (.ref 459), some (.int a1), none, none], [], aa_H (fn_147 g 45)) v h := r
    exact dn_148_10 none none rn_jn rn_jn r
-- 146: UnequalHours Written compose
noncomputable def fn_146_137 (g : aa_G) (B1 : Nat) (b2 : Int32) : (aa_G × Int32) ⊕ aa_G := .inl (g, b2 + 1)
theorem dn_146_137 {v : Option Value} {h : zz_H} {n : Nat} {g : aa_G} {B1 : Nat} {b2 : Int32} (P : (aa_G × Int32) ⊕ aa_G → Prop) (hO0 : ∀ n2, n2 < n → ∀ (yg : aa_G) (yb2 : Int32) (yx3 : Option Value) (_ : rn_jk yx3), rn_s n2 146 (27, [some (.ref 459), some (.ref B1), some (.int yb2), yx3], [], aa_H yg) v h → P (.inl (yg, yb2))) (hR : ∀ E, ig_s v h E → P (.inr E)) (hB1 : ct_tw B1) (x3 : Option Value) (jx3 : rn_jk x3) (r : rn_s n 146 (137, [some (.ref 459), some (.ref B1), some (.int b2), x3], [], aa_H g) v h) : P (fn_146_137 g B1 b2) := by
  unfold fn_146_137
  obtain ⟨n78, ln78, r⟩ := rn_steps 1 (27, [some (.ref 459), some (.ref B1), some (.int (b2 + 1)), x3], [], aa_H g) rfl r
  exact hO0 _ (by omega) g (b2 + 1) x3 jx3 r
noncomputable def fn_146_131 (g : aa_G) (B1 : Nat) (b2 : Int32) : (aa_G × Int32) ⊕ aa_G := fn_146_137 (fn_147 g 59) B1 b2
theorem dn_146_131 {v : Option Value} {h : zz_H} {n : Nat} {g : aa_G} {B1 : Nat} {b2 : Int32} (P : (aa_G × Int32) ⊕ aa_G → Prop) (hO0 : ∀ n2, n2 < n → ∀ (yg : aa_G) (yb2 : Int32) (yx3 : Option Value) (_ : rn_jk yx3), rn_s n2 146 (27, [some (.ref 459), some (.ref B1), some (.int yb2), yx3], [], aa_H yg) v h → P (.inl (yg, yb2))) (hR : ∀ E, ig_s v h E → P (.inr E)) (hB1 : ct_tw B1) (x3 : Option Value) (jx3 : rn_jk x3) (r : rn_s n 146 (131, [some (.ref 459), some (.ref B1), some (.int b2), x3], [], aa_H g) v h) : P (fn_146_131 g B1 b2) := by
  unfold fn_146_131
  obtain ⟨n68, ln68, r⟩ := rn_steps 1 (134, [some (.ref 459), some (.ref B1), some (.int b2), x3], [.int 59, .ref 459], aa_H g) rfl r
  obtain ⟨_, n69, v1, h1, -, ln69, rc, r⟩ := rn_call (m2 := 147) (as := [.ref 459, .int 59]) (rest := []) rfl rfl r
  obtain ⟨rfl, rfl⟩ := dn_147 rc
  have r : rn_s _ 146 (137, [some (.ref 459), some (.ref B1), some (.int b2), x3], [], aa_H (fn_147 g 59)) v h := r
  exact dn_146_137 (P) (fun n2 l2 => hO0 n2 (by omega)) (fun z hz => hR _ hz) hB1 x3 jx3 r
noncomputable def fn_146_121 (g : aa_G) (B1 : Nat) (b2 : Int32) : (aa_G × Int32) ⊕ aa_G := fn_146_131 (fn_148 g (g (B1 + 3) b2.toNatClampNeg)) B1 b2
theorem dn_146_121 {v : Option Value} {h : zz_H} {n : Nat} {g : aa_G} {B1 : Nat} {b2 : Int32} (P : (aa_G × Int32) ⊕ aa_G → Prop) (hO0 : ∀ n2, n2 < n → ∀ (yg : aa_G) (yb2 : Int32) (yx3 : Option Value) (_ : rn_jk yx3), rn_s n2 146 (27, [some (.ref 459), some (.ref B1), some (.int yb2), yx3], [], aa_H yg) v h → P (.inl (yg, yb2))) (hR : ∀ E, ig_s v h E → P (.inr E)) (hB1 : ct_tw B1) (x3 : Option Value) (jx3 : rn_jk x3) (r : rn_s n 146 (121, [some (.ref 459), some (.ref B1), some (.int b2), x3], [], aa_H g) v h) : P (fn_146_121 g B1 b2) := by
  unfold fn_146_121
  obtain ⟨n71, ln71, r⟩ := rn_steps 1 (123, [some (.ref 459), some (.ref B1), some (.int b2), x3], [.ref B1, .ref 459], aa_H g) rfl r
  obtain ⟨n72, ln72, r⟩ := rn_gr rfl (tw_hk hB1) (tw_hl hB1) rfl r
  have r : rn_s _ 146 (126, [some (.ref 459), some (.ref B1), some (.int b2), x3], [.ref (B1 + 3), .ref 459], aa_H g) v h := r
  obtain ⟨n73, ln73, r⟩ := rn_steps 0 (127, [some (.ref 459), some (.ref B1), some (.int b2), x3], [.int b2, .ref (B1 + 3), .ref 459], aa_H g) rfl r
  obtain ⟨hb75, n74, ln74, r⟩ := rn_ial rfl (tw_a3 hB1).1 (tw_a3 hB1).2 r
  have r : rn_s _ 146 (128, [some (.ref 459), some (.ref B1), some (.int b2), x3], [.int (g (B1 + 3) b2.toNatClampNeg), .ref 459], aa_H g) v h := r
  obtain ⟨_, n76, v1, h1, -, ln76, rc, r⟩ := rn_call (m2 := 148) (as := [.ref 459, .int (g (B1 + 3) b2.toNatClampNeg)]) (rest := []) rfl rfl r
  obtain ⟨rfl, rfl⟩ := dn_148 rc
  have r : rn_s _ 146 (131, [some (.ref 459), some (.ref B1), some (.int b2), x3], [], aa_H (fn_148 g (g (B1 + 3) b2.toNatClampNeg))) v h := r
  exact dn_146_131 (P) (fun n2 l2 => hO0 n2 (by omega)) (fun z hz => hR _ hz) hB1 x3 jx3 r
noncomputable def fn_146_111 (g : aa_G) (B1 : Nat) (b2 : Int32) (b3 : Int32) : (aa_G × Int32) ⊕ aa_G := if b3 ≠ 0 then fn_146_131 g B1 b2 else fn_146_121 (fn_147 g 44) B1 b2
theorem dn_146_111 {v : Option Value} {h : zz_H} {n : Nat} {g : aa_G} {B1 : Nat} {b2 : Int32} {b3 : Int32} (P : (aa_G × Int32) ⊕ aa_G → Prop) (hO0 : ∀ n2, n2 < n → ∀ (yg : aa_G) (yb2 : Int32) (yx3 : Option Value) (_ : rn_jk yx3), rn_s n2 146 (27, [some (.ref 459), some (.ref B1), some (.int yb2), yx3], [], aa_H yg) v h → P (.inl (yg, yb2))) (hR : ∀ E, ig_s v h E → P (.inr E)) (hB1 : ct_tw B1) (r : rn_s n 146 (111, [some (.ref 459), some (.ref B1), some (.int b2), some (.int b3)], [], aa_H g) v h) : P (fn_146_111 g B1 b2 b3) := by
  unfold fn_146_111
  obtain ⟨n62, ln62, r⟩ := rn_steps 0 (112, [some (.ref 459), some (.ref B1), some (.int b2), some (.int b3)], [.int b3], aa_H g) rfl r
  refine rn_if (P) rfl decide_eq_true_iff.symm r (fun c63 l64n l64 r => ?_) (fun c63 l64n l64 r => ?_)
  · exact dn_146_131 (P) (fun n2 l2 => hO0 n2 (by omega)) (fun z hz => hR _ hz) hB1 (some (.int b3)) rn_ji r
  · obtain ⟨n65, ln65, r⟩ := rn_steps 1 (118, [some (.ref 459), some (.ref B1), some (.int b2), some (.int b3)], [.int 44, .ref 459], aa_H g) rfl r
    obtain ⟨_, n66, v1, h1, -, ln66, rc, r⟩ := rn_call (m2 := 147) (as := [.ref 459, .int 44]) (rest := []) rfl rfl r
    obtain ⟨rfl, rfl⟩ := dn_147 rc
    have r : rn_s _ 146 (121, [some (.ref 459), some (.ref B1), some (.int b2), some (.int b3)], [], aa_H (fn_147 g 44)) v h := r
    exact dn_146_121 (P) (fun n2 l2 => hO0 n2 (by omega)) (fun z hz => hR _ hz) hB1 (some (.int b3)) rn_ji r
noncomputable def fn_146_108 (g : aa_G) (B1 : Nat) (b2 : Int32) (b3 : Int32) (s0 : Int32) : (aa_G × Int32) ⊕ aa_G := fn_146_111 (fn_148 g s0) B1 b2 b3
theorem dn_146_108 {v : Option Value} {h : zz_H} {n : Nat} {g : aa_G} {B1 : Nat} {b2 : Int32} {b3 : Int32} {s0 : Int32} (P : (aa_G × Int32) ⊕ aa_G → Prop) (hO0 : ∀ n2, n2 < n → ∀ (yg : aa_G) (yb2 : Int32) (yx3 : Option Value) (_ : rn_jk yx3), rn_s n2 146 (27, [some (.ref 459), some (.ref B1), some (.int yb2), yx3], [], aa_H yg) v h → P (.inl (yg, yb2))) (hR : ∀ E, ig_s v h E → P (.inr E)) (hB1 : ct_tw B1) (r : rn_s n 146 (108, [some (.ref 459), some (.ref B1), some (.int b2), some (.int b3)], [.int s0, .ref 459], aa_H g) v h) : P (fn_146_108 g B1 b2 b3 s0) := by
  unfold fn_146_108
  obtain ⟨_, n60, v1, h1, -, ln60, rc, r⟩ := rn_call (m2 := 148) (as := [.ref 459, .int s0]) (rest := []) rfl rfl r
  obtain ⟨rfl, rfl⟩ := dn_148 rc
  have r : rn_s _ 146 (111, [some (.ref 459), some (.ref B1), some (.int b2), some (.int b3)], [], aa_H (fn_148 g s0)) v h := r
  exact dn_146_111 (P) (fun n2 l2 => hO0 n2 (by omega)) (fun z hz => hR _ hz) hB1 r
noncomputable def fn_146_88 (g : aa_G) (B1 : Nat) (b2 : Int32) (b3 : Int32) : (aa_G × Int32) ⊕ aa_G := if b3 = 0 then fn_146_108 g B1 b2 b3 (g (B1 + 2) b2.toNatClampNeg) else fn_146_108 g B1 b2 b3 (g (B1 + 4) b2.toNatClampNeg)
theorem dn_146_88 {v : Option Value} {h : zz_H} {n : Nat} {g : aa_G} {B1 : Nat} {b2 : Int32} {b3 : Int32} (P : (aa_G × Int32) ⊕ aa_G → Prop) (hO0 : ∀ n2, n2 < n → ∀ (yg : aa_G) (yb2 : Int32) (yx3 : Option Value) (_ : rn_jk yx3), rn_s n2 146 (27, [some (.ref 459), some (.ref B1), some (.int yb2), yx3], [], aa_H yg) v h → P (.inl (yg, yb2))) (hR : ∀ E, ig_s v h E → P (.inr E)) (hB1 : ct_tw B1) (r : rn_s n 146 (88, [some (.ref 459), some (.ref B1), some (.int b2), some (.int b3)], [], aa_H g) v h) : P (fn_146_88 g B1 b2 b3) := by
  unfold fn_146_88
  obtain ⟨n46, ln46, r⟩ := rn_steps 1 (90, [some (.ref 459), some (.ref B1), some (.int b2), some (.int b3)], [.int b3, .ref 459], aa_H g) rfl r
  refine rn_if (P) rfl decide_eq_true_iff.symm r (fun c47 l48n l48 r => ?_) (fun c47 l48n l48 r => ?_)
  · obtain ⟨n49, ln49, r⟩ := rn_steps 0 (103, [some (.ref 459), some (.ref B1), some (.int b2), some (.int b3)], [.ref B1, .ref 459], aa_H g) rfl r
    obtain ⟨n50, ln50, r⟩ := rn_gr rfl (tw_hk hB1) (tw_hl hB1) rfl r
    have r : rn_s _ 146 (106, [some (.ref 459), some (.ref B1), some (.int b2), some (.int b3)], [.ref (B1 + 2), .ref 459], aa_H g) v h := r
    obtain ⟨n51, ln51, r⟩ := rn_steps 0 (107, [some (.ref 459), some (.ref B1), some (.int b2), some (.int b3)], [.int b2, .ref (B1 + 2), .ref 459], aa_H g) rfl r
    obtain ⟨hb53, n52, ln52, r⟩ := rn_ial rfl (tw_a2 hB1).1 (tw_a2 hB1).2 r
    have r : rn_s _ 146 (108, [some (.ref 459), some (.ref B1), some (.int b2), some (.int b3)], [.int (g (B1 + 2) b2.toNatClampNeg), .ref 459], aa_H g) v h := r
    exact dn_146_108 (P) (fun n2 l2 => hO0 n2 (by omega)) (fun z hz => hR _ hz) hB1 r
  · obtain ⟨n54, ln54, r⟩ := rn_steps 0 (94, [some (.ref 459), some (.ref B1), some (.int b2), some (.int b3)], [.ref B1, .ref 459], aa_H g) rfl r
    obtain ⟨n55, ln55, r⟩ := rn_gr rfl (tw_hk hB1) (tw_hl hB1) rfl r
    have r : rn_s _ 146 (97, [some (.ref 459), some (.ref B1), some (.int b2), some (.int b3)], [.ref (B1 + 4), .ref 459], aa_H g) v h := r
    obtain ⟨n56, ln56, r⟩ := rn_steps 0 (98, [some (.ref 459), some (.ref B1), some (.int b2), some (.int b3)], [.int b2, .ref (B1 + 4), .ref 459], aa_H g) rfl r
    obtain ⟨hb58, n57, ln57, r⟩ := rn_ial rfl (tw_a4 hB1).1 (tw_a4 hB1).2 r
    have r : rn_s _ 146 (99, [some (.ref 459), some (.ref B1), some (.int b2), some (.int b3)], [.int (g (B1 + 4) b2.toNatClampNeg), .ref 459], aa_H g) v h := r
    obtain ⟨n59, ln59, r⟩ := rn_steps 0 (108, [some (.ref 459), some (.ref B1), some (.int b2), some (.int b3)], [.int (g (B1 + 4) b2.toNatClampNeg), .ref 459], aa_H g) rfl r
    exact dn_146_108 (P) (fun n2 l2 => hO0 n2 (by omega)) (fun z hz => hR _ hz) hB1 r
noncomputable def fn_146_82 (g : aa_G) (B1 : Nat) (b2 : Int32) (b3 : Int32) : (aa_G × Int32) ⊕ aa_G := fn_146_88 (fn_147 g 44) B1 b2 b3
theorem dn_146_82 {v : Option Value} {h : zz_H} {n : Nat} {g : aa_G} {B1 : Nat} {b2 : Int32} {b3 : Int32} (P : (aa_G × Int32) ⊕ aa_G → Prop) (hO0 : ∀ n2, n2 < n → ∀ (yg : aa_G) (yb2 : Int32) (yx3 : Option Value) (_ : rn_jk yx3), rn_s n2 146 (27, [some (.ref 459), some (.ref B1), some (.int yb2), yx3], [], aa_H yg) v h → P (.inl (yg, yb2))) (hR : ∀ E, ig_s v h E → P (.inr E)) (hB1 : ct_tw B1) (r : rn_s n 146 (82, [some (.ref 459), some (.ref B1), some (.int b2), some (.int b3)], [], aa_H g) v h) : P (fn_146_82 g B1 b2 b3) := by
  unfold fn_146_82
  obtain ⟨n43, ln43, r⟩ := rn_steps 1 (85, [some (.ref 459), some (.ref B1), some (.int b2), some (.int b3)], [.int 44, .ref 459], aa_H g) rfl r
  obtain ⟨_, n44, v1, h1, -, ln44, rc, r⟩ := rn_call (m2 := 147) (as := [.ref 459, .int 44]) (rest := []) rfl rfl r
  obtain ⟨rfl, rfl⟩ := dn_147 rc
  have r : rn_s _ 146 (88, [some (.ref 459), some (.ref B1), some (.int b2), some (.int b3)], [], aa_H (fn_147 g 44)) v h := r
  exact dn_146_88 (P) (fun n2 l2 => hO0 n2 (by omega)) (fun z hz => hR _ hz) hB1 r
noncomputable def fn_146_72 (g : aa_G) (B1 : Nat) (b2 : Int32) (b3 : Int32) : (aa_G × Int32) ⊕ aa_G := fn_146_82 (fn_148 g (g (B1 + 1) b2.toNatClampNeg)) B1 b2 b3
theorem dn_146_72 {v : Option Value} {h : zz_H} {n : Nat} {g : aa_G} {B1 : Nat} {b2 : Int32} {b3 : Int32} (P : (aa_G × Int32) ⊕ aa_G → Prop) (hO0 : ∀ n2, n2 < n → ∀ (yg : aa_G) (yb2 : Int32) (yx3 : Option Value) (_ : rn_jk yx3), rn_s n2 146 (27, [some (.ref 459), some (.ref B1), some (.int yb2), yx3], [], aa_H yg) v h → P (.inl (yg, yb2))) (hR : ∀ E, ig_s v h E → P (.inr E)) (hB1 : ct_tw B1) (r : rn_s n 146 (72, [some (.ref 459), some (.ref B1), some (.int b2), some (.int b3)], [], aa_H g) v h) : P (fn_146_72 g B1 b2 b3) := by
  unfold fn_146_72
  obtain ⟨n36, ln36, r⟩ := rn_steps 1 (74, [some (.ref 459), some (.ref B1), some (.int b2), some (.int b3)], [.ref B1, .ref 459], aa_H g) rfl r
  obtain ⟨n37, ln37, r⟩ := rn_gr rfl (tw_hk hB1) (tw_hl hB1) rfl r
  have r : rn_s _ 146 (77, [some (.ref 459), some (.ref B1), some (.int b2), some (.int b3)], [.ref (B1 + 1), .ref 459], aa_H g) v h := r
  obtain ⟨n38, ln38, r⟩ := rn_steps 0 (78, [some (.ref 459), some (.ref B1), some (.int b2), some (.int b3)], [.int b2, .ref (B1 + 1), .ref 459], aa_H g) rfl r
  obtain ⟨hb40, n39, ln39, r⟩ := rn_ial rfl (tw_a1 hB1).1 (tw_a1 hB1).2 r
  have r : rn_s _ 146 (79, [some (.ref 459), some (.ref B1), some (.int b2), some (.int b3)], [.int (g (B1 + 1) b2.toNatClampNeg), .ref 459], aa_H g) v h := r
  obtain ⟨_, n41, v1, h1, -, ln41, rc, r⟩ := rn_call (m2 := 148) (as := [.ref 459, .int (g (B1 + 1) b2.toNatClampNeg)]) (rest := []) rfl rfl r
  obtain ⟨rfl, rfl⟩ := dn_148 rc
  have r : rn_s _ 146 (82, [some (.ref 459), some (.ref B1), some (.int b2), some (.int b3)], [], aa_H (fn_148 g (g (B1 + 1) b2.toNatClampNeg))) v h := r
  exact dn_146_82 (P) (fun n2 l2 => hO0 n2 (by omega)) (fun z hz => hR _ hz) hB1 r
noncomputable def fn_146_69 (g : aa_G) (B1 : Nat) (b2 : Int32) (b3 : Int32) (s0 : Int32) : (aa_G × Int32) ⊕ aa_G := fn_146_72 (fn_147 g s0) B1 b2 b3
theorem dn_146_69 {v : Option Value} {h : zz_H} {n : Nat} {g : aa_G} {B1 : Nat} {b2 : Int32} {b3 : Int32} {s0 : Int32} (P : (aa_G × Int32) ⊕ aa_G → Prop) (hO0 : ∀ n2, n2 < n → ∀ (yg : aa_G) (yb2 : Int32) (yx3 : Option Value) (_ : rn_jk yx3), rn_s n2 146 (27, [some (.ref 459), some (.ref B1), some (.int yb2), yx3], [], aa_H yg) v h → P (.inl (yg, yb2))) (hR : ∀ E, ig_s v h E → P (.inr E)) (hB1 : ct_tw B1) (r : rn_s n 146 (69, [some (.ref 459), some (.ref B1), some (.int b2), some (.int b3)], [.int s0, .ref 459], aa_H g) v h) : P (fn_146_69 g B1 b2 b3 s0) := by
  unfold fn_146_69
  obtain ⟨_, n34, v1, h1, -, ln34, rc, r⟩ := rn_call (m2 := 147) (as := [.ref 459, .int s0]) (rest := []) rfl rfl r
  obtain ⟨rfl, rfl⟩ := dn_147 rc
  have r : rn_s _ 146 (72, [some (.ref 459), some (.ref B1), some (.int b2), some (.int b3)], [], aa_H (fn_147 g s0)) v h := r
  exact dn_146_72 (P) (fun n2 l2 => hO0 n2 (by omega)) (fun z hz => hR _ hz) hB1 r
noncomputable def fn_146_56 (g : aa_G) (B1 : Nat) (b2 : Int32) (s0 : Int32) : (aa_G × Int32) ⊕ aa_G := if s0 = 0 then fn_146_69 g B1 b2 s0 112 else fn_146_69 g B1 b2 s0 120
theorem dn_146_56 {v : Option Value} {h : zz_H} {n : Nat} {g : aa_G} {B1 : Nat} {b2 : Int32} {s0 : Int32} (P : (aa_G × Int32) ⊕ aa_G → Prop) (hO0 : ∀ n2, n2 < n → ∀ (yg : aa_G) (yb2 : Int32) (yx3 : Option Value) (_ : rn_jk yx3), rn_s n2 146 (27, [some (.ref 459), some (.ref B1), some (.int yb2), yx3], [], aa_H yg) v h → P (.inl (yg, yb2))) (hR : ∀ E, ig_s v h E → P (.inr E)) (hB1 : ct_tw B1) (x3 : Option Value) (jx3 : rn_jk x3) (r : rn_s n 146 (56, [some (.ref 459), some (.ref B1), some (.int b2), x3], [.int s0], aa_H g) v h) : P (fn_146_56 g B1 b2 s0) := by
  unfold fn_146_56
  obtain ⟨n29, ln29, r⟩ := rn_steps 2 (59, [some (.ref 459), some (.ref B1), some (.int b2), some (.int s0)], [.int s0, .ref 459], aa_H g) rfl r
  refine rn_if (P) rfl decide_eq_true_iff.symm r (fun c30 l31n l31 r => ?_) (fun c30 l31n l31 r => ?_)
  · obtain ⟨n32, ln32, r⟩ := rn_steps 0 (69, [some (.ref 459), some (.ref B1), some (.int b2), some (.int s0)], [.int 112, .ref 459], aa_H g) rfl r
    exact dn_146_69 (P) (fun n2 l2 => hO0 n2 (by omega)) (fun z hz => hR _ hz) hB1 r
  · obtain ⟨n33, ln33, r⟩ := rn_steps 1 (69, [some (.ref 459), some (.ref B1), some (.int b2), some (.int s0)], [.int 120, .ref 459], aa_H g) rfl r
    exact dn_146_69 (P) (fun n2 l2 => hO0 n2 (by omega)) (fun z hz => hR _ hz) hB1 r
noncomputable def fn_146_27b (g : aa_G) (B1 : Nat) (b2 : Int32) : (aa_G × Int32) ⊕ aa_G := if (g B1 1) ≤ b2 then .inr g else if 12 ≤ b2 then .inr g else if (g (B1 + 4) b2.toNatClampNeg) = (-1) then fn_146_56 g B1 b2 0 else fn_146_56 g B1 b2 1
noncomputable def fn_146_27 (g : aa_G) (B1 : Nat) (b2 : Int32) : aa_G := lp_f g (fun z : (aa_G × Int32) => fn_146_27b z.1 B1 z.2) (g, b2)
theorem dn_146_27l {v : Option Value} {h : zz_H} {N : Nat} {B1 : Nat} (hB1 : ct_tw B1) {d : aa_G} : ∀ (n : Nat), n ≤ N → ∀ (g : aa_G) (b2 : Int32) (x3 : Option Value) (jx3 : rn_jk x3), rn_s n 146 (27, [some (.ref 459), some (.ref B1), some (.int b2), x3], [], aa_H g) v h → (ig_s v h) (lp_f d (fun z : (aa_G × Int32) => fn_146_27b z.1 B1 z.2) (g, b2)) := by
  generalize hf : (fun z : (aa_G × Int32) => fn_146_27b z.1 B1 z.2) = f
  intro n
  induction n using Nat.strongRecOn with
  | _ n ih =>
    intro hN g b2 x3 jx3 r
    refine lp_go ?_
    rw [← congrFun hf (g, b2)]
    show lp_q (ig_s v h) d f (fn_146_27b g B1 b2)
    unfold fn_146_27b
    obtain ⟨n12, ln12, r⟩ := rn_steps 1 (29, [some (.ref 459), some (.ref B1), some (.int b2), x3], [.ref B1, .int b2], aa_H g) rfl r
    obtain ⟨n13, ln13, r⟩ := rn_gf rfl (tw_hk hB1) (tw_hl hB1) rfl r
    have r : rn_s _ 146 (32, [some (.ref 459), some (.ref B1), some (.int b2), x3], [.int (g B1 1), .int b2], aa_H g) v h := r
    refine rn_ic (lp_q (ig_s v h) d f) rfl decide_eq_true_iff.symm r (fun c14 l15n l15 r => ?_) (fun c14 l15n l15 r => ?_)
    · exact rn_ret 1 rfl r
    · obtain ⟨n16, ln16, r⟩ := rn_steps 1 (38, [some (.ref 459), some (.ref B1), some (.int b2), x3], [.int 12, .int b2], aa_H g) rfl r
      refine rn_ic (lp_q (ig_s v h) d f) rfl decide_eq_true_iff.symm r (fun c17 l18n l18 r => ?_) (fun c17 l18n l18 r => ?_)
      · exact rn_ret 1 rfl r
      · obtain ⟨n19, ln19, r⟩ := rn_steps 0 (42, [some (.ref 459), some (.ref B1), some (.int b2), x3], [.ref B1], aa_H g) rfl r
        obtain ⟨n20, ln20, r⟩ := rn_gr rfl (tw_hk hB1) (tw_hl hB1) rfl r
        have r : rn_s _ 146 (45, [some (.ref 459), some (.ref B1), some (.int b2), x3], [.ref (B1 + 4)], aa_H g) v h := r
        obtain ⟨n21, ln21, r⟩ := rn_steps 0 (46, [some (.ref 459), some (.ref B1), some (.int b2), x3], [.int b2, .ref (B1 + 4)], aa_H g) rfl r
        obtain ⟨hb23, n22, ln22, r⟩ := rn_ial rfl (tw_a4 hB1).1 (tw_a4 hB1).2 r
        have r : rn_s _ 146 (47, [some (.ref 459), some (.ref B1), some (.int b2), x3], [.int (g (B1 + 4) b2.toNatClampNeg)], aa_H g) v h := r
        obtain ⟨n24, ln24, r⟩ := rn_steps 0 (48, [some (.ref 459), some (.ref B1), some (.int b2), x3], [.int (-1), .int (g (B1 + 4) b2.toNatClampNeg)], aa_H g) rfl r
        refine rn_ic (lp_q (ig_s v h) d f) rfl decide_eq_true_iff.symm r (fun c25 l26n l26 r => ?_) (fun c25 l26n l26 r => ?_)
        · obtain ⟨n27, ln27, r⟩ := rn_steps 0 (56, [some (.ref 459), some (.ref B1), some (.int b2), x3], [.int 0], aa_H g) rfl r
          exact dn_146_56 (lp_q (ig_s v h) d f) (fun n2 l2 => ih n2 (by omega) (by omega)) (fun z hz => hz) hB1 x3 jx3 r
        · obtain ⟨n28, ln28, r⟩ := rn_steps 1 (56, [some (.ref 459), some (.ref B1), some (.int b2), x3], [.int 1], aa_H g) rfl r
          exact dn_146_56 (lp_q (ig_s v h) d f) (fun n2 l2 => ih n2 (by omega) (by omega)) (fun z hz => hz) hB1 x3 jx3 r
theorem dn_146_27 {v : Option Value} {h : zz_H} {n : Nat} {g : aa_G} {B1 : Nat} {b2 : Int32} (hB1 : ct_tw B1) (x3 : Option Value) (jx3 : rn_jk x3) (r : rn_s n 146 (27, [some (.ref 459), some (.ref B1), some (.int b2), x3], [], aa_H g) v h) : (ig_s v h) (fn_146_27 g B1 b2) := dn_146_27l hB1 n (Nat.le_refl n) g b2 x3 jx3 r
noncomputable def fn_146_25 (g : aa_G) (B1 : Nat) : aa_G := fn_146_27 g B1 0
theorem dn_146_25 {v : Option Value} {h : zz_H} {n : Nat} {g : aa_G} {B1 : Nat} (hB1 : ct_tw B1) (x2 x3 : Option Value) (jx2 : rn_jk x2) (jx3 : rn_jk x3) (r : rn_s n 146 (25, [some (.ref 459), some (.ref B1), x2, x3], [], aa_H g) v h) : ig_s v h (fn_146_25 g B1) := by
  unfold fn_146_25
  obtain ⟨n11, ln11, r⟩ := rn_steps 1 (27, [some (.ref 459), some (.ref B1), some (.int 0), x3], [], aa_H g) rfl r
  exact dn_146_27 hB1 x3 jx3 r
noncomputable def fn_146_19 (g : aa_G) (B1 : Nat) : aa_G := fn_146_25 (fn_147 g 59) B1
theorem dn_146_19 {v : Option Value} {h : zz_H} {n : Nat} {g : aa_G} {B1 : Nat} (hB1 : ct_tw B1) (x2 x3 : Option Value) (jx2 : rn_jk x2) (jx3 : rn_jk x3) (r : rn_s n 146 (19, [some (.ref 459), some (.ref B1), x2, x3], [], aa_H g) v h) : ig_s v h (fn_146_19 g B1) := by
  unfold fn_146_19
  obtain ⟨n8, ln8, r⟩ := rn_steps 1 (22, [some (.ref 459), some (.ref B1), x2, x3], [.int 59, .ref 459], aa_H g) rfl r
  obtain ⟨_, n9, v1, h1, -, ln9, rc, r⟩ := rn_call (m2 := 147) (as := [.ref 459, .int 59]) (rest := []) rfl rfl r
  obtain ⟨rfl, rfl⟩ := dn_147 rc
  have r : rn_s _ 146 (25, [some (.ref 459), some (.ref B1), x2, x3], [], aa_H (fn_147 g 59)) v h := r
  exact dn_146_25 hB1 x2 x3 jx2 jx3 r
noncomputable def fn_146_11 (g : aa_G) (B1 : Nat) : aa_G := fn_146_19 (fn_148 g (g B1 0)) B1
theorem dn_146_11 {v : Option Value} {h : zz_H} {n : Nat} {g : aa_G} {B1 : Nat} (hB1 : ct_tw B1) (x2 x3 : Option Value) (jx2 : rn_jk x2) (jx3 : rn_jk x3) (r : rn_s n 146 (11, [some (.ref 459), some (.ref B1), x2, x3], [], aa_H g) v h) : ig_s v h (fn_146_11 g B1) := by
  unfold fn_146_11
  obtain ⟨n4, ln4, r⟩ := rn_steps 1 (13, [some (.ref 459), some (.ref B1), x2, x3], [.ref B1, .ref 459], aa_H g) rfl r
  obtain ⟨n5, ln5, r⟩ := rn_gf rfl (tw_hk hB1) (tw_hl hB1) rfl r
  have r : rn_s _ 146 (16, [some (.ref 459), some (.ref B1), x2, x3], [.int (g B1 0), .ref 459], aa_H g) v h := r
  obtain ⟨_, n6, v1, h1, -, ln6, rc, r⟩ := rn_call (m2 := 148) (as := [.ref 459, .int (g B1 0)]) (rest := []) rfl rfl r
  obtain ⟨rfl, rfl⟩ := dn_148 rc
  have r : rn_s _ 146 (19, [some (.ref 459), some (.ref B1), x2, x3], [], aa_H (fn_148 g (g B1 0))) v h := r
  exact dn_146_19 hB1 x2 x3 jx2 jx3 r
noncomputable def fn_146 (g : aa_G) (T : Nat) : aa_G := fn_146_11 (fn_147 (zz_w g 459 0 0) 116) T
theorem dn_146 {v : Option Value} {h : zz_H} {n : Nat} {g : aa_G} {T : Nat} (hT : ct_tw T) (r : rn_s n 146 (0, zz_in [.ref 459, .ref T] (zz_nl 146), [], aa_H g) v h) : ig_s v h (fn_146 g T) := by
  have r : rn_s n 146 (0, [some (.ref 459), some (.ref T), none, none], [], aa_H g) v h := r
  unfold fn_146
  obtain ⟨n1, ln1, r⟩ := rn_steps 4 (8, [some (.ref 459), some (.ref T), none, none], [.int 116, .ref 459], aa_H (zz_w g 459 0 0)) rfl r
  obtain ⟨_, n2, v1, h1, -, ln2, rc, r⟩ := rn_call (m2 := 147) (as := [.ref 459, .int 116]) (rest := []) rfl rfl r
  obtain ⟨rfl, rfl⟩ := dn_147 rc
  have r : rn_s _ 146 (11, [some (.ref 459), some (.ref T), none, none], [], aa_H (fn_147 (zz_w g 459 0 0) 116)) v h := r
  exact dn_146_11 hT none none rn_jn rn_jn r
-- 145: UnequalHours write
noncomputable def fn_145_27 (g : aa_G)  : Int32 × aa_G := (g 459 0, g)
theorem dn_145_27 {v : Option Value} {h : zz_H} {n : Nat} {g : aa_G}   (x0 x1 x2 : Option Value) (jx0 : rn_jk x0) (jx1 : rn_jk x1) (jx2 : rn_jk x2) (r : rn_s n 145 (27, [x0, x1, x2], [.ref 459], aa_H g) v h) : iw_s v h (fn_145_27 g) := by
  unfold fn_145_27
  obtain ⟨n13, ln13, r⟩ := rn_steps 0 (30, [x0, x1, x2], [.int (g 459 0)], aa_H g) rfl r
  exact rn_ire rfl r
noncomputable def fn_145 (g : aa_G) (a1 : Int32) : Int32 × aa_G := (match fn_31 g a1 with | none => ((-1, g)) | some W6 => (fn_145_27 (fn_146 g W6)))
theorem dn_145 {v : Option Value} {h : zz_H} {n : Nat} {g : aa_G} {a1 : Int32}  (r : rn_s n 145 (0, zz_in [.ref 1, .int a1] (zz_nl 145), [], aa_H g) v h) : iw_s v h (fn_145 g a1) := by
  have r : rn_s n 145 (0, [some (.ref 1), some (.int a1), none], [], aa_H g) v h := r
  unfold fn_145
  obtain ⟨n1, ln1, r⟩ := rn_steps 2 (5, [some (.ref 1), some (.int a1), none], [.int a1, .ref 2], aa_H g) rfl r
  obtain ⟨_, n2, v1, h1, -, ln2, rc, r⟩ := rn_call (m2 := 31) (as := [.ref 2, .int a1]) (rest := []) rfl rfl r
  obtain ⟨rfl, rfl, ho4⟩ := dn_31 rc
  have r : rn_s _ 145 (8, [some (.ref 1), some (.int a1), none], [zz_val (fn_31 g a1)], aa_H g) v h := r
  cases e5 : fn_31 g a1 with
  | none =>
    rw [e5] at r
    have r : rn_s _ 145 (8, [some (.ref 1), some (.int a1), none], [.null], aa_H g) v h := r
    dsimp only
    obtain ⟨n8, ln8, r⟩ := rn_steps 3 (14, [some (.ref 1), some (.int a1), some (.null)], [.int (-1)], aa_H g) rfl r
    exact rn_ire rfl r
  | some W6 =>
    rw [e5] at r
    have hw7 : ct_tw W6 := ho4 _ e5
    have r : rn_s _ 145 (8, [some (.ref 1), some (.int a1), none], [.ref W6], aa_H g) v h := r
    dsimp only
    obtain ⟨n9, ln9, r⟩ := rn_steps 5 (20, [some (.ref 1), some (.int a1), some (.ref W6)], [.ref W6, .ref 459], aa_H g) rfl r
    obtain ⟨_, n10, v1, h1, -, ln10, rc, r⟩ := rn_call (m2 := 146) (as := [.ref 459, .ref W6]) (rest := []) rfl rfl r
    obtain ⟨rfl, rfl⟩ := dn_146 hw7 rc
    have r : rn_s _ 145 (23, [some (.ref 1), some (.int a1), some (.ref W6)], [], aa_H (fn_146 g W6)) v h := r
    obtain ⟨n12, ln12, r⟩ := rn_steps 1 (27, [some (.ref 1), some (.int a1), some (.ref W6)], [.ref 459], aa_H (fn_146 g W6)) rfl r
    exact dn_145_27 (some (.ref 1)) (some (.int a1)) (some (.ref W6)) rn_jr rn_ji rn_jr r
-- 149: UnequalHours octet
noncomputable def fn_149 (g : aa_G) (a1 : Int32) : Int32 := if (fn_14 a1 0 ((g 459 0) - 1)) = 0 then -1 else g 460 a1.toNatClampNeg
theorem dn_149 {v : Option Value} {h : zz_H} {n : Nat} {g : aa_G} {a1 : Int32}  (r : rn_s n 149 (0, zz_in [.ref 1, .int a1] (zz_nl 149), [], aa_H g) v h) : ir_s g v h (fn_149 g a1) := by
  have r : rn_s n 149 (0, [some (.ref 1), some (.int a1)], [], aa_H g) v h := r
  unfold fn_149
  obtain ⟨n1, ln1, r⟩ := rn_steps 6 (11, [some (.ref 1), some (.int a1)], [.int ((g 459 0) - 1), .int 0, .int a1], aa_H g) rfl r
  obtain ⟨_, n2, v1, h1, -, ln2, rc, r⟩ := rn_call (m2 := 14) (as := [.int a1, .int 0, .int ((g 459 0) - 1)]) (rest := []) rfl rfl r
  obtain ⟨rfl, rfl⟩ := dn_14 rc
  have r : rn_s _ 149 (14, [some (.ref 1), some (.int a1)], [.int (fn_14 a1 0 ((g 459 0) - 1))], aa_H g) v h := r
  refine rn_if (ir_s g v h) rfl decide_eq_true_iff.symm r (fun c4 l5n l5 r => ?_) (fun c4 l5n l5 r => ?_)
  · obtain ⟨n6, ln6, r⟩ := rn_steps 0 (30, [some (.ref 1), some (.int a1)], [.int (-1)], aa_H g) rfl r
    exact rn_ire rfl r
  · obtain ⟨n7, ln7, r⟩ := rn_steps 3 (25, [some (.ref 1), some (.int a1)], [.int a1, .ref 460], aa_H g) rfl r
    obtain ⟨hb9, n8, ln8, r⟩ := rn_ial (k := 460) rfl ⟨by decide, by decide⟩ rfl r
    have r : rn_s _ 149 (26, [some (.ref 1), some (.int a1)], [.int (g 460 a1.toNatClampNeg)], aa_H g) v h := r
    obtain ⟨n10, ln10, r⟩ := rn_steps 0 (30, [some (.ref 1), some (.int a1)], [.int (g 460 a1.toNatClampNeg)], aa_H g) rfl r
    exact rn_ire rfl r
