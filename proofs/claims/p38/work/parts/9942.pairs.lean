/-! THE PAIRS OF CALLS: the states stay alike, the answers are the same -/
theorem lr_w {g : aa_G} (hi : aa_inv g) : 0 ≤ (g 540 37).toInt ∧ (g 540 37).toInt ≤ 260 := by
  have k := hi 540 37
  rw [show aa_iv (aa_gc 540) 37 = (0, 260) from by decide +kernel] at k
  exact k
theorem lq_60 {g : aa_G} {a0 a1 : Int32} (hi : aa_inv g) (hφ : aa_Phi g) (hR : lr_R g) : lq_ok true 60 254 [.int a0, .int a1] g :=
  lq_mks (y := fn_254 (fn_60 g a0 a1).2 a0 a1) hi hR (ko_fw (ko_60 hi hφ) fun _ _ _ r => dn_60 (ko_ring hi) r) (fun i1 p1 => ko_fw (ko_254 i1 p1) fun _ _ _ r => dn_254 r) (by decide +kernel) (by decide +kernel) (by decide +kernel) fun i1 p1 q => mu_offset lr_cp lr_bf i1 q a0 a1
theorem lq_61 {g : aa_G} {a0 : Int32} (hi : aa_inv g) (hφ : aa_Phi g) (hR : lr_R g) : lq_ok true 61 256 [.int a0] g :=
  lq_mks (y := fn_256 (fn_61 g a0).2 a0) hi hR (ko_fw (ko_61 hi hφ) fun _ _ _ r => dn_61 (ko_ring hi) r) (fun i1 p1 => ko_fw (ko_256 i1 p1) fun _ _ _ r => dn_256 r) (by decide +kernel) (by decide +kernel) (by decide +kernel) fun i1 p1 q => mu_parts lr_cp lr_bf i1 q a0
theorem lq_62 {g : aa_G} {a0 a1 : Int32} (hi : aa_inv g) (hφ : aa_Phi g) (hR : lr_R g) : lq_ok true 62 259 [.int a0, .int a1] g :=
  lq_mks (y := fn_259 (fn_62 g a0 a1).2 a0 a1) hi hR (ko_fw (ko_62 hi hφ) fun _ _ _ r => dn_62 (ko_ring hi) r) (fun i1 p1 => ko_fw (ko_259 i1 p1) fun _ _ _ r => dn_259 r) (by decide +kernel) (by decide +kernel) (by decide +kernel) fun i1 p1 q => mu_remove lr_cp lr_bf i1 q a0 a1
theorem lq_65 {g : aa_G} {a0 a1 a2 a3 : Int32} (hi : aa_inv g) (hφ : aa_Phi g) (hR : lr_R g) : lq_ok true 65 257 [.int a0, .int a1, .int a2, .int a3] g :=
  lq_mks (y := fn_257 (fn_65 g a0 a1 a2 a3).2 a0 a1 a2 a3) hi hR (ko_fw (ko_65 hi hφ) fun _ _ _ r => dn_65 (ko_ring hi) r) (fun i1 p1 => ko_fw (ko_257 i1 p1) fun _ _ _ r => dn_257 r) (by decide +kernel) (by decide +kernel) (by decide +kernel) fun i1 p1 q => mu_set lr_cp lr_bf i1 q a0 a1 a2 a3
theorem lq_141 {g : aa_G} (hi : aa_inv g) (hφ : aa_Phi g) (hR : lr_R g) : lq_ok true 141 151 [] g :=
  lq_mks (y := fn_151 (fn_141 g ).2 ) hi hR (ko_fw (ko_141 hi hφ) fun _ _ _ r => dn_141 (ko_ring hi) r) (fun i1 p1 => ko_fw (ko_151 i1 p1) fun _ _ _ r => dn_151 r) (by decide +kernel) (by decide +kernel) (by decide +kernel) fun i1 p1 q => mu_undo (qb_cp lr_cp) i1 q
theorem lq_143 {g : aa_G} {a0 : Int32} (hi : aa_inv g) (hφ : aa_Phi g) (hR : lr_R g) : lq_ok true 143 153 [.int a0] g :=
  lq_mks (y := fn_153 (fn_143 g a0).2 a0) hi hR (ko_fw (ko_143 hi hφ) fun _ _ _ r => dn_143 r) (fun i1 p1 => ko_fw (ko_153 i1 p1) fun _ _ _ r => dn_153 r) (by decide +kernel) (by decide +kernel) (by decide +kernel) fun i1 p1 q => mu_keep (qb_cp lr_cp) i1 q a0
theorem lq_144 {g : aa_G} {a0 : Int32} (hi : aa_inv g) (hφ : aa_Phi g) (hR : lr_R g) : lq_ok true 144 155 [.int a0] g :=
  lq_mks (y := fn_155 (fn_144 g a0).2 a0) hi hR (ko_fw (ko_144 hi hφ) fun _ _ _ r => dn_144 (ko_ring hi) r) (fun i1 p1 => ko_fw (ko_155 i1 p1) fun _ _ _ r => dn_155 r) (by decide +kernel) (by decide +kernel) (by decide +kernel) fun i1 p1 q => mu_restore lr_cp i1 q a0
theorem lq_145 {g : aa_G} {a0 : Int32} (hi : aa_inv g) (hφ : aa_Phi g) (hR : lr_R g) : lq_ok true 145 265 [.int a0] g :=
  lq_mks (y := fn_265 (fn_145 g a0).2 a0) hi hR (ko_fw (ko_145 hi hφ) fun _ _ _ r => dn_145 r) (fun i1 p1 => ko_fw (ko_265 i1 p1) fun _ _ _ r => dn_265 r) (by decide +kernel) (by decide +kernel) (by decide +kernel) fun i1 p1 q => mu_write lr_cp i1 p1 q a0
theorem lq_53 {g : aa_G} (hi : aa_inv g) (hφ : aa_Phi g) (hR : lr_R g) : lq_ok true 53 260 [] g :=
  lq_mk (y := fn_260 (fn_53 g).2) hi hR (ko_fw (ko_53 hi hφ) fun _ _ _ r => dn_53 hi hφ r) (fun i1 p1 => ko_fw (ko_260 i1 p1) fun _ _ _ r => dn_260 r) (by decide +kernel) (by decide +kernel) fun i1 p1 q q2 _ _ => ⟨⟨fun _ => (mu_acts lr_cp lr_bf hi hφ i1 p1 q q2).1.1, (mu_acts lr_cp lr_bf hi hφ i1 p1 q q2).1.2⟩, (mu_acts lr_cp lr_bf hi hφ i1 p1 q q2).2⟩
theorem lq_149 {g : aa_G} {a0 : Int32} (hi : aa_inv g) (hφ : aa_Phi g) (hR : lr_R g) : lq_ok true 149 269 [.int a0] g :=
  lq_as hi hφ hR (ko_fi (ko_149 hi hφ) fun _ _ _ r => dn_149 r) (ko_fi (ko_269 hi hφ) fun _ _ _ r => dn_269 r) (oc_all hR.1 (lr_w hi).1 a0)
theorem lq_69 {g : aa_G} (hi : aa_inv g) (hφ : aa_Phi g) (hR : lr_R g) : lq_ok true 69 161 [] g :=
  lq_as hi hφ hR (ko_fi (ko_69 hi hφ) fun _ _ _ r => dn_69 r) (ko_fi (ko_161 hi hφ) fun _ _ _ r => dn_161 r) hR.1.2.2.2.2.2.1
theorem lq_70 {g : aa_G} (hi : aa_inv g) (hφ : aa_Phi g) (hR : lr_R g) : lq_ok true 70 264 [] g :=
  lq_as hi hφ hR (ko_fi (ko_70 hi hφ) fun _ _ _ r => dn_70 r) (ko_fi (ko_264 hi hφ) fun _ _ _ r => dn_264 r) hR.2
