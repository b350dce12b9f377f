/-! ACTS: how both sides read them -/
theorem tr_w {m : Nat} {as : List Value} {g : aa_G} {φ : Option Value → zz_H → Prop} {E : Int32 × aa_G} (f : zz_fin none m (0, zz_in as (zz_nl m), [], aa_H g) φ) (d : ∀ n v h, rn_s n m (0, zz_in as (zz_nl m), [], aa_H g) v h → iw_s v h E) : φ (some (.int E.1)) (aa_H E.2) := by
  obtain ⟨n, v, h, r, p⟩ := rn_of f
  obtain ⟨rfl, rfl⟩ := d n v h r
  exact p
theorem tr_r {m : Nat} {as : List Value} {g : aa_G} {φ : Option Value → zz_H → Prop} {E : Int32} (f : zz_fin none m (0, zz_in as (zz_nl m), [], aa_H g) φ) (d : ∀ n v h, rn_s n m (0, zz_in as (zz_nl m), [], aa_H g) v h → ir_s g v h E) : φ (some (.int E)) (aa_H g) := by
  obtain ⟨n, v, h, r, p⟩ := rn_of f
  obtain ⟨rfl, rfl⟩ := d n v h r
  exact p
theorem tr_v {m : Nat} {as : List Value} {g : aa_G} {φ : Option Value → zz_H → Prop} {E : aa_G} (f : zz_fin none m (0, zz_in as (zz_nl m), [], aa_H g) φ) (d : ∀ n v h, rn_s n m (0, zz_in as (zz_nl m), [], aa_H g) v h → ig_s v h E) : φ none (aa_H E) := by
  obtain ⟨n, v, h, r, p⟩ := rn_of f
  obtain ⟨rfl, rfl⟩ := d n v h r
  exact p
theorem vi_i {a b : Int32} (h : (some (Value.int a) : Option Value) = some (.int b)) : a = b := by
  have := Option.some.inj h
  injection this
theorem pr_e {a : Int32} {g : aa_G} {E : Int32 × aa_G} (h1 : E.1 = a) (h2 : E.2 = g) : E = (a, g) := by rw [← h1, ← h2]
/-- the class's tape, the model's: numbers, signs -/
theorem ar_num {g : aa_G} {b : Nat → Int32} {n p : Nat} (h : tc_ok g b n) (hp : p ≤ n) : (∃ f g', sp_num b n true (-99999) 99999 p = .inl f ∧ fn_26 (tc_at g b n p) 1 (-99999) 99999 = (0, g') ∧ tc_bad g f g') ∨ (∃ q z, sp_num b n true (-99999) 99999 p = .inr (q, z) ∧ p < q ∧ q ≤ n ∧ fn_26 (tc_at g b n p) 1 (-99999) 99999 = (1, tc_at (zz_w g 454 3 z) b n q)) := by
  have k := tr_w (tc_num h hp true (-99999) 99999) (fun n v h r => dn_26 r)
  rcases k with ⟨f, k1, k2, g', k3, k4⟩ | ⟨q, z, k1, k2, k3⟩
  · exact .inl ⟨f, g', k1, pr_e (vi_i k2) (ep_H k3), k4⟩
  · obtain ⟨q1, q2⟩ := sp_num_n k1 hp
    exact .inr ⟨q, z, k1, q2, q1, pr_e (vi_i k2) (ep_H k3)⟩
theorem am_num {g : aa_G} {b : Nat → Int32} {n p : Nat} {x : Int32} (h : tm_ok g b n) (hp : p ≤ n) : (∃ f g', sp_num b n true (-99999) 99999 p = .inl f ∧ fn_170 (tm_at g p x) (-99999) 99999 = (0, g') ∧ tm_bad g f g') ∨ (∃ q z, sp_num b n true (-99999) 99999 p = .inr (q, z) ∧ fn_170 (tm_at g p x) (-99999) 99999 = (1, tm_at g q z)) := by
  have k := tr_w (tm_signed (lo := -99999) (hi := 99999) (z := x) h hp) (fun n v h r => dn_170 r)
  rcases k with ⟨f, k1, k2, g', k3, k4⟩ | ⟨q, z, k1, k2, k3⟩
  · exact .inl ⟨f, g', k1, pr_e (vi_i k2) (ep_H k3), k4⟩
  · exact .inr ⟨q, z, k1, pr_e (vi_i k2) (ep_H k3)⟩
theorem ar_pass {g : aa_G} {b : Nat → Int32} {n p : Nat} {c : Int32} (h : tc_ok g b n) (hc : c ≠ -1) : (sp_hb b n p = c ∧ p < n ∧ fn_33 (tc_at g b n p) c = (1, tc_at g b n (p + 1))) ∨ (sp_hb b n p ≠ c ∧ ∃ g', fn_33 (tc_at g b n p) c = (0, g') ∧ tc_bad g p g') := by
  have k := tr_w (tc_pass (p := p) h hc) (fun n v h r => dn_33 r)
  rcases k with ⟨k1, k2, k3, k4⟩ | ⟨k1, k2, g', k3, k4⟩
  · exact .inl ⟨k2, k3, pr_e (vi_i k1) (ep_H k4)⟩
  · exact .inr ⟨k2, g', pr_e (vi_i k1) (ep_H k3), k4⟩
theorem am_pass {g : aa_G} {b : Nat → Int32} {n p : Nat} {z c : Int32} (h : tm_ok g b n) (hp : p ≤ n) (hc : c ≠ -1) : (sp_hb b n p = c ∧ p < n ∧ fn_173 (tm_at g p z) c = (1, tm_at g (p + 1) z)) ∨ (sp_hb b n p ≠ c ∧ ∃ g', fn_173 (tm_at g p z) c = (0, g') ∧ tm_bad g p g') := by
  have k := tr_w (tm_takes (z := z) h hp hc) (fun n v h r => dn_173 r)
  rcases k with ⟨k1, k2, k3, k4⟩ | ⟨k1, k2, g', k3, k4⟩
  · exact .inl ⟨k2, k3, pr_e (vi_i k1) (ep_H k4)⟩
  · exact .inr ⟨k2, g', pr_e (vi_i k1) (ep_H k3), k4⟩
theorem ar_step {g : aa_G} {b : Nat → Int32} {n p : Nat} (h : tc_ok g b n) (hp : p < n) : fn_21 (tc_at g b n p) = tc_at g b n (p + 1) := by
  have k := tr_v (tc_step h hp) (fun n v h r => dn_21 r)
  exact ep_H k.2
theorem ar_fail {g : aa_G} {b : Nat → Int32} {n p : Nat} : ∃ g', fn_25 (tc_at g b n p) = (0, g') ∧ tc_bad g p g' := by
  have k := tr_w (tc_fail (g := g) (b := b) (n := n) (p := p)) (fun n v h r => dn_25 r)
  obtain ⟨k1, g', k2, k3⟩ := k
  exact ⟨g', pr_e (vi_i k1) (ep_H k2), k3⟩
theorem ar_more {g : aa_G} {b : Nat → Int32} {n p : Nat} (h : tc_ok g b n) (hp : p ≤ 500) : fn_22 (tc_at g b n p) = if p < n then 1 else 0 := by
  have k := (tr_r (tc_more h hp) (fun n v h r => dn_22 r)).1
  rcases k with ⟨k1, k2⟩ | ⟨k1, k2⟩
  · rw [if_pos k2]; exact vi_i k1
  · rw [if_neg k2]; exact vi_i k1
theorem ar_rew {g : aa_G} {b : Nat → Int32} {n : Nat} (h : tc_ok g b n) : fn_20 g = tc_at (zz_w g 454 4 (-1)) b n 0 := by
  have k := tr_v (tc_rew h) (fun n v h r => dn_20 r)
  exact ep_H k.2
theorem am_here {g : aa_G} {b : Nat → Int32} {n p : Nat} {z : Int32} (h : tm_ok g b n) (hp : p ≤ 500) : fn_167 (tm_at g p z) = sp_hb b n p := vi_i (tr_r (tm_here (z := z) h hp) (fun n v h r => dn_167 r)).1
theorem am_fails {g : aa_G} (c : Int32) : fn_169 g c = (0, zz_w g 540 6 c) := by
  have k := tr_w (tm_fails (g := g) c) (fun n v h r => dn_169 r)
  exact pr_e (vi_i k.1) (ep_H k.2)
/-- how many numbers an ACT has -/
def ac_n (c : Int32) : Nat := if c.toInt = 111 then 2 else if c.toInt = 113 then 1 else if c.toInt = 114 then 2 else if c.toInt = 115 then 4 else 0
theorem ac_56 (c : Int32) : fn_56 c = Int32.ofNat (ac_n c) := by
  unfold fn_56 ac_n
  by_cases h1 : c.toInt = 111
  · rw [if_pos h1, if_pos h1]; rfl
  · rw [if_neg h1, if_neg h1]
    by_cases h2 : c.toInt = 112
    · rw [if_pos h2, if_neg (by omega), if_neg (by omega), if_neg (by omega)]; rfl
    · rw [if_neg h2]
      by_cases h3 : c.toInt = 113
      · rw [if_pos h3, if_pos h3]; rfl
      · rw [if_neg h3, if_neg h3]
        by_cases h4 : c.toInt = 114
        · rw [if_pos h4, if_pos h4]; rfl
        · rw [if_neg h4, if_neg h4]
          by_cases h5 : c.toInt = 115
          · rw [if_pos h5, if_pos h5]; rfl
          · rw [if_neg h5, if_neg h5]; rfl
theorem ac_le (c : Int32) : ac_n c ≤ 4 := by
  unfold ac_n
  split
  · omega
  · split
    · omega
    · split
      · omega
      · split <;> omega
theorem ac_262 (c : Int32) : fn_262 c = Int32.ofNat (ac_n c) := by
  have e : ∀ k : Int32, c = k ↔ c.toInt = k.toInt := fun k => ti_eq
  unfold fn_262 ac_n
  have e1 := e 111
  have e2 := e 114
  have e3 := e 113
  have e4 := e 115
  rw [show (111 : Int32).toInt = 111 from rfl] at e1
  rw [show (114 : Int32).toInt = 114 from rfl] at e2
  rw [show (113 : Int32).toInt = 113 from rfl] at e3
  rw [show (115 : Int32).toInt = 115 from rfl] at e4
  by_cases h1 : c.toInt = 111
  · simp only [if_pos h1, e1.mpr h1]; rfl
  · by_cases h3 : c.toInt = 113
    · simp only [if_neg h1, if_pos h3, e3.mpr h3]; rfl
    · by_cases h4 : c.toInt = 114
      · simp only [if_neg h1, if_neg h3, if_pos h4, e2.mpr h4]; rfl
      · by_cases h5 : c.toInt = 115
        · simp only [if_neg h1, if_neg h3, if_neg h4, if_pos h5, e4.mpr h5]; rfl
        · have n1 := mt e1.mp h1
          have n2 := mt e2.mp h4
          have n3 := mt e3.mp h3
          have n4 := mt e4.mp h5
          simp only [if_neg h1, if_neg h3, if_neg h4, if_neg h5, ne_eq, n1, n2, n3, n4, not_false_eq_true, if_true, if_false]
          rfl
/-- what reading ACTS leaves alone -/
def af_c (g g' : aa_G) : Prop := ∀ k j, ¬ (k = 454 ∧ 1 ≤ j ∧ j ≤ 4) → ¬ (k = 456 ∧ j = 0) → k ≠ 457 → k ≠ 458 → g' k j = g k j
def af_m (g g' : aa_G) : Prop := ∀ k j, ¬ (k = 540 ∧ ((5 ≤ j ∧ j ≤ 7) ∨ j = 34)) → k ≠ 552 → g' k j = g k j
/-- so many ACTS lie on both sides -/
def al_s (gc gm : aa_G) (N : Nat) : Prop := ∀ j, j < N → gc 457 j = gm 552 (5 * j) ∧ ac_n (gc 457 j) ≠ 0 ∧ ∀ k, k < ac_n (gc 457 j) → gc 458 (4 * j + k) = gm 552 (5 * j + 1 + k)
/-- both fail at one place -/
def ab_s (g0 m0 : aa_G) (rc rm : Int32 × aa_G) : Prop := ∃ f gc' gm', rc = (0, gc') ∧ rm = (0, gm') ∧ af_c g0 gc' ∧ af_m m0 gm' ∧ gc' 454 4 = Int32.ofNat f ∧ gm' 540 6 = Int32.ofNat f
theorem sp_num_z {b : Nat → Int32} {n p q : Nat} {neg : Bool} {lo hi z : Int32} (h : sp_num b n neg lo hi p = .inr (q, z)) : lo.toInt ≤ z.toInt ∧ z.toInt ≤ hi.toInt := by
  unfold sp_num at h
  dsimp only at h
  generalize (if sp_neg b n p neg = true then p + 1 else p) = a at h
  generalize (if sp_neg b n p neg = true then -(sp_run b n 5 a 0).2 else (sp_run b n 5 a 0).2) = v at h
  split at h
  · cases h
  · split at h
    · cases h
    · rename_i k
      have h := Sum.inr.inj h
      have h2 := congrArg Prod.snd h
      dsimp only at h2
      rw [h2] at k
      exact ⟨Int.not_lt.mp fun z => k (.inl (aa_lt32.mpr z)), Int.not_lt.mp fun z => k (.inr (aa_lt32.mpr z))⟩
theorem am_34 {N : Nat} (h : N < 30) : (aa_iv (aa_gc 540) 34).1 ≤ (Int32.ofNat (N + 1)).toInt ∧ (Int32.ofNat (N + 1)).toInt ≤ (aa_iv (aa_gc 540) 34).2 := by
  rw [show aa_iv (aa_gc 540) 34 = (0, 30) from by decide +kernel, zz_ofN (by omega)]
  exact ⟨by show (0 : Int) ≤ _; omega, by show _ ≤ (30 : Int); omega⟩
theorem am_552 {z : Int32} {j : Nat} (h : (-99999 : Int32).toInt ≤ z.toInt ∧ z.toInt ≤ (99999 : Int32).toInt) : (aa_iv (aa_gc 552) j).1 ≤ z.toInt ∧ z.toInt ≤ (aa_iv (aa_gc 552) j).2 := by
  rw [show aa_iv (aa_gc 552) j = (-99999, 99999) from (aa_flat_ok (by decide +kernel) j 0).trans (by decide +kernel)]
  exact h
theorem am_tm {g : aa_G} {p : Nat} {z : Int32} (h : aa_inv g) (hp : p ≤ 500) : aa_inv (tm_at g p z) := by
  have r := z.le_toInt
  have r2 := z.toInt_lt
  refine aa_inv_w (aa_inv_w h ?_ ?_) ?_ ?_
  · rw [show aa_iv (aa_gc 540) 5 = (0, 500) from by decide +kernel, zz_ofN (by omega)]; show (0 : Int) ≤ _; omega
  · rw [show aa_iv (aa_gc 540) 5 = (0, 500) from by decide +kernel, zz_ofN (by omega)]; show _ ≤ (500 : Int); omega
  · rw [show aa_iv (aa_gc 540) 7 = (-2147483648, 2147483647) from by decide +kernel]; show (-2147483648 : Int) ≤ _; omega
  · rw [show aa_iv (aa_gc 540) 7 = (-2147483648, 2147483647) from by decide +kernel]; show _ ≤ (2147483647 : Int); omega
section AR
variable {b : Nat → Int32} {n : Nat} {g0 m0 : aa_G}
theorem af_ok {g : aa_G} (h : tc_ok g0 b n) (f : af_c g0 g) : tc_ok g b n := ⟨(f 454 0 (by omega) (by omega) (by omega) (by omega)).trans h.1, h.2.1, fun j hj => (f 455 j (by omega) (by omega) (by omega) (by omega)).trans (h.2.2 j hj)⟩
theorem am_ok {g : aa_G} (h : tm_ok m0 b n) (f : af_m m0 g) : tm_ok g b n := ⟨(f 540 4 (by omega) (by omega)).trans h.1, h.2.1, fun j hj => by rw [f 543 j (by omega) (by omega)]; exact h.2.2 j hj⟩
theorem af_bad {g g' : aa_G} {f : Nat} (h : af_c g0 g) (k : tc_bad g f g') : af_c g0 g' := fun a j z1 z2 z3 z4 => (k.1 a j (by omega)).trans (h a j z1 z2 z3 z4)
theorem am_bad {g g' : aa_G} {f : Nat} (h : af_m m0 g) (k : tm_bad g f g') : af_m m0 g' := fun a j z1 z2 => (k.1 a j (by omega)).trans (h a j z1 z2)
theorem af_w {g : aa_G} {k j : Nat} {v : Int32} (h : af_c g0 g) (hk : (k = 454 ∧ 1 ≤ j ∧ j ≤ 4) ∨ (k = 456 ∧ j = 0) ∨ k = 457 ∨ k = 458) : af_c g0 (zz_w g k j v) := fun a i z1 z2 z3 z4 => (aa_w_ne _ _ (by omega)).trans (h a i z1 z2 z3 z4)
theorem am_w {g : aa_G} {k j : Nat} {v : Int32} (h : af_m m0 g) (hk : (k = 540 ∧ ((5 ≤ j ∧ j ≤ 7) ∨ j = 34)) ∨ k = 552) : af_m m0 (zz_w g k j v) := fun a i z1 z2 => (aa_w_ne _ _ (by omega)).trans (h a i z1 z2)
theorem tz_c (g : aa_G) (p : Nat) {k j : Nat} (h : ¬ (k = 454 ∧ (j = 1 ∨ j = 2))) : tc_at g b n p k j = g k j := by
  unfold tc_at
  rw [aa_w_ne _ _ (by omega), aa_w_ne _ _ (by omega)]
theorem tz_m (g : aa_G) (p : Nat) (z : Int32) {k j : Nat} (h : ¬ (k = 540 ∧ (j = 5 ∨ j = 7))) : tm_at g p z k j = g k j := by
  unfold tm_at
  rw [aa_w_ne _ _ (by omega), aa_w_ne _ _ (by omega)]
theorem tz_w (g : aa_G) (p : Nat) (z : Int32) {k j : Nat} {v : Int32} (h : ¬ (k = 540 ∧ (j = 5 ∨ j = 7))) : zz_w (tm_at g p z) k j v = tm_at (zz_w g k j v) p z := by
  unfold tm_at
  rw [zz_w_comm _ _ _ (by omega), zz_w_comm (k := 540) (j := 5) _ _ _ (by omega)]
theorem tz_wc (g : aa_G) (p : Nat) {k j : Nat} {v : Int32} (h : ¬ (k = 454 ∧ (j = 1 ∨ j = 2))) : zz_w (tc_at g b n p) k j v = tc_at (zz_w g k j v) b n p := by
  unfold tc_at
  rw [zz_w_comm _ _ _ (by omega), zz_w_comm (k := 454) (j := 1) _ _ _ (by omega)]
theorem tz_7 (g : aa_G) (p : Nat) (z : Int32) : tm_at g p z 540 7 = z := aa_w_at _ _ _ _
/-- how an ACT's numbers end -/
def an_res (b : Nat → Int32) (n : Nat) (g0 m0 : aa_G) (N w p : Nat) (gc gm : aa_G) (rc rm : Int32 × aa_G) : Prop := ab_s g0 m0 rc rm ∨
    ∃ q gc' gm' x', p ≤ q ∧ q ≤ n ∧ rc = (1, tc_at gc' b n q) ∧ rm = fn_173 (tm_at gm' q x') 59 ∧ af_c g0 gc' ∧ af_m m0 gm' ∧ gc' 456 0 = Int32.ofNat (N + 1) ∧ gm' 540 34 = Int32.ofNat (N + 1) ∧ (∀ k, k < w → gc' 458 (4 * N + k) = gm' 552 (5 * N + 1 + k)) ∧ (∀ j, gc' 457 j = gc 457 j) ∧ (∀ j, j < 4 * N → gc' 458 j = gc 458 j) ∧ (∀ j, j ≤ 5 * N → gm' 552 j = gm 552 j) ∧ gc' 454 4 = gc 454 4 ∧ gm' 540 6 = gm 540 6 ∧ (aa_inv gm → aa_inv gm')
/-- an ACT's numbers, from the i-th on -/
theorem an_loop (hc : tc_ok g0 b n) (hm : tm_ok m0 b n) {N w : Nat} (hN : N < 30) (hw : w ≤ 4) : ∀ (m i p : Nat) (gc gm : aa_G) (x : Int32), i + m = w → p ≤ n → af_c g0 gc → af_m m0 gm → gc 456 0 = Int32.ofNat N → gm 540 34 = Int32.ofNat N → (∀ k, k < i → gc 458 (4 * N + k) = gm 552 (5 * N + 1 + k)) →
    an_res b n g0 m0 N w p gc gm (fn_55_45 (tc_at gc b n p) (Int32.ofNat w) (Int32.ofNat i)) (fn_261_59 (tm_at gm p x) (Int32.ofNat w) (Int32.ofNat (5 * N)) (Int32.ofNat (i + 1)))
  | 0, i, p, gc, gm, x, hi, hp, fc, fm, c0, m1, hk => by
    have hiw : i = w := by omega
    subst hiw
    right
    refine ⟨p, zz_w gc 456 0 (Int32.ofNat (N + 1)), zz_w gm 540 34 (Int32.ofNat (N + 1)), x, Nat.le_refl p, hp, ?_, ?_, af_w fc (by omega), am_w fm (by omega), aa_w_at _ _ _ _, aa_w_at _ _ _ _, fun k hk' => ?_, fun j => aa_w_ne _ _ (by omega), fun j _ => aa_w_ne _ _ (by omega), fun j _ => aa_w_ne _ _ (by omega), aa_w_ne _ _ (by omega), aa_w_ne _ _ (by omega), fun z => aa_inv_w z (am_34 hN).1 (am_34 hN).2⟩
    · unfold fn_55_45
      refine lp_r ?_
      show fn_55_45b (tc_at gc b n p) (Int32.ofNat i) (Int32.ofNat i) = _
      unfold fn_55_45b
      rw [if_pos (aa_le32.mpr (Int.le_refl _)), tz_c _ _ (by omega), c0, aa_succ, tz_wc _ _ (by omega)]
    · unfold fn_261_59
      refine lp_r ?_
      show fn_261_59b (tm_at gm p x) (Int32.ofNat i) (Int32.ofNat (5 * N)) (Int32.ofNat (i + 1)) = _
      unfold fn_261_59b
      rw [if_pos (aa_lt32.mpr (by rw [zz_ofN (by omega), zz_ofN (by omega)]; omega)), tz_m _ _ _ (by omega), m1, aa_succ, tz_w _ _ _ (by omega)]
    · rw [aa_w_ne _ _ (by omega), aa_w_ne _ _ (by omega)]
      exact hk k hk'
  | m + 1, i, p, gc, gm, x, hi, hp, fc, fm, c0, m1, hk => by
    have hcc := af_ok hc fc
    have hmm := am_ok hm fm
    have hn5 := hc.2.1
    -- the number at q
    have num : ∀ q y, p ≤ q → q ≤ n → (fn_55_45b (tc_at gc b n p) (Int32.ofNat w) (Int32.ofNat i) = fn_55_68 (tc_at gc b n q) (Int32.ofNat w) (Int32.ofNat i)) → (fn_261_59b (tm_at gm p x) (Int32.ofNat w) (Int32.ofNat (5 * N)) (Int32.ofNat (i + 1)) = fn_261_78 (tm_at gm q y) (Int32.ofNat w) (Int32.ofNat (5 * N)) (Int32.ofNat (i + 1))) → an_res b n g0 m0 N w p gc gm (fn_55_45 (tc_at gc b n p) (Int32.ofNat w) (Int32.ofNat i)) (fn_261_59 (tm_at gm p x) (Int32.ofNat w) (Int32.ofNat (5 * N)) (Int32.ofNat (i + 1))) := by
      intro q y hpq hq e1 e2
      rcases ar_num hcc hq with ⟨f, gx, n1, n2, n3⟩ | ⟨q2, z, n1, n2, n3, n4⟩
      · left
        rcases am_num (x := y) hmm hq with ⟨f', gy, k1, k2, k3⟩ | ⟨_, _, k1, _⟩
        · rw [n1] at k1
          cases k1
          refine ⟨f, gx, gy, ?_, ?_, af_bad fc n3, am_bad fm k3, n3.2, k3.2⟩
          · unfold fn_55_45
            refine lp_r ?_
            show fn_55_45b (tc_at gc b n p) (Int32.ofNat w) (Int32.ofNat i) = _
            rw [e1]
            unfold fn_55_68 fn_55_77
            rw [n2, if_neg (fun z => z rfl)]
          · unfold fn_261_59
            refine lp_r ?_
            show fn_261_59b (tm_at gm p x) (Int32.ofNat w) (Int32.ofNat (5 * N)) (Int32.ofNat (i + 1)) = _
            rw [e2]
            unfold fn_261_78 fn_261_88
            rw [k2, if_neg (fun z => z rfl)]
        · rw [n1] at k1
          cases k1
      · rcases am_num (x := y) hmm hq with ⟨f', gy, k1, k2, k3⟩ | ⟨q3, z', k1, k2⟩
        · rw [n1] at k1
          cases k1
        · rw [n1] at k1
          cases k1
          have s1 : fn_55_45 (tc_at gc b n p) (Int32.ofNat w) (Int32.ofNat i) = fn_55_45 (tc_at (zz_w (zz_w gc 454 3 z) 458 (4 * N + i) z) b n q2) (Int32.ofNat w) (Int32.ofNat (i + 1)) := by
            unfold fn_55_45
            refine lp_l ?_
            show fn_55_45b (tc_at gc b n p) (Int32.ofNat w) (Int32.ofNat i) = _
            rw [e1]
            unfold fn_55_68 fn_55_77
            rw [n4, if_pos (fun z => absurd (show (1 : Int32) = 0 from z) (by decide))]
            dsimp only
            rw [tz_c _ _ (by omega), tz_c _ _ (by omega), aa_w_ne _ _ (by omega), c0, aa_w_at, show Int32.ofNat N * 4 = Int32.ofNat (N * 4) from (Int32.ofNat_mul N 4).symm, i_add, zz_toN (by omega), aa_succ, tz_wc _ _ (by omega), show N * 4 + i = 4 * N + i by omega]
          have s2 : fn_261_59 (tm_at gm p x) (Int32.ofNat w) (Int32.ofNat (5 * N)) (Int32.ofNat (i + 1)) = fn_261_59 (tm_at (zz_w gm 552 (5 * N + 1 + i) z) q2 z) (Int32.ofNat w) (Int32.ofNat (5 * N)) (Int32.ofNat (i + 1 + 1)) := by
            unfold fn_261_59
            refine lp_l ?_
            show fn_261_59b (tm_at gm p x) (Int32.ofNat w) (Int32.ofNat (5 * N)) (Int32.ofNat (i + 1)) = _
            rw [e2]
            unfold fn_261_78 fn_261_88
            rw [k2, if_pos (fun z => absurd (show (1 : Int32) = 0 from z) (by decide))]
            dsimp only
            rw [tz_7, i_add, zz_toN (by omega), aa_succ, tz_w _ _ _ (by omega), show 5 * N + (i + 1) = 5 * N + 1 + i by omega]
          rw [s1, s2]
          rcases an_loop hc hm hN hw m (i + 1) q2 (zz_w (zz_w gc 454 3 z) 458 (4 * N + i) z) (zz_w gm 552 (5 * N + 1 + i) z) z (by omega) n3 (af_w (af_w fc (by omega)) (by omega)) (am_w fm (by omega)) (by rw [aa_w_ne _ _ (by omega), aa_w_ne _ _ (by omega)]; exact c0) (by rw [aa_w_ne _ _ (by omega)]; exact m1) (fun k hk' => by
            by_cases hki : k = i
            · rw [hki, aa_w_at, aa_w_at]
            · rw [aa_w_ne _ _ (by omega), aa_w_ne _ _ (by omega), aa_w_ne _ _ (by omega)]
              exact hk k (by omega)) with r | ⟨q4, gc', gm', x', r1, r2, r3, r4, r5, r6, r7, r8, r9, r10, r11, r12, r13, r14, r15⟩
          · exact .inl r
          · refine .inr ⟨q4, gc', gm', x', by omega, r2, r3, r4, r5, r6, r7, r8, r9, fun j => ?_, fun j hj => ?_, fun j hj => ?_, ?_, ?_, fun z => r15 (aa_inv_w z (am_552 (sp_num_z n1)).1 (am_552 (sp_num_z n1)).2)⟩
            · rw [r10, aa_w_ne _ _ (by omega), aa_w_ne _ _ (by omega)]
            · rw [r11 j hj, aa_w_ne _ _ (by omega), aa_w_ne _ _ (by omega)]
            · rw [r12 j hj, aa_w_ne _ _ (by omega)]
            · rw [r13, aa_w_ne _ _ (by omega), aa_w_ne _ _ (by omega)]
            · rw [r14, aa_w_ne _ _ (by omega)]
    have b1 : ¬ (Int32.ofNat w ≤ Int32.ofNat i) := fun z => by
      have := (i_le (by omega) (by omega)).mp z
      omega
    have b2 : ¬ ((4 : Int32) ≤ Int32.ofNat i) := fun z => by
      have := aa_le32.mp z
      rw [zz_ofN (by omega), show (4 : Int32).toInt = 4 from rfl] at this
      omega
    have b3 : ¬ (Int32.ofNat w < Int32.ofNat (i + 1)) := fun z => by
      have := aa_lt32.mp z
      rw [zz_ofN (by omega), zz_ofN (by omega)] at this
      omega
    by_cases hi0 : i = 0
    · refine num p x (Nat.le_refl p) hp ?_ ?_
      · unfold fn_55_45b
        rw [if_neg b1, if_neg b2, if_pos (by rw [hi0]; decide)]
      · unfold fn_261_59b
        rw [if_neg b3, if_pos (by rw [hi0]; decide)]
    · have b4 : ¬ (Int32.ofNat i ≤ 0) := fun z => by
        have := aa_le32.mp z
        rw [zz_ofN (by omega), show (0 : Int32).toInt = 0 from rfl] at this
        omega
      have b5 : ¬ (Int32.ofNat (i + 1) ≤ 1) := fun z => by
        have := aa_le32.mp z
        rw [zz_ofN (by omega), show (1 : Int32).toInt = 1 from rfl] at this
        omega
      rcases ar_pass (p := p) (c := 44) hcc (by decide) with ⟨p1, p2, p3⟩ | ⟨p1, gx, p2, p3⟩
      · rcases am_pass (z := x) (c := 44) hmm hp (by decide) with ⟨k1, k2, k3⟩ | ⟨k1, -⟩
        · refine num (p + 1) x (by omega) p2 ?_ ?_
          · unfold fn_55_45b
            rw [if_neg b1, if_neg b2, if_neg b4, p3]
            unfold fn_55_65
            rw [if_neg (fun z => absurd (show (1 : Int32) = 0 from z) (by decide))]
          · unfold fn_261_59b
            rw [if_neg b3, if_neg b5, k3]
            unfold fn_261_75
            rw [if_neg (fun z => absurd (show (1 : Int32) = 0 from z) (by decide))]
        · exact absurd p1 k1
      · rcases am_pass (z := x) (c := 44) hmm hp (by decide) with ⟨k1, -⟩ | ⟨k1, gy, k2, k3⟩
        · exact absurd k1 p1
        · left
          refine ⟨p, gx, gy, ?_, ?_, af_bad fc p3, am_bad fm k3, p3.2, k3.2⟩
          · unfold fn_55_45
            refine lp_r ?_
            show fn_55_45b (tc_at gc b n p) (Int32.ofNat w) (Int32.ofNat i) = _
            unfold fn_55_45b
            rw [if_neg b1, if_neg b2, if_neg b4, p2]
            unfold fn_55_65
            rw [if_pos rfl]
          · unfold fn_261_59
            refine lp_r ?_
            show fn_261_59b (tm_at gm p x) (Int32.ofNat w) (Int32.ofNat (5 * N)) (Int32.ofNat (i + 1)) = _
            unfold fn_261_59b
            rw [if_neg b3, if_neg b5, k2]
            unfold fn_261_75
            rw [if_pos rfl]
end AR
