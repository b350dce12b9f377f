/-! A TEXT: the class's side, walked -/
theorem tc_comm (g : aa_G) (b : Nat → Int32) (n p : Nat) {k j : Nat} {v : Int32} (h : k ≠ 454) : zz_w (tc_at g b n p) k j v = tc_at (zz_w g k j v) b n p := by
  unfold tc_at
  rw [zz_w_comm _ (k := 454) (j := 2) (a := k) (b := j) _ _ (fun e => h e.1), zz_w_comm g (k := 454) (j := 1) (a := k) (b := j) _ _ (fun e => h e.1)]
theorem cvs_town {g : aa_G} {A : sp_A} {z : Int32} (h : cvs g 34 A) (h4 : A.1.1 < 4) : cvs (zz_w (zz_w (zz_w g (5 * A.1.1 + 46) 0 z) (5 * A.1.1 + 46) 1 0) 34 0 (Int32.ofNat (A.1.1 + 1))) 34 (sp_town A z) := by
  obtain ⟨h1, h2, h3⟩ := h
  refine ⟨aa_w_at _ _ _ _, (show A.1.1 + 1 ≤ 4 by omega), fun t ht => ?_⟩
  have ht : t < A.1.1 + 1 := ht
  by_cases e : t = A.1.1
  · subst e
    refine ⟨?_, ?_, ?_, fun i hi => ?_⟩
    · rw [aa_w_ne _ _ (by omega), aa_w_ne _ _ (by omega), aa_w_at]
      exact (if_pos rfl).symm
    · rw [aa_w_ne _ _ (by omega), aa_w_at]
      show (0 : Int32) = Int32.ofNat (if A.1.1 = A.1.1 then 0 else A.2.1 A.1.1)
      rw [if_pos rfl]
      rfl
    · show (if A.1.1 = A.1.1 then 0 else A.2.1 A.1.1) ≤ 12
      rw [if_pos rfl]
      omega
    · have hi : i < (if A.1.1 = A.1.1 then 0 else A.2.1 A.1.1) := hi
      rw [if_pos rfl] at hi
      exact absurd hi (Nat.not_lt_zero i)
  · obtain ⟨k1, k2, k3, k4⟩ := h3 t (by omega)
    refine ⟨?_, ?_, ?_, fun i hi => ?_⟩
    · rw [aa_w_ne _ _ (by omega), aa_w_ne _ _ (by omega), aa_w_ne _ _ (by omega)]
      exact k1.trans (if_neg e).symm
    · rw [aa_w_ne _ _ (by omega), aa_w_ne _ _ (by omega), aa_w_ne _ _ (by omega)]
      show _ = Int32.ofNat (if t = A.1.1 then 0 else A.2.1 t)
      rw [if_neg e]
      exact k2
    · show (if t = A.1.1 then 0 else A.2.1 t) ≤ 12
      rw [if_neg e]
      exact k3
    · have hi : i < (if t = A.1.1 then 0 else A.2.1 t) := hi
      rw [if_neg e] at hi
      obtain ⟨m1, m2, m3, m4⟩ := k4 i hi
      refine ⟨?_, ?_, ?_, ?_⟩
      · rw [aa_w_ne _ _ (by omega), aa_w_ne _ _ (by omega), aa_w_ne _ _ (by omega)]; exact m1
      · rw [aa_w_ne _ _ (by omega), aa_w_ne _ _ (by omega), aa_w_ne _ _ (by omega)]; exact m2
      · rw [aa_w_ne _ _ (by omega), aa_w_ne _ _ (by omega), aa_w_ne _ _ (by omega)]; exact m3
      · rw [aa_w_ne _ _ (by omega), aa_w_ne _ _ (by omega), aa_w_ne _ _ (by omega)]; exact m4
/-- a point is laid behind a town's others -/
def ct_pt (g : aa_G) (t i : Nat) (y d k p : Int32) : aa_G := zz_w (zz_w (zz_w (zz_w (zz_w g (5 * t + 47) i y) (5 * t + 48) i d) (5 * t + 49) i k) (5 * t + 50) i p) (5 * t + 46) 1 (Int32.ofNat (i + 1))
theorem ct_pt_ne {g : aa_G} {t i : Nat} {y d k p : Int32} {a b : Nat} (h : ¬ ((5 * t + 47 ≤ a ∧ a ≤ 5 * t + 50 ∧ b = i) ∨ (a = 5 * t + 46 ∧ b = 1))) : ct_pt g t i y d k p a b = g a b := by
  unfold ct_pt
  rw [aa_w_ne _ _ (by omega), aa_w_ne _ _ (by omega), aa_w_ne _ _ (by omega), aa_w_ne _ _ (by omega), aa_w_ne _ _ (by omega)]
theorem ct_pt_at {g : aa_G} {t i : Nat} {y d k p : Int32} : ct_pt g t i y d k p (5 * t + 47) i = y ∧ ct_pt g t i y d k p (5 * t + 48) i = d ∧ ct_pt g t i y d k p (5 * t + 49) i = k ∧ ct_pt g t i y d k p (5 * t + 50) i = p ∧ ct_pt g t i y d k p (5 * t + 46) 1 = Int32.ofNat (i + 1) := by
  unfold ct_pt
  refine ⟨?_, ?_, ?_, ?_, ?_⟩
  · rw [aa_w_ne _ _ (by omega), aa_w_ne _ _ (by omega), aa_w_ne _ _ (by omega), aa_w_ne _ _ (by omega), aa_w_at]
  · rw [aa_w_ne _ _ (by omega), aa_w_ne _ _ (by omega), aa_w_ne _ _ (by omega), aa_w_at]
  · rw [aa_w_ne _ _ (by omega), aa_w_ne _ _ (by omega), aa_w_at]
  · rw [aa_w_ne _ _ (by omega), aa_w_at]
  · rw [aa_w_at]
theorem cvs_point {g : aa_G} {A : sp_A} {y d k p : Int32} (h : cvs g 34 A) (h0 : A.1.1 ≠ 0) (hc : A.2.1 (A.1.1 - 1) < 12) : cvs (ct_pt g (A.1.1 - 1) (A.2.1 (A.1.1 - 1)) y d k p) 34 (sp_point A y d k p) := by
  obtain ⟨h1, h2, h3⟩ := h
  refine ⟨(ct_pt_ne (by omega)).trans h1, h2, fun t ht => ?_⟩
  have ht : t < A.1.1 := ht
  obtain ⟨k1, k2, k3, k4⟩ := h3 t ht
  refine ⟨(ct_pt_ne (by omega)).trans k1, ?_, ?_, fun i hi => ?_⟩
  · show _ = Int32.ofNat (if t = A.1.1 - 1 then A.2.1 t + 1 else A.2.1 t)
    by_cases e : t = A.1.1 - 1
    · rw [if_pos e, e]
      exact ct_pt_at.2.2.2.2
    · rw [if_neg e]
      exact (ct_pt_ne (by omega)).trans k2
  · show (if t = A.1.1 - 1 then A.2.1 t + 1 else A.2.1 t) ≤ 12
    split
    · rename_i e
      rw [e]
      omega
    · exact k3
  · have hi : i < (if t = A.1.1 - 1 then A.2.1 t + 1 else A.2.1 t) := hi
    by_cases e : t = A.1.1 - 1 ∧ i = A.2.1 (A.1.1 - 1)
    · obtain ⟨rfl, rfl⟩ := e
      obtain ⟨q1, q2, q3, q4, -⟩ := ct_pt_at (g := g) (t := A.1.1 - 1) (i := A.2.1 (A.1.1 - 1)) (y := y) (d := d) (k := k) (p := p)
      have f : ∀ f, (sp_point A y d k p).2.2 (A.1.1 - 1) (A.2.1 (A.1.1 - 1)) f = sp_fld y d k p f := fun f => if_pos ⟨rfl, rfl⟩
      rw [f, f, f, f]
      exact ⟨q1, q2, q3, q4⟩
    · have hi2 : i < A.2.1 t := by
        split at hi
        · rename_i e2
          have : i ≠ A.2.1 (A.1.1 - 1) := fun z => e ⟨e2, z⟩
          rw [e2] at hi ⊢
          omega
        · exact hi
      obtain ⟨m1, m2, m3, m4⟩ := k4 i hi2
      have f : ∀ f, (sp_point A y d k p).2.2 t i f = A.2.2 t i f := fun f => if_neg e
      have ne : ∀ a b, (5 * t + 47 ≤ a ∧ a ≤ 5 * t + 50 ∧ b = i) → ct_pt g (A.1.1 - 1) (A.2.1 (A.1.1 - 1)) y d k p a b = g a b := fun a b hab => ct_pt_ne fun z => by
        rcases z with z | z
        · by_cases e2 : t = A.1.1 - 1
          · exact e ⟨e2, by omega⟩
          · omega
        · omega
      rw [f, f, f, f]
      exact ⟨(ne _ _ (by omega)).trans m1, (ne _ _ (by omega)).trans m2, (ne _ _ (by omega)).trans m3, (ne _ _ (by omega)).trans m4⟩
theorem ct_pt_fr {g : aa_G} {t i : Nat} {y d k p : Int32} (ht : t < 4) : ct_fr g (ct_pt g t i y d k p) := fun a b h _ => ct_pt_ne (by omega)
theorem ct_pt_tc (g : aa_G) (b : Nat → Int32) (n q : Nat) {t i : Nat} {y d k p : Int32} (ht : t < 4) : ct_pt (tc_at g b n q) t i y d k p = tc_at (ct_pt g t i y d k p) b n q := by
  unfold ct_pt
  rw [tc_comm _ _ _ _ (by omega), tc_comm _ _ _ _ (by omega), tc_comm _ _ _ _ (by omega), tc_comm _ _ _ _ (by omega), tc_comm _ _ _ _ (by omega)]
theorem ct_add_0 {g : aa_G} {z : Int32} (h0 : g 34 0 = Int32.ofNat 0) : zz_fin none 28 (0, zz_in [.ref 34, .int z] (zz_nl 28), [], aa_H g) (fun v h => v = none ∧ h = aa_H (zz_w (zz_w (zz_w g (5 * 0 + 46) 0 z) (5 * 0 + 46) 1 0) 34 0 (Int32.ofNat (0 + 1)))) := by
  refine zz_fin.steps (n := 3) (s' := (5, [some (.ref 34), some (.int z)], [.int 4, .int (g 34 0)], aa_H g)) rfl ?_
  rw [h0]
  refine zz_fin.ic rfl (fun cz => absurd cz (by decide)) (fun cz => ?_)
  refine zz_fin.steps (n := 4) (s' := (16, [some (.ref 34), some (.int z)], [.int (g 34 0), .ref 35], aa_H g)) rfl ?_
  rw [h0]
  refine zz_fin.steps (n := 2) (s' := (18, [some (.ref 34), some (.int z)], [.int z, .ref 46], aa_H g)) rfl ?_
  refine zz_fin.call rfl rfl (Nat.le_of_ble_eq_true rfl) (dt_clr_34_0) ?_
  rintro v h ⟨rfl, rfl⟩
  refine zz_fin.steps (n := 5) (s' := (28, [some (.ref 34), some (.int z)], [.int ((g 34 0) + 1), .ref 34], aa_H (zz_w (zz_w g 46 0 z) 46 1 0))) rfl ?_
  rw [h0, aa_succ]
  refine zz_fin.steps (n := 1) (s' := (31, [some (.ref 34), some (.int z)], [], aa_H (zz_w (zz_w (zz_w g 46 0 z) 46 1 0) 34 0 (Int32.ofNat (0 + 1))))) rfl ?_
  exact zz_fin.at (n := 1) rfl ⟨rfl, rfl⟩
theorem ct_add_1 {g : aa_G} {z : Int32} (h0 : g 34 0 = Int32.ofNat 1) : zz_fin none 28 (0, zz_in [.ref 34, .int z] (zz_nl 28), [], aa_H g) (fun v h => v = none ∧ h = aa_H (zz_w (zz_w (zz_w g (5 * 1 + 46) 0 z) (5 * 1 + 46) 1 0) 34 0 (Int32.ofNat (1 + 1)))) := by
  refine zz_fin.steps (n := 3) (s' := (5, [some (.ref 34), some (.int z)], [.int 4, .int (g 34 0)], aa_H g)) rfl ?_
  rw [h0]
  refine zz_fin.ic rfl (fun cz => absurd cz (by decide)) (fun cz => ?_)
  refine zz_fin.steps (n := 4) (s' := (16, [some (.ref 34), some (.int z)], [.int (g 34 0), .ref 35], aa_H g)) rfl ?_
  rw [h0]
  refine zz_fin.steps (n := 2) (s' := (18, [some (.ref 34), some (.int z)], [.int z, .ref 51], aa_H g)) rfl ?_
  refine zz_fin.call rfl rfl (Nat.le_of_ble_eq_true rfl) (dt_clr_34_1) ?_
  rintro v h ⟨rfl, rfl⟩
  refine zz_fin.steps (n := 5) (s' := (28, [some (.ref 34), some (.int z)], [.int ((g 34 0) + 1), .ref 34], aa_H (zz_w (zz_w g 51 0 z) 51 1 0))) rfl ?_
  rw [h0, aa_succ]
  refine zz_fin.steps (n := 1) (s' := (31, [some (.ref 34), some (.int z)], [], aa_H (zz_w (zz_w (zz_w g 51 0 z) 51 1 0) 34 0 (Int32.ofNat (1 + 1))))) rfl ?_
  exact zz_fin.at (n := 1) rfl ⟨rfl, rfl⟩
theorem ct_add_2 {g : aa_G} {z : Int32} (h0 : g 34 0 = Int32.ofNat 2) : zz_fin none 28 (0, zz_in [.ref 34, .int z] (zz_nl 28), [], aa_H g) (fun v h => v = none ∧ h = aa_H (zz_w (zz_w (zz_w g (5 * 2 + 46) 0 z) (5 * 2 + 46) 1 0) 34 0 (Int32.ofNat (2 + 1)))) := by
  refine zz_fin.steps (n := 3) (s' := (5, [some (.ref 34), some (.int z)], [.int 4, .int (g 34 0)], aa_H g)) rfl ?_
  rw [h0]
  refine zz_fin.ic rfl (fun cz => absurd cz (by decide)) (fun cz => ?_)
  refine zz_fin.steps (n := 4) (s' := (16, [some (.ref 34), some (.int z)], [.int (g 34 0), .ref 35], aa_H g)) rfl ?_
  rw [h0]
  refine zz_fin.steps (n := 2) (s' := (18, [some (.ref 34), some (.int z)], [.int z, .ref 56], aa_H g)) rfl ?_
  refine zz_fin.call rfl rfl (Nat.le_of_ble_eq_true rfl) (dt_clr_34_2) ?_
  rintro v h ⟨rfl, rfl⟩
  refine zz_fin.steps (n := 5) (s' := (28, [some (.ref 34), some (.int z)], [.int ((g 34 0) + 1), .ref 34], aa_H (zz_w (zz_w g 56 0 z) 56 1 0))) rfl ?_
  rw [h0, aa_succ]
  refine zz_fin.steps (n := 1) (s' := (31, [some (.ref 34), some (.int z)], [], aa_H (zz_w (zz_w (zz_w g 56 0 z) 56 1 0) 34 0 (Int32.ofNat (2 + 1))))) rfl ?_
  exact zz_fin.at (n := 1) rfl ⟨rfl, rfl⟩
theorem ct_add_3 {g : aa_G} {z : Int32} (h0 : g 34 0 = Int32.ofNat 3) : zz_fin none 28 (0, zz_in [.ref 34, .int z] (zz_nl 28), [], aa_H g) (fun v h => v = none ∧ h = aa_H (zz_w (zz_w (zz_w g (5 * 3 + 46) 0 z) (5 * 3 + 46) 1 0) 34 0 (Int32.ofNat (3 + 1)))) := by
  refine zz_fin.steps (n := 3) (s' := (5, [some (.ref 34), some (.int z)], [.int 4, .int (g 34 0)], aa_H g)) rfl ?_
  rw [h0]
  refine zz_fin.ic rfl (fun cz => absurd cz (by decide)) (fun cz => ?_)
  refine zz_fin.steps (n := 4) (s' := (16, [some (.ref 34), some (.int z)], [.int (g 34 0), .ref 35], aa_H g)) rfl ?_
  rw [h0]
  refine zz_fin.steps (n := 2) (s' := (18, [some (.ref 34), some (.int z)], [.int z, .ref 61], aa_H g)) rfl ?_
  refine zz_fin.call rfl rfl (Nat.le_of_ble_eq_true rfl) (dt_clr_34_3) ?_
  rintro v h ⟨rfl, rfl⟩
  refine zz_fin.steps (n := 5) (s' := (28, [some (.ref 34), some (.int z)], [.int ((g 34 0) + 1), .ref 34], aa_H (zz_w (zz_w g 61 0 z) 61 1 0))) rfl ?_
  rw [h0, aa_succ]
  refine zz_fin.steps (n := 1) (s' := (31, [some (.ref 34), some (.int z)], [], aa_H (zz_w (zz_w (zz_w g 61 0 z) 61 1 0) 34 0 (Int32.ofNat (3 + 1))))) rfl ?_
  exact zz_fin.at (n := 1) rfl ⟨rfl, rfl⟩
theorem ct_add {g : aa_G} {z : Int32} {t : Nat} (ht : t < 4) (h0 : g 34 0 = Int32.ofNat t) : zz_fin none 28 (0, zz_in [.ref 34, .int z] (zz_nl 28), [], aa_H g) (fun v h => v = none ∧ h = aa_H (zz_w (zz_w (zz_w g (5 * t + 46) 0 z) (5 * t + 46) 1 0) 34 0 (Int32.ofNat (t + 1)))) := by
  rcases dt_four ht with rfl | rfl | rfl | rfl
  · exact ct_add_0 h0
  · exact ct_add_1 h0
  · exact ct_add_2 h0
  · exact ct_add_3 h0
theorem ct_last_0 {g : aa_G} (h0 : g 34 0 = Int32.ofNat 0) : zz_fin none 30 (0, zz_in [.ref 34] (zz_nl 30), [], aa_H g) (fun v h => v = some (.null) ∧ h = aa_H g) := by
  have hat : zz_fin none 31 (0, zz_in [.ref 34, .int (-1)] (zz_nl 31), [], aa_H g) (fun v h => v = some (.null) ∧ h = aa_H g) := by
    refine zz_fin.steps (n := 6) (s' := (8, [some (.ref 34), some (.int (-1))], [.int ((g 34 0) - 1), .int 0, .int (-1)], aa_H g)) rfl ?_
    rw [h0]
    refine zz_fin.call rfl rfl (Nat.le_of_ble_eq_true rfl) (zz_within0 (.inl rfl) (by decide)) ?_
    rintro v h ⟨rfl, rfl⟩
    refine zz_fin.if rfl (fun cz => ?_) (fun cz => zc_no0 cz)
    refine zz_fin.steps (n := 1) (s' := (24, [some (.ref 34), some (.int (-1))], [.null], aa_H g)) rfl ?_
    exact zz_fin.at (n := 1) rfl ⟨rfl, rfl⟩
  refine zz_fin.steps (n := 5) (s' := (7, [some (.ref 34)], [.int ((g 34 0) - 1), .ref 34], aa_H g)) rfl ?_
  rw [h0]
  refine zz_fin.call rfl rfl (Nat.le_of_ble_eq_true rfl) hat ?_
  rintro v h ⟨rfl, rfl⟩
  exact zz_fin.at (n := 1) rfl ⟨rfl, rfl⟩
theorem ct_last_1 {g : aa_G} (h0 : g 34 0 = Int32.ofNat 1) : zz_fin none 30 (0, zz_in [.ref 34] (zz_nl 30), [], aa_H g) (fun v h => v = some (.ref (5 * (1 - 1) + 46)) ∧ h = aa_H g) := by
  have hat : zz_fin none 31 (0, zz_in [.ref 34, .int (0)] (zz_nl 31), [], aa_H g) (fun v h => v = some (.ref (5 * (1 - 1) + 46)) ∧ h = aa_H g) := by
    refine zz_fin.steps (n := 6) (s' := (8, [some (.ref 34), some (.int 0)], [.int ((g 34 0) - 1), .int 0, .int 0], aa_H g)) rfl ?_
    rw [h0]
    refine zz_fin.call rfl rfl (Nat.le_of_ble_eq_true rfl) (zz_within1 (.inl rfl) (by decide)) ?_
    rintro v h ⟨rfl, rfl⟩
    refine zz_fin.if rfl (fun cz => zc_no1 cz) (fun cz => ?_)
    refine zz_fin.steps (n := 5) (s' := (24, [some (.ref 34), some (.int 0)], [.ref 46], aa_H g)) rfl ?_
    exact zz_fin.at (n := 1) rfl ⟨rfl, rfl⟩
  refine zz_fin.steps (n := 5) (s' := (7, [some (.ref 34)], [.int ((g 34 0) - 1), .ref 34], aa_H g)) rfl ?_
  rw [h0]
  refine zz_fin.call rfl rfl (Nat.le_of_ble_eq_true rfl) hat ?_
  rintro v h ⟨rfl, rfl⟩
  exact zz_fin.at (n := 1) rfl ⟨rfl, rfl⟩
theorem ct_last_2 {g : aa_G} (h0 : g 34 0 = Int32.ofNat 2) : zz_fin none 30 (0, zz_in [.ref 34] (zz_nl 30), [], aa_H g) (fun v h => v = some (.ref (5 * (2 - 1) + 46)) ∧ h = aa_H g) := by
  have hat : zz_fin none 31 (0, zz_in [.ref 34, .int (1)] (zz_nl 31), [], aa_H g) (fun v h => v = some (.ref (5 * (2 - 1) + 46)) ∧ h = aa_H g) := by
    refine zz_fin.steps (n := 6) (s' := (8, [some (.ref 34), some (.int 1)], [.int ((g 34 0) - 1), .int 0, .int 1], aa_H g)) rfl ?_
    rw [h0]
    refine zz_fin.call rfl rfl (Nat.le_of_ble_eq_true rfl) (zz_within1 (.inl rfl) (by decide)) ?_
    rintro v h ⟨rfl, rfl⟩
    refine zz_fin.if rfl (fun cz => zc_no1 cz) (fun cz => ?_)
    refine zz_fin.steps (n := 5) (s' := (24, [some (.ref 34), some (.int 1)], [.ref 51], aa_H g)) rfl ?_
    exact zz_fin.at (n := 1) rfl ⟨rfl, rfl⟩
  refine zz_fin.steps (n := 5) (s' := (7, [some (.ref 34)], [.int ((g 34 0) - 1), .ref 34], aa_H g)) rfl ?_
  rw [h0]
  refine zz_fin.call rfl rfl (Nat.le_of_ble_eq_true rfl) hat ?_
  rintro v h ⟨rfl, rfl⟩
  exact zz_fin.at (n := 1) rfl ⟨rfl, rfl⟩
theorem ct_last_3 {g : aa_G} (h0 : g 34 0 = Int32.ofNat 3) : zz_fin none 30 (0, zz_in [.ref 34] (zz_nl 30), [], aa_H g) (fun v h => v = some (.ref (5 * (3 - 1) + 46)) ∧ h = aa_H g) := by
  have hat : zz_fin none 31 (0, zz_in [.ref 34, .int (2)] (zz_nl 31), [], aa_H g) (fun v h => v = some (.ref (5 * (3 - 1) + 46)) ∧ h = aa_H g) := by
    refine zz_fin.steps (n := 6) (s' := (8, [some (.ref 34), some (.int 2)], [.int ((g 34 0) - 1), .int 0, .int 2], aa_H g)) rfl ?_
    rw [h0]
    refine zz_fin.call rfl rfl (Nat.le_of_ble_eq_true rfl) (zz_within1 (.inl rfl) (by decide)) ?_
    rintro v h ⟨rfl, rfl⟩
    refine zz_fin.if rfl (fun cz => zc_no1 cz) (fun cz => ?_)
    refine zz_fin.steps (n := 5) (s' := (24, [some (.ref 34), some (.int 2)], [.ref 56], aa_H g)) rfl ?_
    exact zz_fin.at (n := 1) rfl ⟨rfl, rfl⟩
  refine zz_fin.steps (n := 5) (s' := (7, [some (.ref 34)], [.int ((g 34 0) - 1), .ref 34], aa_H g)) rfl ?_
  rw [h0]
  refine zz_fin.call rfl rfl (Nat.le_of_ble_eq_true rfl) hat ?_
  rintro v h ⟨rfl, rfl⟩
  exact zz_fin.at (n := 1) rfl ⟨rfl, rfl⟩
theorem ct_last_4 {g : aa_G} (h0 : g 34 0 = Int32.ofNat 4) : zz_fin none 30 (0, zz_in [.ref 34] (zz_nl 30), [], aa_H g) (fun v h => v = some (.ref (5 * (4 - 1) + 46)) ∧ h = aa_H g) := by
  have hat : zz_fin none 31 (0, zz_in [.ref 34, .int (3)] (zz_nl 31), [], aa_H g) (fun v h => v = some (.ref (5 * (4 - 1) + 46)) ∧ h = aa_H g) := by
    refine zz_fin.steps (n := 6) (s' := (8, [some (.ref 34), some (.int 3)], [.int ((g 34 0) - 1), .int 0, .int 3], aa_H g)) rfl ?_
    rw [h0]
    refine zz_fin.call rfl rfl (Nat.le_of_ble_eq_true rfl) (zz_within1 (.inl rfl) (by decide)) ?_
    rintro v h ⟨rfl, rfl⟩
    refine zz_fin.if rfl (fun cz => zc_no1 cz) (fun cz => ?_)
    refine zz_fin.steps (n := 5) (s' := (24, [some (.ref 34), some (.int 3)], [.ref 61], aa_H g)) rfl ?_
    exact zz_fin.at (n := 1) rfl ⟨rfl, rfl⟩
  refine zz_fin.steps (n := 5) (s' := (7, [some (.ref 34)], [.int ((g 34 0) - 1), .ref 34], aa_H g)) rfl ?_
  rw [h0]
  refine zz_fin.call rfl rfl (Nat.le_of_ble_eq_true rfl) hat ?_
  rintro v h ⟨rfl, rfl⟩
  exact zz_fin.at (n := 1) rfl ⟨rfl, rfl⟩
theorem ct_last {g : aa_G} {t : Nat} (ht : t ≤ 4) (h0 : g 34 0 = Int32.ofNat t) : zz_fin none 30 (0, zz_in [.ref 34] (zz_nl 30), [], aa_H g) (fun v h => ((t = 0 ∧ v = some .null) ∨ (t ≠ 0 ∧ v = some (.ref (5 * (t - 1) + 46)))) ∧ h = aa_H g) := by
  have h5 : t = 0 ∨ t = 1 ∨ t = 2 ∨ t = 3 ∨ t = 4 := by omega
  rcases h5 with rfl | rfl | rfl | rfl | rfl
  · refine (ct_last_0 h0).mono ?_
    rintro v h ⟨rfl, rfl⟩
    exact ⟨.inl ⟨rfl, rfl⟩, rfl⟩
  · refine (ct_last_1 h0).mono ?_
    rintro v h ⟨rfl, rfl⟩
    exact ⟨.inr ⟨by decide, rfl⟩, rfl⟩
  · refine (ct_last_2 h0).mono ?_
    rintro v h ⟨rfl, rfl⟩
    exact ⟨.inr ⟨by decide, rfl⟩, rfl⟩
  · refine (ct_last_3 h0).mono ?_
    rintro v h ⟨rfl, rfl⟩
    exact ⟨.inr ⟨by decide, rfl⟩, rfl⟩
  · refine (ct_last_4 h0).mono ?_
    rintro v h ⟨rfl, rfl⟩
    exact ⟨.inr ⟨by decide, rfl⟩, rfl⟩
