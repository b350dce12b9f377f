/-! the cases that write: two calls without a name in them are computed; and the others -/
theorem zz_01 {k : Int32} (h : 0 ≤ k ∧ k ≤ 1) : k = 0 ∨ k = 1 := by
  have a := Int32.le_iff_toInt_le.mp h.1
  have b := Int32.le_iff_toInt_le.mp h.2
  have e0 : (0 : Int32).toInt = 0 := by decide
  have e1 : (1 : Int32).toInt = 1 := by decide
  rcases (show k.toInt = 0 ∨ k.toInt = 1 by omega) with q | q
  · exact Or.inl (Int32.toInt_inj.mp (q.trans e0.symm))
  · exact Or.inr (Int32.toInt_inj.mp (q.trans e1.symm))
theorem zz_00 {k : Int32} (h : 0 ≤ k ∧ k ≤ 0) : k = 0 := by
  have a := Int32.le_iff_toInt_le.mp h.1
  have b := Int32.le_iff_toInt_le.mp h.2
  have e0 : (0 : Int32).toInt = 0 := by decide
  exact Int32.toInt_inj.mp (by omega)
def zz_pb (n1 m1 n2 m2 : Nat) (a1 a2 : List Value) (v : Value) : Bool := match zz_walk zz_Q zz_us none n1 m1 (0, zz_in a1 (zz_nl m1), [], zz_hs) with
  | some (.inr (_, some x, h1)) => decide (x = v) && ((zz_obj h1 540 10).isSome && match zz_walk zz_Q zz_us none n2 m2 (0, zz_in a2 (zz_nl m2), [], h1) with
    | some (.inr (_, some y, h2)) => decide (y = v) && decide (h2.1 = zz_hs.1)
    | _ => false)
  | _ => false
theorem zz_pair {n1 m1 n2 m2 : Nat} {a1 a2 : List Value} {v : Value} (h : zz_pb n1 m1 n2 m2 a1 a2 v = true) : ∃ h1, (zz_obj h1 540 10).isSome = true ∧ zz_fin none m1 (0, zz_in a1 (zz_nl m1), [], zz_hs) (fun x h => x = some v ∧ h = h1) ∧ zz_fin none m2 (0, zz_in a2 (zz_nl m2), [], h1) (fun x h => x = some v ∧ h.1 = zz_hs.1) := by
  unfold zz_pb at h
  split at h
  · rename_i q x h1 e1
    rw [Bool.and_eq_true, decide_eq_true_eq] at h
    obtain ⟨rfl, h⟩ := h
    rw [Bool.and_eq_true] at h
    obtain ⟨hob, h⟩ := h
    split at h
    · rename_i q2 y h2 e2
      rw [Bool.and_eq_true, decide_eq_true_eq, decide_eq_true_eq] at h
      obtain ⟨rfl, h⟩ := h
      exact ⟨h1, hob, ⟨n1, q, _, h1, e1, rfl, rfl⟩, ⟨n2, q2, _, h2, e2, rfl, h⟩⟩
    · cases h
  · cases h
set_option maxRecDepth 100000 in
theorem zz_p_text : zz_pb 207 15 8457 162 [.ref 1] [.ref 540] (.int 0) = true := by decide +kernel
theorem law_c2 (xs : Nat → Int32) : zz_fin (some (6, xs)) 0 (338, law_lv, [], zz_hs) law_phi := by
  obtain ⟨h1, hob, k1, k2⟩ := zz_pair zz_p_text
  refine zz_fin.steps (n := 1) (s' := (339, law_lv, [.ref 1], zz_hs)) rfl ?_
  refine zz_fin.call (ψ := fun v h => v = some (.int 0) ∧ h = h1) rfl rfl (Nat.le_of_ble_eq_true rfl) (zz_finX k1) ?_
  rintro v h ⟨rfl, rfl⟩
  refine zz_fin.steps (n := 1) (s' := (343, law_lv, [.ref 540, .int 0], h)) rfl ?_
  refine zz_fin.callv (as := []) (rest := [.int 0]) (ψ := fun v h => v = some (.int 0) ∧ h.1 = zz_hs.1) rfl rfl rfl hob (Nat.le_of_ble_eq_true rfl) (Nat.le_of_ble_eq_true rfl) (zz_finX k2) ?_
  rintro v h ⟨rfl, hn⟩
  refine zz_fin.steps (n := 1) (s' := (2335, law_lv, [], h)) rfl ?_
  exact law_end xs hn
set_option maxRecDepth 100000 in
theorem zz_p_bells : zz_pb 208 41 8446 178 [.ref 1] [.ref 540] (.int 0) = true := by decide +kernel
theorem law_c3 (xs : Nat → Int32) : zz_fin (some (6, xs)) 0 (351, law_lv, [], zz_hs) law_phi := by
  obtain ⟨h1, hob, k1, k2⟩ := zz_pair zz_p_bells
  refine zz_fin.steps (n := 1) (s' := (352, law_lv, [.ref 1], zz_hs)) rfl ?_
  refine zz_fin.call (ψ := fun v h => v = some (.int 0) ∧ h = h1) rfl rfl (Nat.le_of_ble_eq_true rfl) (zz_finX k1) ?_
  rintro v h ⟨rfl, rfl⟩
  refine zz_fin.steps (n := 1) (s' := (356, law_lv, [.ref 540, .int 0], h)) rfl ?_
  refine zz_fin.callv (as := []) (rest := [.int 0]) (ψ := fun v h => v = some (.int 0) ∧ h.1 = zz_hs.1) rfl rfl rfl hob (Nat.le_of_ble_eq_true rfl) (Nat.le_of_ble_eq_true rfl) (zz_finX k2) ?_
  rintro v h ⟨rfl, hn⟩
  refine zz_fin.steps (n := 1) (s' := (2335, law_lv, [], h)) rfl ?_
  exact law_end xs hn
set_option maxRecDepth 100000 in
theorem zz_p_acts : zz_pb 53 53 54 260 [.ref 1] [.ref 540] (.int 0) = true := by decide +kernel
theorem law_c4 (xs : Nat → Int32) : zz_fin (some (6, xs)) 0 (364, law_lv, [], zz_hs) law_phi := by
  obtain ⟨h1, hob, k1, k2⟩ := zz_pair zz_p_acts
  refine zz_fin.steps (n := 1) (s' := (365, law_lv, [.ref 1], zz_hs)) rfl ?_
  refine zz_fin.call (ψ := fun v h => v = some (.int 0) ∧ h = h1) rfl rfl (Nat.le_of_ble_eq_true rfl) (zz_finX k1) ?_
  rintro v h ⟨rfl, rfl⟩
  refine zz_fin.steps (n := 1) (s' := (369, law_lv, [.ref 540, .int 0], h)) rfl ?_
  refine zz_fin.callv (as := []) (rest := [.int 0]) (ψ := fun v h => v = some (.int 0) ∧ h.1 = zz_hs.1) rfl rfl rfl hob (Nat.le_of_ble_eq_true rfl) (Nat.le_of_ble_eq_true rfl) (zz_finX k2) ?_
  rintro v h ⟨rfl, hn⟩
  refine zz_fin.steps (n := 1) (s' := (2335, law_lv, [], h)) rfl ?_
  exact law_end xs hn
theorem law_k1 (xs : Nat → Int32) (r : Int32) (h1 : zz_H) (hob : (zz_obj h1 540 10).isSome = true) (k1 : zz_fin none 13 (0, zz_in [.ref 1, .int (xs 1)] (zz_nl 13), [], zz_hs) (fun v h => v = some (.int r) ∧ h = h1)) (k2 : zz_fin none 160 (0, zz_in [.ref 540, .int (xs 1)] (zz_nl 160), [], h1) (fun v h => v = some (.int r) ∧ h.1 = zz_hs.1)) : zz_fin (some (6, xs)) 0 (315, law_lv, [], zz_hs) law_phi := by
  refine zz_fin.steps (n := 6) (s' := (321, law_lv, [.int (xs 1), .ref 1], zz_hs)) rfl ?_
  refine zz_fin.call (ψ := fun v h => v = some (.int r) ∧ h = h1) rfl rfl (Nat.le_of_ble_eq_true rfl) (zz_finX k1) ?_
  rintro v h ⟨rfl, rfl⟩
  refine zz_fin.steps (n := 6) (s' := (330, law_lv, [.int (xs 1), .ref 540, .int r], h)) rfl ?_
  refine zz_fin.callv (as := [.int (xs 1)]) (rest := [.int r]) (ψ := fun v h => v = some (.int r) ∧ h.1 = zz_hs.1) rfl rfl rfl hob (Nat.le_of_ble_eq_true rfl) (Nat.le_of_ble_eq_true rfl) (zz_finX k2) ?_
  rintro v h ⟨rfl, hn⟩
  refine zz_fin.ic rfl (fun _ => ?_) (fun q => absurd (decide_eq_true rfl) q)
  exact law_end xs hn
theorem law_k43 (xs : Nat → Int32) (r : Int32) (h1 : zz_H) (hob : (zz_obj h1 540 10).isSome = true) (k1 : zz_fin none 61 (0, zz_in [.ref 1, .int (xs 1)] (zz_nl 61), [], zz_hs) (fun v h => v = some (.int r) ∧ h = h1)) (k2 : zz_fin none 256 (0, zz_in [.ref 540, .int (xs 1)] (zz_nl 256), [], h1) (fun v h => v = some (.int r) ∧ h.1 = zz_hs.1)) : zz_fin (some (6, xs)) 0 (2121, law_lv, [], zz_hs) law_phi := by
  refine zz_fin.steps (n := 6) (s' := (2127, law_lv, [.int (xs 1), .ref 1], zz_hs)) rfl ?_
  refine zz_fin.call (ψ := fun v h => v = some (.int r) ∧ h = h1) rfl rfl (Nat.le_of_ble_eq_true rfl) (zz_finX k1) ?_
  rintro v h ⟨rfl, rfl⟩
  refine zz_fin.steps (n := 6) (s' := (2136, law_lv, [.int (xs 1), .ref 540, .int r], h)) rfl ?_
  refine zz_fin.callv (as := [.int (xs 1)]) (rest := [.int r]) (ψ := fun v h => v = some (.int r) ∧ h.1 = zz_hs.1) rfl rfl rfl hob (Nat.le_of_ble_eq_true rfl) (Nat.le_of_ble_eq_true rfl) (zz_finX k2) ?_
  rintro v h ⟨rfl, hn⟩
  refine zz_fin.ic rfl (fun _ => ?_) (fun q => absurd (decide_eq_true rfl) q)
  exact law_end xs hn
theorem law_k47 (xs : Nat → Int32) (r : Int32) (h1 : zz_H) (hob : (zz_obj h1 540 10).isSome = true) (k1 : zz_fin none 143 (0, zz_in [.ref 1, .int (xs 1)] (zz_nl 143), [], zz_hs) (fun v h => v = some (.int r) ∧ h = h1)) (k2 : zz_fin none 153 (0, zz_in [.ref 540, .int (xs 1)] (zz_nl 153), [], h1) (fun v h => v = some (.int r) ∧ h.1 = zz_hs.1)) : zz_fin (some (6, xs)) 0 (2243, law_lv, [], zz_hs) law_phi := by
  refine zz_fin.steps (n := 6) (s' := (2249, law_lv, [.int (xs 1), .ref 1], zz_hs)) rfl ?_
  refine zz_fin.call (ψ := fun v h => v = some (.int r) ∧ h = h1) rfl rfl (Nat.le_of_ble_eq_true rfl) (zz_finX k1) ?_
  rintro v h ⟨rfl, rfl⟩
  refine zz_fin.steps (n := 6) (s' := (2258, law_lv, [.int (xs 1), .ref 540, .int r], h)) rfl ?_
  refine zz_fin.callv (as := [.int (xs 1)]) (rest := [.int r]) (ψ := fun v h => v = some (.int r) ∧ h.1 = zz_hs.1) rfl rfl rfl hob (Nat.le_of_ble_eq_true rfl) (Nat.le_of_ble_eq_true rfl) (zz_finX k2) ?_
  rintro v h ⟨rfl, hn⟩
  refine zz_fin.ic rfl (fun _ => ?_) (fun q => absurd (decide_eq_true rfl) q)
  exact law_end xs hn
theorem law_k48 (xs : Nat → Int32) (r : Int32) (h1 : zz_H) (hob : (zz_obj h1 540 10).isSome = true) (k1 : zz_fin none 144 (0, zz_in [.ref 1, .int (xs 1)] (zz_nl 144), [], zz_hs) (fun v h => v = some (.int r) ∧ h = h1)) (k2 : zz_fin none 155 (0, zz_in [.ref 540, .int (xs 1)] (zz_nl 155), [], h1) (fun v h => v = some (.int r) ∧ h.1 = zz_hs.1)) : zz_fin (some (6, xs)) 0 (2266, law_lv, [], zz_hs) law_phi := by
  refine zz_fin.steps (n := 6) (s' := (2272, law_lv, [.int (xs 1), .ref 1], zz_hs)) rfl ?_
  refine zz_fin.call (ψ := fun v h => v = some (.int r) ∧ h = h1) rfl rfl (Nat.le_of_ble_eq_true rfl) (zz_finX k1) ?_
  rintro v h ⟨rfl, rfl⟩
  refine zz_fin.steps (n := 6) (s' := (2281, law_lv, [.int (xs 1), .ref 540, .int r], h)) rfl ?_
  refine zz_fin.callv (as := [.int (xs 1)]) (rest := [.int r]) (ψ := fun v h => v = some (.int r) ∧ h.1 = zz_hs.1) rfl rfl rfl hob (Nat.le_of_ble_eq_true rfl) (Nat.le_of_ble_eq_true rfl) (zz_finX k2) ?_
  rintro v h ⟨rfl, hn⟩
  refine zz_fin.ic rfl (fun _ => ?_) (fun q => absurd (decide_eq_true rfl) q)
  exact law_end xs hn
theorem law_c1 (xs : Nat → Int32) : zz_fin (some (6, xs)) 0 (315, law_lv, [], zz_hs) law_phi := by
  by_cases hc : 0 ≤ xs 1 ∧ xs 1 ≤ 0
  · have e := zz_00 hc
    exact law_k1 xs 0 ((553, 15206), (zz_ly, (zz_w zz_g0 454 0 0))) rfl (by rw [e]; exact xx_end_0) (by rw [e]; exact mm_end_0)
  · exact law_k1 xs (-1) zz_hs (by rfl) (xx_end_n _ hc) ((mm_end_n _ hc).mono fun v h q => ⟨q.1, by rw [q.2]⟩)
theorem law_c48 (xs : Nat → Int32) : zz_fin (some (6, xs)) 0 (2266, law_lv, [], zz_hs) law_phi := by
  by_cases hc : 0 ≤ xs 1 ∧ xs 1 ≤ 1
  · rcases zz_01 hc with e | e
    · exact law_k48 xs 0 zz_hs (by rfl) (by rw [e]; exact xx_restore_0) (by rw [e]; exact mm_restore_0.mono fun v h q => ⟨q.1, by rw [q.2]⟩)
    · exact law_k48 xs 0 zz_hs (by rfl) (by rw [e]; exact xx_restore_1) (by rw [e]; exact mm_restore_1.mono fun v h q => ⟨q.1, by rw [q.2]⟩)
  · exact law_k48 xs 0 zz_hs (by rfl) (xx_restore_n _ hc) ((mm_restore_n _ hc).mono fun v h q => ⟨q.1, by rw [q.2]⟩)
set_option maxRecDepth 100000 in
theorem zz_p_keep0 : zz_pb 187 143 8416 153 [.ref 1, .int 0] [.ref 540, .int 0] (.int 1) = true := by decide +kernel
set_option maxRecDepth 100000 in
theorem zz_p_keep1 : zz_pb 187 143 8416 153 [.ref 1, .int 1] [.ref 540, .int 1] (.int 1) = true := by decide +kernel
theorem law_c47 (xs : Nat → Int32) : zz_fin (some (6, xs)) 0 (2243, law_lv, [], zz_hs) law_phi := by
  by_cases hc : 0 ≤ xs 1 ∧ xs 1 ≤ 1
  · rcases zz_01 hc with e | e
    · obtain ⟨h1, hob, k1, k2⟩ := zz_pair zz_p_keep0
      exact law_k47 xs 1 h1 hob (by rw [e]; exact k1) (by rw [e]; exact k2)
    · obtain ⟨h1, hob, k1, k2⟩ := zz_pair zz_p_keep1
      exact law_k47 xs 1 h1 hob (by rw [e]; exact k1) (by rw [e]; exact k2)
  · exact law_k47 xs 0 zz_hs (by rfl) (xx_keep_n _ hc) ((mm_keep_n _ hc).mono fun v h q => ⟨q.1, by rw [q.2]⟩)
