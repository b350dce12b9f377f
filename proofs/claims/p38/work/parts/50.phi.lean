/-! WHAT THE MODEL'S ROWS KEEP: points with their dawn ahead of their dusk, codes that can be reckoned, parts -/
def aa_gd (g : aa_G) (p : Nat) : Prop := (g 541 (p + 3)).toInt = -1 → 0 ≤ (g 541 (p + 1)).toInt ∧ (g 541 (p + 1)).toInt < (g 541 (p + 2)).toInt
def aa_pt (g : aa_G) (r : Nat) : Prop := ∀ t i : Nat, t < 4 → i < 12 → (i : Int) < (g 541 (399 * r + 50 * t + 4)).toInt → aa_gd g (399 * r + 50 * t + 4 * i + 5)
/-- the codes of a row's bell -/
def aa_seg (g : aa_G) (r b : Nat) : Prop := 0 ≤ aa_run (fun k => g 541 (399 * r + 259 + k)) ((g 541 (399 * r + 203 + 7 * b + 6)).toInt.toNat - (g 541 (399 * r + 203 + 7 * b + 5)).toInt.toNat) (g 541 (399 * r + 203 + 7 * b + 5)).toInt.toNat 0
def aa_rp (g : aa_G) (r : Nat) : Prop := ∀ b : Nat, b < 8 → (b : Int) < (g 541 (399 * r + 2)).toInt → aa_seg g r b
def aa_pa (g : aa_G) : Prop := (∀ k : Nat, k < 2 → (g 542 k).toInt ≠ 0 → 1 ≤ (g 541 (399 * (1 + k) + 1)).toInt) ∧ (∀ k : Nat, k < 12 → (k : Int) < (g 540 1).toInt → 1 ≤ (g 541 (399 * (3 + k) + 1)).toInt)
/-- a bell that was read -/
def aa_nb (g : aa_G) (b : Nat) : Prop := (0 ≤ (g 544 (7 * b)).toInt ∧ (g 544 (7 * b)).toInt ≤ 1) ∧ (0 ≤ (g 544 (7 * b + 1)).toInt ∧ (g 544 (7 * b + 1)).toInt ≤ 11) ∧ (0 ≤ (g 544 (7 * b + 2)).toInt ∧ (g 544 (7 * b + 2)).toInt ≤ 3599) ∧ (0 ≤ (g 544 (7 * b + 3)).toInt ∧ (g 544 (7 * b + 3)).toInt ≤ 24) ∧ (0 ≤ (g 544 (7 * b + 4)).toInt ∧ (g 544 (7 * b + 4)).toInt ≤ 40) ∧ 0 ≤ (g 544 (7 * b + 5)).toInt ∧ (g 544 (7 * b + 5)).toInt ≤ (g 544 (7 * b + 6)).toInt ∧ (g 544 (7 * b + 6)).toInt ≤ (g 540 11).toInt ∧ 0 ≤ aa_run (g 545) ((g 544 (7 * b + 6)).toInt.toNat - (g 544 (7 * b + 5)).toInt.toNat) (g 544 (7 * b + 5)).toInt.toNat 0
def aa_nw (g : aa_G) : Prop := ∀ b : Nat, b < 8 → (b : Int) < (g 540 10).toInt → aa_nb g b
def aa_Phi (g : aa_G) : Prop := (∀ r : Nat, r < 16 → aa_pt g r ∧ aa_rp g r) ∧ aa_pa g ∧ aa_nw g
theorem aa_run_congr {c c' : Nat → Int32} : ∀ (n k : Nat) (d : Int), (∀ i, i < n → c' (k + i) = c (k + i)) → aa_run c' n k d = aa_run c n k d
  | 0, _, _, _ => rfl
  | n + 1, k, d, h => by
    rw [aa_run, aa_run, show c' k = c k from h 0 (Nat.succ_pos n)]
    refine aa_run_congr n (k + 1) _ fun i hi => ?_
    have := h (i + 1) (by omega)
    rwa [show k + 1 + i = k + (i + 1) by omega]
theorem aa_run_add {c : Nat → Int32} : ∀ (n k : Nat) (d : Int), aa_run c (n + 1) k d = aa_rst (c (k + n)) (aa_run c n k d)
  | 0, _, _ => rfl
  | n + 1, k, d => by
    rw [aa_run, aa_run_add n (k + 1) _, aa_run, show k + 1 + n = k + (n + 1) by omega]
/-- the cells that these speak of are the same -/
def aa_same (g g' : aa_G) : Prop := (∀ j, j ≠ 0 → j ≠ 1 → j ≠ 3 → j ≠ 53 → j ≠ 103 → j ≠ 153 → g' 541 j = g 541 j) ∧ g' 542 = g 542 ∧ g' 540 1 = g 540 1 ∧ g' 540 10 = g 540 10 ∧ g' 540 11 = g 540 11 ∧ g' 544 = g 544 ∧ g' 545 = g 545
theorem aa_pt_of {g g' : aa_G} {r : Nat} (h : ∀ q, 4 ≤ q → q < 203 → q ≠ 53 → q ≠ 103 → q ≠ 153 → g' 541 (399 * r + q) = g 541 (399 * r + q)) (k : aa_pt g r) : aa_pt g' r := fun t i ht hi hc => by
  have e1 := h (50 * t + 4) (by omega) (by omega) (by omega) (by omega) (by omega)
  have e2 := h (50 * t + 4 * i + 6) (by omega) (by omega) (by omega) (by omega) (by omega)
  have e3 := h (50 * t + 4 * i + 7) (by omega) (by omega) (by omega) (by omega) (by omega)
  have e4 := h (50 * t + 4 * i + 8) (by omega) (by omega) (by omega) (by omega) (by omega)
  rw [← Nat.add_assoc] at e1 e2 e3 e4
  rw [← Nat.add_assoc] at e2 e3 e4
  rw [e1] at hc
  have := k t i ht hi hc
  unfold aa_gd at this ⊢
  rwa [show 399 * r + 50 * t + 4 * i + 5 + 3 = 399 * r + 50 * t + 4 * i + 8 by omega, show 399 * r + 50 * t + 4 * i + 5 + 1 = 399 * r + 50 * t + 4 * i + 6 by omega, show 399 * r + 50 * t + 4 * i + 5 + 2 = 399 * r + 50 * t + 4 * i + 7 by omega, e2, e3, e4]
theorem aa_rp_of {g g' : aa_G} {r : Nat} (h2 : g' 541 (399 * r + 2) = g 541 (399 * r + 2)) (h : ∀ q, 203 ≤ q → g' 541 (399 * r + q) = g 541 (399 * r + q)) (k : aa_rp g r) : aa_rp g' r := fun b hb hc => by
  rw [h2] at hc
  have := k b hb hc
  have e1 := h (203 + 7 * b + 5) (by omega)
  have e2 := h (203 + 7 * b + 6) (by omega)
  rw [show 399 * r + (203 + 7 * b + 5) = 399 * r + 203 + 7 * b + 5 by omega] at e1
  rw [show 399 * r + (203 + 7 * b + 6) = 399 * r + 203 + 7 * b + 6 by omega] at e2
  unfold aa_seg at this ⊢
  rw [e1, e2]
  rw [aa_run_congr (c := fun k => g 541 (399 * r + 259 + k))]
  · exact this
  · intro i _
    have := h (259 + ((g 541 (399 * r + 203 + 7 * b + 5)).toInt.toNat + i)) (by omega)
    rwa [show 399 * r + (259 + ((g 541 (399 * r + 203 + 7 * b + 5)).toInt.toNat + i)) = 399 * r + 259 + ((g 541 (399 * r + 203 + 7 * b + 5)).toInt.toNat + i) by omega] at this
theorem aa_nb_of {g g' : aa_G} {b : Nat} (h : ∀ q, q < 7 → g' 544 (7 * b + q) = g 544 (7 * b + q)) (h1 : (g 540 11).toInt ≤ (g' 540 11).toInt) (h2 : ∀ i : Nat, (i : Int) < (g 540 11).toInt → g' 545 i = g 545 i) (k : aa_nb g b) : aa_nb g' b := by
  obtain ⟨k0, k1, k2, k3, k4, k5, k6, k7, k8⟩ := k
  have e0 : g' 544 (7 * b) = g 544 (7 * b) := h 0 (by omega)
  have e1 := h 1 (by omega)
  have e2 := h 2 (by omega)
  have e3 := h 3 (by omega)
  have e4 := h 4 (by omega)
  have e5 := h 5 (by omega)
  have e6 := h 6 (by omega)
  unfold aa_nb
  rw [e0, e1, e2, e3, e4, e5, e6]
  refine ⟨k0, k1, k2, k3, k4, k5, k6, by omega, ?_⟩
  rw [aa_run_congr (c := g 545)]
  · exact k8
  · intro i hi
    exact h2 _ (by omega)
theorem aa_Phi_same {g g' : aa_G} (h : aa_same g g') (k : aa_Phi g) : aa_Phi g' := by
  obtain ⟨h1, h2, h3, h4, h5, h6, h7⟩ := h
  obtain ⟨k1, ⟨k2, k3⟩, k4⟩ := k
  refine ⟨fun r hr => ⟨aa_pt_of (fun q q1 q2 q3 q4 q5 => h1 _ (by omega) (by omega) (by omega) (by omega) (by omega) (by omega)) (k1 r hr).1, aa_rp_of (h1 _ (by omega) (by omega) (by omega) (by omega) (by omega) (by omega)) (fun q q1 => h1 _ (by omega) (by omega) (by omega) (by omega) (by omega) (by omega)) (k1 r hr).2⟩, ⟨fun k hk hc => ?_, fun k hk hc => ?_⟩, fun b hb hc => ?_⟩
  · rw [h1 _ (by omega) (by omega) (by omega) (by omega) (by omega) (by omega)]
    rw [h2] at hc
    exact k2 k hk hc
  · rw [h1 _ (by omega) (by omega) (by omega) (by omega) (by omega) (by omega)]
    rw [h3] at hc
    exact k3 k hk hc
  · rw [h4] at hc
    exact aa_nb_of (fun q _ => by rw [h6]) (by rw [h5]; exact Int.le_refl _) (fun i _ => by rw [h7]) (k4 b hb hc)
/-- what may be written without a look -/
def aa_mfree : aa_W := [(1, 0, 14), (2, 0, 3), (3, 0, 3), (4, 0, 10), (5, 0, 7), (6, 0, 7), (7, 0, 7), (8, 0, 7), (9, 0, 7), (10, 0, 7), (11, 0, 39), (12, 0, 39), (13, 0, 39), (14, 0, 5), (15, 0, 11), (16, 0, 11), (17, 0, 11), (18, 0, 11), (19, 0, 2), (20, 0, 11), (21, 0, 1), (22, 0, 1), (23, 0, 5), (24, 0, 499), (25, 0, 2), (26, 0, 29), (27, 0, 119), (28, 0, 1), (29, 0, 255), (30, 0, 7), (31, 0, 5), (32, 0, 15), (33, 0, 15), (34, 0, 7), (35, 4, 9), (35, 12, 37), (38, 0, 499), (41, 0, 23), (42, 0, 23), (43, 0, 4), (44, 0, 43), (45, 0, 7), (46, 0, 23), (47, 0, 149), (48, 0, 259), (36, 0, 0), (36, 1, 1), (36, 3, 3), (36, 53, 53), (36, 103, 103), (36, 153, 153)]
theorem aa_mf36 : ∀ w ∈ aa_mfree, w.1 = 36 → (w.2.1 = 0 ∧ w.2.2 = 0) ∨ (w.2.1 = 1 ∧ w.2.2 = 1) ∨ (w.2.1 = 3 ∧ w.2.2 = 3) ∨ (w.2.1 = 53 ∧ w.2.2 = 53) ∨ (w.2.1 = 103 ∧ w.2.2 = 103) ∨ (w.2.1 = 153 ∧ w.2.2 = 153) := by decide
theorem aa_mf35 : ∀ w ∈ aa_mfree, w.1 = 35 → (4 ≤ w.2.1 ∧ w.2.2 ≤ 9) ∨ 12 ≤ w.2.1 := by decide
theorem aa_mfno : ∀ w ∈ aa_mfree, w.1 ≠ 37 ∧ w.1 ≠ 39 ∧ w.1 ≠ 40 ∧ w.1 ≠ 900 := by decide
theorem aa_same_fr {g g' : aa_G} (h : aa_fr aa_mfree g g') : aa_same g g' := by
  have ne : ∀ k j, (∀ w ∈ aa_mfree, w.1 ≠ aa_gc k) → g' k j = g k j := fun k j q => by
    rcases h.1 k j with e | ⟨w, hw, w1, -⟩
    · exact e
    · exact absurd w1 (q w hw)
  have at540 : ∀ j : Nat, j < 4 ∨ (10 ≤ j ∧ j ≤ 11) → g' 540 j = g 540 j := fun j hj => by
    rcases h.1 540 j with e | ⟨w, hw, w1, w2, w3⟩
    · exact e
    · have := aa_mf35 w hw w1
      omega
  refine ⟨fun j j1 j2 j3 j4 j5 j6 => ?_, ?_, at540 1 (by omega), at540 10 (by omega), at540 11 (by omega), ?_, ?_⟩
  · rcases h.1 541 j with e | ⟨w, hw, w1, w2, w3⟩
    · exact e
    · have := aa_mf36 w hw w1
      omega
  · funext j
    exact ne 542 j fun w hw => (aa_mfno w hw).1
  · funext j
    exact ne 544 j fun w hw => (aa_mfno w hw).2.1
  · funext j
    exact ne 545 j fun w hw => (aa_mfno w hw).2.2.1
