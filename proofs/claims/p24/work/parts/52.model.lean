section
/-! WHAT THE MODEL'S ROWS KEEP: points with their dawn ahead of their dusk, codes that can be reckoned, parts -/
def aa_gd (g : aa_G) (p : Nat) : Prop := (g 541 (p + 3)).toInt = -1 → 0 ≤ (g 541 (p + 1)).toInt ∧ (g 541 (p + 1)).toInt < (g 541 (p + 2)).toInt
def aa_pt (g : aa_G) (r : Nat) : Prop := ∀ t i : Nat, t < 4 → i < 12 → (i : Int) < (g 541 (399 * r + 50 * t + 4)).toInt → aa_gd g (399 * r + 50 * t + 4 * i + 5)
/-- the codes of a row's bell -/
def aa_seg (g : aa_G) (r b : Nat) : Prop := 0 ≤ aa_run (fun k => g 541 (399 * r + 259 + k)) ((g 541 (399 * r + 203 + 7 * b + 6)).toInt.toNat - (g 541 (399 * r + 203 + 7 * b + 5)).toInt.toNat) (g 541 (399 * r + 203 + 7 * b + 5)).toInt.toNat 0
def aa_rp (g : aa_G) (r : Nat) : Prop := ∀ b : Nat, b < 8 → (b : Int) < (g 541 (399 * r + 2)).toInt → aa_seg g r b
def aa_pa (g : aa_G) : Prop := (∀ k : Nat, k < 2 → (g 542 k).toInt ≠ 0 → 1 ≤ (g 541 (399 * (1 + k) + 1)).toInt) ∧ (∀ k : Nat, k < 12 → (k : Int) < (g 540 1).toInt → 1 ≤ (g 541 (399 * (3 + k) + 1)).toInt)
/-- a bell that was read -/
def aa_nb (g : aa_G) (b : Nat) : Prop := (0 ≤ (g 544 (7 * b)).toInt ∧ (g 544 (7 * b)).toInt ≤ 1) ∧ (0 ≤ (g 544 (7 * b + 1)).toInt ∧ (g 544 (7 * b + 1)).toInt ≤ 11) ∧ (0 ≤ (g 544 (7 * b + 2)).toInt ∧ (g 544 (7 * b + 2)).toInt ≤ 3599) ∧ (0 ≤ (g 544 (7 * b + 3)).toInt ∧ (g 544 (7 * b + 3)).toInt ≤ 24) ∧ (0 ≤ (g 544 (7 * b + 4)).toInt ∧ (g 544 (7 * b + 4)).toInt ≤ 40) ∧ 0 ≤ (g 544 (7 * b + 5)).toInt ∧ (g 544 (7 * b + 5)).toInt ≤ (g 544 (7 * b + 6)).toInt ∧ (g 544 (7 * b + 6)).toInt ≤ (g 540 11).toInt ∧ 0 ≤ aa_run (g 545) ((g 544 (7 * b + 6)).toInt.toNat - (g 544 (7 * b + 5)).toInt.toNat) (g 544 (7 * b + 5)).toInt.toNat 0
def aa_nw (g : aa_G) : Prop := ∀ b : Nat, b < 8 → (b : Int) < (g 540 10).toInt → aa_nb g b
def aa_Phi (g : aa_G) : Prop := (∀ r : Nat, r < 16 → aa_pt g r ∧ aa_rp g r) ∧ aa_pa g ∧ aa_nw g
theorem aa_run_congr {c c' : Nat → Int32} : ∀ (n k : Nat) (d : Int), (∀ i, i < n → c' (k + i) = c (k + i)) → aa_run c' n k d = aa_run c n k d
  | 0, _, _, _ => rfl
  | n + 1, k, d, h => by
    rw [aa_run, aa_run, show c' k = c k from h 0 (Nat.succ_pos n)]
    refine aa_run_congr n (k + 1) _ fun i hi => ?_
    have := h (i + 1) (by omega)
    rwa [show k + 1 + i = k + (i + 1) by omega]
theorem aa_run_add {c : Nat → Int32} : ∀ (n k : Nat) (d : Int), aa_run c (n + 1) k d = aa_rst (c (k + n)) (aa_run c n k d)
  | 0, _, _ => rfl
  | n + 1, k, d => by
    rw [aa_run, aa_run_add n (k + 1) _, aa_run, show k + 1 + n = k + (n + 1) by omega]
/-- the cells that these speak of are the same -/
def aa_same (g g' : aa_G) : Prop := (∀ j, j ≠ 0 → j ≠ 1 → j ≠ 3 → j ≠ 53 → j ≠ 103 → j ≠ 153 → g' 541 j = g 541 j) ∧ g' 542 = g 542 ∧ g' 540 1 = g 540 1 ∧ g' 540 10 = g 540 10 ∧ g' 540 11 = g 540 11 ∧ g' 544 = g 544 ∧ g' 545 = g 545
theorem aa_pt_of {g g' : aa_G} {r : Nat} (h : ∀ q, 4 ≤ q → q < 203 → q ≠ 53 → q ≠ 103 → q ≠ 153 → g' 541 (399 * r + q) = g 541 (399 * r + q)) (k : aa_pt g r) : aa_pt g' r := fun t i ht hi hc => by
  have e1 := h (50 * t + 4) (by omega) (by omega) (by omega) (by omega) (by omega)
  have e2 := h (50 * t + 4 * i + 6) (by omega) (by omega) (by omega) (by omega) (by omega)
  have e3 := h (50 * t + 4 * i + 7) (by omega) (by omega) (by omega) (by omega) (by omega)
  have e4 := h (50 * t + 4 * i + 8) (by omega) (by omega) (by omega) (by omega) (by omega)
  rw [← Nat.add_assoc] at e1 e2 e3 e4
  rw [← Nat.add_assoc] at e2 e3 e4
  rw [e1] at hc
  have := k t i ht hi hc
  unfold aa_gd at this ⊢
  rwa [show 399 * r + 50 * t + 4 * i + 5 + 3 = 399 * r + 50 * t + 4 * i + 8 by omega, show 399 * r + 50 * t + 4 * i + 5 + 1 = 399 * r + 50 * t + 4 * i + 6 by omega, show 399 * r + 50 * t + 4 * i + 5 + 2 = 399 * r + 50 * t + 4 * i + 7 by omega, e2, e3, e4]
theorem aa_rp_of {g g' : aa_G} {r : Nat} (h2 : g' 541 (399 * r + 2) = g 541 (399 * r + 2)) (h : ∀ q, 203 ≤ q → g' 541 (399 * r + q) = g 541 (399 * r + q)) (k : aa_rp g r) : aa_rp g' r := fun b hb hc => by
  rw [h2] at hc
  have := k b hb hc
  have e1 := h (203 + 7 * b + 5) (by omega)
  have e2 := h (203 + 7 * b + 6) (by omega)
  rw [show 399 * r + (203 + 7 * b + 5) = 399 * r + 203 + 7 * b + 5 by omega] at e1
  rw [show 399 * r + (203 + 7 * b + 6) = 399 * r + 203 + 7 * b + 6 by omega] at e2
  unfold aa_seg at this ⊢
  rw [e1, e2]
  rw [aa_run_congr (c := fun k => g 541 (399 * r + 259 + k))]
  · exact this
  · intro i _
    have := h (259 + ((g 541 (399 * r + 203 + 7 * b + 5)).toInt.toNat + i)) (by omega)
    rwa [show 399 * r + (259 + ((g 541 (399 * r + 203 + 7 * b + 5)).toInt.toNat + i)) = 399 * r + 259 + ((g 541 (399 * r + 203 + 7 * b + 5)).toInt.toNat + i) by omega] at this
theorem aa_nb_of {g g' : aa_G} {b : Nat} (h : ∀ q, q < 7 → g' 544 (7 * b + q) = g 544 (7 * b + q)) (h1 : (g 540 11).toInt ≤ (g' 540 11).toInt) (h2 : ∀ i : Nat, (i : Int) < (g 540 11).toInt → g' 545 i = g 545 i) (k : aa_nb g b) : aa_nb g' b := by
  obtain ⟨k0, k1, k2, k3, k4, k5, k6, k7, k8⟩ := k
  have e0 : g' 544 (7 * b) = g 544 (7 * b) := h 0 (by omega)
  have e1 := h 1 (by omega)
  have e2 := h 2 (by omega)
  have e3 := h 3 (by omega)
  have e4 := h 4 (by omega)
  have e5 := h 5 (by omega)
  have e6 := h 6 (by omega)
  unfold aa_nb
  rw [e0, e1, e2, e3, e4, e5, e6]
  refine ⟨k0, k1, k2, k3, k4, k5, k6, by omega, ?_⟩
  rw [aa_run_congr (c := g 545)]
  · exact k8
  · intro i hi
    exact h2 _ (by omega)
theorem aa_Phi_same {g g' : aa_G} (h : aa_same g g') (k : aa_Phi g) : aa_Phi g' := by
  obtain ⟨h1, h2, h3, h4, h5, h6, h7⟩ := h
  obtain ⟨k1, ⟨k2, k3⟩, k4⟩ := k
  refine ⟨fun r hr => ⟨aa_pt_of (fun q q1 q2 q3 q4 q5 => h1 _ (by omega) (by omega) (by omega) (by omega) (by omega) (by omega)) (k1 r hr).1, aa_rp_of (h1 _ (by omega) (by omega) (by omega) (by omega) (by omega) (by omega)) (fun q q1 => h1 _ (by omega) (by omega) (by omega) (by omega) (by omega) (by omega)) (k1 r hr).2⟩, ⟨fun k hk hc => ?_, fun k hk hc => ?_⟩, fun b hb hc => ?_⟩
  · rw [h1 _ (by omega) (by omega) (by omega) (by omega) (by omega) (by omega)]
    rw [h2] at hc
    exact k2 k hk hc
  · rw [h1 _ (by omega) (by omega) (by omega) (by omega) (by omega) (by omega)]
    rw [h3] at hc
    exact k3 k hk hc
  · rw [h4] at hc
    exact aa_nb_of (fun q _ => by rw [h6]) (by rw [h5]; exact Int.le_refl _) (fun i _ => by rw [h7]) (k4 b hb hc)
/-- what may be written without a look -/
def aa_mfree : aa_W := [(1, 0, 14), (2, 0, 3), (3, 0, 3), (4, 0, 10), (5, 0, 7), (6, 0, 7), (7, 0, 7), (8, 0, 7), (9, 0, 7), (10, 0, 7), (11, 0, 39), (12, 0, 39), (13, 0, 39), (14, 0, 5), (15, 0, 11), (16, 0, 11), (17, 0, 11), (18, 0, 11), (19, 0, 2), (20, 0, 11), (21, 0, 1), (22, 0, 1), (23, 0, 5), (24, 0, 499), (25, 0, 2), (26, 0, 29), (27, 0, 119), (28, 0, 1), (29, 0, 255), (30, 0, 7), (31, 0, 5), (32, 0, 15), (33, 0, 15), (34, 0, 7), (35, 4, 9), (35, 12, 37), (38, 0, 499), (41, 0, 23), (42, 0, 23), (43, 0, 4), (44, 0, 43), (45, 0, 7), (46, 0, 23), (47, 0, 149), (48, 0, 259), (36, 0, 0), (36, 1, 1), (36, 3, 3), (36, 53, 53), (36, 103, 103), (36, 153, 153)]
theorem aa_mf36 : ∀ w ∈ aa_mfree, w.1 = 36 → (w.2.1 = 0 ∧ w.2.2 = 0) ∨ (w.2.1 = 1 ∧ w.2.2 = 1) ∨ (w.2.1 = 3 ∧ w.2.2 = 3) ∨ (w.2.1 = 53 ∧ w.2.2 = 53) ∨ (w.2.1 = 103 ∧ w.2.2 = 103) ∨ (w.2.1 = 153 ∧ w.2.2 = 153) := by decide
theorem aa_mf35 : ∀ w ∈ aa_mfree, w.1 = 35 → (4 ≤ w.2.1 ∧ w.2.2 ≤ 9) ∨ 12 ≤ w.2.1 := by decide
theorem aa_mfno : ∀ w ∈ aa_mfree, w.1 ≠ 37 ∧ w.1 ≠ 39 ∧ w.1 ≠ 40 ∧ w.1 ≠ 900 := by decide
theorem aa_same_fr {g g' : aa_G} (h : aa_fr aa_mfree g g') : aa_same g g' := by
  have ne : ∀ k j, (∀ w ∈ aa_mfree, w.1 ≠ aa_gc k) → g' k j = g k j := fun k j q => by
    rcases h.1 k j with e | ⟨w, hw, w1, -⟩
    · exact e
    · exact absurd w1 (q w hw)
  have at540 : ∀ j : Nat, j < 4 ∨ (10 ≤ j ∧ j ≤ 11) → g' 540 j = g 540 j := fun j hj => by
    rcases h.1 540 j with e | ⟨w, hw, w1, w2, w3⟩
    · exact e
    · have := aa_mf35 w hw w1
      omega
  refine ⟨fun j j1 j2 j3 j4 j5 j6 => ?_, ?_, at540 1 (by omega), at540 10 (by omega), at540 11 (by omega), ?_, ?_⟩
  · rcases h.1 541 j with e | ⟨w, hw, w1, w2, w3⟩
    · exact e
    · have := aa_mf36 w hw w1
      omega
  · funext j
    exact ne 542 j fun w hw => (aa_mfno w hw).1
  · funext j
    exact ne 544 j fun w hw => (aa_mfno w hw).2.1
  · funext j
    exact ne 545 j fun w hw => (aa_mfno w hw).2.2.1
end
section
/-! WHAT ELSE MAY BE WRITTEN: points behind those that count, a count, a bell that is being read -/
def aa_tn (sl : aa_F) : aa_F := ((sl.1 - 4) / 50, (sl.2.filter fun q => decide (q.2 % 50 = 0)).map fun q => (q.1, q.2 / 50))
def aa_hkg (s : aa_S) (p : aa_F) : Bool := (match aa_lk (aa_c 541) (aa_plus p 3) s.2.1 with
  | some f => decide (0 ≤ aa_lo s.1.1 s.1.2 f)
  | none => false) || (match aa_lk (aa_c 541) (aa_plus p 1) s.2.1, aa_lk (aa_c 541) (aa_plus p 2) s.2.1 with
  | some dn, some dk => decide (0 ≤ aa_lo s.1.1 s.1.2 dn) && decide (1 ≤ aa_lo s.1.1 s.1.2 (aa_add dk dn (-1)))
  | _, _ => false)
def aa_hk36 (s : aa_S) (sl f : aa_F) : Bool :=
  aa_wf s.1.1.length (aa_tn sl) && (decide (0 ≤ aa_lo s.1.1 s.1.2 (aa_tn sl)) && (decide (aa_hi s.1.1 s.1.2 (aa_tn sl) ≤ 3) &&
    (if aa_eqf (aa_plus (aa_add sl (aa_scale (aa_tn sl) 50) (-1)) (-5)) (aa_c (-1)) = true then
        (decide (aa_hi s.1.1 s.1.2 f ≤ 0) || (match aa_lk (aa_c 541) (aa_plus (aa_scale (aa_tn sl) 50) 4) s.2.1 with
          | none => false
          | some c => decide (0 ≤ aa_lo s.1.1 s.1.2 (aa_add c f (-1))) || (aa_eqf (aa_add f c (-1)) (aa_c 1) && aa_hkg s (aa_add (aa_plus (aa_scale (aa_tn sl) 50) 5) c 4))))
      else (match aa_lk (aa_c 541) (aa_plus (aa_scale (aa_tn sl) 50) 4) s.2.1 with
        | none => false
        | some c => decide (0 ≤ aa_lo s.1.1 s.1.2 (aa_add (aa_plus (aa_add sl (aa_scale (aa_tn sl) 50) (-1)) (-5)) c (-4))) && (decide (0 ≤ aa_lo s.1.1 s.1.2 c) && decide (aa_hi s.1.1 s.1.2 (aa_plus (aa_add sl (aa_scale (aa_tn sl) 50) (-1)) (-5)) ≤ 47))))))
def aa_hk39 (s : aa_S) (sl : aa_F) : Bool := match aa_lk (aa_c 540) (aa_c 10) s.2.1 with
  | some nb => decide (0 ≤ aa_lo s.1.1 s.1.2 (aa_add sl nb (-7)))
  | none => false
def aa_hkin (s : aa_S) (nb : aa_F) (q lo hi : Int) : Bool := match aa_lk (aa_c 544) (aa_plus (aa_scale nb 7) q) s.2.1 with
  | some f => decide (lo ≤ aa_lo s.1.1 s.1.2 f) && decide (aa_hi s.1.1 s.1.2 f ≤ hi)
  | none => false
def aa_hk10 (s : aa_S) (f : aa_F) : Bool := decide (aa_hi s.1.1 s.1.2 f ≤ 0) || (match aa_lk (aa_c 540) (aa_c 10) s.2.1, aa_lk (aa_c 540) (aa_c 11) s.2.1 with
  | some nb, some cc => aa_eqf (aa_add f nb (-1)) (aa_c 1) && (decide (0 ≤ aa_lo s.1.1 s.1.2 nb) && (aa_hkin s nb 0 0 1 && (aa_hkin s nb 1 0 11 && (aa_hkin s nb 2 0 3599 && (aa_hkin s nb 3 0 24 && (aa_hkin s nb 4 0 40 &&
      (match aa_lk (aa_c 544) (aa_plus (aa_scale nb 7) 5) s.2.1, aa_lk (aa_c 544) (aa_plus (aa_scale nb 7) 6) s.2.1 with
        | some a, some e => aa_eqf e cc && (decide (0 ≤ aa_lo s.1.1 s.1.2 a) && (aa_eqf a cc || (decide (0 ≤ aa_lo s.1.1 s.1.2 (aa_add cc a (-1))) && (match aa_lk (aa_c 600) (aa_c 0) s.2.1 with
          | some d => decide (0 ≤ aa_lo s.1.1 s.1.2 d)
          | none => false))))
        | _, _ => false)))))))
  | _, _ => false)
def aa_hk11 (s : aa_S) : Bool := match aa_lk (aa_c 540) (aa_c 10) s.2.1 with
  | some nb => decide (aa_hi s.1.1 s.1.2 nb ≤ 0)
  | none => false
def aa_hook : aa_Hk := fun s r sl f =>
  let gr := aa_gp s.1.1 r
  if Nat.beq gr 36 = true then aa_hk36 s sl f else if Nat.beq gr 39 = true then aa_hk39 s sl else if Nat.beq gr 35 = true then (if aa_eqf sl (aa_c 10) = true then aa_hk10 s f else if aa_eqf sl (aa_c 11) = true then aa_hk11 s else false) else false
theorem aa_only {k : Nat} : (aa_gc k = 35 → k = 540) ∧ (aa_gc k = 36 → k = 541) := by
  have h2 : (List.range 554).all (fun k => (!(Nat.beq (aa_gc k) 35) || Nat.beq k 540) && (!(Nat.beq (aa_gc k) 36) || Nat.beq k 541)) = true := by decide +kernel
  constructor
  · intro h
    have h1 := (aa_fit_at (k := k) (by rw [h]; exact Nat.succ_ne_zero _)).1
    have h3 := List.all_eq_true.mp h2 k (List.mem_range.mpr (Nat.lt_succ_of_le h1))
    rw [h, Bool.and_eq_true] at h3
    exact Nat.eq_of_beq_eq_true h3.1
  · intro h
    have h1 := (aa_fit_at (k := k) (by rw [h]; exact Nat.succ_ne_zero _)).1
    have h3 := List.all_eq_true.mp h2 k (List.mem_range.mpr (Nat.lt_succ_of_le h1))
    rw [h, Bool.and_eq_true] at h3
    exact Nat.eq_of_beq_eq_true h3.2
/-- what a known cell holds -/
theorem aa_known {s : aa_S} {ν : List Int} {g : aa_G} (h : aa_vh s.2.1 ν g) {k : Int} {sl f : aa_F} (hl : aa_lk (aa_c k) sl s.2.1 = some f) {y : Int} (hy : aa_ev ν sl = some y) (hk : aa_gc k.toNat ≠ 0) : 0 ≤ y ∧ aa_ev ν f = some (g k.toNat y.toNat).toInt := by
  obtain ⟨a, b, x, e1, e2, e3, e4⟩ := h _ (aa_lk_ok hl)
  have e1 : aa_ev ν (aa_c k) = some (a : Int) := e1
  have e2 : aa_ev ν sl = some (b : Int) := e2
  have e3 : aa_ev ν f = some x := e3
  rw [aa_c_ev] at e1
  rw [hy] at e2
  have h1 := Option.some.inj e1
  have h2 := Option.some.inj e2
  have ha : k.toNat = a := by omega
  have hb : y.toNat = b := by omega
  rw [ha] at hk ⊢
  rw [hb, e3, ← e4, aa_rd_of hk]
  exact ⟨by omega, rfl⟩
theorem aa_Phi36 {g : aa_G} (h : aa_Phi g) {j : Nat} {v : Int32} (hj : j < 203) (hj2 : 3 ≤ j) (hp : aa_pt (zz_w g 541 j v) 0) : aa_Phi (zz_w g 541 j v) := by
  obtain ⟨k1, ⟨k2, k3⟩, k4⟩ := h
  have far : ∀ q, q ≠ j → zz_w g 541 j v 541 q = g 541 q := fun q hq => aa_w_ne _ _ fun e => hq e.2
  have oth : ∀ k, k ≠ 541 → zz_w g 541 j v k = g k := fun k hk => zz_w_other _ _ _ hk
  refine ⟨fun r hr => ⟨?_, ?_⟩, ⟨fun k hk hc => ?_, fun k hk hc => ?_⟩, fun b hb hc => ?_⟩
  · by_cases h0 : r = 0
    · subst h0
      exact hp
    · exact aa_pt_of (fun q _ _ _ _ _ => far _ (by omega)) (k1 r hr).1
  · by_cases h0 : r = 0
    · subst h0
      exact aa_rp_of (far _ (by omega)) (fun q q1 => far _ (by omega)) (k1 0 hr).2
    · exact aa_rp_of (far _ (by omega)) (fun q q1 => far _ (by omega)) (k1 r hr).2
  · rw [far _ (by omega)]
    rw [oth 542 (by decide)] at hc
    exact k2 k hk hc
  · rw [far _ (by omega)]
    rw [oth 540 (by decide)] at hc
    exact k3 k hk hc
  · rw [oth 540 (by decide)] at hc
    exact aa_nb_of (fun q _ => by rw [oth 544 (by decide)]) (by rw [oth 540 (by decide)]; exact Int.le_refl _) (fun i _ => by rw [oth 545 (by decide)]) (k4 b hb hc)
theorem aa_hk36_ok {s : aa_S} {ν : List Int} {g : aa_G} {sl f : aa_F} {j : Nat} {v : Int32} (hb : aa_vb s.1.1 ν) (hc : aa_vc s.1.2 ν) (hh : aa_vh s.2.1 ν g) (hφ : aa_Phi g) (hs : aa_ev ν sl = some (j : Int)) (hf : aa_ev ν f = some v.toInt) (h : aa_hk36 s sl f = true) : aa_Phi (zz_w g 541 j v) := by
  unfold aa_hk36 at h
  simp only [Bool.and_eq_true, decide_eq_true_eq] at h
  obtain ⟨h1, h2, h3, h4⟩ := h
  rw [← hb.1] at h1
  obtain ⟨y, hy⟩ := aa_wf_ok h1
  have y1 := aa_lo_ok hb hc hy
  have y2 := aa_hi_ok hb hc hy
  have hr := aa_plus_ev (n := -5) (aa_add_ev (k := -1) hs (aa_scale_ev (k := 50) hy))
  have hcs := aa_plus_ev (n := 4) (aa_scale_ev (k := 50) hy)
  have hp0 := (hφ.1 0 (by omega)).1
  have far : ∀ q, q ≠ j → zz_w g 541 j v 541 q = g 541 q := fun q hq => aa_w_ne _ _ fun e => hq e.2
  obtain ⟨t, rfl⟩ : ∃ t : Nat, y = (t : Int) := ⟨y.toNat, by omega⟩
  have ht : t < 4 := by omega
  split at h4
  · rename_i hz
    have hz := aa_eqf_ok hz
    rw [hz, aa_c_ev] at hr
    have hj : j = 50 * t + 4 := by
      have := Option.some.inj hr
      omega
    have cell : ∀ {c : aa_F}, aa_lk (aa_c 541) (aa_plus (aa_scale (aa_tn sl) 50) 4) s.2.1 = some c → aa_ev ν c = some (g 541 (50 * t + 4)).toInt := fun hl => by
      have := (aa_known hh hl hcs (by exact Nat.succ_ne_zero _)).2
      rwa [show (50 * (t : Int) + 4).toNat = 50 * t + 4 by omega] at this
    -- a count that is not above what was good
    have key : (∀ i : Nat, i < 12 → (i : Int) < v.toInt → aa_gd g (50 * t + 4 * i + 5)) → aa_Phi (zz_w g 541 j v) := fun hgood => by
      refine aa_Phi36 hφ (by omega) (by omega) fun t' i ht' hi' hcnt => ?_
      have e2 := far (399 * 0 + 50 * t' + 4 * i + 5 + 3) (by omega)
      have e3 := far (399 * 0 + 50 * t' + 4 * i + 5 + 1) (by omega)
      have e4 := far (399 * 0 + 50 * t' + 4 * i + 5 + 2) (by omega)
      unfold aa_gd
      rw [e2, e3, e4]
      by_cases htt : t' = t
      · subst htt
        rw [show 399 * 0 + 50 * t' + 4 = j by omega, aa_w_at] at hcnt
        have := hgood i hi' hcnt
        unfold aa_gd at this
        rwa [show 50 * t' + 4 * i + 5 = 399 * 0 + 50 * t' + 4 * i + 5 by omega] at this
      · rw [far _ (by omega)] at hcnt
        exact hp0 t' i ht' hi' hcnt
    have old : ∀ i : Nat, i < 12 → (i : Int) < (g 541 (50 * t + 4)).toInt → aa_gd g (50 * t + 4 * i + 5) := fun i hi hi2 => by
      have := hp0 t i ht hi (by rw [show 399 * 0 + 50 * t + 4 = 50 * t + 4 by omega]; exact hi2)
      rwa [show 399 * 0 + 50 * t + 4 * i + 5 = 50 * t + 4 * i + 5 by omega] at this
    rw [Bool.or_eq_true] at h4
    rcases h4 with h4 | h4
    · have h4 := of_decide_eq_true h4
      have := aa_hi_ok hb hc hf
      exact key fun i _ hi => by omega
    · split at h4
      · cases h4
      · rename_i c hl
        have hcv := cell hl
        rw [Bool.or_eq_true] at h4
        rcases h4 with h4 | h4
        · have h4 := of_decide_eq_true h4
          have := aa_lo_ok hb hc (aa_add_ev (k := -1) hcv hf)
          exact key fun i hi hi2 => old i hi (by omega)
        · rw [Bool.and_eq_true] at h4
          have hz2 := aa_eqf_ok h4.1
          have e5 := aa_add_ev (k := -1) hf hcv
          rw [hz2, aa_c_ev] at e5
          have hv : v.toInt = (g 541 (50 * t + 4)).toInt + 1 := by
            have := Option.some.inj e5
            omega
          refine key fun i hi hi2 => ?_
          by_cases hic : (i : Int) < (g 541 (50 * t + 4)).toInt
          · exact old i hi hic
          · have hie : (g 541 (50 * t + 4)).toInt = (i : Int) := by omega
            rw [hie] at hcv
            have hp := aa_add_ev (k := 4) (aa_plus_ev (n := 5) (aa_scale_ev (k := 50) hy)) hcv
            have rd : ∀ (m : Nat) {f' : aa_F}, aa_lk (aa_c 541) (aa_plus (aa_add (aa_plus (aa_scale (aa_tn sl) 50) 5) c 4) m) s.2.1 = some f' → aa_ev ν f' = some (g 541 (50 * t + 4 * i + 5 + m)).toInt := fun m f' hl' => by
              have := (aa_known hh hl' (aa_plus_ev (n := (m : Int)) hp) (by exact Nat.succ_ne_zero _)).2
              rwa [show (50 * (t : Int) + 5 + 4 * (i : Int) + (m : Int)).toNat = 50 * t + 4 * i + 5 + m by omega] at this
            have hg := h4.2
            unfold aa_hkg at hg
            rw [Bool.or_eq_true] at hg
            unfold aa_gd
            rcases hg with hg | hg
            · split at hg
              · rename_i f' hl'
                have b1 := aa_lo_ok hb hc (rd 3 hl')
                have b2 := of_decide_eq_true hg
                intro hm
                omega
              · cases hg
            · split at hg
              · rename_i dn dk hdn hdk
                rw [Bool.and_eq_true, decide_eq_true_eq, decide_eq_true_eq] at hg
                have b1 := aa_lo_ok hb hc (rd 1 hdn)
                have b2 := aa_lo_ok hb hc (aa_add_ev (k := -1) (rd 2 hdk) (rd 1 hdn))
                intro _
                omega
              · cases hg
  · split at h4
    · cases h4
    · rename_i c hl
      simp only [Bool.and_eq_true, decide_eq_true_eq] at h4
      obtain ⟨h5, h6, h7⟩ := h4
      have hcv := (aa_known hh hl hcs (by exact Nat.succ_ne_zero _)).2
      rw [show (50 * (t : Int) + 4).toNat = 50 * t + 4 by omega] at hcv
      have hcv : aa_ev ν c = some (g 541 (50 * t + 4)).toInt := hcv
      have b1 := aa_lo_ok hb hc hcv
      have b2 := aa_lo_ok hb hc (aa_add_ev (k := -4) hr hcv)
      have b3 := aa_hi_ok hb hc hr
      refine aa_Phi36 hφ (by omega) (by omega) fun t' i ht' hi' hcnt => ?_
      have e1 := far (399 * 0 + 50 * t' + 4) (by omega)
      rw [e1] at hcnt
      have hi2 : t' = t → (i : Int) < (g 541 (50 * t + 4)).toInt := fun e => by
        subst e
        rwa [show 399 * 0 + 50 * t' + 4 = 50 * t' + 4 by omega] at hcnt
      have e2 := far (399 * 0 + 50 * t' + 4 * i + 5 + 3) (by omega)
      have e3 := far (399 * 0 + 50 * t' + 4 * i + 5 + 1) (by omega)
      have e4 := far (399 * 0 + 50 * t' + 4 * i + 5 + 2) (by omega)
      unfold aa_gd
      rw [e2, e3, e4]
      exact hp0 t' i ht' hi' hcnt
theorem aa_hk39_ok {s : aa_S} {ν : List Int} {g : aa_G} {sl : aa_F} {j : Nat} {v : Int32} (hb : aa_vb s.1.1 ν) (hc : aa_vc s.1.2 ν) (hh : aa_vh s.2.1 ν g) (hφ : aa_Phi g) (hs : aa_ev ν sl = some (j : Int)) (h : aa_hk39 s sl = true) : aa_Phi (zz_w g 544 j v) := by
  unfold aa_hk39 at h
  split at h
  · rename_i nb hl
    have h := of_decide_eq_true h
    have hn := (aa_known hh hl aa_c_ev (by exact Nat.succ_ne_zero _)).2
    have hn : aa_ev ν nb = some (g 540 10).toInt := hn
    have b1 := aa_lo_ok hb hc (aa_add_ev (k := -7) hs hn)
    obtain ⟨k1, ⟨k2, k3⟩, k4⟩ := hφ
    have oth : ∀ k, k ≠ 544 → zz_w g 544 j v k = g k := fun k hk => zz_w_other _ _ _ hk
    have o1 := oth 541 (by decide)
    have o2 := oth 542 (by decide)
    have o3 := oth 540 (by decide)
    have o4 := oth 545 (by decide)
    refine ⟨fun r hr => ⟨aa_pt_of (fun q _ _ _ _ _ => by rw [o1]) (k1 r hr).1, aa_rp_of (by rw [o1]) (fun q _ => by rw [o1]) (k1 r hr).2⟩, ⟨fun k hk hc => ?_, fun k hk hc => ?_⟩, fun b hb hc => ?_⟩
    · rw [o1]
      rw [o2] at hc
      exact k2 k hk hc
    · rw [o1]
      rw [o3] at hc
      exact k3 k hk hc
    · rw [o3] at hc
      exact aa_nb_of (fun q hq => aa_w_ne _ _ fun e => by have := e.2; omega) (by rw [o3]; exact Int.le_refl _) (fun i _ => by rw [o4]) (k4 b hb hc)
  · cases h
/-- only the model's own numbers change -/
theorem aa_Phi35 {g : aa_G} (h : aa_Phi g) {j : Nat} {v : Int32} (hj : j ≠ 1) (hn : aa_nw (zz_w g 540 j v)) : aa_Phi (zz_w g 540 j v) := by
  obtain ⟨k1, ⟨k2, k3⟩, k4⟩ := h
  have oth : ∀ k, k ≠ 540 → zz_w g 540 j v k = g k := fun k hk => zz_w_other _ _ _ hk
  have o1 := oth 541 (by decide)
  have o2 := oth 542 (by decide)
  refine ⟨fun r hr => ⟨aa_pt_of (fun q _ _ _ _ _ => by rw [o1]) (k1 r hr).1, aa_rp_of (by rw [o1]) (fun q _ => by rw [o1]) (k1 r hr).2⟩, ⟨fun k hk hc => ?_, fun k hk hc => ?_⟩, hn⟩
  · rw [o1]
    rw [o2] at hc
    exact k2 k hk hc
  · rw [o1]
    rw [aa_w_ne _ _ fun e => hj e.2.symm] at hc
    exact k3 k hk hc
theorem aa_hk11_ok {s : aa_S} {ν : List Int} {g : aa_G} {v : Int32} (hb : aa_vb s.1.1 ν) (hc : aa_vc s.1.2 ν) (hh : aa_vh s.2.1 ν g) (hφ : aa_Phi g) (h : aa_hk11 s = true) : aa_Phi (zz_w g 540 11 v) := by
  unfold aa_hk11 at h
  split at h
  · rename_i nb hl
    have h := of_decide_eq_true h
    have hn := (aa_known hh hl aa_c_ev (by exact Nat.succ_ne_zero _)).2
    have hn : aa_ev ν nb = some (g 540 10).toInt := hn
    have b1 := aa_hi_ok hb hc hn
    refine aa_Phi35 hφ (by decide) fun b _ hcnt => ?_
    rw [aa_w_ne _ _ (fun e => by have := e.2; omega)] at hcnt
    omega
  · cases h
theorem aa_hk10_ok {s : aa_S} {ν : List Int} {g : aa_G} {f : aa_F} {v : Int32} (hb : aa_vb s.1.1 ν) (hc : aa_vc s.1.2 ν) (hh : aa_vh s.2.1 ν g) (hφ : aa_Phi g) (hf : aa_ev ν f = some v.toInt) (h : aa_hk10 s f = true) : aa_Phi (zz_w g 540 10 v) := by
  unfold aa_hk10 at h
  rw [Bool.or_eq_true] at h
  rcases h with h | h
  · have h := of_decide_eq_true h
    have b1 := aa_hi_ok hb hc hf
    refine aa_Phi35 hφ (by decide) fun b _ hcnt => ?_
    rw [aa_w_at] at hcnt
    omega
  · split at h
    · rename_i nb cc hnb hcc
      simp only [Bool.and_eq_true, decide_eq_true_eq] at h
      obtain ⟨h1, h2, h3, h4, h5, h6, h7, h8⟩ := h
      have hn := (aa_known hh hnb aa_c_ev (by exact Nat.succ_ne_zero _)).2
      have hn : aa_ev ν nb = some (g 540 10).toInt := hn
      have hm := (aa_known hh hcc aa_c_ev (by exact Nat.succ_ne_zero _)).2
      have hm : aa_ev ν cc = some (g 540 11).toInt := hm
      have n0 := aa_lo_ok hb hc hn
      have hz := aa_eqf_ok h1
      have e5 := aa_add_ev (k := -1) hf hn
      rw [hz, aa_c_ev] at e5
      have e5 := Option.some.inj e5
      obtain ⟨n, hnn⟩ : ∃ n : Nat, (g 540 10).toInt = (n : Int) := ⟨(g 540 10).toInt.toNat, by omega⟩
      have rd : ∀ (q : Nat) {f' : aa_F}, aa_lk (aa_c 544) (aa_plus (aa_scale nb 7) q) s.2.1 = some f' → aa_ev ν f' = some (g 544 (7 * n + q)).toInt := fun q f' hl => by
        have := (aa_known hh hl (aa_plus_ev (n := (q : Int)) (aa_scale_ev (k := 7) hn)) (by exact Nat.succ_ne_zero _)).2
        rw [hnn] at this
        rwa [show (7 * (n : Int) + (q : Int)).toNat = 7 * n + q by omega] at this
      have inn : ∀ (q : Nat) (lo hi : Int), aa_hkin s nb q lo hi = true → lo ≤ (g 544 (7 * n + q)).toInt ∧ (g 544 (7 * n + q)).toInt ≤ hi := fun q lo hi hq => by
        unfold aa_hkin at hq
        split at hq
        · rename_i f' hl
          rw [Bool.and_eq_true, decide_eq_true_eq, decide_eq_true_eq] at hq
          have c1 := aa_lo_ok hb hc (rd q hl)
          have c2 := aa_hi_ok hb hc (rd q hl)
          omega
        · cases hq
      refine aa_Phi35 hφ (by decide) fun b hb' hcnt => ?_
      rw [aa_w_at] at hcnt
      have keep : ∀ {b}, aa_nb g b → aa_nb (zz_w g 540 10 v) b := fun k => aa_nb_of (fun q _ => by rw [zz_w_other _ _ _ (by decide)]) (by rw [aa_w_ne _ _ (fun e => by have := e.2; omega)]; exact Int.le_refl _) (fun i _ => by rw [zz_w_other _ _ _ (by decide)]) k
      by_cases hbn : b = n
      · subst hbn
        refine keep ⟨inn 0 0 1 h3, inn 1 0 11 h4, inn 2 0 3599 h5, inn 3 0 24 h6, inn 4 0 40 h7, ?_⟩
        split at h8
        · rename_i a e ha he
          simp only [Bool.and_eq_true, Bool.or_eq_true, decide_eq_true_eq] at h8
          obtain ⟨z1, z2, z3⟩ := h8
          have z1 := aa_eqf_ok z1
          subst z1
          have ra := rd 5 ha
          have re := rd 6 he
          rw [hm] at re
          have re := Option.some.inj re
          have a0 := aa_lo_ok hb hc ra
          rcases z3 with z3 | ⟨z3, z4⟩
          · have z3 := aa_eqf_ok z3
            subst z3
            rw [hm] at ra
            have ra := Option.some.inj ra
            refine ⟨by omega, by omega, by omega, ?_⟩
            rw [← re, ← ra, Nat.sub_self]
            exact Int.le_refl 0
          · have b3 := aa_lo_ok hb hc (aa_add_ev (k := -1) hm ra)
            refine ⟨by omega, by omega, by omega, ?_⟩
            split at z4
            · rename_i d hd
              have z4 := of_decide_eq_true z4
              obtain ⟨a1, b1, x, e1, e2, e3, e4⟩ := hh _ (aa_lk_ok hd)
              have e1 : aa_ev ν (aa_c 600) = some (a1 : Int) := e1
              have e3 : aa_ev ν d = some x := e3
              rw [aa_c_ev] at e1
              have ha1 : a1 = 600 := by have := Option.some.inj e1; omega
              subst ha1
              have e4 : aa_dep g = x := e4
              have c1 := aa_lo_ok hb hc e3
              have hbeg : aa_beg g = (g 544 (7 * b + 5)).toInt.toNat := by
                unfold aa_beg
                rw [hnn]
                rfl
              unfold aa_dep at e4
              rw [hbeg] at e4
              split at e4
              · omega
              · rw [← re, e4]
                omega
            · cases z4
        · cases h8
      · exact keep (hφ.2.2 b hb' (by omega))
    · cases h
theorem aa_model_good : aa_good aa_Phi aa_mfree aa_hook := by
  refine ⟨fun g g' h hf => aa_Phi_same (aa_same_fr hf) h, ?_⟩
  intro s ν g lv st r sl f k j v h hi hφ hr hs hf hg hk
  unfold aa_hook at hk
  dsimp only at hk
  rw [← hg] at hk
  split at hk
  · rename_i h36
    have e := aa_only.2 (Nat.eq_of_beq_eq_true h36)
    subst e
    exact aa_hk36_ok h.1 h.2.1 h.2.2.1 hφ hs hf hk
  · split at hk
    · rename_i h39
      have e := aa_gc39 (Nat.eq_of_beq_eq_true h39)
      subst e
      exact aa_hk39_ok h.1 h.2.1 h.2.2.1 hφ hs hk
    · split at hk
      · rename_i h35
        have e := aa_only.1 (Nat.eq_of_beq_eq_true h35)
        subst e
        split at hk
        · rename_i hz
          have hz := aa_eqf_ok hz
          rw [hz, aa_c_ev] at hs
          have e : j = 10 := by have := Option.some.inj hs; omega
          subst e
          exact aa_hk10_ok h.1 h.2.1 h.2.2.1 hφ hf hk
        · split at hk
          · rename_i hz
            have hz := aa_eqf_ok hz
            rw [hz, aa_c_ev] at hs
            have e : j = 11 := by have := Option.some.inj hs; omega
            subst e
            exact aa_hk11_ok h.1 h.2.1 h.2.2.1 hφ hk
          · cases hk
      · cases hk
end
section
/-! THE CONTRACTS OF THE MODEL (written by wip/an/gen52.py) -/
/-- UnequalHoursModel.undo -/
def aa_m0 : aa_K := ((151, 0, [(35, 1, 1), (36, 0, 398)]), (((([], []), ([], [(3, (540, []))])), []), ([((([], []), ([], [(1, (-1, []))])), []), ((([(0, 11, 0)], []), ([], [(1, (0, [(0, 1)]))])), [(0, 0)])], [])))
/-- UnequalHoursModel.keep -/
def aa_m1 : aa_K := ((153, 1, [(37, 0, 1), (36, 399, 1196)]), (((([(-2147483648, 2147483647, 0)], []), ([], [(3, (540, [])), (1, (0, [(0, 1)]))])), [(0, 1)]), ([((([(-2147483648, 2147483647, 0)], []), ([], [(1, (0, []))])), []), ((([(-2147483648, 2147483647, 0)], [(0, [(0, 1)]), (1, [(0, -1)])]), ([], [(1, (1, []))])), [])], [])))
/-- UnequalHoursModel.restore -/
def aa_m2 : aa_K := ((155, 1, [(35, 1, 1), (36, 1197, 5984), (36, 0, 398)]), (((([(-2147483648, 2147483647, 0)], []), ([], [(3, (540, [])), (1, (0, [(0, 1)]))])), [(0, 1)]), ([((([(-2147483648, 2147483647, 0)], []), ([], [(1, (0, []))])), []), ((([(-2147483648, 2147483647, 0)], []), ([], [(1, (1, []))])), [])], [])))
/-- UnequalHoursModel.copyRow -/
def aa_m3 : aa_K := ((152, 0, [(36, 5985, 6383)]), (((([], []), ([], [(3, (540, [])), (1, (0, [])), (1, (15, []))])), []), ([((([(1, 3600, 0)], []), ([(((541, []), (5986, [])), (0, [(0, 1)]))], [])), [(1, 0)])], [])))
/-- UnequalHoursModel.here -/
def aa_m4 : aa_K := ((167, 2, []), (((([(0, 500, 0), (0, 500, 0)], []), ([(((540, []), (5, [])), (0, [(0, 1)])), (((540, []), (4, [])), (0, [(1, 1)]))], [(3, (540, []))])), []), ([((([(0, 500, 0), (0, 500, 0)], [(0, [(0, 1), (1, -1)])]), ([], [(1, (-1, []))])), []), ((([(0, 500, 0), (0, 500, 0), (0, 255, 0)], [(-1, [(0, -1), (1, 1)])]), ([(((601, []), (0, [(0, 1)])), (0, [(2, 1)]))], [(1, (0, [(2, 1)]))])), [(0, 0)])], [])))
/-- UnequalHoursModel.deedOf -/
def aa_m5 : aa_K := ((157, 1, [(35, 1, 1), (36, 1197, 5984)]), (((([(1, 3600, 0)], []), ([(((541, []), (5986, [])), (0, [(0, 1)]))], [(3, (540, [])), (1, (15, []))])), []), ([((([(1, 3600, 0)], []), ([], [])), [])], [])))
/-- UnequalHoursModel.copyRow -/
def aa_m6 : aa_K := ((152, 1, [(36, 0, 398)]), (((([(1, 3600, 0)], []), ([(((541, []), (5986, [])), (0, [(0, 1)]))], [(3, (540, [])), (1, (15, [])), (1, (0, []))])), []), ([((([(1, 3600, 0)], []), ([], [])), [])], [])))
/-- UnequalHoursModel.does -/
def aa_m7 : aa_K := ((188, 3, [(35, 11, 11), (40, 0, 139), (900, 0, 0)]), (((([(0, 100004, 0), (0, 139, 0), (0, 43, 0)], []), ([(((540, []), (11, [])), (0, [(1, 1)])), (((600, []), (0, [])), (0, [(2, 1)]))], [(3, (540, [])), (1, (0, [(0, 1)]))])), [(0, 1)]), ([((([(0, 100004, 0), (0, 139, 0), (0, 43, 0)], []), ([(((540, []), (11, [])), (1, [(1, 1)])), (((600, []), (0, [])), (1, [(2, 1)]))], [])), [])], [])))
/-- UnequalHoursModel.does -/
def aa_m8 : aa_K := ((188, 3, [(35, 11, 11), (40, 0, 139), (900, 0, 0)]), (((([(200000, 200255, 0), (0, 139, 0), (2, 44, 0)], []), ([(((540, []), (11, [])), (0, [(1, 1)])), (((600, []), (0, [])), (0, [(2, 1)]))], [(3, (540, [])), (1, (0, [(0, 1)]))])), [(0, 1)]), ([((([(200000, 200255, 0), (0, 139, 0), (2, 44, 0)], []), ([(((540, []), (11, [])), (1, [(1, 1)])), (((600, []), (0, [])), (-1, [(2, 1)]))], [])), [])], [])))
/-- UnequalHoursModel.layBetween -/
def aa_m9 : aa_K := ((196, 6, [(35, 13, 15)]), (((([(0, 3, 0), (0, 11, 0), (0, 11, 0), (0, 359, 0), (0, 359, 0), (0, 12, 0)], [(-1, [(1, -1), (5, 1)]), (-1, [(2, -1), (5, 1)])]), ([(((541, []), (4, [(0, 50)])), (0, [(5, 1)]))], [(3, (540, [])), (1, (5, [(0, 50), (1, 4)])), (1, (5, [(0, 50), (2, 4)])), (1, (0, [(3, 1)])), (1, (0, [(4, 1)]))])), [(2, 1), (3, 1), (3, 2), (0, 3), (0, 4)]), ([((([(0, 3, 0), (0, 11, 0), (0, 11, 0), (0, 359, 0), (0, 359, 0), (0, 12, 0), (0, 1, 0)], []), ([(((540, []), (13, [])), (0, [(6, 1)]))], [(1, (0, []))])), [(1, 0)]), ((([(0, 3, 0), (0, 11, 0), (0, 11, 0), (0, 359, 0), (0, 359, 0), (0, 12, 0), (0, 86398, 0), (1, 86399, 0)], [(-1, [(6, -1), (7, 1)])]), ([(((540, []), (13, [])), (-1, [])), (((540, []), (14, [])), (0, [(6, 1)])), (((540, []), (15, [])), (0, [(7, 1)]))], [(1, (1, []))])), [(1, 1), (1, 2)])], [])))
/-- UnequalHoursModel.holds -/
def aa_m10 : aa_K := ((214, 2, [(44, 0, 43)]), (((([(0, 7, 0), (0, 8, 0)], [(-1, [(0, -1), (1, 1)])]), ([(((541, []), (2, [])), (0, [(1, 1)]))], [(3, (540, [])), (1, (203, [(0, 7)]))])), [(5, 1)]), ([((([(0, 7, 0), (0, 8, 0)], []), ([], [(1, (0, []))])), []), ((([(0, 7, 0), (0, 8, 0)], []), ([], [(1, (1, []))])), [])], [])))
/-- UnequalHoursModel.deedOf -/
def aa_m11 : aa_K := ((157, 0, [(35, 1, 1), (36, 1197, 5984)]), (((([], []), ([], [(3, (540, [])), (1, (0, []))])), []), ([((([], []), ([], [])), [])], [])))
/-- UnequalHoursModel.set -/
def aa_m12 : aa_K := ((257, 4, [(35, 1, 1), (36, 1197, 5984), (36, 0, 398)]), (((([(-2147483648, 2147483647, 0), (-2147483648, 2147483647, 0), (-2147483648, 2147483647, 0), (-2147483648, 2147483647, 0)], []), ([], [(3, (540, [])), (1, (0, [(0, 1)])), (1, (0, [(1, 1)])), (1, (0, [(2, 1)])), (1, (0, [(3, 1)]))])), [(0, 1), (0, 2), (0, 3), (0, 4)]), ([((([(-2147483648, 2147483647, 0), (-2147483648, 2147483647, 0), (-2147483648, 2147483647, 0), (-2147483648, 2147483647, 0), (-1, 12, 0)], []), ([], [(1, (0, [(4, 1)]))])), [(0, 0)])], [])))
/-- UnequalHoursModel.remove -/
def aa_m13 : aa_K := ((259, 2, [(35, 1, 1), (36, 1197, 5984), (36, 0, 398)]), (((([(-2147483648, 2147483647, 0), (-2147483648, 2147483647, 0)], []), ([], [(3, (540, [])), (1, (0, [(0, 1)])), (1, (0, [(1, 1)]))])), [(0, 1), (0, 2)]), ([((([(-2147483648, 2147483647, 0), (-2147483648, 2147483647, 0), (-1, 12, 0)], []), ([], [(1, (0, [(2, 1)]))])), [(0, 0)])], [])))
/-- UnequalHoursModel.four -/
def aa_m14 : aa_K := ((159, 2, [(38, 0, 499), (35, 4, 4)]), (((([(-2147483648, 2147483647, 0), (0, 496, 0)], []), ([(((540, []), (4, [])), (0, [(1, 1)]))], [(3, (540, [])), (1, (0, [(0, 1)]))])), [(0, 1)]), ([((([(-2147483648, 2147483647, 0), (0, 496, 0)], []), ([(((540, []), (4, [])), (4, [(1, 1)]))], [])), [])], [])))
/-- UnequalHoursModel.feed -/
def aa_m15 : aa_K := ((158, 5, [(38, 0, 499), (35, 4, 4)]), (((([(-2147483648, 2147483647, 0), (-2147483648, 2147483647, 0), (-2147483648, 2147483647, 0), (-2147483648, 2147483647, 0), (-2147483648, 2147483647, 0)], []), ([], [(3, (540, [])), (1, (0, [(0, 1)])), (1, (0, [(1, 1)])), (1, (0, [(2, 1)])), (1, (0, [(3, 1)])), (1, (0, [(4, 1)]))])), [(0, 1), (0, 2), (0, 3), (0, 4), (0, 5)]), ([((([(-2147483648, 2147483647, 0), (-2147483648, 2147483647, 0), (-2147483648, 2147483647, 0), (-2147483648, 2147483647, 0), (-2147483648, 2147483647, 0), (481, 500, 0)], []), ([(((540, []), (4, [])), (0, [(5, 1)]))], [(1, (-1, []))])), [(1, 0)]), ((([(-2147483648, 2147483647, 0), (-2147483648, 2147483647, 0), (-2147483648, 2147483647, 0), (-2147483648, 2147483647, 0), (-2147483648, 2147483647, 0), (20, 500, 0), (20, 500, 0)], []), ([(((540, []), (4, [])), (0, [(5, 1)]))], [(1, (0, [(6, 1)]))])), [(1, 0), (0, 0)])], [])))
/-- UnequalHoursModel.isIn -/
def aa_m16 : aa_K := ((154, 3, []), (((([(-2147483648, 2147483647, 0), (-99999, 86400, 0), (-1, 864000, 0)], []), ([], [(1, (0, [(0, 1)])), (1, (0, [(1, 1)])), (1, (0, [(2, 1)]))])), [(0, 0), (0, 1), (0, 2)]), ([((([(-2147483648, 2147483647, 0), (-99999, 86400, 0), (-1, 864000, 0)], []), ([], [(1, (0, []))])), []), ((([(-2147483648, 2147483647, 0), (-99999, 86400, 0), (-1, 864000, 0)], [(99999, [(0, 1)]), (864000, [(0, -1)]), (0, [(0, 1), (1, -1)]), (0, [(0, -1), (2, 1)])]), ([], [(1, (1, []))])), [])], [])))
/-- UnequalHoursModel.end -/
def aa_m17 : aa_K := ((160, 1, [(35, 4, 4)]), (((([(-2147483648, 2147483647, 0)], []), ([], [(3, (540, [])), (1, (0, [(0, 1)]))])), [(0, 1)]), ([((([(-2147483648, 2147483647, 0)], []), ([], [(1, (-1, []))])), []), ((([(-2147483648, 2147483647, 0)], [(0, [(0, 1)]), (500, [(0, -1)])]), ([(((540, []), (4, [])), (0, [(0, 1)]))], [(1, (0, [(0, 1)]))])), [])], [])))
/-- UnequalHoursModel.fault -/
def aa_m18 : aa_K := ((161, 0, []), (((([], []), ([], [(3, (540, []))])), []), ([((([(-1, 500, 0)], []), ([], [(1, (0, [(0, 1)]))])), [(0, 0)])], [])))
/-- UnequalHoursModel.townAt -/
def aa_m19 : aa_K := ((164, 1, []), (((([(0, 3, 0)], []), ([], [(1, (0, [(0, 1)]))])), [(0, 0)]), ([((([(0, 3, 0)], []), ([], [(1, (3, [(0, 50)]))])), [])], [])))
/-- UnequalHoursModel.countPoints -/
def aa_m20 : aa_K := ((163, 0, []), (((([], []), ([], [(3, (540, []))])), []), ([((([(-2147483648, 2147483647, 0)], []), ([], [(1, (0, [(0, 1)]))])), [(0, 0)])], [(4, ((([(-2147483648, 2147483647, 0), (0, 4, 0)], []), ([], [(3, (540, [])), (1, (0, [(0, 1)])), (1, (0, [(1, 1)]))])), [(0, 1), (0, 2)]), (4, [(1, -1)]))])))
/-- UnequalHoursModel.beginText -/
def aa_m21 : aa_K := ((165, 0, [(35, 5, 5), (35, 6, 6)]), (((([], []), ([], [(3, (540, []))])), []), ([((([], []), ([(((540, []), (5, [])), (0, [])), (((540, []), (6, [])), (-1, []))], [])), [])], [])))
/-- UnequalHoursModel.fails -/
def aa_m22 : aa_K := ((169, 1, [(35, 6, 6)]), (((([(0, 500, 0)], []), ([], [(3, (540, [])), (1, (0, [(0, 1)]))])), [(0, 1)]), ([((([(0, 500, 0)], []), ([(((540, []), (6, [])), (0, [(0, 1)]))], [(1, (0, []))])), [])], [])))
/-- UnequalHoursModel.isFigure -/
def aa_m23 : aa_K := ((172, 1, []), (((([(-1, 255, 0)], []), ([], [(1, (0, [(0, 1)]))])), [(0, 0)]), ([((([(-1, 255, 0)], []), ([], [(1, (0, []))])), []), ((([(-1, 255, 0)], [(-48, [(0, 1)]), (57, [(0, -1)])]), ([], [(1, (1, []))])), [])], [])))
/-- UnequalHoursModel.readDigits -/
def aa_m24 : aa_K := ((171, 2, [(35, 5, 5), (35, 6, 6), (35, 7, 7)]), (((([(1, 500, 0), (0, 500, 0)], []), ([(((540, []), (4, [])), (0, [(0, 1)])), (((540, []), (5, [])), (0, [(1, 1)]))], [(3, (540, []))])), []), ([((([(1, 500, 0), (0, 500, 0), (0, 500, 0), (0, 500, 0)], [(0, [(1, -1), (2, 1)]), (5, [(1, 1), (2, -1)])]), ([(((540, []), (4, [])), (0, [(0, 1)])), (((540, []), (5, [])), (0, [(2, 1)])), (((540, []), (6, [])), (0, [(3, 1)]))], [(1, (0, []))])), [(1, 1), (1, 2)]), ((([(1, 500, 0), (0, 500, 0), (0, 500, 0), (0, 99999, 0)], [(499, [(1, -1)]), (-1, [(0, 1), (1, -1)]), (0, [(1, -1), (2, 1)]), (5, [(1, 1), (2, -1)])]), ([(((540, []), (4, [])), (0, [(0, 1)])), (((540, []), (5, [])), (0, [(2, 1)])), (((540, []), (7, [])), (0, [(3, 1)]))], [(1, (1, []))])), [(1, 1), (1, 2)])], [])))
/-- UnequalHoursModel.readSigned -/
def aa_m25 : aa_K := ((170, 4, [(35, 5, 5), (35, 6, 6), (35, 7, 7)]), (((([(-99999, 86400, 0), (1, 99999, 0), (1, 500, 0), (1, 500, 0)], []), ([(((540, []), (4, [])), (0, [(2, 1)])), (((540, []), (5, [])), (0, [(3, 1)]))], [(3, (540, [])), (1, (0, [(0, 1)])), (1, (0, [(1, 1)]))])), [(0, 1), (0, 2)]), ([((([(-99999, 86400, 0), (1, 99999, 0), (1, 500, 0), (1, 500, 0), (1, 500, 0), (0, 500, 0)], [(0, [(3, -1), (4, 1)]), (6, [(3, 1), (4, -1)])]), ([(((540, []), (4, [])), (0, [(2, 1)])), (((540, []), (5, [])), (0, [(4, 1)])), (((540, []), (6, [])), (0, [(5, 1)]))], [(1, (0, []))])), [(1, 1), (1, 2)]), ((([(-99999, 86400, 0), (1, 99999, 0), (1, 500, 0), (1, 500, 0), (1, 500, 0), (-99999, 99999, 0)], [(-2, [(2, 1)]), (499, [(3, -1)]), (-1, [(2, 1), (3, -1)]), (0, [(3, -1), (4, 1)]), (6, [(3, 1), (4, -1)]), (0, [(0, -1), (5, 1)]), (0, [(1, 1), (5, -1)])]), ([(((540, []), (4, [])), (0, [(2, 1)])), (((540, []), (5, [])), (0, [(4, 1)])), (((540, []), (7, [])), (0, [(5, 1)]))], [(1, (1, []))])), [(1, 1), (1, 2)])], [])))
/-- UnequalHoursModel.takes -/
def aa_m26 : aa_K := ((173, 3, [(35, 5, 5), (35, 6, 6)]), (((([(42, 80, 0), (1, 500, 0), (1, 500, 0)], []), ([(((540, []), (4, [])), (0, [(1, 1)])), (((540, []), (5, [])), (0, [(2, 1)]))], [(3, (540, [])), (1, (0, [(0, 1)]))])), [(0, 1)]), ([((([(42, 80, 0), (1, 500, 0), (1, 500, 0)], []), ([(((540, []), (4, [])), (0, [(1, 1)])), (((540, []), (5, [])), (0, [(2, 1)])), (((540, []), (6, [])), (0, [(2, 1)]))], [(1, (0, []))])), []), ((([(42, 80, 0), (1, 500, 0), (1, 500, 0)], [(-2, [(1, 1)]), (499, [(2, -1)]), (-1, [(1, 1), (2, -1)])]), ([(((540, []), (4, [])), (0, [(1, 1)])), (((540, []), (5, [])), (1, [(2, 1)]))], [(1, (1, []))])), [])], [])))
/-- UnequalHoursModel.readTown -/
def aa_m27 : aa_K := ((168, 3, [(36, 0, 0), (36, 3, 153), (36, 4, 154), (35, 5, 5), (35, 6, 6), (35, 7, 7)]), (((([(1, 500, 0), (0, 499, 0), (1, 3600, 0)], []), ([(((540, []), (4, [])), (0, [(0, 1)])), (((540, []), (5, [])), (0, [(1, 1)])), (((541, []), (5986, [])), (0, [(2, 1)]))], [(3, (540, []))])), []), ([((([(1, 500, 0), (0, 499, 0), (1, 3600, 0), (0, 500, 0), (0, 500, 0)], [(0, [(1, -1), (3, 1)]), (7, [(1, 1), (3, -1)])]), ([(((540, []), (4, [])), (0, [(0, 1)])), (((540, []), (5, [])), (0, [(3, 1)])), (((540, []), (6, [])), (0, [(4, 1)])), (((541, []), (5986, [])), (0, [(2, 1)]))], [(1, (0, []))])), [(1, 1), (1, 2)]), ((([(1, 500, 0), (0, 499, 0), (1, 3600, 0), (2, 500, 0), (-43200, 43200, 0), (1, 4, 0)], [(-2, [(0, 1)]), (498, [(1, -1)]), (-2, [(0, 1), (1, -1)]), (-2, [(1, -1), (3, 1)]), (8, [(1, 1), (3, -1)])]), ([(((540, []), (4, [])), (0, [(0, 1)])), (((540, []), (5, [])), (0, [(3, 1)])), (((540, []), (7, [])), (0, [(4, 1)])), (((541, []), (0, [])), (0, [(5, 1)])), (((541, []), (5986, [])), (0, [(2, 1)]))], [(1, (1, []))])), [(1, 1), (1, 2), (1, 3)])], [])))
/-- UnequalHoursModel.pointAt -/
def aa_m28 : aa_K := ((175, 3, []), (((([(0, 3, 0), (0, 11, 0), (1, 4, 0)], []), ([(((541, []), (0, [])), (0, [(2, 1)]))], [(1, (0, [(0, 1)])), (1, (0, [(1, 1)]))])), [(0, 0), (0, 1)]), ([((([(0, 3, 0), (0, 11, 0), (1, 4, 0)], []), ([(((541, []), (0, [])), (0, [(2, 1)]))], [(1, (5, [(0, 50), (1, 4)]))])), [])], [])))
/-- UnequalHoursModel.comes -/
def aa_m29 : aa_K := ((176, 4, [(36, 5, 199)]), (((([(0, 3, 0), (0, 11, 0), (0, 12, 0), (0, 359, 0)], [(0, [(1, 1), (2, -1)])]), ([(((541, []), (4, [(0, 50)])), (0, [(2, 1)])), (((540, []), (7, [])), (0, [(3, 1)]))], [(3, (540, [])), (1, (5, [(0, 50), (1, 4)]))])), [(2, 1), (3, 1)]), ([((([(0, 3, 0), (0, 11, 0), (0, 12, 0), (0, 359, 0)], [(0, [(1, 1), (2, -1)])]), ([(((540, []), (7, [])), (0, [(3, 1)])), (((541, []), (4, [(0, 50)])), (0, [(2, 1)])), (((541, []), (5, [(0, 50), (1, 4)])), (0, [(3, 1)]))], [(1, (1, []))])), [])], [])))
/-- UnequalHoursModel.layPoint -/
def aa_m30 : aa_K := ((177, 6, [(36, 6, 200), (36, 7, 201), (36, 8, 202)]), (((([(0, 3, 0), (0, 11, 0), (-1, 86399, 0), (-1, 86399, 0), (-1, 1, 0), (0, 12, 0)], [(0, [(1, 1), (5, -1)])]), ([(((541, []), (4, [(0, 50)])), (0, [(5, 1)]))], [(3, (540, [])), (1, (5, [(0, 50), (1, 4)])), (1, (0, [(2, 1)])), (1, (0, [(3, 1)])), (1, (0, [(4, 1)]))])), [(2, 1), (3, 1), (0, 2), (0, 3), (0, 4)]), ([((([(0, 3, 0), (0, 11, 0), (-1, 86399, 0), (-1, 86399, 0), (-1, 1, 0), (0, 12, 0)], [(0, [(1, 1), (5, -1)])]), ([(((541, []), (4, [(0, 50)])), (0, [(5, 1)])), (((541, []), (6, [(0, 50), (1, 4)])), (0, [(2, 1)])), (((541, []), (7, [(0, 50), (1, 4)])), (0, [(3, 1)])), (((541, []), (8, [(0, 50), (1, 4)])), (0, [(4, 1)]))], [])), [])], [])))
/-- UnequalHoursModel.readPoint -/
def aa_m31 : aa_K := ((174, 4, [(36, 11, 201), (36, 4, 154), (36, 5, 199), (36, 6, 200), (36, 7, 157), (36, 7, 201), (36, 8, 202), (35, 5, 5), (35, 6, 6), (35, 7, 7)]), (((([(0, 1, 0), (1, 500, 0), (0, 499, 0), (1, 3600, 0)], []), ([(((540, []), (4, [])), (0, [(1, 1)])), (((540, []), (5, [])), (0, [(2, 1)])), (((541, []), (5986, [])), (0, [(3, 1)]))], [(3, (540, [])), (1, (0, [(0, 1)]))])), [(0, 1)]), ([((([(0, 1, 0), (1, 500, 0), (0, 499, 0), (1, 3600, 0), (0, 500, 0), (0, 500, 0)], [(0, [(2, -1), (4, 1)]), (21, [(2, 1), (4, -1)])]), ([(((540, []), (4, [])), (0, [(1, 1)])), (((540, []), (5, [])), (0, [(4, 1)])), (((540, []), (6, [])), (0, [(5, 1)])), (((541, []), (5986, [])), (0, [(3, 1)]))], [(1, (0, []))])), [(1, 1), (1, 2)]), ((([(0, 1, 0), (1, 500, 0), (0, 499, 0), (1, 3600, 0), (3, 500, 0), (0, 86399, 0), (1, 4, 0)], [(-3, [(1, 1)]), (498, [(2, -1)]), (-2, [(1, 1), (2, -1)]), (-3, [(2, -1), (4, 1)]), (22, [(2, 1), (4, -1)])]), ([(((540, []), (4, [])), (0, [(1, 1)])), (((540, []), (5, [])), (0, [(4, 1)])), (((540, []), (7, [])), (0, [(5, 1)])), (((541, []), (0, [])), (0, [(6, 1)])), (((541, []), (5986, [])), (0, [(3, 1)]))], [(1, (1, []))])), [(1, 1), (1, 2), (1, 3)])], [])))
/-- UnequalHoursModel.readItem -/
def aa_m32 : aa_K := ((166, 3, [(36, 0, 0), (36, 11, 201), (36, 3, 153), (36, 4, 154), (36, 5, 199), (36, 6, 200), (36, 7, 157), (36, 7, 201), (36, 8, 202), (35, 5, 5), (35, 6, 6), (35, 7, 7)]), (((([(1, 500, 0), (0, 499, 0), (1, 3600, 0)], []), ([(((540, []), (4, [])), (0, [(0, 1)])), (((540, []), (5, [])), (0, [(1, 1)])), (((541, []), (5986, [])), (0, [(2, 1)]))], [(3, (540, []))])), []), ([((([(1, 500, 0), (0, 499, 0), (1, 3600, 0), (0, 500, 0), (0, 500, 0)], [(0, [(1, -1), (3, 1)]), (21, [(1, 1), (3, -1)])]), ([(((540, []), (4, [])), (0, [(0, 1)])), (((540, []), (5, [])), (0, [(3, 1)])), (((540, []), (6, [])), (0, [(4, 1)])), (((541, []), (5986, [])), (0, [(2, 1)]))], [(1, (0, []))])), [(1, 1), (1, 2)]), ((([(1, 500, 0), (0, 499, 0), (1, 3600, 0), (2, 500, 0), (-43200, 86399, 0), (1, 4, 0)], [(-2, [(0, 1)]), (498, [(1, -1)]), (-1, [(0, 1), (1, -1)]), (-2, [(0, 1), (1, -1)]), (-2, [(1, -1), (3, 1)]), (22, [(1, 1), (3, -1)])]), ([(((540, []), (4, [])), (0, [(0, 1)])), (((540, []), (5, [])), (0, [(3, 1)])), (((540, []), (7, [])), (0, [(4, 1)])), (((541, []), (0, [])), (0, [(5, 1)])), (((541, []), (5986, [])), (0, [(2, 1)]))], [(1, (1, []))])), [(1, 1), (1, 2), (1, 3)])], [])))
/-- UnequalHoursModel.text -/
def aa_m33 : aa_K := ((162, 0, [(36, 0, 0), (36, 0, 398), (36, 11, 201), (36, 1197, 5984), (36, 3, 153), (36, 4, 154), (36, 5, 199), (36, 5985, 6383), (36, 6, 200), (36, 7, 157), (36, 7, 201), (36, 8, 202), (35, 1, 1), (35, 4, 4), (35, 5, 5), (35, 6, 6), (35, 7, 7)]), (((([], []), ([], [(3, (540, []))])), []), ([((([(1, 3600, 0)], []), ([(((540, []), (4, [])), (0, [])), (((541, []), (5986, [])), (0, [(0, 1)]))], [(1, (-1, []))])), [(1, 1)]), ((([(1, 3600, 0), (-2147483648, 2147483647, 0)], []), ([(((540, []), (4, [])), (0, [])), (((541, []), (5986, [])), (0, [(0, 1)]))], [(1, (0, [(1, 1)]))])), [(1, 1), (0, 0)])], [(25, ((([(-2147483648, 2147483647, 0), (0, 1, 0), (1, 3600, 0), (0, 500, 0)], []), ([(((541, []), (5986, [])), (0, [(2, 1)])), (((540, []), (5, [])), (0, [(3, 1)]))], [(3, (540, [])), (1, (0, [(0, 1)])), (1, (0, [(1, 1)])), (0, (0, []))])), [(0, 1), (0, 2), (1, 0), (1, 1)]), (1500, [(1, 1), (3, -3)]))])))
/-- UnequalHoursModel.readPlain -/
def aa_m34 : aa_K := ((180, 6, [(35, 5, 5), (35, 6, 6), (35, 7, 7)]), (((([(0, 1, 0), (11, 3599, 0), (1, 500, 0), (1, 500, 0), (0, 7, 0), (0, 80, 0)], []), ([(((540, []), (4, [])), (0, [(2, 1)])), (((540, []), (5, [])), (0, [(3, 1)])), (((540, []), (10, [])), (0, [(4, 1)])), (((540, []), (11, [])), (0, [(5, 1)]))], [(3, (540, [])), (1, (0, [(0, 1)])), (1, (0, [(1, 1)]))])), [(0, 1), (0, 2)]), ([((([(0, 1, 0), (11, 3599, 0), (1, 500, 0), (1, 500, 0), (0, 7, 0), (0, 80, 0), (1, 500, 0), (0, 500, 0)], [(0, [(3, -1), (6, 1)]), (5, [(3, 1), (6, -1)])]), ([(((540, []), (4, [])), (0, [(2, 1)])), (((540, []), (5, [])), (0, [(6, 1)])), (((540, []), (6, [])), (0, [(7, 1)])), (((540, []), (10, [])), (0, [(4, 1)])), (((540, []), (11, [])), (0, [(5, 1)]))], [(1, (0, []))])), [(1, 1), (1, 2)]), ((([(0, 1, 0), (11, 3599, 0), (1, 500, 0), (1, 500, 0), (0, 7, 0), (0, 80, 0), (1, 500, 0), (0, 3599, 0)], [(-2, [(2, 1)]), (499, [(3, -1)]), (-1, [(2, 1), (3, -1)]), (0, [(3, -1), (6, 1)]), (5, [(3, 1), (6, -1)]), (0, [(0, -1), (7, 1)]), (0, [(1, 1), (7, -1)])]), ([(((540, []), (4, [])), (0, [(2, 1)])), (((540, []), (5, [])), (0, [(6, 1)])), (((540, []), (7, [])), (0, [(7, 1)])), (((540, []), (10, [])), (0, [(4, 1)])), (((540, []), (11, [])), (0, [(5, 1)]))], [(1, (1, []))])), [(1, 1), (1, 2)])], [])))
/-- UnequalHoursModel.nameOf -/
def aa_m35 : aa_K := ((187, 2, []), (((([(-1, 255, 0), (0, 80, 0)], []), ([(((540, []), (11, [])), (0, [(1, 1)]))], [(1, (0, [(0, 1)]))])), [(0, 0)]), ([((([(-1, 255, 0), (0, 80, 0)], []), ([(((540, []), (11, [])), (0, [(1, 1)]))], [(1, (-1, []))])), []), ((([(-1, 255, 0), (0, 80, 0)], [(-119, [(0, 1)]), (119, [(0, -1)])]), ([(((540, []), (11, [])), (0, [(1, 1)]))], [(1, (0, []))])), []), ((([(-1, 255, 0), (0, 80, 0)], [(-121, [(0, 1)]), (121, [(0, -1)])]), ([(((540, []), (11, [])), (0, [(1, 1)]))], [(1, (1, []))])), []), ((([(-1, 255, 0), (0, 80, 0)], [(-108, [(0, 1)]), (108, [(0, -1)])]), ([(((540, []), (11, [])), (0, [(1, 1)]))], [(1, (2, []))])), []), ((([(-1, 255, 0), (0, 80, 0)], [(-116, [(0, 1)]), (116, [(0, -1)])]), ([(((540, []), (11, [])), (0, [(1, 1)]))], [(1, (3, []))])), []), ((([(-1, 255, 0), (0, 80, 0)], [(-122, [(0, 1)]), (122, [(0, -1)])]), ([(((540, []), (11, [])), (0, [(1, 1)]))], [(1, (4, []))])), [])], [])))
/-- UnequalHoursModel.readThing -/
def aa_m36 : aa_K := ((186, 4, [(40, 0, 139), (35, 11, 11), (35, 12, 12), (35, 5, 5), (35, 6, 6), (35, 7, 7), (900, 0, 0)]), (((([(0, 40, 0), (0, 80, 0), (0, 40, 0), (0, 500, 0)], [(0, [(0, 2), (1, -1), (2, -1)]), (0, [(0, 1), (2, -1)])]), ([(((540, []), (12, [])), (0, [(0, 1)])), (((540, []), (11, [])), (0, [(1, 1)])), (((600, []), (0, [])), (0, [(2, 1)])), (((540, []), (5, [])), (0, [(3, 1)]))], [(3, (540, []))])), []), ([((([(0, 40, 0), (0, 80, 0), (0, 40, 0), (0, 500, 0), (0, 500, 0), (0, 500, 0), (0, 40, 0)], [(0, [(0, 2), (1, -1), (2, -1)]), (0, [(0, 1), (2, -1)]), (0, [(3, -1), (4, 1)]), (5, [(3, 1), (4, -1)]), (0, [(0, -1), (6, 1)]), (1, [(0, 1), (6, -1)]), (0, [(1, -1), (2, -1), (6, 2)]), (0, [(0, -2), (6, 2)]), (0, [(2, -1), (6, 1)]), (0, [(0, -1), (6, 1)])]), ([(((540, []), (5, [])), (0, [(4, 1)])), (((540, []), (6, [])), (0, [(5, 1)])), (((540, []), (11, [])), (0, [(1, 1)])), (((540, []), (12, [])), (0, [(6, 1)])), (((600, []), (0, [])), (0, [(2, 1)]))], [(1, (0, []))])), [(1, 0), (1, 1), (1, 3)]), ((([(0, 40, 0), (0, 80, 0), (0, 40, 0), (0, 500, 0), (1, 500, 0), (0, 500, 0)], [(39, [(0, -1)]), (499, [(3, -1)]), (0, [(0, 2), (1, -1), (2, -1)]), (0, [(0, 1), (2, -1)]), (0, [(3, -1), (5, 1)]), (5, [(3, 1), (5, -1)]), (0, [(0, 2), (1, -1), (2, -1)]), (0, [(0, 1), (2, -1)])]), ([(((540, []), (4, [])), (0, [(4, 1)])), (((540, []), (5, [])), (0, [(5, 1)])), (((540, []), (11, [])), (1, [(1, 1)])), (((540, []), (12, [])), (1, [(0, 1)])), (((600, []), (0, [])), (1, [(2, 1)]))], [(1, (1, []))])), [(1, 0), (1, 1)])], [])))
/-- UnequalHoursModel.readProduct -/
def aa_m37 : aa_K := ((185, 4, [(40, 0, 139), (35, 11, 11), (35, 12, 12), (35, 5, 5), (35, 6, 6), (35, 7, 7), (900, 0, 0)]), (((([(0, 40, 0), (0, 80, 0), (0, 40, 0), (0, 500, 0)], [(0, [(0, 2), (1, -1), (2, -1)]), (0, [(0, 1), (2, -1)])]), ([(((540, []), (12, [])), (0, [(0, 1)])), (((540, []), (11, [])), (0, [(1, 1)])), (((600, []), (0, [])), (0, [(2, 1)])), (((540, []), (5, [])), (0, [(3, 1)]))], [(3, (540, []))])), []), ([((([(0, 40, 0), (0, 80, 0), (0, 40, 0), (0, 500, 0), (0, 500, 0), (0, 500, 0), (0, 80, 0), (0, 40, 0), (0, 40, 0)], [(0, [(0, 2), (1, -1), (2, -1)]), (0, [(0, 1), (2, -1)]), (0, [(3, -1), (4, 1)]), (500, [(3, 1), (4, -1)]), (0, [(1, -1), (6, 1)]), (79, [(1, 1), (6, -1)]), (0, [(0, -1), (7, 1)]), (40, [(0, 1), (7, -1)]), (0, [(2, -1), (8, 1)]), (1, [(2, 1), (8, -1)]), (0, [(6, -1), (7, 2), (8, -1)]), (0, [(0, -2), (1, 1), (2, 1), (6, -1), (7, 2), (8, -1)]), (0, [(7, 1), (8, -1)]), (0, [(0, -1), (2, 1), (7, 1), (8, -1)])]), ([(((540, []), (5, [])), (0, [(4, 1)])), (((540, []), (6, [])), (0, [(5, 1)])), (((540, []), (11, [])), (0, [(6, 1)])), (((540, []), (12, [])), (0, [(7, 1)])), (((600, []), (0, [])), (0, [(8, 1)]))], [(1, (0, []))])), [(1, 0), (1, 1), (1, 2), (1, 3), (1, 4)]), ((([(0, 40, 0), (0, 80, 0), (0, 40, 0), (0, 500, 0), (1, 500, 0), (0, 500, 0), (1, 79, 0), (1, 40, 0)], [(39, [(0, -1)]), (78, [(1, -1)]), (39, [(2, -1)]), (499, [(3, -1)]), (0, [(0, 2), (1, -1), (2, -1)]), (0, [(0, 1), (2, -1)]), (0, []), (0, [(3, -1), (5, 1)]), (500, [(3, 1), (5, -1)]), (-1, [(1, -1), (6, 1)]), (79, [(1, 1), (6, -1)]), (-1, [(0, -1), (7, 1)]), (40, [(0, 1), (7, -1)]), (-1, [(2, -1), (6, -1), (7, 2)]), (-1, [(0, -2), (1, 1), (6, -1), (7, 2)]), (-1, [(2, -1), (7, 1)]), (-1, [(0, -1), (7, 1)])]), ([(((540, []), (4, [])), (0, [(4, 1)])), (((540, []), (5, [])), (0, [(5, 1)])), (((540, []), (11, [])), (0, [(6, 1)])), (((540, []), (12, [])), (0, [(7, 1)])), (((600, []), (0, [])), (1, [(2, 1)]))], [(1, (1, []))])), [(1, 0), (1, 1), (1, 2), (1, 3)])], [(9, ((([(0, 39, 0), (0, 78, 0), (0, 39, 0), (0, 499, 0), (1, 500, 0), (0, 500, 0), (1, 79, 0), (1, 40, 0)], [(0, [(0, 2), (1, -1), (2, -1)]), (0, [(0, 1), (2, -1)]), (0, [(0, 2), (1, -1), (2, -1)]), (0, [(0, 1), (2, -1)]), (0, [(0, 2), (1, -1), (2, -1)]), (0, [(0, 1), (2, -1)]), (0, []), (0, [(3, -1), (5, 1)]), (-1, [(0, -1), (7, 1)]), (-1, [(1, -1), (6, 1)]), (-1, [(0, -2), (1, 1), (6, -1), (7, 2)]), (-1, [(0, -1), (7, 1)])]), ([(((540, []), (4, [])), (0, [(4, 1)])), (((540, []), (5, [])), (0, [(5, 1)])), (((540, []), (11, [])), (0, [(6, 1)])), (((540, []), (12, [])), (0, [(7, 1)])), (((600, []), (0, [])), (1, [(2, 1)]))], [(3, (540, [])), (0, (0, []))])), [(1, 0), (1, 1), (1, 2), (1, 3)]), (79, [(6, -1)]))])))
/-- UnequalHoursModel.readSum -/
def aa_m38 : aa_K := ((184, 4, [(40, 0, 139), (35, 11, 11), (35, 12, 12), (35, 5, 5), (35, 6, 6), (35, 7, 7), (900, 0, 0)]), (((([(0, 40, 0), (0, 80, 0), (0, 40, 0), (0, 500, 0)], [(0, [(0, 2), (1, -1), (2, -1)]), (0, [(0, 1), (2, -1)])]), ([(((540, []), (12, [])), (0, [(0, 1)])), (((540, []), (11, [])), (0, [(1, 1)])), (((600, []), (0, [])), (0, [(2, 1)])), (((540, []), (5, [])), (0, [(3, 1)]))], [(3, (540, []))])), []), ([((([(0, 40, 0), (0, 80, 0), (0, 40, 0), (0, 500, 0), (0, 500, 0), (0, 500, 0), (0, 80, 0), (0, 40, 0), (0, 40, 0)], [(0, [(0, 2), (1, -1), (2, -1)]), (0, [(0, 1), (2, -1)]), (0, [(3, -1), (4, 1)]), (500, [(3, 1), (4, -1)]), (0, [(1, -1), (6, 1)]), (79, [(1, 1), (6, -1)]), (0, [(0, -1), (7, 1)]), (40, [(0, 1), (7, -1)]), (0, [(2, -1), (8, 1)]), (2, [(2, 1), (8, -1)]), (0, [(6, -1), (7, 2), (8, -1)]), (0, [(0, -2), (1, 1), (2, 1), (6, -1), (7, 2), (8, -1)]), (0, [(7, 1), (8, -1)]), (0, [(0, -1), (2, 1), (7, 1), (8, -1)])]), ([(((540, []), (5, [])), (0, [(4, 1)])), (((540, []), (6, [])), (0, [(5, 1)])), (((540, []), (11, [])), (0, [(6, 1)])), (((540, []), (12, [])), (0, [(7, 1)])), (((600, []), (0, [])), (0, [(8, 1)]))], [(1, (0, []))])), [(1, 0), (1, 1), (1, 2), (1, 3), (1, 4)]), ((([(0, 40, 0), (0, 80, 0), (0, 40, 0), (0, 500, 0), (1, 500, 0), (0, 500, 0), (1, 79, 0), (1, 40, 0)], [(39, [(0, -1)]), (78, [(1, -1)]), (39, [(2, -1)]), (499, [(3, -1)]), (0, [(0, 2), (1, -1), (2, -1)]), (0, [(0, 1), (2, -1)]), (0, []), (0, [(3, -1), (5, 1)]), (500, [(3, 1), (5, -1)]), (-1, [(1, -1), (6, 1)]), (79, [(1, 1), (6, -1)]), (-1, [(0, -1), (7, 1)]), (40, [(0, 1), (7, -1)]), (-1, [(2, -1), (6, -1), (7, 2)]), (-1, [(0, -2), (1, 1), (6, -1), (7, 2)]), (-1, [(2, -1), (7, 1)]), (-1, [(0, -1), (7, 1)])]), ([(((540, []), (4, [])), (0, [(4, 1)])), (((540, []), (5, [])), (0, [(5, 1)])), (((540, []), (11, [])), (0, [(6, 1)])), (((540, []), (12, [])), (0, [(7, 1)])), (((600, []), (0, [])), (1, [(2, 1)]))], [(1, (1, []))])), [(1, 0), (1, 1), (1, 2), (1, 3)])], [(9, ((([(0, 39, 0), (0, 78, 0), (0, 39, 0), (0, 499, 0), (1, 500, 0), (0, 500, 0), (1, 79, 0), (1, 40, 0)], [(0, [(0, 2), (1, -1), (2, -1)]), (0, [(0, 1), (2, -1)]), (0, [(0, 2), (1, -1), (2, -1)]), (0, [(0, 1), (2, -1)]), (0, []), (0, [(3, -1), (5, 1)]), (-1, [(0, -1), (7, 1)]), (-1, [(1, -1), (6, 1)]), (-1, [(0, -2), (1, 1), (6, -1), (7, 2)]), (-1, [(0, -1), (7, 1)])]), ([(((540, []), (4, [])), (0, [(4, 1)])), (((540, []), (5, [])), (0, [(5, 1)])), (((540, []), (11, [])), (0, [(6, 1)])), (((540, []), (12, [])), (0, [(7, 1)])), (((600, []), (0, [])), (1, [(2, 1)]))], [(3, (540, [])), (0, (0, []))])), [(1, 0), (1, 1), (1, 2), (1, 3)]), (79, [(6, -1)]))])))
/-- UnequalHoursModel.readTest -/
def aa_m39 : aa_K := ((183, 4, [(40, 0, 139), (35, 11, 11), (35, 12, 12), (35, 5, 5), (35, 6, 6), (35, 7, 7), (900, 0, 0)]), (((([(0, 40, 0), (0, 80, 0), (0, 40, 0), (0, 500, 0)], [(0, [(0, 2), (1, -1), (2, -1)]), (0, [(0, 1), (2, -1)])]), ([(((540, []), (12, [])), (0, [(0, 1)])), (((540, []), (11, [])), (0, [(1, 1)])), (((600, []), (0, [])), (0, [(2, 1)])), (((540, []), (5, [])), (0, [(3, 1)]))], [(3, (540, []))])), []), ([((([(0, 40, 0), (0, 80, 0), (0, 40, 0), (0, 500, 0), (0, 500, 0), (0, 500, 0), (0, 80, 0), (0, 40, 0), (0, 40, 0)], [(0, [(0, 2), (1, -1), (2, -1)]), (0, [(0, 1), (2, -1)]), (0, [(3, -1), (4, 1)]), (500, [(3, 1), (4, -1)]), (0, [(1, -1), (6, 1)]), (79, [(1, 1), (6, -1)]), (0, [(0, -1), (7, 1)]), (40, [(0, 1), (7, -1)]), (0, [(2, -1), (8, 1)]), (3, [(2, 1), (8, -1)]), (0, [(6, -1), (7, 2), (8, -1)]), (0, [(0, -2), (1, 1), (2, 1), (6, -1), (7, 2), (8, -1)]), (0, [(7, 1), (8, -1)]), (0, [(0, -1), (2, 1), (7, 1), (8, -1)])]), ([(((540, []), (5, [])), (0, [(4, 1)])), (((540, []), (6, [])), (0, [(5, 1)])), (((540, []), (11, [])), (0, [(6, 1)])), (((540, []), (12, [])), (0, [(7, 1)])), (((600, []), (0, [])), (0, [(8, 1)]))], [(1, (0, []))])), [(1, 0), (1, 1), (1, 2), (1, 3), (1, 4)]), ((([(0, 40, 0), (0, 80, 0), (0, 40, 0), (0, 500, 0), (1, 500, 0), (1, 500, 0), (3, 79, 0), (2, 40, 0)], [(39, [(0, -1)]), (78, [(1, -1)]), (38, [(2, -1)]), (499, [(3, -1)]), (0, [(0, 2), (1, -1), (2, -1)]), (0, [(0, 1), (2, -1)]), (-1, [(3, -1), (5, 1)]), (500, [(3, 1), (5, -1)]), (-3, [(1, -1), (6, 1)]), (79, [(1, 1), (6, -1)]), (-2, [(0, -1), (7, 1)]), (40, [(0, 1), (7, -1)]), (-1, [(2, -1), (6, -1), (7, 2)]), (-1, [(0, -2), (1, 1), (6, -1), (7, 2)]), (-2, [(2, -1), (7, 1)]), (-2, [(0, -1), (7, 1)])]), ([(((540, []), (4, [])), (0, [(4, 1)])), (((540, []), (5, [])), (0, [(5, 1)])), (((540, []), (11, [])), (0, [(6, 1)])), (((540, []), (12, [])), (0, [(7, 1)])), (((600, []), (0, [])), (1, [(2, 1)]))], [(1, (1, []))])), [(1, 0), (1, 1), (1, 2), (1, 3)])], [])))
/-- UnequalHoursModel.readBoth -/
def aa_m40 : aa_K := ((182, 4, [(40, 0, 139), (35, 11, 11), (35, 12, 12), (35, 5, 5), (35, 6, 6), (35, 7, 7), (900, 0, 0)]), (((([(0, 40, 0), (0, 80, 0), (0, 40, 0), (0, 500, 0)], [(0, [(0, 2), (1, -1), (2, -1)]), (0, [(0, 1), (2, -1)])]), ([(((540, []), (12, [])), (0, [(0, 1)])), (((540, []), (11, [])), (0, [(1, 1)])), (((600, []), (0, [])), (0, [(2, 1)])), (((540, []), (5, [])), (0, [(3, 1)]))], [(3, (540, []))])), []), ([((([(0, 40, 0), (0, 80, 0), (0, 40, 0), (0, 500, 0), (0, 500, 0), (0, 500, 0), (0, 80, 0), (0, 40, 0), (0, 40, 0)], [(0, [(0, 2), (1, -1), (2, -1)]), (0, [(0, 1), (2, -1)]), (0, [(3, -1), (4, 1)]), (500, [(3, 1), (4, -1)]), (0, [(1, -1), (6, 1)]), (79, [(1, 1), (6, -1)]), (0, [(0, -1), (7, 1)]), (40, [(0, 1), (7, -1)]), (0, [(2, -1), (8, 1)]), (4, [(2, 1), (8, -1)]), (0, [(6, -1), (7, 2), (8, -1)]), (0, [(0, -2), (1, 1), (2, 1), (6, -1), (7, 2), (8, -1)]), (0, [(7, 1), (8, -1)]), (0, [(0, -1), (2, 1), (7, 1), (8, -1)])]), ([(((540, []), (5, [])), (0, [(4, 1)])), (((540, []), (6, [])), (0, [(5, 1)])), (((540, []), (11, [])), (0, [(6, 1)])), (((540, []), (12, [])), (0, [(7, 1)])), (((600, []), (0, [])), (0, [(8, 1)]))], [(1, (0, []))])), [(1, 0), (1, 1), (1, 2), (1, 3), (1, 4)]), ((([(0, 40, 0), (0, 80, 0), (0, 40, 0), (0, 500, 0), (1, 500, 0), (1, 500, 0), (3, 79, 0), (2, 40, 0)], [(38, [(0, -1)]), (76, [(1, -1)]), (38, [(2, -1)]), (499, [(3, -1)]), (0, [(0, 2), (1, -1), (2, -1)]), (0, [(0, 1), (2, -1)]), (0, []), (-1, [(3, -1), (5, 1)]), (500, [(3, 1), (5, -1)]), (-3, [(1, -1), (6, 1)]), (79, [(1, 1), (6, -1)]), (-2, [(0, -1), (7, 1)]), (40, [(0, 1), (7, -1)]), (-1, [(2, -1), (6, -1), (7, 2)]), (-1, [(0, -2), (1, 1), (6, -1), (7, 2)]), (-2, [(2, -1), (7, 1)]), (-2, [(0, -1), (7, 1)])]), ([(((540, []), (4, [])), (0, [(4, 1)])), (((540, []), (5, [])), (0, [(5, 1)])), (((540, []), (11, [])), (0, [(6, 1)])), (((540, []), (12, [])), (0, [(7, 1)])), (((600, []), (0, [])), (1, [(2, 1)]))], [(1, (1, []))])), [(1, 0), (1, 1), (1, 2), (1, 3)])], [(9, ((([(0, 38, 0), (0, 76, 0), (0, 38, 0), (0, 499, 0), (1, 500, 0), (1, 500, 0), (3, 79, 0), (2, 40, 0)], [(0, [(0, 2), (1, -1), (2, -1)]), (0, [(0, 1), (2, -1)]), (0, [(0, 2), (1, -1), (2, -1)]), (0, [(0, 1), (2, -1)]), (0, []), (-1, [(3, -1), (5, 1)]), (-2, [(0, -1), (7, 1)]), (-3, [(1, -1), (6, 1)]), (-1, [(0, -2), (1, 1), (6, -1), (7, 2)]), (-2, [(0, -1), (7, 1)])]), ([(((540, []), (4, [])), (0, [(4, 1)])), (((540, []), (5, [])), (0, [(5, 1)])), (((540, []), (11, [])), (0, [(6, 1)])), (((540, []), (12, [])), (0, [(7, 1)])), (((600, []), (0, [])), (1, [(2, 1)]))], [(3, (540, []))])), [(1, 0), (1, 1), (1, 2), (1, 3)]), (79, [(6, -1)]))])))
/-- UnequalHoursModel.readCond -/
def aa_m41 : aa_K := ((181, 4, [(40, 0, 139), (35, 11, 11), (35, 12, 12), (35, 5, 5), (35, 6, 6), (35, 7, 7), (900, 0, 0)]), (((([(0, 40, 0), (0, 80, 0), (0, 40, 0), (0, 500, 0)], [(0, [(0, 2), (1, -1), (2, -1)]), (0, [(0, 1), (2, -1)])]), ([(((540, []), (12, [])), (0, [(0, 1)])), (((540, []), (11, [])), (0, [(1, 1)])), (((600, []), (0, [])), (0, [(2, 1)])), (((540, []), (5, [])), (0, [(3, 1)]))], [(3, (540, []))])), []), ([((([(0, 40, 0), (0, 80, 0), (0, 40, 0), (0, 500, 0), (0, 500, 0), (0, 500, 0), (0, 80, 0), (0, 40, 0), (0, 40, 0)], [(0, [(0, 2), (1, -1), (2, -1)]), (0, [(0, 1), (2, -1)]), (0, [(3, -1), (4, 1)]), (500, [(3, 1), (4, -1)]), (0, [(1, -1), (6, 1)]), (79, [(1, 1), (6, -1)]), (0, [(0, -1), (7, 1)]), (40, [(0, 1), (7, -1)]), (0, [(2, -1), (8, 1)]), (5, [(2, 1), (8, -1)]), (0, [(6, -1), (7, 2), (8, -1)]), (0, [(0, -2), (1, 1), (2, 1), (6, -1), (7, 2), (8, -1)]), (0, [(7, 1), (8, -1)]), (0, [(0, -1), (2, 1), (7, 1), (8, -1)])]), ([(((540, []), (5, [])), (0, [(4, 1)])), (((540, []), (6, [])), (0, [(5, 1)])), (((540, []), (11, [])), (0, [(6, 1)])), (((540, []), (12, [])), (0, [(7, 1)])), (((600, []), (0, [])), (0, [(8, 1)]))], [(1, (0, []))])), [(1, 0), (1, 1), (1, 2), (1, 3), (1, 4)]), ((([(0, 40, 0), (0, 80, 0), (0, 40, 0), (0, 500, 0), (1, 500, 0), (1, 500, 0), (3, 79, 0), (2, 40, 0)], [(38, [(0, -1)]), (76, [(1, -1)]), (38, [(2, -1)]), (499, [(3, -1)]), (0, [(0, 2), (1, -1), (2, -1)]), (0, [(0, 1), (2, -1)]), (0, []), (-1, [(3, -1), (5, 1)]), (500, [(3, 1), (5, -1)]), (-3, [(1, -1), (6, 1)]), (79, [(1, 1), (6, -1)]), (-2, [(0, -1), (7, 1)]), (40, [(0, 1), (7, -1)]), (-1, [(2, -1), (6, -1), (7, 2)]), (-1, [(0, -2), (1, 1), (6, -1), (7, 2)]), (-2, [(2, -1), (7, 1)]), (-2, [(0, -1), (7, 1)])]), ([(((540, []), (4, [])), (0, [(4, 1)])), (((540, []), (5, [])), (0, [(5, 1)])), (((540, []), (11, [])), (0, [(6, 1)])), (((540, []), (12, [])), (0, [(7, 1)])), (((600, []), (0, [])), (1, [(2, 1)]))], [(1, (1, []))])), [(1, 0), (1, 1), (1, 2), (1, 3)])], [(9, ((([(0, 38, 0), (0, 76, 0), (0, 38, 0), (0, 499, 0), (1, 500, 0), (1, 500, 0), (3, 79, 0), (2, 40, 0)], [(0, [(0, 2), (1, -1), (2, -1)]), (0, [(0, 1), (2, -1)]), (0, [(0, 2), (1, -1), (2, -1)]), (0, [(0, 1), (2, -1)]), (0, []), (-1, [(3, -1), (5, 1)]), (-2, [(0, -1), (7, 1)]), (-3, [(1, -1), (6, 1)]), (-1, [(0, -2), (1, 1), (6, -1), (7, 2)]), (-2, [(0, -1), (7, 1)])]), ([(((540, []), (4, [])), (0, [(4, 1)])), (((540, []), (5, [])), (0, [(5, 1)])), (((540, []), (11, [])), (0, [(6, 1)])), (((540, []), (12, [])), (0, [(7, 1)])), (((600, []), (0, [])), (1, [(2, 1)]))], [(3, (540, []))])), [(1, 0), (1, 1), (1, 2), (1, 3)]), (79, [(6, -1)]))])))
/-- UnequalHoursModel.readBell -/
def aa_m42 : aa_K := ((179, 4, [(39, 0, 55), (40, 0, 139), (35, 10, 10), (35, 11, 11), (35, 12, 12), (35, 5, 5), (35, 6, 6), (35, 7, 7), (900, 0, 0)]), (((([(0, 40, 0), (0, 80, 0), (0, 8, 0), (0, 500, 0)], [(0, [(0, 2), (1, -1)])]), ([(((540, []), (12, [])), (0, [(0, 1)])), (((540, []), (11, [])), (0, [(1, 1)])), (((540, []), (10, [])), (0, [(2, 1)])), (((540, []), (5, [])), (0, [(3, 1)]))], [(3, (540, []))])), []), ([((([(0, 40, 0), (0, 80, 0), (0, 8, 0), (0, 500, 0), (0, 500, 0), (0, 500, 0), (0, 80, 0), (0, 40, 0)], [(0, [(0, 2), (1, -1)]), (0, [(3, -1), (4, 1)]), (500, [(3, 1), (4, -1)])]), ([(((540, []), (5, [])), (0, [(4, 1)])), (((540, []), (6, [])), (0, [(5, 1)])), (((540, []), (11, [])), (0, [(6, 1)])), (((540, []), (12, [])), (0, [(7, 1)]))], [(1, (0, []))])), [(1, 0), (1, 1), (1, 2), (1, 3)]), ((([(0, 40, 0), (0, 80, 0), (0, 8, 0), (0, 500, 0), (3, 500, 0), (3, 500, 0), (0, 80, 0), (0, 40, 0)], [(7, [(2, -1)]), (498, [(3, -1)]), (0, [(0, 2), (1, -1)]), (-3, [(3, -1), (5, 1)]), (500, [(3, 1), (5, -1)]), (0, [(6, -1), (7, 2)]), (0, [(0, -2), (1, 1), (6, -1), (7, 2)])]), ([(((540, []), (4, [])), (0, [(4, 1)])), (((540, []), (5, [])), (0, [(5, 1)])), (((540, []), (10, [])), (1, [(2, 1)])), (((540, []), (11, [])), (0, [(6, 1)])), (((540, []), (12, [])), (0, [(7, 1)]))], [(1, (1, []))])), [(1, 0), (1, 1), (1, 3), (1, 4)])], [])))
/-- UnequalHoursModel.bell -/
def aa_m43 : aa_K := ((189, 2, []), (((([(-2147483648, 2147483647, 0), (-2147483648, 2147483647, 0)], []), ([], [(3, (540, [])), (1, (0, [(0, 1)])), (1, (0, [(1, 1)]))])), [(0, 1), (0, 2)]), ([((([(-2147483648, 2147483647, 0), (-2147483648, 2147483647, 0)], []), ([], [(1, (-1, []))])), []), ((([(-2147483648, 2147483647, 0), (-2147483648, 2147483647, 0), (1, 8, 0), (0, 3599, 0)], [(0, [(0, 1)]), (7, [(0, -1)]), (0, [(1, 1)]), (4, [(1, -1)])]), ([(((541, []), (2, [])), (0, [(2, 1)]))], [(1, (0, [(3, 1)]))])), [(1, 0), (0, 0)])], [])))
/-- UnequalHoursModel.isTown -/
def aa_m44 : aa_K := ((192, 1, []), (((([(-2147483648, 2147483647, 0)], []), ([], [(3, (540, [])), (1, (0, [(0, 1)]))])), [(0, 1)]), ([((([(-2147483648, 2147483647, 0)], []), ([], [(1, (0, []))])), []), ((([(-2147483648, 2147483647, 0), (1, 4, 0)], [(0, [(0, 1)]), (3, [(0, -1)])]), ([(((541, []), (0, [])), (0, [(1, 1)]))], [(1, (1, []))])), [(1, 0)])], [])))
/-- UnequalHoursModel.isDay -/
def aa_m45 : aa_K := ((193, 1, []), (((([(-2147483648, 2147483647, 0)], []), ([], [(1, (0, [(0, 1)]))])), [(0, 0)]), ([((([(-2147483648, 2147483647, 0)], []), ([], [(1, (0, []))])), []), ((([(-2147483648, 2147483647, 0)], [(0, [(0, 1)]), (35999, [(0, -1)])]), ([], [(1, (1, []))])), [])], [])))
/-- UnequalHoursModel.canAsk -/
def aa_m46 : aa_K := ((191, 2, []), (((([(-2147483648, 2147483647, 0), (-2147483648, 2147483647, 0)], []), ([], [(3, (540, [])), (1, (0, [(0, 1)])), (1, (0, [(1, 1)]))])), [(0, 1), (0, 2)]), ([((([(-2147483648, 2147483647, 0), (-2147483648, 2147483647, 0)], []), ([], [(1, (0, []))])), []), ((([(-2147483648, 2147483647, 0), (-2147483648, 2147483647, 0), (1, 4, 0)], [(0, [(0, 1)]), (3, [(0, -1)]), (0, [(1, 1)]), (35999, [(1, -1)])]), ([(((541, []), (0, [])), (0, [(2, 1)]))], [(1, (1, []))])), [(1, 0)])], [])))
/-- UnequalHoursModel.lay -/
def aa_m47 : aa_K := ((195, 3, [(35, 13, 13), (35, 13, 15)]), (((([(0, 3, 0), (0, 35999, 0), (1, 4, 0)], []), ([(((541, []), (0, [])), (0, [(2, 1)]))], [(3, (540, [])), (1, (0, [(0, 1)])), (1, (0, [(1, 1)]))])), [(0, 1), (0, 2)]), ([((([(0, 3, 0), (0, 35999, 0), (1, 4, 0), (0, 1, 0)], []), ([(((540, []), (13, [])), (0, [(3, 1)])), (((541, []), (0, [])), (0, [(2, 1)]))], [(1, (0, []))])), [(1, 0)]), ((([(0, 3, 0), (0, 35999, 0), (1, 4, 0), (0, 86398, 0), (1, 86399, 0), (1, 12, 0)], [(-1, [(3, -1), (4, 1)])]), ([(((540, []), (13, [])), (-1, [])), (((540, []), (14, [])), (0, [(3, 1)])), (((540, []), (15, [])), (0, [(4, 1)])), (((541, []), (0, [])), (0, [(2, 1)])), (((541, []), (4, [(0, 50)])), (0, [(5, 1)]))], [(1, (1, []))])), [(1, 1), (1, 2), (1, 4)])], [(21, ((([(0, 3, 0), (0, 35999, 0), (1, 4, 0), (0, 359, 0), (0, 12, 0)], []), ([(((541, []), (0, [])), (0, [(2, 1)]))], [(3, (540, [])), (1, (0, [(0, 1)])), (1, (0, [(1, 1)])), (1, (0, [(3, 1)])), (1, (-1, [])), (1, (-1, [])), (1, (-1, [])), (1, (-1, [])), (1, (0, [(4, 1)])), (0, (0, []))])), [(0, 3), (0, 8)]), (24, [(4, -1)])), (21, ((([(0, 3, 0), (0, 35999, 0), (1, 4, 0), (0, 359, 0), (-1, 11, 0), (-1, 11, 0), (0, 11, 0), (0, 11, 0), (1, 12, 0), (0, 359, 0), (1, 12, 0), (-1, 11, 0)], [(-1, [(4, -1), (10, 1)]), (-1, [(5, -1), (10, 1)]), (-1, [(6, -1), (10, 1)]), (-1, [(7, -1), (10, 1)])]), ([(((541, []), (0, [])), (0, [(2, 1)])), (((541, []), (4, [(0, 50)])), (0, [(10, 1)])), (((540, []), (16, [])), (0, [(11, 1)]))], [(3, (540, [])), (1, (0, [(0, 1)])), (1, (0, [(1, 1)])), (1, (0, [(3, 1)])), (1, (0, [(4, 1)])), (1, (0, [(5, 1)])), (1, (0, [(6, 1)])), (1, (0, [(7, 1)])), (1, (0, [(8, 1)])), (1, (0, [(9, 1)]))])), [(0, 3), (0, 4), (0, 5), (0, 6), (0, 7), (0, 8), (0, 9), (1, 1), (1, 2)]), (12, [(8, -1)]))])))
/-- UnequalHoursModel.layHalf -/
def aa_m48 : aa_K := ((194, 4, [(35, 13, 13), (35, 13, 15), (35, 17, 17), (35, 18, 18)]), (((([(0, 3, 0), (-4, 43199, 0), (0, 1, 0), (1, 4, 0)], []), ([(((541, []), (0, [])), (0, [(3, 1)]))], [(3, (540, [])), (1, (0, [(0, 1)])), (1, (0, [(1, 1)])), (1, (0, [(2, 1)]))])), [(0, 1), (0, 2), (0, 3)]), ([((([(0, 3, 0), (-4, 43199, 0), (0, 1, 0), (1, 4, 0)], []), ([(((541, []), (0, [])), (0, [(3, 1)]))], [(1, (0, []))])), []), ((([(0, 3, 0), (-4, 43199, 0), (0, 1, 0), (1, 4, 0), (0, 86398, 0), (1, 86399, 0), (0, 86399, 0), (1, 172797, 0), (1, 12, 0)], [(0, [(1, 1)]), (35999, [(1, -1)])]), ([(((540, []), (13, [])), (-1, [])), (((540, []), (14, [])), (0, [(4, 1)])), (((540, []), (15, [])), (0, [(5, 1)])), (((540, []), (17, [])), (0, [(6, 1)])), (((540, []), (18, [])), (0, [(7, 1)])), (((541, []), (0, [])), (0, [(3, 1)])), (((541, []), (4, [(0, 50)])), (0, [(8, 1)]))], [(1, (1, []))])), [(1, 1), (1, 2), (1, 3), (1, 4), (1, 6)])], [])))
/-- UnequalHoursModel.table -/
def aa_m49 : aa_K := ((190, 3, [(35, 13, 13), (35, 13, 15), (35, 17, 17), (35, 18, 18)]), (((([(-2147483648, 2147483647, 0), (-2147483648, 2147483647, 0), (-2147483648, 2147483647, 0)], []), ([], [(3, (540, [])), (1, (0, [(0, 1)])), (1, (0, [(1, 1)])), (1, (0, [(2, 1)]))])), [(0, 1), (0, 2), (0, 3)]), ([((([(-2147483648, 2147483647, 0), (-2147483648, 2147483647, 0), (-2147483648, 2147483647, 0)], []), ([], [(1, (-1, []))])), []), ((([(-2147483648, 2147483647, 0), (-2147483648, 2147483647, 0), (-2147483648, 2147483647, 0), (1, 4, 0), (-2, 172797, 0)], [(0, [(0, 1)]), (3, [(0, -1)]), (0, [(1, 1)]), (35999, [(1, -1)]), (0, [(2, 1)]), (4, [(2, -1)])]), ([(((541, []), (0, [])), (0, [(3, 1)]))], [(1, (0, [(4, 1)]))])), [(1, 0), (0, 0)])], [])))
/-- UnequalHoursModel.isSecond -/
def aa_m50 : aa_K := ((199, 2, []), (((([(-2147483648, 2147483647, 0), (1, 4, 0)], []), ([(((541, []), (0, [])), (0, [(1, 1)]))], [(1, (0, [(0, 1)]))])), [(0, 0)]), ([((([(-2147483648, 2147483647, 0), (1, 4, 0)], []), ([(((541, []), (0, [])), (0, [(1, 1)]))], [(1, (0, []))])), []), ((([(-2147483648, 2147483647, 0), (1, 4, 0)], [(0, [(0, 1)]), (86399, [(0, -1)])]), ([(((541, []), (0, [])), (0, [(1, 1)]))], [(1, (1, []))])), [])], [])))
/-- UnequalHoursModel.find -/
def aa_m51 : aa_K := ((200, 4, [(35, 13, 13), (35, 13, 15), (35, 17, 17), (35, 18, 18), (35, 19, 19), (35, 20, 20), (35, 21, 21)]), (((([(0, 3, 0), (-43200, 86399, 0), (-2147483648, 2147483647, 0), (1, 4, 0)], []), ([(((541, []), (0, [])), (0, [(3, 1)]))], [(3, (540, [])), (1, (0, [(0, 1)])), (1, (0, [(1, 1)])), (1, (0, [(2, 1)]))])), [(0, 1), (0, 2), (0, 3)]), ([((([(0, 3, 0), (-43200, 86399, 0), (-2147483648, 2147483647, 0), (1, 4, 0)], []), ([(((541, []), (0, [])), (0, [(3, 1)]))], [(1, (0, []))])), []), ((([(0, 3, 0), (-43200, 86399, 0), (-2147483648, 2147483647, 0), (1, 4, 0), (0, 86398, 0), (1, 86399, 0), (0, 86399, 0), (1, 172797, 0), (0, 35999, 0), (-2147483647, 2147483647, 0), (1, 12, 0)], [(0, [(1, 1)]), (35999, [(1, -1)])]), ([(((540, []), (13, [])), (-1, [])), (((540, []), (14, [])), (0, [(4, 1)])), (((540, []), (15, [])), (0, [(5, 1)])), (((540, []), (17, [])), (0, [(6, 1)])), (((540, []), (18, [])), (0, [(7, 1)])), (((540, []), (20, [])), (0, [(8, 1)])), (((540, []), (21, [])), (0, [(9, 1)])), (((541, []), (0, [])), (0, [(3, 1)])), (((541, []), (4, [(0, 50)])), (0, [(10, 1)]))], [(1, (1, []))])), [(1, 1), (1, 2), (1, 3), (1, 4), (1, 5), (1, 6), (1, 8)])], [])))
/-- UnequalHoursModel.placeOf -/
def aa_m52 : aa_K := ((202, 9, []), (((([(-2147483647, 2147483647, 0), (-1, -1, 0), (0, 86398, 0), (1, 86399, 0), (0, 86399, 0), (1, 172797, 0), (0, 35999, 0), (-2147483647, 2147483647, 0), (1, 4, 0)], []), ([(((540, []), (13, [])), (0, [(1, 1)])), (((540, []), (14, [])), (0, [(2, 1)])), (((540, []), (15, [])), (0, [(3, 1)])), (((540, []), (17, [])), (0, [(4, 1)])), (((540, []), (18, [])), (0, [(5, 1)])), (((540, []), (20, [])), (0, [(6, 1)])), (((540, []), (21, [])), (0, [(7, 1)])), (((541, []), (0, [])), (0, [(8, 1)]))], [(3, (540, [])), (1, (0, [(0, 1)]))])), [(0, 1)]), ([((([(-2147483647, 2147483647, 0), (-1, -1, 0), (0, 86398, 0), (1, 86399, 0), (0, 86399, 0), (1, 172797, 0), (0, 35999, 0), (-2147483647, 2147483647, 0), (1, 4, 0), (-2147483648, 2147483647, 0)], []), ([(((540, []), (13, [])), (0, [(1, 1)])), (((540, []), (14, [])), (0, [(2, 1)])), (((540, []), (15, [])), (0, [(3, 1)])), (((540, []), (17, [])), (0, [(4, 1)])), (((540, []), (18, [])), (0, [(5, 1)])), (((540, []), (20, [])), (0, [(6, 1)])), (((540, []), (21, [])), (0, [(7, 1)])), (((541, []), (0, [])), (0, [(8, 1)]))], [(1, (0, [(9, 1)]))])), [(0, 0)])], [])))
/-- UnequalHoursModel.tells -/
def aa_m53 : aa_K := ((201, 9, []), (((([(0, 5, 0), (-1, -1, 0), (0, 86398, 0), (1, 86399, 0), (0, 86399, 0), (1, 172797, 0), (0, 35999, 0), (-2147483647, 2147483647, 0), (1, 4, 0)], []), ([(((540, []), (13, [])), (0, [(1, 1)])), (((540, []), (14, [])), (0, [(2, 1)])), (((540, []), (15, [])), (0, [(3, 1)])), (((540, []), (17, [])), (0, [(4, 1)])), (((540, []), (18, [])), (0, [(5, 1)])), (((540, []), (20, [])), (0, [(6, 1)])), (((540, []), (21, [])), (0, [(7, 1)])), (((541, []), (0, [])), (0, [(8, 1)]))], [(3, (540, [])), (1, (0, [(0, 1)]))])), [(0, 1)]), ([((([(0, 5, 0), (-1, -1, 0), (0, 86398, 0), (1, 86399, 0), (0, 86399, 0), (1, 172797, 0), (0, 35999, 0), (-2147483647, 2147483647, 0), (1, 4, 0), (-2147483648, 2147483647, 0)], []), ([(((540, []), (13, [])), (0, [(1, 1)])), (((540, []), (14, [])), (0, [(2, 1)])), (((540, []), (15, [])), (0, [(3, 1)])), (((540, []), (17, [])), (0, [(4, 1)])), (((540, []), (18, [])), (0, [(5, 1)])), (((540, []), (20, [])), (0, [(6, 1)])), (((540, []), (21, [])), (0, [(7, 1)])), (((541, []), (0, [])), (0, [(8, 1)]))], [(1, (0, [(9, 1)]))])), [(0, 0)])], [])))
/-- UnequalHoursModel.turn -/
def aa_m54 : aa_K := ((198, 4, [(35, 13, 13), (35, 13, 15), (35, 17, 17), (35, 18, 18), (35, 19, 19), (35, 20, 20), (35, 21, 21)]), (((([(-2147483648, 2147483647, 0), (-2147483648, 2147483647, 0), (-2147483648, 2147483647, 0), (-2147483648, 2147483647, 0)], []), ([], [(3, (540, [])), (1, (0, [(0, 1)])), (1, (0, [(1, 1)])), (1, (0, [(2, 1)])), (1, (0, [(3, 1)]))])), [(0, 1), (0, 2), (0, 3), (0, 4)]), ([((([(-2147483648, 2147483647, 0), (-2147483648, 2147483647, 0), (-2147483648, 2147483647, 0), (-2147483648, 2147483647, 0)], []), ([], [(1, (-1, []))])), []), ((([(-2147483648, 2147483647, 0), (-2147483648, 2147483647, 0), (-2147483648, 2147483647, 0), (-2147483648, 2147483647, 0), (1, 4, 0), (-2147483648, 2147483647, 0)], [(0, [(0, 1)]), (3, [(0, -1)]), (0, [(1, 1)]), (35999, [(1, -1)]), (0, [(2, 1)]), (86399, [(2, -1)]), (0, [(3, 1)]), (5, [(3, -1)])]), ([(((541, []), (0, [])), (0, [(4, 1)]))], [(1, (0, [(5, 1)]))])), [(1, 0), (0, 0)])], [])))
/-- UnequalHoursModel.isPlace -/
def aa_m55 : aa_K := ((204, 3, []), (((([(-2147483648, 2147483647, 0), (-2147483648, 2147483647, 0), (1, 4, 0)], []), ([(((541, []), (0, [])), (0, [(2, 1)]))], [(3, (540, [])), (1, (0, [(0, 1)])), (1, (0, [(1, 1)]))])), [(0, 1), (0, 2)]), ([((([(-2147483648, 2147483647, 0), (-2147483648, 2147483647, 0), (1, 4, 0)], []), ([(((541, []), (0, [])), (0, [(2, 1)]))], [(1, (0, []))])), []), ((([(-2147483648, 2147483647, 0), (-2147483648, 2147483647, 0), (1, 4, 0)], [(0, [(0, 1)]), (1, [(0, -1)]), (0, [(1, 1)]), (43199, [(1, -1)])]), ([(((541, []), (0, [])), (0, [(2, 1)]))], [(1, (1, []))])), [])], [])))
/-- UnequalHoursModel.sincePlace -/
def aa_m56 : aa_K := ((206, 1, []), (((([(0, 43199, 0)], []), ([], [(3, (540, [])), (1, (0, [(0, 1)]))])), [(0, 1)]), ([((([(0, 43199, 0), (-2147483648, 2147483647, 0)], []), ([], [(1, (0, [(1, 1)]))])), [(0, 0)])], [])))
/-- UnequalHoursModel.backOf -/
def aa_m57 : aa_K := ((205, 5, [(35, 13, 13), (35, 13, 15), (35, 17, 17), (35, 18, 18)]), (((([(0, 3, 0), (-1, 36001, 0), (0, 1, 0), (0, 43199, 0), (1, 4, 0)], []), ([(((541, []), (0, [])), (0, [(4, 1)]))], [(3, (540, [])), (1, (0, [(0, 1)])), (1, (0, [(1, 1)])), (1, (0, [(2, 1)])), (1, (0, [(3, 1)]))])), [(0, 1), (0, 2), (0, 3), (0, 4)]), ([((([(0, 3, 0), (-1, 36001, 0), (0, 1, 0), (0, 43199, 0), (1, 4, 0), (-2147483648, 259195, 0)], []), ([(((541, []), (0, [])), (0, [(4, 1)]))], [(1, (0, [(5, 1)]))])), [(0, 0)])], [])))
/-- UnequalHoursModel.back -/
def aa_m58 : aa_K := ((203, 4, [(35, 13, 13), (35, 13, 15), (35, 17, 17), (35, 18, 18)]), (((([(-2147483648, 2147483647, 0), (-2147483648, 2147483647, 0), (-2147483648, 2147483647, 0), (-2147483648, 2147483647, 0)], []), ([], [(3, (540, [])), (1, (0, [(0, 1)])), (1, (0, [(1, 1)])), (1, (0, [(2, 1)])), (1, (0, [(3, 1)]))])), [(0, 1), (0, 2), (0, 3), (0, 4)]), ([((([(-2147483648, 2147483647, 0), (-2147483648, 2147483647, 0), (-2147483648, 2147483647, 0), (-2147483648, 2147483647, 0)], []), ([], [(1, (-1, []))])), []), ((([(-2147483648, 2147483647, 0), (-2147483648, 2147483647, 0), (-2147483648, 2147483647, 0), (-2147483648, 2147483647, 0), (1, 4, 0), (-2147483648, 259195, 0)], [(0, [(0, 1)]), (3, [(0, -1)]), (0, [(1, 1)]), (35999, [(1, -1)]), (0, [(2, 1)]), (1, [(2, -1)]), (0, [(3, 1)]), (43199, [(3, -1)])]), ([(((541, []), (0, [])), (0, [(4, 1)]))], [(1, (0, [(5, 1)]))])), [(1, 0), (0, 0)])], [])))
/-- UnequalHoursModel.offsetOf -/
def aa_m59 : aa_K := ((209, 2, []), (((([(0, 3, 0), (1, 4, 0)], []), ([(((541, []), (0, [])), (0, [(1, 1)]))], [(3, (540, [])), (1, (0, [(0, 1)]))])), [(0, 1)]), ([((([(0, 3, 0), (1, 4, 0), (-43200, 43200, 0)], []), ([(((541, []), (0, [])), (0, [(1, 1)]))], [(1, (0, [(2, 1)]))])), [(0, 0)])], [])))
/-- UnequalHoursModel.goOver -/
def aa_m60 : aa_K := ((208, 5, [(35, 22, 22), (35, 23, 23)]), (((([(0, 3, 0), (0, 35999, 0), (-2147483648, 2147483647, 0), (0, 3, 0), (1, 4, 0)], []), ([(((541, []), (0, [])), (0, [(4, 1)]))], [(3, (540, [])), (1, (0, [(0, 1)])), (2, (0, [(1, 1)])), (2, (0, [(2, 1)])), (1, (0, [(3, 1)]))])), [(0, 1), (0, 2), (0, 3), (0, 4)]), ([((([(0, 3, 0), (0, 35999, 0), (-2147483648, 2147483647, 0), (0, 3, 0), (1, 4, 0), (-24857, 60855, 0)], []), ([(((540, []), (22, [])), (0, [(5, 1)])), (((541, []), (0, [])), (0, [(4, 1)]))], [])), [(1, 0)])], [])))
/-- UnequalHoursModel.over -/
def aa_m61 : aa_K := ((207, 5, [(35, 22, 22), (35, 23, 23)]), (((([(-2147483648, 2147483647, 0), (-2147483648, 2147483647, 0), (-2147483648, 2147483647, 0), (-2147483648, 2147483647, 0), (-2147483648, 2147483647, 0)], []), ([], [(3, (540, [])), (1, (0, [(0, 1)])), (1, (0, [(1, 1)])), (1, (0, [(2, 1)])), (1, (0, [(3, 1)])), (1, (0, [(4, 1)]))])), [(0, 1), (0, 2), (0, 3), (0, 4), (0, 5)]), ([((([(-2147483648, 2147483647, 0), (-2147483648, 2147483647, 0), (-2147483648, 2147483647, 0), (-2147483648, 2147483647, 0), (-2147483648, 2147483647, 0), (-2147483648, 2147483647, 0)], []), ([], [(1, (0, [(5, 1)]))])), [(0, 0)])], [])))
/-- UnequalHoursModel.date -/
def aa_m62 : aa_K := ((210, 4, [(35, 13, 13), (35, 13, 15)]), (((([(-2147483648, 2147483647, 0), (-2147483648, 2147483647, 0), (-2147483648, 2147483647, 0), (-2147483648, 2147483647, 0)], []), ([], [(3, (540, [])), (1, (0, [(0, 1)])), (1, (0, [(1, 1)])), (1, (0, [(2, 1)])), (1, (0, [(3, 1)]))])), [(0, 1), (0, 2), (0, 3), (0, 4)]), ([((([(-2147483648, 2147483647, 0), (-2147483648, 2147483647, 0), (-2147483648, 2147483647, 0), (-2147483648, 2147483647, 0)], []), ([], [(1, (-1, []))])), []), ((([(-2147483648, 2147483647, 0), (-2147483648, 2147483647, 0), (-2147483648, 2147483647, 0), (-2147483648, 2147483647, 0), (1, 4, 0), (-2, 36000, 0)], [(0, [(0, 1)]), (3, [(0, -1)]), (0, [(1, 1)]), (35999, [(1, -1)]), (0, [(2, 1)]), (86399, [(2, -1)]), (0, [(3, 1)]), (3, [(3, -1)])]), ([(((541, []), (0, [])), (0, [(4, 1)]))], [(1, (0, [(5, 1)]))])), [(1, 0), (0, 0)])], [])))
/-- UnequalHoursModel.rungAt -/
def aa_m63 : aa_K := ((213, 4, [(43, 0, 4), (44, 0, 43)]), (((([(0, 3, 0), (-1, 35999, 0), (0, 7, 0), (0, 8, 0)], [(-1, [(2, -1), (3, 1)])]), ([(((541, []), (2, [])), (0, [(3, 1)]))], [(3, (540, [])), (1, (0, [(0, 1)])), (1, (0, [(1, 1)])), (1, (0, [(2, 1)]))])), [(0, 1), (0, 2), (0, 3)]), ([((([(0, 3, 0), (-1, 35999, 0), (0, 7, 0), (0, 8, 0)], [(-1, [(2, -1), (3, 1)])]), ([(((541, []), (2, [])), (0, [(3, 1)]))], [(1, (-1, []))])), []), ((([(0, 3, 0), (-1, 35999, 0), (0, 7, 0), (0, 8, 0), (-2147483647, 2147483647, 0), (-2147483648, 2147483647, 0)], [(-1, [(2, -1), (3, 1)])]), ([(((540, []), (18, [])), (0, [(4, 1)])), (((541, []), (2, [])), (0, [(3, 1)]))], [(1, (0, [(5, 1)]))])), [(1, 0), (0, 0)])], [])))
/-- UnequalHoursModel.comesIn -/
def aa_m64 : aa_K := ((216, 10, [(41, 0, 23), (42, 0, 23), (35, 26, 26)]), (((([(0, 2147397247, 0), (0, 7, 0), (-1, -1, 0), (0, 86398, 0), (1, 86399, 0), (0, 86399, 0), (1, 172797, 0), (0, 15, 0), (1, 4, 0), (1, 8, 0)], []), ([(((540, []), (13, [])), (0, [(2, 1)])), (((540, []), (14, [])), (0, [(3, 1)])), (((540, []), (15, [])), (0, [(4, 1)])), (((540, []), (17, [])), (0, [(5, 1)])), (((540, []), (18, [])), (0, [(6, 1)])), (((540, []), (26, [])), (0, [(7, 1)])), (((541, []), (0, [])), (0, [(8, 1)])), (((541, []), (2, [])), (0, [(9, 1)]))], [(3, (540, [])), (1, (0, [(0, 1)])), (1, (0, [(1, 1)]))])), [(0, 1), (0, 2)]), ([((([(0, 2147397247, 0), (0, 7, 0), (-1, -1, 0), (0, 86398, 0), (1, 86399, 0), (0, 86399, 0), (1, 172797, 0), (0, 15, 0), (1, 4, 0), (1, 8, 0)], []), ([(((540, []), (13, [])), (0, [(2, 1)])), (((540, []), (14, [])), (0, [(3, 1)])), (((540, []), (15, [])), (0, [(4, 1)])), (((540, []), (17, [])), (0, [(5, 1)])), (((540, []), (18, [])), (0, [(6, 1)])), (((540, []), (26, [])), (1, [(7, 1)])), (((541, []), (0, [])), (0, [(8, 1)])), (((541, []), (2, [])), (0, [(9, 1)]))], [])), [])], [(5, ((([(0, 2147397247, 0), (0, 7, 0), (-1, -1, 0), (0, 86398, 0), (1, 86399, 0), (0, 86399, 0), (1, 172797, 0), (0, 15, 0), (1, 4, 0), (1, 8, 0), (0, 15, 0)], []), ([(((540, []), (13, [])), (0, [(2, 1)])), (((540, []), (14, [])), (0, [(3, 1)])), (((540, []), (15, [])), (0, [(4, 1)])), (((540, []), (17, [])), (0, [(5, 1)])), (((540, []), (18, [])), (0, [(6, 1)])), (((540, []), (26, [])), (0, [(7, 1)])), (((541, []), (0, [])), (0, [(8, 1)])), (((541, []), (2, [])), (0, [(9, 1)]))], [(3, (540, [])), (1, (0, [(0, 1)])), (1, (0, [(1, 1)])), (1, (0, [(10, 1)]))])), [(0, 3)]), (0, [(10, 1)]))])))
/-- UnequalHoursModel.layRings -/
def aa_m65 : aa_K := ((212, 3, [(41, 0, 23), (42, 0, 23), (43, 0, 4), (44, 0, 43), (35, 13, 13), (35, 13, 15), (35, 17, 17), (35, 18, 18), (35, 26, 26)]), (((([(0, 3, 0), (0, 43199, 0), (1, 4, 0)], []), ([(((541, []), (0, [])), (0, [(2, 1)]))], [(3, (540, [])), (1, (0, [(0, 1)])), (1, (0, [(1, 1)]))])), [(0, 1), (0, 2)]), ([((([(0, 3, 0), (0, 43199, 0), (1, 4, 0)], []), ([(((541, []), (0, [])), (0, [(2, 1)]))], [])), [])], [(7, ((([(0, 3, 0), (0, 43199, 0), (1, 4, 0), (0, 8, 0), (0, 16, 0)], [(0, [(3, 2), (4, -1)])]), ([(((541, []), (0, [])), (0, [(2, 1)])), (((540, []), (26, [])), (0, [(4, 1)]))], [(3, (540, [])), (1, (0, [(0, 1)])), (1, (0, [(1, 1)])), (1, (0, [(3, 1)])), (0, (0, [])), (0, (0, []))])), [(0, 3), (1, 1)]), (8, [(3, -1)]))])))
/-- UnequalHoursModel.strokesOf -/
def aa_m66 : aa_K := ((217, 3, []), (((([(0, 15, 0), (1, 16, 0), (1, 4, 0)], []), ([(((540, []), (26, [])), (0, [(1, 1)])), (((541, []), (0, [])), (0, [(2, 1)]))], [(3, (540, [])), (1, (0, [(0, 1)]))])), [(0, 1)]), ([((([(0, 15, 0), (1, 16, 0), (1, 4, 0), (0, 24, 0)], []), ([(((540, []), (26, [])), (0, [(1, 1)])), (((541, []), (0, [])), (0, [(2, 1)]))], [(1, (0, [(3, 1)]))])), [(0, 0)])], [])))
/-- UnequalHoursModel.ring -/
def aa_m67 : aa_K := ((211, 4, [(41, 0, 23), (42, 0, 23), (43, 0, 4), (44, 0, 43), (35, 13, 13), (35, 13, 15), (35, 17, 17), (35, 18, 18), (35, 26, 26)]), (((([(-2147483648, 2147483647, 0), (-2147483648, 2147483647, 0), (-2147483648, 2147483647, 0), (-2147483648, 2147483647, 0)], []), ([], [(3, (540, [])), (1, (0, [(0, 1)])), (1, (0, [(1, 1)])), (1, (0, [(2, 1)])), (1, (0, [(3, 1)]))])), [(0, 1), (0, 2), (0, 3), (0, 4)]), ([((([(-2147483648, 2147483647, 0), (-2147483648, 2147483647, 0), (-2147483648, 2147483647, 0), (-2147483648, 2147483647, 0)], []), ([], [(1, (-1, []))])), []), ((([(-2147483648, 2147483647, 0), (-2147483648, 2147483647, 0), (-2147483648, 2147483647, 0), (-2147483648, 2147483647, 0), (1, 4, 0), (-2147483648, 2147483647, 0)], [(0, [(0, 1)]), (3, [(0, -1)]), (0, [(1, 1)]), (35999, [(1, -1)]), (1, [(2, 1)]), (15, [(2, -1)]), (0, [(3, 1)]), (2, [(3, -1)])]), ([(((541, []), (0, [])), (0, [(4, 1)]))], [(1, (0, [(5, 1)]))])), [(1, 0), (0, 0)])], [])))
/-- UnequalHoursModel.strokes -/
def aa_m68 : aa_K := ((218, 2, [(41, 0, 23), (42, 0, 23), (43, 0, 4), (44, 0, 43), (35, 13, 13), (35, 13, 15), (35, 17, 17), (35, 18, 18), (35, 26, 26)]), (((([(-2147483648, 2147483647, 0), (-2147483648, 2147483647, 0)], []), ([], [(3, (540, [])), (1, (0, [(0, 1)])), (1, (0, [(1, 1)]))])), [(0, 1), (0, 2)]), ([((([(-2147483648, 2147483647, 0), (-2147483648, 2147483647, 0)], []), ([], [(1, (-1, []))])), []), ((([(-2147483648, 2147483647, 0), (-2147483648, 2147483647, 0), (1, 4, 0), (-2147483648, 2147483647, 0)], [(0, [(0, 1)]), (3, [(0, -1)]), (0, [(1, 1)]), (35999, [(1, -1)])]), ([(((541, []), (0, [])), (0, [(2, 1)]))], [(1, (0, [(3, 1)]))])), [(1, 0), (0, 0)])], [(22, ((([(0, 3, 0), (0, 35999, 0), (-2147483648, 2147483647, 0), (0, 16, 0), (1, 4, 0)], []), ([(((541, []), (0, [])), (0, [(4, 1)]))], [(3, (540, [])), (1, (0, [(0, 1)])), (1, (0, [(1, 1)])), (1, (0, [(2, 1)])), (1, (0, [(3, 1)]))])), [(0, 3), (0, 4), (1, 0)]), (16, [(3, -1)]))])))
/-- UnequalHoursModel.soonest -/
def aa_m69 : aa_K := ((219, 3, [(41, 0, 23), (42, 0, 23), (43, 0, 4), (44, 0, 43), (35, 13, 13), (35, 13, 15), (35, 17, 17), (35, 18, 18), (35, 26, 26)]), (((([(-2147483648, 2147483647, 0), (-2147483648, 2147483647, 0), (-2147483648, 2147483647, 0)], []), ([], [(3, (540, [])), (1, (0, [(0, 1)])), (1, (0, [(1, 1)])), (1, (0, [(2, 1)]))])), [(0, 1), (0, 2), (0, 3)]), ([((([(-2147483648, 2147483647, 0), (-2147483648, 2147483647, 0), (-2147483648, 2147483647, 0)], []), ([], [(1, (-1, []))])), []), ((([(-2147483648, 2147483647, 0), (-2147483648, 2147483647, 0), (-2147483648, 2147483647, 0), (1, 4, 0), (-2147483648, 2147483647, 0)], [(0, [(0, 1)]), (3, [(0, -1)]), (0, [(1, 1)]), (35999, [(1, -1)]), (0, [(2, 1)]), (86399, [(2, -1)])]), ([(((541, []), (0, [])), (0, [(3, 1)]))], [(1, (0, [(4, 1)]))])), [(1, 0), (0, 0)])], [(27, ((([(0, 3, 0), (0, 35999, 0), (0, 86399, 0), (0, 16, 0), (1, 4, 0)], []), ([(((541, []), (0, [])), (0, [(4, 1)]))], [(3, (540, [])), (1, (0, [(0, 1)])), (1, (0, [(1, 1)])), (1, (0, [(2, 1)])), (1, (0, [(3, 1)]))])), [(0, 4), (1, 0)]), (16, [(3, -1)]))])))
/-- UnequalHoursModel.clash -/
def aa_m70 : aa_K := ((220, 3, [(41, 0, 23), (42, 0, 23), (43, 0, 4), (44, 0, 43), (35, 13, 13), (35, 13, 15), (35, 17, 17), (35, 18, 18), (35, 26, 26)]), (((([(-2147483648, 2147483647, 0), (-2147483648, 2147483647, 0), (-2147483648, 2147483647, 0)], []), ([], [(3, (540, [])), (1, (0, [(0, 1)])), (1, (0, [(1, 1)])), (1, (0, [(2, 1)]))])), [(0, 1), (0, 2), (0, 3)]), ([((([(-2147483648, 2147483647, 0), (-2147483648, 2147483647, 0), (-2147483648, 2147483647, 0)], []), ([], [(1, (-1, []))])), []), ((([(-2147483648, 2147483647, 0), (-2147483648, 2147483647, 0), (-2147483648, 2147483647, 0), (1, 4, 0), (-2147483648, 2147483647, 0)], [(0, [(0, 1)]), (3, [(0, -1)]), (0, [(1, 1)]), (35999, [(1, -1)]), (0, [(2, 1)]), (86400, [(2, -1)])]), ([(((541, []), (0, [])), (0, [(3, 1)]))], [(1, (0, [(4, 1)]))])), [(1, 0), (0, 0)])], [(33, ((([(0, 3, 0), (0, 35999, 0), (0, 86400, 0), (-2147483648, 2147483647, 0), (1, 16, 0), (1, 4, 0)], []), ([(((541, []), (0, [])), (0, [(5, 1)]))], [(3, (540, [])), (1, (0, [(0, 1)])), (1, (0, [(1, 1)])), (1, (0, [(2, 1)])), (1, (0, [(3, 1)])), (1, (0, [(4, 1)]))])), [(0, 4), (0, 5), (1, 0)]), (16, [(4, -1)]))])))
/-- UnequalHoursModel.lightOf -/
def aa_m71 : aa_K := ((222, 3, [(35, 13, 13), (35, 13, 15), (35, 17, 17), (35, 18, 18)]), (((([(0, 3, 0), (-1, 43199, 0), (1, 4, 0)], []), ([(((541, []), (0, [])), (0, [(2, 1)]))], [(3, (540, [])), (1, (0, [(0, 1)])), (1, (0, [(1, 1)]))])), [(0, 1), (0, 2)]), ([((([(0, 3, 0), (-1, 43199, 0), (1, 4, 0)], []), ([(((541, []), (0, [])), (0, [(2, 1)]))], [(1, (-1, []))])), []), ((([(0, 3, 0), (-1, 43199, 0), (1, 4, 0), (0, 86398, 0), (1, 86399, 0), (0, 86399, 0), (1, 172797, 0), (1, 12, 0), (1, 172797, 0)], [(0, [(1, 1)]), (35999, [(1, -1)])]), ([(((540, []), (13, [])), (-1, [])), (((540, []), (14, [])), (0, [(3, 1)])), (((540, []), (15, [])), (0, [(4, 1)])), (((540, []), (17, [])), (0, [(5, 1)])), (((540, []), (18, [])), (0, [(6, 1)])), (((541, []), (0, [])), (0, [(2, 1)])), (((541, []), (4, [(0, 50)])), (0, [(7, 1)]))], [(1, (0, [(8, 1)]))])), [(1, 1), (1, 2), (1, 3), (1, 4), (1, 6), (0, 0)])], [])))
/-- UnequalHoursModel.jar -/
def aa_m72 : aa_K := ((221, 5, [(35, 13, 13), (35, 13, 15), (35, 17, 17), (35, 18, 18)]), (((([(-2147483648, 2147483647, 0), (-2147483648, 2147483647, 0), (-2147483648, 2147483647, 0), (-2147483648, 2147483647, 0), (-2147483648, 2147483647, 0)], []), ([], [(3, (540, [])), (1, (0, [(0, 1)])), (1, (0, [(1, 1)])), (1, (0, [(2, 1)])), (1, (0, [(3, 1)])), (1, (0, [(4, 1)]))])), [(0, 1), (0, 2), (0, 3), (0, 4), (0, 5)]), ([((([(-2147483648, 2147483647, 0), (-2147483648, 2147483647, 0), (-2147483648, 2147483647, 0), (-2147483648, 2147483647, 0), (-2147483648, 2147483647, 0), (-1036788, 12, 0)], []), ([], [(1, (0, [(5, 1)]))])), [(0, 0)])], [])))
/-- UnequalHoursModel.areDays -/
def aa_m73 : aa_K := ((224, 4, []), (((([(-2147483648, 2147483647, 0), (-2147483648, 2147483647, 0), (359, 359, 0), (1, 4, 0)], []), ([(((541, []), (0, [])), (0, [(3, 1)]))], [(1, (0, [(0, 1)])), (1, (0, [(1, 1)])), (1, (0, [(2, 1)]))])), [(0, 0), (0, 1), (0, 2)]), ([((([(-2147483648, 2147483647, 0), (-2147483648, 2147483647, 0), (359, 359, 0), (1, 4, 0)], []), ([(((541, []), (0, [])), (0, [(3, 1)]))], [(1, (0, []))])), []), ((([(-2147483648, 2147483647, 0), (-2147483648, 2147483647, 0), (359, 359, 0), (1, 4, 0)], [(0, [(0, 1)]), (35999, [(0, -1)]), (0, [(1, 1)]), (35999, [(1, -1)]), (0, [(0, -1), (1, 1)]), (0, [(0, 1), (1, -1), (2, 1)])]), ([(((541, []), (0, [])), (0, [(3, 1)]))], [(1, (1, []))])), [])], [])))
/-- UnequalHoursModel.sinceHour -/
def aa_m74 : aa_K := ((225, 7, []), (((([(0, 12, 0), (-1, -1, 0), (0, 86398, 0), (1, 86399, 0), (0, 86399, 0), (1, 172797, 0), (1, 4, 0)], []), ([(((540, []), (13, [])), (0, [(1, 1)])), (((540, []), (14, [])), (0, [(2, 1)])), (((540, []), (15, [])), (0, [(3, 1)])), (((540, []), (17, [])), (0, [(4, 1)])), (((540, []), (18, [])), (0, [(5, 1)])), (((541, []), (0, [])), (0, [(6, 1)]))], [(3, (540, [])), (1, (0, [(0, 1)]))])), [(0, 1)]), ([((([(0, 12, 0), (-1, -1, 0), (0, 86398, 0), (1, 86399, 0), (0, 86399, 0), (1, 172797, 0), (1, 4, 0), (0, 172797, 0)], []), ([(((540, []), (13, [])), (0, [(1, 1)])), (((540, []), (14, [])), (0, [(2, 1)])), (((540, []), (15, [])), (0, [(3, 1)])), (((540, []), (17, [])), (0, [(4, 1)])), (((540, []), (18, [])), (0, [(5, 1)])), (((541, []), (0, [])), (0, [(6, 1)]))], [(1, (0, [(7, 1)]))])), [(0, 0)])], [])))
/-- UnequalHoursModel.work -/
def aa_m75 : aa_K := ((223, 5, [(35, 13, 13), (35, 13, 15), (35, 17, 17), (35, 18, 18)]), (((([(-2147483648, 2147483647, 0), (-2147483648, 2147483647, 0), (-2147483648, 2147483647, 0), (-2147483648, 2147483647, 0), (-2147483648, 2147483647, 0)], []), ([], [(3, (540, [])), (1, (0, [(0, 1)])), (1, (0, [(1, 1)])), (1, (0, [(2, 1)])), (1, (0, [(3, 1)])), (1, (0, [(4, 1)]))])), [(0, 1), (0, 2), (0, 3), (0, 4), (0, 5)]), ([((([(-2147483648, 2147483647, 0), (-2147483648, 2147483647, 0), (-2147483648, 2147483647, 0), (-2147483648, 2147483647, 0), (-2147483648, 2147483647, 0)], []), ([], [(1, (-1, []))])), []), ((([(-2147483648, 2147483647, 0), (-2147483648, 2147483647, 0), (-2147483648, 2147483647, 0), (-2147483648, 2147483647, 0), (-2147483648, 2147483647, 0), (1, 4, 0), (-2147483648, 2147483647, 0)], [(0, [(0, 1)]), (3, [(0, -1)]), (0, [(1, 1)]), (35999, [(1, -1)]), (0, [(2, 1)]), (35999, [(2, -1)]), (0, [(3, 1)]), (11, [(3, -1)]), (-1, [(4, 1)]), (12, [(4, -1)]), (0, [(1, -1), (2, 1)]), (359, [(1, 1), (2, -1)]), (-1, [(3, -1), (4, 1)])]), ([(((541, []), (0, [])), (0, [(5, 1)]))], [(1, (0, [(6, 1)]))])), [(1, 0), (0, 0)])], [(52, ((([(0, 3, 0), (0, 35999, 0), (0, 35999, 0), (0, 11, 0), (1, 12, 0), (-2147483648, 2147483647, 0), (0, 36000, 0), (1, 4, 0)], [(0, [(1, -1), (2, 1)]), (359, [(1, 1), (2, -1)]), (-1, [(3, -1), (4, 1)])]), ([(((541, []), (0, [])), (0, [(7, 1)]))], [(3, (540, [])), (1, (0, [(0, 1)])), (1, (0, [(1, 1)])), (1, (0, [(2, 1)])), (1, (0, [(3, 1)])), (1, (0, [(4, 1)])), (1, (0, [(5, 1)])), (1, (0, [(6, 1)]))])), [(0, 6), (0, 7), (1, 0)]), (36000, [(6, -1)]))])))
/-- UnequalHoursModel.size -/
def aa_m76 : aa_K := ((227, 1, []), (((([(-86400, 172799, 0)], []), ([], [(1, (0, [(0, 1)]))])), [(0, 0)]), ([((([(-86400, 172799, 0)], [(-1, [(0, -1)])]), ([], [(1, (0, [(0, -1)]))])), []), ((([(-86400, 172799, 0)], [(0, [(0, 1)])]), ([], [(1, (0, [(0, 1)]))])), [])], [])))
/-- UnequalHoursModel.season -/
def aa_m77 : aa_K := ((226, 2, [(35, 13, 13), (35, 13, 15), (35, 17, 17), (35, 18, 18)]), (((([(-2147483648, 2147483647, 0), (-2147483648, 2147483647, 0)], []), ([], [(3, (540, [])), (1, (0, [(0, 1)])), (1, (0, [(1, 1)]))])), [(0, 1), (0, 2)]), ([((([(-2147483648, 2147483647, 0), (-2147483648, 2147483647, 0)], []), ([], [(1, (-1, []))])), []), ((([(-2147483648, 2147483647, 0), (-2147483648, 2147483647, 0), (1, 4, 0), (-2147483648, 2147483647, 0)], [(0, [(0, 1)]), (3, [(0, -1)]), (0, [(1, 1)]), (3, [(1, -1)])]), ([(((541, []), (0, [])), (0, [(2, 1)]))], [(1, (0, [(3, 1)]))])), [(1, 0), (0, 0)])], [(31, ((([(0, 3, 0), (0, 3, 0), (-2, 359, 0), (-1000000, 172799, 0), (-2147483648, 2147483647, 0), (0, 360, 0), (1, 4, 0)], []), ([(((541, []), (0, [])), (0, [(6, 1)]))], [(3, (540, [])), (1, (0, [(0, 1)])), (1, (0, [(1, 1)])), (1, (0, [(2, 1)])), (1, (0, [(3, 1)])), (1, (0, [(4, 1)])), (1, (0, [(5, 1)])), (0, (0, [])), (0, (0, []))])), [(0, 3), (0, 4), (0, 5), (0, 6), (1, 0)]), (360, [(5, -1)]))])))
/-- UnequalHoursModel.layHour -/
def aa_m78 : aa_K := ((229, 4, [(35, 13, 13), (35, 13, 15), (35, 17, 17), (35, 18, 18), (35, 29, 29), (35, 30, 30)]), (((([(0, 3, 0), (-4, 43199, 0), (0, 23, 0), (1, 4, 0)], []), ([(((541, []), (0, [])), (0, [(3, 1)]))], [(3, (540, [])), (1, (0, [(0, 1)])), (1, (0, [(1, 1)])), (1, (0, [(2, 1)]))])), [(0, 1), (0, 2), (0, 3)]), ([((([(0, 3, 0), (-4, 43199, 0), (0, 23, 0), (1, 4, 0)], []), ([(((541, []), (0, [])), (0, [(3, 1)]))], [(1, (0, []))])), []), ((([(0, 3, 0), (-4, 43199, 0), (0, 23, 0), (1, 4, 0), (0, 86398, 0), (1, 86399, 0), (0, 86399, 0), (1, 172797, 0), (0, 259196, 0), (0, 259196, 0), (1, 12, 0)], [(0, [(1, 1)]), (35999, [(1, -1)])]), ([(((540, []), (13, [])), (-1, [])), (((540, []), (14, [])), (0, [(4, 1)])), (((540, []), (15, [])), (0, [(5, 1)])), (((540, []), (17, [])), (0, [(6, 1)])), (((540, []), (18, [])), (0, [(7, 1)])), (((540, []), (29, [])), (0, [(8, 1)])), (((540, []), (30, [])), (0, [(9, 1)])), (((541, []), (0, [])), (0, [(3, 1)])), (((541, []), (4, [(0, 50)])), (0, [(10, 1)]))], [(1, (1, []))])), [(1, 1), (1, 2), (1, 3), (1, 4), (1, 5), (1, 6), (1, 8)])], [])))
/-- UnequalHoursModel.meet -/
def aa_m79 : aa_K := ((228, 5, [(35, 13, 13), (35, 13, 15), (35, 17, 17), (35, 18, 18), (35, 29, 29), (35, 30, 30)]), (((([(-2147483648, 2147483647, 0), (-2147483648, 2147483647, 0), (-2147483648, 2147483647, 0), (-2147483648, 2147483647, 0), (-2147483648, 2147483647, 0)], []), ([], [(3, (540, [])), (1, (0, [(0, 1)])), (1, (0, [(1, 1)])), (1, (0, [(2, 1)])), (1, (0, [(3, 1)])), (1, (0, [(4, 1)]))])), [(0, 1), (0, 2), (0, 3), (0, 4), (0, 5)]), ([((([(-2147483648, 2147483647, 0), (-2147483648, 2147483647, 0), (-2147483648, 2147483647, 0), (-2147483648, 2147483647, 0), (-2147483648, 2147483647, 0), (-2147483648, 2147483647, 0)], []), ([], [(1, (0, [(5, 1)]))])), [(0, 0)])], [(115, ((([(0, 15, 0), (0, 23, 0), (0, 23, 0), (0, 35999, 0), (0, 1, 0), (0, 259196, 0), (0, 259196, 0), (-2147483648, 2147483647, 0), (-2147483648, 2147483647, 0), (-4, 43199, 0), (1, 4, 0)], []), ([(((541, []), (0, [])), (0, [(10, 1)]))], [(3, (540, [])), (1, (0, [(0, 1)])), (1, (0, [(1, 1)])), (1, (0, [(2, 1)])), (1, (0, [(3, 1)])), (1, (0, [(4, 1)])), (1, (0, [(5, 1)])), (1, (0, [(6, 1)])), (1, (0, [(7, 1)])), (1, (0, [(8, 1)])), (1, (0, [(9, 1)])), (0, (0, [])), (0, (0, [])), (0, (0, []))])), [(0, 6), (0, 7), (0, 8), (0, 9), (0, 10), (1, 0)]), (43199, [(9, -1)]))])))
/-- UnequalHoursModel.middle -/
def aa_m80 : aa_K := ((230, 4, [(35, 13, 13), (35, 13, 15), (35, 17, 17), (35, 18, 18)]), (((([(-2147483648, 2147483647, 0), (-2147483648, 2147483647, 0), (-2147483648, 2147483647, 0), (-2147483648, 2147483647, 0)], []), ([], [(3, (540, [])), (1, (0, [(0, 1)])), (1, (0, [(1, 1)])), (1, (0, [(2, 1)])), (1, (0, [(3, 1)]))])), [(0, 1), (0, 2), (0, 3), (0, 4)]), ([((([(-2147483648, 2147483647, 0), (-2147483648, 2147483647, 0), (-2147483648, 2147483647, 0), (-2147483648, 2147483647, 0), (-1000000, 172797, 0)], []), ([], [(1, (0, [(4, 1)]))])), [(0, 0)])], [])))
/-- UnequalHoursModel.apart -/
def aa_m81 : aa_K := ((231, 5, [(35, 13, 13), (35, 13, 15), (35, 17, 17), (35, 18, 18)]), (((([(-2147483648, 2147483647, 0), (-2147483648, 2147483647, 0), (-2147483648, 2147483647, 0), (-2147483648, 2147483647, 0), (-2147483648, 2147483647, 0)], []), ([], [(3, (540, [])), (1, (0, [(0, 1)])), (1, (0, [(1, 1)])), (1, (0, [(2, 1)])), (1, (0, [(3, 1)])), (1, (0, [(4, 1)]))])), [(0, 1), (0, 2), (0, 3), (0, 4), (0, 5)]), ([((([(-2147483648, 2147483647, 0), (-2147483648, 2147483647, 0), (-2147483648, 2147483647, 0), (-2147483648, 2147483647, 0), (-2147483648, 2147483647, 0), (-2147483648, 2147483647, 0)], []), ([], [(1, (0, [(5, 1)]))])), [(0, 0)])], [])))
/-- UnequalHoursModel.best -/
def aa_m82 : aa_K := ((232, 5, [(35, 13, 13), (35, 13, 15), (35, 17, 17), (35, 18, 18), (35, 29, 29), (35, 30, 30)]), (((([(-2147483648, 2147483647, 0), (-2147483648, 2147483647, 0), (-2147483648, 2147483647, 0), (-2147483648, 2147483647, 0), (-2147483648, 2147483647, 0)], []), ([], [(3, (540, [])), (1, (0, [(0, 1)])), (1, (0, [(1, 1)])), (1, (0, [(2, 1)])), (1, (0, [(3, 1)])), (1, (0, [(4, 1)]))])), [(0, 1), (0, 2), (0, 3), (0, 4), (0, 5)]), ([((([(-2147483648, 2147483647, 0), (-2147483648, 2147483647, 0), (-2147483648, 2147483647, 0), (-2147483648, 2147483647, 0), (-2147483648, 2147483647, 0)], []), ([], [(1, (-1, []))])), []), ((([(-2147483648, 2147483647, 0), (-2147483648, 2147483647, 0), (-2147483648, 2147483647, 0), (-2147483648, 2147483647, 0), (-2147483648, 2147483647, 0), (1, 4, 0), (-2, 35999, 0)], [(0, [(0, 1)]), (3, [(0, -1)]), (0, [(1, 1)]), (35999, [(1, -1)]), (-1, [(2, 1)]), (360, [(2, -1)]), (0, [(3, 1)]), (11, [(3, -1)]), (0, [(4, 1)]), (2, [(4, -1)])]), ([(((541, []), (0, [])), (0, [(5, 1)]))], [(1, (0, [(6, 1)]))])), [(1, 0), (0, 0)])], [(59, ((([(0, 3, 0), (0, 35999, 0), (1, 360, 0), (0, 11, 0), (0, 2, 0), (-2, 35999, 0), (-1000000, 864000, 0), (0, 43199, 0), (1, 4, 0)], []), ([(((541, []), (0, [])), (0, [(8, 1)]))], [(3, (540, [])), (1, (0, [(0, 1)])), (1, (0, [(1, 1)])), (1, (0, [(2, 1)])), (1, (0, [(3, 1)])), (1, (0, [(4, 1)])), (1, (0, [(5, 1)])), (1, (0, [(6, 1)])), (1, (0, [(7, 1)])), (0, (0, []))])), [(0, 6), (0, 7), (0, 8), (1, 0)]), (43199, [(7, -1)]))])))
/-- UnequalHoursModel.lastOf -/
def aa_m83 : aa_K := ((234, 2, []), (((([(0, 35999, 0), (1, 4, 0)], []), ([(((541, []), (0, [])), (0, [(1, 1)]))], [(1, (0, [(0, 1)]))])), [(0, 0)]), ([((([(0, 35999, 0), (1, 4, 0), (359, 35999, 0)], []), ([(((541, []), (0, [])), (0, [(1, 1)]))], [(1, (0, [(2, 1)]))])), [(0, 0)])], [])))
/-- UnequalHoursModel.candle -/
def aa_m84 : aa_K := ((233, 3, [(35, 13, 13), (35, 13, 15), (35, 17, 17), (35, 18, 18)]), (((([(-2147483648, 2147483647, 0), (-2147483648, 2147483647, 0), (-2147483648, 2147483647, 0)], []), ([], [(3, (540, [])), (1, (0, [(0, 1)])), (1, (0, [(1, 1)])), (1, (0, [(2, 1)]))])), [(0, 1), (0, 2), (0, 3)]), ([((([(-2147483648, 2147483647, 0), (-2147483648, 2147483647, 0), (-2147483648, 2147483647, 0)], []), ([], [(1, (-1, []))])), []), ((([(-2147483648, 2147483647, 0), (-2147483648, 2147483647, 0), (-2147483648, 2147483647, 0), (1, 4, 0), (-2, 35999, 0)], [(0, [(0, 1)]), (3, [(0, -1)]), (0, [(1, 1)]), (35999, [(1, -1)]), (0, [(2, 1)]), (35999, [(2, -1)])]), ([(((541, []), (0, [])), (0, [(3, 1)]))], [(1, (0, [(4, 1)]))])), [(1, 0), (0, 0)])], [(29, ((([(0, 3, 0), (0, 35999, 0), (0, 35999, 0), (-43200, 172797, 0), (0, 36000, 0), (1, 4, 0)], []), ([(((541, []), (0, [])), (0, [(5, 1)]))], [(3, (540, [])), (1, (0, [(0, 1)])), (1, (0, [(1, 1)])), (1, (0, [(2, 1)])), (1, (0, [(3, 1)])), (1, (0, [(4, 1)])), (0, (0, []))])), [(0, 4), (0, 5), (1, 0)]), (36000, [(4, -1)]))])))
/-- UnequalHoursModel.shared -/
def aa_m85 : aa_K := ((235, 3, [(35, 13, 13), (35, 13, 15), (35, 17, 17), (35, 18, 18)]), (((([(-2147483648, 2147483647, 0), (-2147483648, 2147483647, 0), (-2147483648, 2147483647, 0)], []), ([], [(3, (540, [])), (1, (0, [(0, 1)])), (1, (0, [(1, 1)])), (1, (0, [(2, 1)]))])), [(0, 1), (0, 2), (0, 3)]), ([((([(-2147483648, 2147483647, 0), (-2147483648, 2147483647, 0), (-2147483648, 2147483647, 0)], []), ([], [(1, (-1, []))])), []), ((([(-2147483648, 2147483647, 0), (-2147483648, 2147483647, 0), (-2147483648, 2147483647, 0), (1, 4, 0), (-2147483648, 2147483647, 0)], [(0, [(0, 1)]), (15, [(0, -1)]), (0, [(1, 1)]), (35999, [(1, -1)]), (0, [(2, 1)]), (1, [(2, -1)])]), ([(((541, []), (0, [])), (0, [(3, 1)]))], [(1, (0, [(4, 1)]))])), [(1, 0), (0, 0)])], [(90, ((([(0, 15, 0), (0, 35999, 0), (0, 1, 0), (0, 86399, 0), (1, 259196, 0), (-2147483648, 2147483647, 0), (-2147483648, 2147483647, 0), (-1, 36001, 0), (1, 4, 0)], []), ([(((541, []), (0, [])), (0, [(8, 1)]))], [(3, (540, [])), (1, (0, [(0, 1)])), (1, (0, [(1, 1)])), (1, (0, [(2, 1)])), (1, (0, [(3, 1)])), (1, (0, [(4, 1)])), (1, (0, [(5, 1)])), (1, (0, [(6, 1)])), (1, (0, [(7, 1)])), (0, (0, [])), (0, (0, []))])), [(0, 4), (0, 5), (0, 6), (0, 7), (0, 8), (1, 0)]), (36001, [(7, -1)]))])))
/-- UnequalHoursModel.busiest -/
def aa_m86 : aa_K := ((236, 4, [(41, 0, 23), (42, 0, 23), (43, 0, 4), (44, 0, 43), (45, 0, 7), (35, 13, 13), (35, 13, 15), (35, 17, 17), (35, 18, 18), (35, 26, 26)]), (((([(-2147483648, 2147483647, 0), (-2147483648, 2147483647, 0), (-2147483648, 2147483647, 0), (-2147483648, 2147483647, 0)], []), ([], [(3, (540, [])), (1, (0, [(0, 1)])), (1, (0, [(1, 1)])), (1, (0, [(2, 1)])), (1, (0, [(3, 1)]))])), [(0, 1), (0, 2), (0, 3), (0, 4)]), ([((([(-2147483648, 2147483647, 0), (-2147483648, 2147483647, 0), (-2147483648, 2147483647, 0), (-2147483648, 2147483647, 0)], []), ([], [(1, (-1, []))])), []), ((([(-2147483648, 2147483647, 0), (-2147483648, 2147483647, 0), (-2147483648, 2147483647, 0), (-2147483648, 2147483647, 0), (1, 4, 0), (-2147483648, 2147483647, 0)], [(0, [(0, 1)]), (3, [(0, -1)]), (0, [(1, 1)]), (35999, [(1, -1)]), (-1, [(2, 1)]), (60, [(2, -1)]), (0, [(3, 1)]), (1, [(3, -1)])]), ([(((541, []), (0, [])), (0, [(4, 1)]))], [(1, (0, [(5, 1)]))])), [(1, 0), (0, 0)])], [(40, ((([(0, 3, 0), (0, 35999, 0), (1, 60, 0), (0, 1, 0), (0, 8, 0), (1, 4, 0)], []), ([(((541, []), (0, [])), (0, [(5, 1)]))], [(3, (540, [])), (1, (0, [(0, 1)])), (1, (0, [(1, 1)])), (1, (0, [(2, 1)])), (1, (0, [(3, 1)])), (1, (0, [(4, 1)])), (0, (0, []))])), [(0, 5), (1, 0)]), (820835, [(4, -1)])), (64, ((([(0, 3, 0), (0, 35999, 0), (1, 60, 0), (0, 1, 0), (0, 43200, 0), (1, 4, 0)], []), ([(((541, []), (0, [])), (0, [(5, 1)]))], [(3, (540, [])), (1, (0, [(0, 1)])), (1, (0, [(1, 1)])), (1, (0, [(2, 1)])), (1, (0, [(3, 1)])), (1, (0, [(4, 1)])), (0, (0, []))])), [(0, 5), (1, 0)]), (820825, [(4, -19)])), (82, ((([(0, 3, 0), (0, 35999, 0), (1, 60, 0), (0, 1, 0), (0, 43199, 0), (0, 16, 0), (1, 4, 0)], []), ([(((541, []), (0, [])), (0, [(6, 1)]))], [(3, (540, [])), (1, (0, [(0, 1)])), (1, (0, [(1, 1)])), (1, (0, [(2, 1)])), (1, (0, [(3, 1)])), (1, (0, [(4, 1)])), (1, (0, [(5, 1)]))])), [(0, 5), (0, 6), (1, 0)]), (820824, [(4, -19), (5, -1)])), (125, ((([(0, 3, 0), (0, 35999, 0), (1, 60, 0), (0, 1, 0), (0, 7, 0), (1, 8, 0), (1, 4, 0)], []), ([(((541, []), (0, [])), (0, [(6, 1)]))], [(3, (540, [])), (1, (0, [(0, 1)])), (1, (0, [(1, 1)])), (1, (0, [(2, 1)])), (1, (0, [(3, 1)])), (1, (0, [(4, 1)])), (1, (0, [(5, 1)]))])), [(0, 5), (0, 6), (1, 0)]), (8, [(5, -1)]))])))
/-- UnequalHoursModel.spare -/
def aa_m87 : aa_K := ((237, 1, [(35, 13, 13), (35, 13, 15), (35, 16, 16)]), (((([(-2147483648, 2147483647, 0)], []), ([], [(3, (540, [])), (1, (0, [(0, 1)]))])), [(0, 1)]), ([((([(-2147483648, 2147483647, 0)], []), ([], [(1, (-1, []))])), []), ((([(-2147483648, 2147483647, 0), (1, 4, 0), (-2147483648, 2147483647, 0)], [(0, [(0, 1)]), (3, [(0, -1)])]), ([(((541, []), (0, [])), (0, [(1, 1)]))], [(1, (0, [(2, 1)]))])), [(1, 0), (0, 0)])], [(14, ((([(0, 3, 0), (-2147483648, 2147483647, 0), (0, 12, 0), (1, 4, 0)], []), ([(((541, []), (0, [])), (0, [(3, 1)]))], [(3, (540, [])), (1, (0, [(0, 1)])), (1, (0, [(1, 1)])), (1, (0, [(2, 1)])), (0, (0, [])), (0, (0, []))])), [(0, 2), (0, 3), (1, 0)]), (12, [(2, -1)]))])))
/-- UnequalHoursModel.isKey -/
def aa_m88 : aa_K := ((239, 1, []), (((([(-2147483648, 2147483647, 0)], []), ([], [(3, (540, [])), (1, (0, [(0, 1)]))])), [(0, 1)]), ([((([(-2147483648, 2147483647, 0)], []), ([], [(1, (0, []))])), []), ((([(-2147483648, 2147483647, 0), (1, 4, 0)], [(0, [(0, 1)]), (15, [(0, -1)])]), ([(((541, []), (0, [])), (0, [(1, 1)]))], [(1, (1, []))])), [(1, 0)])], [])))
/-- UnequalHoursModel.arrive -/
def aa_m89 : aa_K := ((238, 5, [(35, 13, 13), (35, 13, 15), (35, 17, 17), (35, 18, 18), (35, 19, 19), (35, 20, 20), (35, 21, 21), (35, 22, 22), (35, 23, 23)]), (((([(-2147483648, 2147483647, 0), (-2147483648, 2147483647, 0), (-2147483648, 2147483647, 0), (-2147483648, 2147483647, 0), (-2147483648, 2147483647, 0)], []), ([], [(3, (540, [])), (1, (0, [(0, 1)])), (1, (0, [(1, 1)])), (1, (0, [(2, 1)])), (1, (0, [(3, 1)])), (1, (0, [(4, 1)]))])), [(0, 1), (0, 2), (0, 3), (0, 4), (0, 5)]), ([((([(-2147483648, 2147483647, 0), (-2147483648, 2147483647, 0), (-2147483648, 2147483647, 0), (-2147483648, 2147483647, 0), (-2147483648, 2147483647, 0)], []), ([], [(1, (-1, []))])), []), ((([(-2147483648, 2147483647, 0), (-2147483648, 2147483647, 0), (-2147483648, 2147483647, 0), (-2147483648, 2147483647, 0), (-2147483648, 2147483647, 0), (-24857, 60855, 0), (1, 4, 0), (-2147483648, 2147483647, 0)], [(0, [(0, 1)]), (15, [(0, -1)]), (0, [(1, 1)]), (35999, [(1, -1)]), (0, [(2, 1)]), (86399, [(2, -1)]), (0, [(3, 1)]), (864000, [(3, -1)]), (0, [(4, 1)]), (3, [(4, -1)])]), ([(((540, []), (22, [])), (0, [(5, 1)])), (((541, []), (0, [])), (0, [(6, 1)]))], [(1, (0, [(7, 1)]))])), [(1, 0), (1, 1), (0, 0)])], [])))
/-- UnequalHoursModel.shows -/
def aa_m90 : aa_K := ((240, 5, [(35, 13, 13), (35, 13, 15), (35, 17, 17), (35, 18, 18), (35, 19, 19), (35, 20, 20), (35, 21, 21), (35, 22, 22), (35, 23, 23)]), (((([(-2147483648, 2147483647, 0), (-2147483648, 2147483647, 0), (-2147483648, 2147483647, 0), (-2147483648, 2147483647, 0), (-2147483648, 2147483647, 0)], []), ([], [(3, (540, [])), (1, (0, [(0, 1)])), (1, (0, [(1, 1)])), (1, (0, [(2, 1)])), (1, (0, [(3, 1)])), (1, (0, [(4, 1)]))])), [(0, 1), (0, 2), (0, 3), (0, 4), (0, 5)]), ([((([(-2147483648, 2147483647, 0), (-2147483648, 2147483647, 0), (-2147483648, 2147483647, 0), (-2147483648, 2147483647, 0), (-2147483648, 2147483647, 0)], []), ([], [(1, (-1, []))])), []), ((([(-2147483648, 2147483647, 0), (-2147483648, 2147483647, 0), (-2147483648, 2147483647, 0), (-2147483648, 2147483647, 0), (-2147483648, 2147483647, 0), (1, 4, 0), (-2147483648, 2147483647, 0)], [(0, [(0, 1)]), (15, [(0, -1)]), (0, [(1, 1)]), (35999, [(1, -1)]), (0, [(2, 1)]), (1, [(2, -1)]), (0, [(3, 1)]), (43199, [(3, -1)]), (0, [(4, 1)]), (2, [(4, -1)])]), ([(((541, []), (0, [])), (0, [(5, 1)]))], [(1, (0, [(6, 1)]))])), [(1, 0), (0, 0)])], [])))
/-- UnequalHoursModel.exact -/
def aa_m91 : aa_K := ((241, 4, [(35, 13, 13), (35, 13, 15), (35, 17, 17), (35, 18, 18)]), (((([(-2147483648, 2147483647, 0), (-2147483648, 2147483647, 0), (-2147483648, 2147483647, 0), (-2147483648, 2147483647, 0)], []), ([], [(3, (540, [])), (1, (0, [(0, 1)])), (1, (0, [(1, 1)])), (1, (0, [(2, 1)])), (1, (0, [(3, 1)]))])), [(0, 1), (0, 2), (0, 3), (0, 4)]), ([((([(-2147483648, 2147483647, 0), (-2147483648, 2147483647, 0), (-2147483648, 2147483647, 0), (-2147483648, 2147483647, 0)], []), ([], [(1, (-1, []))])), []), ((([(-2147483648, 2147483647, 0), (-2147483648, 2147483647, 0), (-2147483648, 2147483647, 0), (-2147483648, 2147483647, 0), (1, 4, 0), (-2, 172797, 0)], [(0, [(0, 1)]), (3, [(0, -1)]), (0, [(1, 1)]), (35999, [(1, -1)]), (0, [(2, 1)]), (1, [(2, -1)]), (0, [(3, 1)]), (1, [(3, -1)])]), ([(((541, []), (0, [])), (0, [(4, 1)]))], [(1, (0, [(5, 1)]))])), [(1, 0), (0, 0)])], [(53, ((([(0, 3, 0), (0, 35999, 0), (0, 1, 0), (0, 1, 0), (1, 172797, 0), (0, 12, 0), (1, 4, 0), (0, 86398, 0), (1, 86399, 0), (0, 86399, 0), (1, 172797, 0), (1, 12, 0)], []), ([(((541, []), (0, [])), (0, [(6, 1)])), (((540, []), (13, [])), (-1, [])), (((540, []), (14, [])), (0, [(7, 1)])), (((540, []), (15, [])), (0, [(8, 1)])), (((540, []), (17, [])), (0, [(9, 1)])), (((540, []), (18, [])), (0, [(10, 1)])), (((541, []), (4, [(0, 50)])), (0, [(11, 1)]))], [(3, (540, [])), (1, (0, [(0, 1)])), (1, (0, [(1, 1)])), (1, (0, [(2, 1)])), (1, (0, [(3, 1)])), (1, (0, [(4, 1)])), (1, (0, [(5, 1)])), (0, (0, []))])), [(0, 5), (0, 6), (1, 0), (1, 2), (1, 3), (1, 4), (1, 5), (1, 6)]), (0, [(5, 1)]))])))
/-- UnequalHoursModel.alike -/
def aa_m92 : aa_K := ((242, 3, [(35, 13, 13), (35, 13, 15), (35, 17, 17), (35, 18, 18)]), (((([(-2147483648, 2147483647, 0), (-2147483648, 2147483647, 0), (-2147483648, 2147483647, 0)], []), ([], [(3, (540, [])), (1, (0, [(0, 1)])), (1, (0, [(1, 1)])), (1, (0, [(2, 1)]))])), [(0, 1), (0, 2), (0, 3)]), ([((([(-2147483648, 2147483647, 0), (-2147483648, 2147483647, 0), (-2147483648, 2147483647, 0)], []), ([], [(1, (-1, []))])), []), ((([(-2147483648, 2147483647, 0), (-2147483648, 2147483647, 0), (-2147483648, 2147483647, 0), (1, 4, 0), (-2, 35999, 0)], [(0, [(0, 1)]), (3, [(0, -1)]), (0, [(1, 1)]), (35999, [(1, -1)]), (0, [(2, 1)]), (35999, [(2, -1)])]), ([(((541, []), (0, [])), (0, [(3, 1)]))], [(1, (0, [(4, 1)]))])), [(1, 0), (0, 0)])], [(29, ((([(0, 3, 0), (0, 35999, 0), (0, 35999, 0), (-1, 172797, 0), (0, 36000, 0), (1, 4, 0)], []), ([(((541, []), (0, [])), (0, [(5, 1)]))], [(3, (540, [])), (1, (0, [(0, 1)])), (1, (0, [(1, 1)])), (1, (0, [(2, 1)])), (1, (0, [(3, 1)])), (1, (0, [(4, 1)]))])), [(0, 4), (0, 5), (1, 0)]), (36000, [(4, -1)]))])))
/-- UnequalHoursModel.growth -/
def aa_m93 : aa_K := ((243, 4, [(35, 13, 13), (35, 13, 15), (35, 17, 17), (35, 18, 18)]), (((([(-2147483648, 2147483647, 0), (-2147483648, 2147483647, 0), (-2147483648, 2147483647, 0), (-2147483648, 2147483647, 0)], []), ([], [(3, (540, [])), (1, (0, [(0, 1)])), (1, (0, [(1, 1)])), (1, (0, [(2, 1)])), (1, (0, [(3, 1)]))])), [(0, 1), (0, 2), (0, 3), (0, 4)]), ([((([(-2147483648, 2147483647, 0), (-2147483648, 2147483647, 0), (-2147483648, 2147483647, 0), (-2147483648, 2147483647, 0), (-2147483648, 2147483647, 0)], []), ([], [(1, (0, [(4, 1)]))])), [(0, 0)])], [(55, ((([(0, 3, 0), (0, 35999, 0), (1, 360, 0), (0, 2, 0), (-2147483648, 2147483647, 0), (-1000000, 172799, 0), (-2, 35999, 0), (0, 43199, 0), (1, 4, 0)], []), ([(((541, []), (0, [])), (0, [(8, 1)]))], [(3, (540, [])), (1, (0, [(0, 1)])), (1, (0, [(1, 1)])), (1, (0, [(2, 1)])), (1, (0, [(3, 1)])), (1, (0, [(4, 1)])), (1, (0, [(5, 1)])), (1, (0, [(6, 1)])), (1, (0, [(7, 1)])), (0, (0, [])), (0, (0, []))])), [(0, 5), (0, 6), (0, 7), (0, 8), (1, 0)]), (43199, [(7, -1)]))])))
/-- UnequalHoursModel.watch -/
def aa_m94 : aa_K := ((244, 4, [(35, 13, 13), (35, 13, 15), (35, 17, 17), (35, 18, 18)]), (((([(-2147483648, 2147483647, 0), (-2147483648, 2147483647, 0), (-2147483648, 2147483647, 0), (-2147483648, 2147483647, 0)], []), ([], [(3, (540, [])), (1, (0, [(0, 1)])), (1, (0, [(1, 1)])), (1, (0, [(2, 1)])), (1, (0, [(3, 1)]))])), [(0, 1), (0, 2), (0, 3), (0, 4)]), ([((([(-2147483648, 2147483647, 0), (-2147483648, 2147483647, 0), (-2147483648, 2147483647, 0), (-2147483648, 2147483647, 0)], []), ([], [(1, (-1, []))])), []), ((([(-2147483648, 2147483647, 0), (-2147483648, 2147483647, 0), (-2147483648, 2147483647, 0), (-2147483648, 2147483647, 0), (1, 4, 0), (-172797, 259196, 0)], [(0, [(0, 1)]), (3, [(0, -1)]), (0, [(1, 1)]), (35999, [(1, -1)]), (0, [(2, 1)]), (3, [(2, -1)]), (0, [(3, 1)]), (1, [(3, -1)])]), ([(((541, []), (0, [])), (0, [(4, 1)]))], [(1, (0, [(5, 1)]))])), [(1, 0), (0, 0)])], [])))
/-- UnequalHoursModel.spread -/
def aa_m95 : aa_K := ((245, 2, [(35, 13, 13), (35, 13, 15), (35, 17, 17), (35, 18, 18)]), (((([(-2147483648, 2147483647, 0), (-2147483648, 2147483647, 0)], []), ([], [(3, (540, [])), (1, (0, [(0, 1)])), (1, (0, [(1, 1)]))])), [(0, 1), (0, 2)]), ([((([(-2147483648, 2147483647, 0), (-2147483648, 2147483647, 0)], []), ([], [(1, (-1, []))])), []), ((([(-2147483648, 2147483647, 0), (-2147483648, 2147483647, 0), (-172798, 172798, 0)], [(0, [(0, 1)]), (35999, [(0, -1)]), (0, [(1, 1)]), (2, [(1, -1)])]), ([], [(1, (0, [(2, 1)]))])), [(0, 0)])], [(28, ((([(0, 35999, 0), (0, 2, 0), (0, 4, 0)], []), ([], [(3, (540, [])), (1, (0, [(0, 1)])), (1, (0, [(1, 1)])), (1, (-2, [])), (1, (-2, [])), (1, (0, [(2, 1)])), (0, (0, []))])), [(0, 5)]), (8, [(2, -1)])), (28, ((([(0, 35999, 0), (0, 2, 0), (0, 3, 0), (0, 3, 0), (1, 4, 0), (-1, 172797, 0), (1, 4, 0)], []), ([(((541, []), (0, [])), (0, [(6, 1)]))], [(3, (540, [])), (1, (0, [(0, 1)])), (1, (0, [(1, 1)])), (1, (0, [(2, 1)])), (1, (0, [(3, 1)])), (1, (0, [(4, 1)])), (1, (0, [(5, 1)]))])), [(0, 3), (0, 4), (0, 5), (0, 6), (1, 0)]), (4, [(4, -1)]))])))
/-- UnequalHoursModel.total -/
def aa_m96 : aa_K := ((246, 3, [(41, 0, 23), (42, 0, 23), (43, 0, 4), (44, 0, 43), (35, 13, 13), (35, 13, 15), (35, 17, 17), (35, 18, 18), (35, 26, 26)]), (((([(-2147483648, 2147483647, 0), (-2147483648, 2147483647, 0), (-2147483648, 2147483647, 0)], []), ([], [(3, (540, [])), (1, (0, [(0, 1)])), (1, (0, [(1, 1)])), (1, (0, [(2, 1)]))])), [(0, 1), (0, 2), (0, 3)]), ([((([(-2147483648, 2147483647, 0), (-2147483648, 2147483647, 0), (-2147483648, 2147483647, 0)], []), ([], [(1, (-1, []))])), []), ((([(-2147483648, 2147483647, 0), (-2147483648, 2147483647, 0), (-2147483648, 2147483647, 0), (1, 4, 0), (-2147483648, 2147483647, 0)], [(0, [(0, 1)]), (3, [(0, -1)]), (0, [(1, 1)]), (35999, [(1, -1)]), (-1, [(2, 1)]), (60, [(2, -1)])]), ([(((541, []), (0, [])), (0, [(3, 1)]))], [(1, (0, [(4, 1)]))])), [(1, 0), (0, 0)])], [(33, ((([(0, 3, 0), (0, 35999, 0), (1, 60, 0), (-2147483648, 2147483647, 0), (0, 43200, 0), (1, 4, 0)], []), ([(((541, []), (0, [])), (0, [(5, 1)]))], [(3, (540, [])), (1, (0, [(0, 1)])), (1, (0, [(1, 1)])), (1, (0, [(2, 1)])), (1, (0, [(3, 1)])), (1, (0, [(4, 1)])), (0, (0, []))])), [(0, 4), (0, 5), (1, 0)]), (820817, [(4, -19)])), (51, ((([(0, 3, 0), (0, 35999, 0), (1, 60, 0), (-2147483648, 2147483647, 0), (0, 43199, 0), (0, 16, 0), (1, 4, 0)], []), ([(((541, []), (0, [])), (0, [(6, 1)]))], [(3, (540, [])), (1, (0, [(0, 1)])), (1, (0, [(1, 1)])), (1, (0, [(2, 1)])), (1, (0, [(3, 1)])), (1, (0, [(4, 1)])), (1, (0, [(5, 1)]))])), [(0, 4), (0, 5), (0, 6), (1, 0)]), (820816, [(4, -19), (5, -1)]))])))
/-- UnequalHoursModel.quiet -/
def aa_m97 : aa_K := ((247, 3, [(41, 0, 23), (42, 0, 23), (43, 0, 4), (44, 0, 43), (35, 13, 13), (35, 13, 15), (35, 17, 17), (35, 18, 18), (35, 26, 26)]), (((([(-2147483648, 2147483647, 0), (-2147483648, 2147483647, 0), (-2147483648, 2147483647, 0)], []), ([], [(3, (540, [])), (1, (0, [(0, 1)])), (1, (0, [(1, 1)])), (1, (0, [(2, 1)]))])), [(0, 1), (0, 2), (0, 3)]), ([((([(-2147483648, 2147483647, 0), (-2147483648, 2147483647, 0), (-2147483648, 2147483647, 0)], []), ([], [(1, (-1, []))])), []), ((([(-2147483648, 2147483647, 0), (-2147483648, 2147483647, 0), (-2147483648, 2147483647, 0), (1, 4, 0), (-2147483648, 2147483647, 0)], [(0, [(0, 1)]), (3, [(0, -1)]), (0, [(1, 1)]), (35999, [(1, -1)]), (0, [(2, 1)]), (1, [(2, -1)])]), ([(((541, []), (0, [])), (0, [(3, 1)]))], [(1, (0, [(4, 1)]))])), [(1, 0), (0, 0)])], [(35, ((([(0, 3, 0), (0, 35999, 0), (0, 1, 0), (-2147483648, 2147483647, 0), (-1, 2147483647, 0), (0, 23, 0), (1, 4, 0)], []), ([(((541, []), (0, [])), (0, [(6, 1)]))], [(3, (540, [])), (1, (0, [(0, 1)])), (1, (0, [(1, 1)])), (1, (0, [(2, 1)])), (1, (0, [(3, 1)])), (1, (0, [(4, 1)])), (1, (0, [(5, 1)])), (0, (0, [])), (0, (0, []))])), [(0, 4), (0, 5), (0, 6), (1, 0)]), (23, [(5, -1)]))])))
/-- UnequalHoursModel.isRung -/
def aa_m98 : aa_K := ((249, 5, [(41, 0, 23), (42, 0, 23), (43, 0, 4), (44, 0, 43), (35, 13, 13), (35, 13, 15), (35, 17, 17), (35, 18, 18), (35, 26, 26)]), (((([(0, 3, 0), (-24857, 60855, 0), (-2147483648, 2147483647, 0), (-24857, 60855, 0), (1, 4, 0)], []), ([(((540, []), (22, [])), (0, [(3, 1)])), (((541, []), (0, [])), (0, [(4, 1)]))], [(3, (540, [])), (1, (0, [(0, 1)])), (1, (0, [(1, 1)])), (1, (0, [(2, 1)]))])), [(0, 1), (0, 2), (0, 3)]), ([((([(0, 3, 0), (-24857, 60855, 0), (-2147483648, 2147483647, 0), (-24857, 60855, 0), (1, 4, 0)], []), ([(((540, []), (22, [])), (0, [(3, 1)])), (((541, []), (0, [])), (0, [(4, 1)]))], [(1, (0, []))])), []), ((([(0, 3, 0), (-24857, 60855, 0), (-2147483648, 2147483647, 0), (-24857, 60855, 0), (1, 4, 0), (1, 16, 0)], [(0, [(1, 1)]), (35999, [(1, -1)])]), ([(((540, []), (22, [])), (0, [(3, 1)])), (((540, []), (26, [])), (0, [(5, 1)])), (((541, []), (0, [])), (0, [(4, 1)]))], [(1, (1, []))])), [(1, 1)])], [(18, ((([(0, 3, 0), (0, 35999, 0), (-2147483648, 2147483647, 0), (-24857, 60855, 0), (1, 4, 0), (0, 16, 0)], []), ([(((540, []), (22, [])), (0, [(3, 1)])), (((541, []), (0, [])), (0, [(4, 1)]))], [(3, (540, [])), (1, (0, [(0, 1)])), (1, (0, [(1, 1)])), (1, (0, [(2, 1)])), (1, (0, [(5, 1)]))])), [(0, 4)]), (16, [(5, -1)]))])))
/-- UnequalHoursModel.same -/
def aa_m99 : aa_K := ((248, 2, [(41, 0, 23), (42, 0, 23), (43, 0, 4), (44, 0, 43), (46, 0, 23), (35, 13, 13), (35, 13, 15), (35, 17, 17), (35, 18, 18), (35, 22, 22), (35, 23, 23), (35, 26, 26)]), (((([(-2147483648, 2147483647, 0), (-2147483648, 2147483647, 0)], []), ([], [(3, (540, [])), (1, (0, [(0, 1)])), (1, (0, [(1, 1)]))])), [(0, 1), (0, 2)]), ([((([(-2147483648, 2147483647, 0), (-2147483648, 2147483647, 0)], []), ([], [(1, (-1, []))])), []), ((([(-2147483648, 2147483647, 0), (-2147483648, 2147483647, 0), (1, 4, 0), (-2147483648, 2147483647, 0)], [(0, [(0, 1)]), (15, [(0, -1)]), (0, [(1, 1)]), (35999, [(1, -1)])]), ([(((541, []), (0, [])), (0, [(2, 1)]))], [(1, (0, [(3, 1)]))])), [(1, 0), (0, 0)])], [(33, ((([(0, 15, 0), (0, 35999, 0), (0, 16, 0), (0, 16, 0), (1, 4, 0), (0, 16, 0)], []), ([(((541, []), (0, [])), (0, [(4, 1)])), (((540, []), (26, [])), (0, [(5, 1)]))], [(3, (540, [])), (1, (0, [(0, 1)])), (1, (0, [(1, 1)])), (1, (0, [(2, 1)])), (1, (0, [(3, 1)])), (0, (0, []))])), [(0, 3), (0, 4), (1, 0), (1, 1)]), (33, [(3, -1)])), (65, ((([(0, 15, 0), (0, 35999, 0), (0, 16, 0), (-2147483648, 2147483647, 0), (0, 16, 0), (1, 4, 0)], []), ([(((541, []), (0, [])), (0, [(5, 1)]))], [(3, (540, [])), (1, (0, [(0, 1)])), (1, (0, [(1, 1)])), (1, (0, [(2, 1)])), (1, (0, [(3, 1)])), (1, (0, [(4, 1)]))])), [(0, 3), (0, 4), (0, 5), (1, 0)]), (16, [(4, -1)]))])))
/-- UnequalHoursModel.until -/
def aa_m100 : aa_K := ((250, 5, [(35, 13, 13), (35, 13, 15), (35, 17, 17), (35, 18, 18)]), (((([(-2147483648, 2147483647, 0), (-2147483648, 2147483647, 0), (-2147483648, 2147483647, 0), (-2147483648, 2147483647, 0), (-2147483648, 2147483647, 0)], []), ([], [(3, (540, [])), (1, (0, [(0, 1)])), (1, (0, [(1, 1)])), (1, (0, [(2, 1)])), (1, (0, [(3, 1)])), (1, (0, [(4, 1)]))])), [(0, 1), (0, 2), (0, 3), (0, 4), (0, 5)]), ([((([(-2147483648, 2147483647, 0), (-2147483648, 2147483647, 0), (-2147483648, 2147483647, 0), (-2147483648, 2147483647, 0), (-2147483648, 2147483647, 0)], []), ([], [(1, (-1, []))])), []), ((([(-2147483648, 2147483647, 0), (-2147483648, 2147483647, 0), (-2147483648, 2147483647, 0), (-2147483648, 2147483647, 0), (-2147483648, 2147483647, 0), (1, 4, 0), (-2, 2147483647, 0)], [(0, [(0, 1)]), (3, [(0, -1)]), (0, [(1, 1)]), (35999, [(1, -1)]), (0, [(2, 1)]), (86399, [(2, -1)]), (0, [(3, 1)]), (1, [(3, -1)]), (0, [(4, 1)]), (43199, [(4, -1)])]), ([(((541, []), (0, [])), (0, [(5, 1)]))], [(1, (0, [(6, 1)]))])), [(1, 0), (0, 0)])], [(34, ((([(0, 3, 0), (0, 35999, 0), (0, 86399, 0), (0, 1, 0), (0, 43199, 0), (-1, 43199, 0), (1, 4, 0)], []), ([(((541, []), (0, [])), (0, [(6, 1)]))], [(3, (540, [])), (1, (0, [(0, 1)])), (1, (0, [(1, 1)])), (1, (0, [(2, 1)])), (1, (0, [(3, 1)])), (1, (0, [(4, 1)])), (1, (0, [(5, 1)])), (0, (0, [])), (0, (0, []))])), [(0, 6), (1, 0)]), (43199, [(5, -1)]))])))
/-- UnequalHoursModel.lag -/
def aa_m101 : aa_K := ((251, 4, [(35, 13, 13), (35, 13, 15), (35, 17, 17), (35, 18, 18)]), (((([(-2147483648, 2147483647, 0), (-2147483648, 2147483647, 0), (-2147483648, 2147483647, 0), (-2147483648, 2147483647, 0)], []), ([], [(3, (540, [])), (1, (0, [(0, 1)])), (1, (0, [(1, 1)])), (1, (0, [(2, 1)])), (1, (0, [(3, 1)]))])), [(0, 1), (0, 2), (0, 3), (0, 4)]), ([((([(-2147483648, 2147483647, 0), (-2147483648, 2147483647, 0), (-2147483648, 2147483647, 0), (-2147483648, 2147483647, 0), (-2147483648, 2147483647, 0)], []), ([], [(1, (0, [(4, 1)]))])), [(0, 0)])], [])))
/-- UnequalHoursModel.is -/
def aa_m102 : aa_K := ((252, 1, []), (((([(-2147483648, 2147483647, 0)], []), ([], [(3, (540, [])), (1, (0, [(0, 1)]))])), [(0, 1)]), ([((([(-2147483648, 2147483647, 0)], []), ([], [(1, (-1, []))])), []), ((([(-2147483648, 2147483647, 0), (-2147483648, 2147483647, 0)], [(0, [(0, 1)]), (6, [(0, -1)])]), ([], [(1, (0, [(1, 1)]))])), [(0, 0)])], [(4, ((([(-2147483648, 2147483647, 0), (-2147483648, 2147483647, 0), (0, 4, 0)], []), ([], [(3, (540, [])), (1, (0, [(0, 1)])), (1, (0, [(1, 1)])), (1, (0, [(2, 1)])), (0, (0, []))])), [(0, 2), (0, 3)]), (73, [(2, -15)])), (17, ((([(-2147483648, 2147483647, 0), (-2147483648, 2147483647, 0), (0, 3, 0), (0, 12, 0), (1, 4, 0)], []), ([(((541, []), (0, [])), (0, [(4, 1)]))], [(3, (540, [])), (1, (0, [(0, 1)])), (1, (0, [(1, 1)])), (1, (0, [(2, 1)])), (1, (0, [(3, 1)]))])), [(0, 2), (0, 3), (0, 4), (1, 0)]), (72, [(2, -15), (3, -1)]))])))
/-- UnequalHoursModel.town -/
def aa_m103 : aa_K := ((253, 2, []), (((([(-2147483648, 2147483647, 0), (-2147483648, 2147483647, 0)], []), ([], [(3, (540, [])), (1, (0, [(0, 1)])), (1, (0, [(1, 1)]))])), [(0, 1), (0, 2)]), ([((([(-2147483648, 2147483647, 0), (-2147483648, 2147483647, 0), (-1000000, 86399, 0)], []), ([], [(1, (0, [(2, 1)]))])), [(0, 0)])], [])))
/-- UnequalHoursModel.deed -/
def aa_m104 : aa_K := ((156, 0, [(36, 1197, 5984), (35, 1, 1)]), (((([], []), ([], [(3, (540, []))])), []), ([((([], []), ([], [])), [])], [])))
/-- UnequalHoursModel.become -/
def aa_m105 : aa_K := ((255, 2, [(36, 1197, 5984), (36, 3, 153), (35, 1, 1)]), (((([(0, 3, 0), (-43200, 43200, 0)], []), ([], [(3, (540, [])), (1, (3, [(0, 50)])), (1, (0, [(1, 1)]))])), [(4, 1), (0, 2)]), ([((([(0, 3, 0), (-43200, 43200, 0), (-43200, 43200, 0)], []), ([(((541, []), (3, [(0, 50)])), (0, [(1, 1)]))], [(1, (0, [(2, 1)]))])), [(0, 0)])], [])))
/-- UnequalHoursModel.become -/
def aa_m106 : aa_K := ((255, 1, [(36, 1, 1), (36, 1197, 5984), (35, 1, 1)]), (((([(1, 3600, 0)], []), ([], [(3, (540, [])), (1, (1, [])), (1, (0, [(0, 1)]))])), [(0, 2)]), ([((([(1, 3600, 0), (1, 3600, 0)], []), ([(((541, []), (1, [])), (0, [(0, 1)]))], [(1, (0, [(1, 1)]))])), [(0, 0)])], [])))
/-- UnequalHoursModel.offset -/
def aa_m107 : aa_K := ((254, 2, [(36, 1197, 5984), (36, 3, 153), (35, 1, 1)]), (((([(-2147483648, 2147483647, 0), (-2147483648, 2147483647, 0)], []), ([], [(3, (540, [])), (1, (0, [(0, 1)])), (1, (0, [(1, 1)]))])), [(0, 1), (0, 2)]), ([((([(-2147483648, 2147483647, 0), (-2147483648, 2147483647, 0), (-1000000, 43200, 0)], []), ([], [(1, (0, [(2, 1)]))])), [(0, 0)])], [])))
/-- UnequalHoursModel.parts -/
def aa_m108 : aa_K := ((256, 1, [(36, 1, 1), (36, 1197, 5984), (35, 1, 1)]), (((([(-2147483648, 2147483647, 0)], []), ([], [(3, (540, [])), (1, (0, [(0, 1)]))])), [(0, 1)]), ([((([(-2147483648, 2147483647, 0)], []), ([], [(1, (-1, []))])), []), ((([(-2147483648, 2147483647, 0), (1, 3600, 0)], [(-1, [(0, 1)]), (3600, [(0, -1)])]), ([(((541, []), (1, [])), (0, [(0, 1)]))], [(1, (0, [(1, 1)]))])), [(0, 0)])], [])))
/-- UnequalHoursModel.numbersOf -/
def aa_m109 : aa_K := ((262, 3, []), (((([(-1, 255, 0), (1, 500, 0), (0, 499, 0)], []), ([(((540, []), (4, [])), (0, [(1, 1)])), (((540, []), (5, [])), (0, [(2, 1)]))], [(1, (0, [(0, 1)]))])), [(0, 0)]), ([((([(-1, 255, 0), (1, 500, 0), (0, 499, 0)], []), ([(((540, []), (4, [])), (0, [(1, 1)])), (((540, []), (5, [])), (0, [(2, 1)]))], [(1, (0, []))])), []), ((([(-1, 255, 0), (1, 500, 0), (0, 499, 0)], [(-113, [(0, 1)]), (113, [(0, -1)])]), ([(((540, []), (4, [])), (0, [(1, 1)])), (((540, []), (5, [])), (0, [(2, 1)]))], [(1, (1, []))])), []), ((([(-1, 255, 0), (1, 500, 0), (0, 499, 0)], [(-111, [(0, 1)]), (114, [(0, -1)])]), ([(((540, []), (4, [])), (0, [(1, 1)])), (((540, []), (5, [])), (0, [(2, 1)]))], [(1, (2, []))])), []), ((([(-1, 255, 0), (1, 500, 0), (0, 499, 0)], [(-115, [(0, 1)]), (115, [(0, -1)])]), ([(((540, []), (4, [])), (0, [(1, 1)])), (((540, []), (5, [])), (0, [(2, 1)]))], [(1, (4, []))])), [])], [])))
/-- UnequalHoursModel.readAct -/
def aa_m110 : aa_K := ((261, 2, [(47, 0, 149), (35, 34, 34), (35, 5, 5), (35, 6, 6), (35, 7, 7)]), (((([(1, 500, 0), (0, 499, 0)], []), ([(((540, []), (4, [])), (0, [(0, 1)])), (((540, []), (5, [])), (0, [(1, 1)]))], [(3, (540, []))])), []), ([((([(1, 500, 0), (0, 499, 0), (0, 500, 0), (0, 500, 0)], [(0, [(1, -1), (2, 1)]), (500, [(1, 1), (2, -1)])]), ([(((540, []), (4, [])), (0, [(0, 1)])), (((540, []), (5, [])), (0, [(2, 1)])), (((540, []), (6, [])), (0, [(3, 1)]))], [(1, (0, []))])), [(1, 1), (1, 2)]), ((([(1, 500, 0), (0, 499, 0), (2, 500, 0), (1, 30, 0)], [(-2, [(0, 1)]), (-1, [(0, 1), (1, -1)]), (-2, [(1, -1), (2, 1)]), (500, [(1, 1), (2, -1)])]), ([(((540, []), (4, [])), (0, [(0, 1)])), (((540, []), (5, [])), (0, [(2, 1)])), (((540, []), (34, [])), (0, [(3, 1)]))], [(1, (1, []))])), [(1, 1), (1, 2)])], [(59, ((([(1, 500, 0), (0, 499, 0), (1, 4, 0), (0, 145, 0), (1, 5, 0), (0, 29, 0), (1, 500, 0)], [(-1, [(0, 1), (1, -1)]), (-1, [(0, 1), (1, -1)]), (-1, [(1, -1), (6, 1)])]), ([(((540, []), (4, [])), (0, [(0, 1)])), (((540, []), (34, [])), (0, [(5, 1)])), (((540, []), (5, [])), (0, [(6, 1)]))], [(3, (540, [])), (1, (0, [(2, 1)])), (1, (0, [(3, 1)])), (1, (0, [(4, 1)]))])), [(0, 1), (0, 2), (0, 3), (1, 1), (1, 2)]), (5, [(4, -1)]))])))
/-- UnequalHoursModel.doAct -/
def aa_m111 : aa_K := ((263, 3, [(36, 0, 398), (36, 1, 1), (36, 1197, 5984), (36, 3, 153), (35, 1, 1)]), (((([(0, 145, 0), (0, 0, 0), (1, 30, 0)], []), ([(((540, []), (4, [])), (0, [(1, 1)])), (((540, []), (34, [])), (0, [(2, 1)]))], [(3, (540, [])), (1, (0, [(0, 1)]))])), [(0, 1)]), ([((([(0, 145, 0), (0, 0, 0), (1, 30, 0)], []), ([(((540, []), (4, [])), (0, [(1, 1)])), (((540, []), (34, [])), (0, [(2, 1)]))], [(1, (0, []))])), []), ((([(0, 145, 0), (0, 0, 0), (1, 30, 0)], []), ([(((540, []), (4, [])), (0, [(1, 1)])), (((540, []), (34, [])), (0, [(2, 1)]))], [(1, (1, []))])), [])], [])))
/-- UnequalHoursModel.acts -/
def aa_m112 : aa_K := ((260, 0, [(36, 0, 398), (36, 1, 1), (36, 1197, 5984), (36, 3, 153), (47, 0, 149), (35, 1, 1), (35, 34, 34), (35, 35, 35), (35, 4, 4), (35, 5, 5), (35, 6, 6), (35, 7, 7)]), (((([], []), ([], [(3, (540, []))])), []), ([((([], []), ([(((540, []), (4, [])), (0, []))], [(1, (-1, []))])), []), ((([(0, 30, 0)], []), ([(((540, []), (4, [])), (0, []))], [(1, (0, [(0, 1)]))])), [(0, 0)])], [(11, ((([(0, 1, 0), (0, 500, 0)], []), ([(((540, []), (5, [])), (0, [(1, 1)]))], [(3, (540, [])), (1, (0, [(0, 1)])), (0, (0, []))])), [(0, 1), (1, 0)]), (1531, [(0, 1), (1, -3)])), (47, ((([(1, 1, 0), (0, 30, 0), (0, 500, 0)], []), ([(((540, []), (5, [])), (0, [(2, 1)])), (((540, []), (4, [])), (0, []))], [(3, (540, [])), (1, (0, [(0, 1)])), (1, (0, [(1, 1)]))])), [(0, 1), (0, 2), (1, 0)]), (30, [(1, -1)]))])))
/-- UnequalHoursModel.ended -/
def aa_m113 : aa_K := ((264, 0, []), (((([], []), ([], [(3, (540, []))])), []), ([((([(-1, 29, 0)], []), ([], [(1, (0, [(0, 1)]))])), [(0, 0)])], [])))
/-- UnequalHoursModel.writes -/
def aa_m114 : aa_K := ((266, 2, [(48, 0, 259), (35, 37, 37)]), (((([(44, 120, 0), (0, 259, 0)], []), ([(((540, []), (37, [])), (0, [(1, 1)]))], [(3, (540, [])), (1, (0, [(0, 1)]))])), [(0, 1)]), ([((([(44, 120, 0), (0, 259, 0)], []), ([(((540, []), (37, [])), (1, [(1, 1)]))], [])), [])], [])))
/-- UnequalHoursModel.writeNumber -/
def aa_m115 : aa_K := ((267, 2, [(48, 0, 259), (35, 37, 37)]), (((([(-43200, 43200, 0), (0, 254, 0)], []), ([(((540, []), (37, [])), (0, [(1, 1)]))], [(3, (540, [])), (1, (0, [(0, 1)]))])), [(0, 1)]), ([((([(-43200, 43200, 0), (0, 254, 0), (1, 260, 0)], [(-1, [(1, -1), (2, 1)]), (6, [(1, 1), (2, -1)])]), ([(((540, []), (37, [])), (0, [(2, 1)]))], [])), [(1, 0)])], [])))
/-- UnequalHoursModel.writeNumber -/
def aa_m116 : aa_K := ((267, 2, [(48, 0, 259), (35, 37, 37)]), (((([(-1, 86399, 0), (0, 255, 0)], []), ([(((540, []), (37, [])), (0, [(1, 1)]))], [(3, (540, [])), (1, (0, [(0, 1)]))])), [(0, 1)]), ([((([(-1, 86399, 0), (0, 255, 0), (1, 260, 0)], [(-1, [(1, -1), (2, 1)]), (5, [(1, 1), (2, -1)])]), ([(((540, []), (37, [])), (0, [(2, 1)]))], [])), [(1, 0)])], [])))
/-- UnequalHoursModel.writeNumber -/
def aa_m117 : aa_K := ((267, 2, [(48, 0, 259), (35, 37, 37)]), (((([(0, 359, 0), (0, 257, 0)], []), ([(((540, []), (37, [])), (0, [(1, 1)]))], [(3, (540, [])), (1, (0, [(0, 1)]))])), [(0, 1)]), ([((([(0, 359, 0), (0, 257, 0), (1, 260, 0)], [(-1, [(1, -1), (2, 1)]), (3, [(1, 1), (2, -1)])]), ([(((540, []), (37, [])), (0, [(2, 1)]))], [])), [(1, 0)])], [])))
/-- UnequalHoursModel.writePoint -/
def aa_m118 : aa_K := ((268, 3, [(48, 0, 259), (35, 37, 37)]), (((([(0, 3, 0), (0, 11, 0), (0, 243, 0)], []), ([(((540, []), (37, [])), (0, [(2, 1)]))], [(3, (540, [])), (1, (5, [(0, 50), (1, 4)]))])), [(2, 1), (3, 1)]), ([((([(0, 3, 0), (0, 11, 0), (0, 243, 0), (5, 260, 0)], [(-5, [(2, -1), (3, 1)]), (17, [(2, 1), (3, -1)])]), ([(((540, []), (37, [])), (0, [(3, 1)]))], [])), [(1, 0)])], [])))
/-- UnequalHoursModel.write -/
def aa_m119 : aa_K := ((265, 1, [(48, 0, 259), (35, 37, 37)]), (((([(-2147483648, 2147483647, 0)], []), ([], [(3, (540, [])), (1, (0, [(0, 1)]))])), [(0, 1)]), ([((([(-2147483648, 2147483647, 0)], []), ([], [(1, (-1, []))])), []), ((([(-2147483648, 2147483647, 0), (3, 212, 0), (1, 4, 0), (3, 212, 0)], [(0, [(0, 1)]), (3, [(0, -1)])]), ([(((540, []), (37, [])), (0, [(1, 1)])), (((541, []), (0, [])), (0, [(2, 1)]))], [(1, (0, [(3, 1)]))])), [(1, 0), (1, 1), (0, 0)])], [(38, ((([(0, 3, 0), (0, 12, 0), (1, 4, 0), (3, 212, 0)], [(8, [(1, 17), (3, -1)])]), ([(((541, []), (0, [])), (0, [(2, 1)])), (((540, []), (37, [])), (0, [(3, 1)]))], [(3, (540, [])), (1, (0, [(0, 1)])), (1, (0, [(1, 1)]))])), [(0, 2), (1, 0), (1, 1)]), (212, [(3, -1)]))])))
/-- UnequalHoursModel.octet -/
def aa_m120 : aa_K := ((269, 1, []), (((([(-2147483648, 2147483647, 0)], []), ([], [(3, (540, [])), (1, (0, [(0, 1)]))])), [(0, 1)]), ([((([(-2147483648, 2147483647, 0)], []), ([], [(1, (-1, []))])), []), ((([(-2147483648, 2147483647, 0), (1, 260, 0), (-128, 127, 0)], [(0, [(0, 1)]), (259, [(0, -1)])]), ([(((540, []), (37, [])), (0, [(1, 1)]))], [(1, (0, [(2, 1)]))])), [(1, 0), (0, 0)])], [])))
/-- UnequalHoursModel.bells -/
def aa_m121 : aa_K := ((178, 0, [(35, 1, 1), (36, 1197, 5984), (36, 0, 398), (35, 4, 7), (35, 10, 12), (39, 0, 55), (40, 0, 139), (900, 0, 0)]), (((([], []), ([], [(3, (540, []))])), []), ([((([], []), ([(((540, []), (4, [])), (0, []))], [(1, (-1, []))])), []), ((([(0, 8, 0)], []), ([(((540, []), (4, [])), (0, []))], [(1, (0, [(0, 1)]))])), [(0, 0)])], [(21, ((([(0, 500, 0), (0, 8, 0), (0, 80, 0), (0, 40, 0)], [(0, [(2, -1), (3, 2)])]), ([(((540, []), (5, [])), (0, [(0, 1)])), (((540, []), (10, [])), (0, [(1, 1)])), (((540, []), (11, [])), (0, [(2, 1)])), (((540, []), (12, [])), (0, [(3, 1)]))], [(3, (540, [])), (1, (1, [])), (0, (0, []))])), [(1, 0), (1, 1), (1, 2), (1, 3)]), (10, [(1, -1)])), (21, ((([(1, 500, 0), (0, 500, 0), (0, 500, 0), (0, 80, 0), (0, 40, 0)], []), ([(((540, []), (4, [])), (0, [(0, 1)])), (((540, []), (5, [])), (0, [(1, 1)])), (((540, []), (6, [])), (0, [(2, 1)])), (((540, []), (11, [])), (0, [(3, 1)])), (((540, []), (12, [])), (0, [(4, 1)]))], [(3, (540, [])), (1, (0, [])), (0, (0, []))])), [(1, 0), (1, 1), (1, 2), (1, 3), (1, 4)]), (0, [])), (55, ((([(0, 500, 0), (0, 8, 0), (0, 80, 0), (0, 40, 0)], []), ([(((540, []), (5, [])), (0, [(0, 1)])), (((540, []), (10, [])), (0, [(1, 1)])), (((540, []), (11, [])), (0, [(2, 1)])), (((540, []), (12, [])), (0, [(3, 1)])), (((540, []), (4, [])), (0, []))], [(3, (540, [])), (1, (1, [])), (0, (0, []))])), [(1, 0), (1, 1), (1, 2), (1, 3)]), (1, []))])))
/-- those that are shown by hand -/
def aa_hands : List aa_K := [aa_m0, aa_m1, aa_m2, aa_m3, aa_m4, aa_m5, aa_m6, aa_m7, aa_m8, aa_m9, aa_m10, aa_m11, aa_m12, aa_m13]
def aa_a0 : List aa_K := [aa_m14, aa_m15, aa_m16, aa_m17, aa_m18, aa_m19, aa_m20, aa_m21, aa_m22, aa_m23, aa_m24, aa_m25, aa_m26, aa_m27, aa_m28, aa_m29, aa_m30, aa_m31, aa_m32, aa_m33, aa_m34, aa_m35, aa_m36, aa_m37, aa_m38, aa_m39, aa_m40, aa_m41]
def aa_a1 : List aa_K := [aa_m42, aa_m43, aa_m44, aa_m45, aa_m46, aa_m47, aa_m48, aa_m49, aa_m50, aa_m51, aa_m52, aa_m53, aa_m54, aa_m55, aa_m56, aa_m57, aa_m58, aa_m59, aa_m60, aa_m61, aa_m62, aa_m63, aa_m64, aa_m65, aa_m66, aa_m67, aa_m68, aa_m69]
def aa_a2 : List aa_K := [aa_m70, aa_m71, aa_m72, aa_m73, aa_m74, aa_m75, aa_m76, aa_m77, aa_m78, aa_m79, aa_m80, aa_m81, aa_m82, aa_m83, aa_m84, aa_m85, aa_m86, aa_m87, aa_m88, aa_m89, aa_m90, aa_m91, aa_m92, aa_m93, aa_m94, aa_m95, aa_m96, aa_m97]
def aa_a3 : List aa_K := [aa_m98, aa_m99, aa_m100, aa_m101, aa_m102, aa_m103, aa_m104, aa_m105, aa_m106, aa_m107, aa_m108, aa_m109, aa_m110, aa_m111, aa_m112, aa_m113, aa_m114, aa_m115, aa_m116, aa_m117, aa_m118, aa_m119, aa_m120]
end
