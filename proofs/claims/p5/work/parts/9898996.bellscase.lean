/-! THE LAW'S CASES BY HAND: bells -/
theorem fb_ring {g : aa_G} (hi : aa_inv g) : ∃ c e, c ≤ 12 ∧ e < 12 ∧ g 66 0 = Int32.ofNat c ∧ g 66 1 = Int32.ofNat e := by
  have k1 := hi 66 0
  have k2 := hi 66 1
  rw [show aa_iv (aa_gc 66) 0 = (0, 12) from by decide +kernel] at k1
  rw [show aa_iv (aa_gc 66) 1 = (0, 11) from by decide +kernel] at k2
  have k1 : (0 : Int) ≤ (g 66 0).toInt ∧ (g 66 0).toInt ≤ 12 := k1
  have k2 : (0 : Int) ≤ (g 66 1).toInt ∧ (g 66 1).toInt ≤ 11 := k2
  exact ⟨(g 66 0).toInt.toNat, (g 66 1).toInt.toNat, by omega, by omega, aa_eqN (by omega) (by omega), aa_eqN (by omega) (by omega)⟩
theorem fb_many {g : aa_G} (hi : aa_inv g) : ∃ c, c ≤ 12 ∧ g 540 1 = Int32.ofNat c := by
  have k1 := hi 540 1
  rw [show aa_iv (aa_gc 540) 1 = (0, 12) from by decide +kernel] at k1
  have k1 : (0 : Int) ≤ (g 540 1).toInt ∧ (g 540 1).toInt ≤ 12 := k1
  exact ⟨(g 540 1).toInt.toNat, by omega, aa_eqN (by omega) (by omega)⟩
theorem fb_ne {ws : aa_W} {g g' : aa_G} (hf : aa_fr ws g g') {k : Nat} (h : (ws.all fun w => !(Nat.beq w.1 (aa_gc k))) = true) (j : Nat) : g' k j = g k j := by
  rcases hf.1 k j with e | ⟨w, hw, w1, -⟩
  · exact e
  · have h1 := List.all_eq_true.mp h w hw
    rw [w1] at h1
    rw [show Nat.beq (aa_gc k) (aa_gc k) = true from Nat.beq_refl _] at h1
    cases h1
theorem fb_at {ws : aa_W} {g g' : aa_G} (hf : aa_fr ws g g') {k j : Nat} (h : (ws.all fun w => !(Nat.beq w.1 (aa_gc k)) || !(decide (w.2.1 ≤ (j : Int)) && decide ((j : Int) ≤ w.2.2))) = true) : g' k j = g k j := by
  rcases hf.1 k j with e | ⟨w, hw, w1, w2, w3⟩
  · exact e
  · have h1 := List.all_eq_true.mp h w hw
    rw [w1, show Nat.beq (aa_gc k) (aa_gc k) = true from Nat.beq_refl _, decide_eq_true w2, decide_eq_true w3] at h1
    cases h1
theorem fb_class {g : aa_G} {n : Nat} (hn : n ≤ 500) (h1 : g 454 0 = Int32.ofNat n) (h2 : g 540 4 = Int32.ofNat n) (hi : aa_inv g) (hφ : aa_Phi g) (hR : fd_R g) : zz_fin none 41 (0, zz_in [.ref 1] (zz_nl 41), [], aa_H g) (fun v h => ∃ g', h = aa_H g' ∧ v = some (.int (bl_ans (ml_loop (g 455) n (n + 1) 0 0 0))) ∧ g' 454 0 = 0 ∧ aa_inv g' ∧ aa_Phi g' ∧ fd_R g' ∧ tm_ok g' (g 455) n ∧ ∀ j, g' 546 j = g 546 j) := by
  have hK : aa_met aa_Phi aa_k41 := aa_met_p3 aa_good_free _ (List.mem_of_getElem? (i := 98) rfl)
  obtain ⟨c, e, hc, he, r0, r1⟩ := fb_ring hi
  have hct := hK [] g [.ref 1] ⟨rfl, fun i q v hq => by cases hq⟩ (fun f hf => by cases hf) (fun q hq => by cases hq) ⟨⟨Nat.succ_ne_zero _, 1, rfl, rfl⟩, trivial⟩ hi hφ
  have hfn := cb_bells (g := g) (b := g 455) (n := n) ⟨h1, hn, fun j _ => rfl⟩ he hc r0 r1
  refine (zz_fin.and hfn hct).mono ?_
  rintro v h ⟨⟨g1, rfl, e1, -, e3⟩, g2, q, i1, f1, fr, -⟩
  cases fd_H q
  have a455 : ∀ j, g1 455 j = g 455 j := fb_ne fr (by decide +kernel)
  have a543 : ∀ j, g1 543 j = g 543 j := fb_ne fr (by decide +kernel)
  have a540 : ∀ j, g1 540 j = g 540 j := fb_ne fr (by decide +kernel)
  have a546 : ∀ j, g1 546 j = g 546 j := fb_ne fr (by decide +kernel)
  refine ⟨g1, rfl, ?_, e3, i1, f1, hR.of (fun k _ => a543 k) (fun k _ => a455 k), ⟨(a540 4).trans h2, hn, fun j hj => ?_⟩, a546⟩
  · rw [← cl_ml (n + 1) 0 0 0 (by omega)]
    exact e1
  · rw [a543 j]
    exact hR j (by omega)
theorem fb_model {g : aa_G} {b : Nat → Int32} {n : Nat} (h : tm_ok g b n) (hi : aa_inv g) (hφ : aa_Phi g) (hR : fd_R g) (h0 : g 454 0 = 0) : zz_fin none 178 (0, zz_in [.ref 540] (zz_nl 178), [], aa_H g) (fun v h => ∃ g', h = aa_H g' ∧ v = some (.int (bl_ans (ml_loop b n (n + 1) 0 0 0))) ∧ g' 454 0 = 0 ∧ g' 540 4 = 0 ∧ aa_inv g' ∧ aa_Phi g' ∧ fd_R g' ∧ ∀ j, g' 546 j = g 546 j) := by
  have hK : aa_met aa_Phi aa_m121 := aa_bells_met
  obtain ⟨c, hc, r0⟩ := fb_many hi
  have hct := hK [] g [.ref 540] ⟨rfl, fun i q v hq => by cases hq⟩ (fun f hf => by cases hf) (fun q hq => by cases hq) ⟨⟨Nat.succ_ne_zero _, 540, rfl, rfl⟩, trivial⟩ hi hφ
  have hfn := mb_bells (g := g) (b := b) (n := n) h r0 hc
  refine (zz_fin.and hfn hct).mono ?_
  rintro v h ⟨⟨g1, rfl, e1, -, e3⟩, g2, q, i1, f1, fr, -⟩
  cases fd_H q
  have a455 : ∀ j, g1 455 j = g 455 j := fb_ne fr (by decide +kernel)
  have a543 : ∀ j, g1 543 j = g 543 j := fb_ne fr (by decide +kernel)
  have a454 : ∀ j, g1 454 j = g 454 j := fb_ne fr (by decide +kernel)
  have a546 : ∀ j, g1 546 j = g 546 j := fb_ne fr (by decide +kernel)
  exact ⟨g1, rfl, e1, (a454 0).trans h0, e3, i1, f1, hR.of (fun k _ => a543 k) (fun k _ => a455 k), a546⟩
theorem lw_bells {L : Nat} {xs : Nat → Int32} {g : aa_G} {i n : Nat} {φ : Option Value → zz_H → Prop} (hn : n ≤ 500) (h1 : g 454 0 = Int32.ofNat n) (h2 : g 540 4 = Int32.ofNat n) (hi : aa_inv g) (hφ : aa_Phi g) (hR : fd_R g) (k : ∀ g', g' 454 0 = 0 → g' 540 4 = 0 → aa_inv g' → aa_Phi g' → fd_R g' → (∀ j, g' 546 j = g 546 j) → zz_fin (some (L, xs)) 0 (18, [some (.ref 0), some (.ref 1), some (.ref 540), some (.int (Int32.ofNat (i + 6)))], [], aa_H g') φ) : zz_fin (some (L, xs)) 0 (351, [some (.ref 0), some (.ref 1), some (.ref 540), some (.int (Int32.ofNat i))], [], aa_H g) φ := by
  refine zz_fin.steps (n := 1) (s' := (352, [some (.ref 0), some (.ref 1), some (.ref 540), some (.int (Int32.ofNat i))], [.ref 1], aa_H g)) rfl ?_
  refine zz_fin.call rfl rfl (Nat.le_of_ble_eq_true rfl) (zz_finX (fb_class hn h1 h2 hi hφ hR)) ?_
  rintro v h' ⟨g1, rfl, rfl, a1, a2, a3, a4, a5, a6⟩
  generalize ha : bl_ans (ml_loop (g 455) n (n + 1) 0 0 0) = ans
  refine zz_fin.steps (n := 1) (s' := (356, [some (.ref 0), some (.ref 1), some (.ref 540), some (.int (Int32.ofNat i))], [.ref 540, .int ans], aa_H g1)) rfl ?_
  refine zz_fin.call rfl rfl (Nat.le_of_ble_eq_true rfl) (zz_finX (fb_model a5 a2 a3 a4 a1)) ?_
  rintro v h' ⟨g2, rfl, rfl, b1, b2, b3, b4, b5, b6⟩
  rw [ha]
  refine zz_fin.ic rfl (fun cz => ?_) (fun cz => absurd (decide_eq_true rfl) cz)
  refine zz_fin.steps (n := 2) (s' := (18, [some (.ref 0), some (.ref 1), some (.ref 540), some (.int ((Int32.ofNat i) + 6))], [], aa_H g2)) rfl ?_
  rw [mb_add i 6 (v := 6) rfl]
  exact k g2 b1 b2 b3 b4 b5 (fun j => (b6 j).trans (a6 j))
