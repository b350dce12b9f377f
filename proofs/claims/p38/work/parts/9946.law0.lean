/-! THE FRESH STATES ARE ALIKE -/
theorem lr_0 : rr_g (qb_s lr_B) zz_g0 zz_g0 := by
  refine ⟨⟨⟨by decide +kernel, by decide +kernel, by decide +kernel, fun t ht => ?_⟩, trivial⟩, fun k hk => ⟨?_, fun z => absurd ?_ z⟩, ⟨0, (zz_g0 66 1).toInt.toNat, ⟨by omega, by decide +kernel⟩, ⟨by decide +kernel, by decide +kernel, by decide +kernel⟩, fun i hi => by omega⟩, by decide +kernel, fun k hk => ?_, by decide +kernel, .inl (by decide +kernel), by decide +kernel, by decide +kernel, fun j hj => ?_⟩
  · have e : (zz_g0 541 (399 * 0)).toInt = 0 := by decide +kernel
    rw [e] at ht
    omega
  · have h : ∀ k, k < 2 → zz_g0 453 k = zz_g0 542 k := by decide +kernel
    exact h k hk
  · have h : ∀ k, k < 2 → zz_g0 542 k = 0 := by decide +kernel
    exact h k hk
  · have h1 : ∀ q ∈ zz_gk, q.1 ≠ 543 ∧ q.1 ≠ 455 := by decide +kernel
    rw [fr_out (fun h => (h1 _ h).1 rfl), fr_out (fun h => (h1 _ h).2 rfl)]
    rfl
  · have e : (zz_g0 540 37).toInt = 0 := by decide +kernel
    rw [e] at hj
    omega
