/-! BY HAND: set's contract -/
theorem aa_h12 : aa_met aa_Phi aa_m12 := by
  intro ν0 g as h1 h2 h3 h4 h5 h6
  obtain ⟨as, rfl, h7⟩ := aa_this h4
  clear h4
  obtain ⟨w1, as, rfl, e1, h8⟩ := aa_ms_int h7
  clear h7
  obtain ⟨w2, as, rfl, e2, h7⟩ := aa_ms_int h8
  clear h8
  obtain ⟨w3, as, rfl, e3, h8⟩ := aa_ms_int h7
  clear h7
  obtain ⟨w4, as, rfl, e4, h7⟩ := aa_ms_int h8
  clear h8
  have hlen : ν0.length = 4 := h1.1
  match ν0, hlen, h1, as, h7 with
  | [a, b, c, d], _, h1, [], _ =>
    refine (set_all h5 h6).mono ?_
    rintro v h ⟨g', rfl, k1, k2, k3, z, rfl, z1, z2⟩
    refine ⟨g', rfl, k1, k2, k3, _, List.mem_cons_self, [z.toInt], aa_vb_new h1 (lo := -1) (hi := 12) (gr := 0) z1 z2 (fun y => absurd rfl y), fun f hf => (by cases hf), fun q hq => (by cases hq), Nat.one_ne_zero, z, rfl, ?_⟩
    show some ((0 : Int) + (1 * z.toInt + 0)) = some _
    congr 1
    omega
