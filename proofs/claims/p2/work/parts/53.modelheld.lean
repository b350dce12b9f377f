/-! THE CONTRACTS OF THE MODEL HOLD, over those that are shown by hand -/
def aa_q0 : List aa_K := aa_a0.reverse ++ aa_hands
set_option maxRecDepth 100000 in
theorem aa_d0 : aa_all_chk aa_mfree aa_hook 400 aa_hands aa_a0 = true := by decide +kernel
def aa_q1 : List aa_K := aa_a1.reverse ++ aa_q0
set_option maxRecDepth 100000 in
theorem aa_d1 : aa_all_chk aa_mfree aa_hook 400 aa_q0 aa_a1 = true := by decide +kernel
def aa_q2 : List aa_K := aa_a2.reverse ++ aa_q1
set_option maxRecDepth 100000 in
theorem aa_d2 : aa_all_chk aa_mfree aa_hook 400 aa_q1 aa_a2 = true := by decide +kernel
def aa_q3 : List aa_K := aa_a3.reverse ++ aa_q2
set_option maxRecDepth 100000 in
theorem aa_d3 : aa_all_chk aa_mfree aa_hook 400 aa_q2 aa_a3 = true := by decide +kernel
theorem aa_met_q0 (hh : ∀ K ∈ aa_hands, aa_met aa_Phi K) : ∀ K ∈ aa_q0, aa_met aa_Phi K := by
  intro K hK
  rcases List.mem_append.mp hK with hK | hK
  · exact aa_all_ok aa_model_good aa_a0 aa_hands hh aa_d0 K (List.mem_reverse.mp hK)
  · exact hh K hK
theorem aa_met_q1 (hh : ∀ K ∈ aa_hands, aa_met aa_Phi K) : ∀ K ∈ aa_q1, aa_met aa_Phi K := by
  intro K hK
  rcases List.mem_append.mp hK with hK | hK
  · exact aa_all_ok aa_model_good aa_a1 aa_q0 (aa_met_q0 hh) aa_d1 K (List.mem_reverse.mp hK)
  · exact (aa_met_q0 hh) K hK
theorem aa_met_q2 (hh : ∀ K ∈ aa_hands, aa_met aa_Phi K) : ∀ K ∈ aa_q2, aa_met aa_Phi K := by
  intro K hK
  rcases List.mem_append.mp hK with hK | hK
  · exact aa_all_ok aa_model_good aa_a2 aa_q1 (aa_met_q1 hh) aa_d2 K (List.mem_reverse.mp hK)
  · exact (aa_met_q1 hh) K hK
theorem aa_met_q3 (hh : ∀ K ∈ aa_hands, aa_met aa_Phi K) : ∀ K ∈ aa_q3, aa_met aa_Phi K := by
  intro K hK
  rcases List.mem_append.mp hK with hK | hK
  · exact aa_all_ok aa_model_good aa_a3 aa_q2 (aa_met_q2 hh) aa_d3 K (List.mem_reverse.mp hK)
  · exact (aa_met_q2 hh) K hK
set_option maxRecDepth 100000 in
theorem aa_dbells : aa_chk aa_q3 aa_mfree aa_hook (fun pc => Nat.beq pc 55) 400 aa_m121 = true := by decide +kernel
