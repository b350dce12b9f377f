/-! THE CONTRACTS OF THE CLASS HOLD: every path walked -/
def aa_p0 : List aa_K := aa_g0.reverse
set_option maxRecDepth 100000 in
theorem aa_c0 : aa_all_chk aa_free (fun _ _ _ _ => false) 400 [] aa_g0 = true := by decide +kernel
def aa_p1 : List aa_K := aa_g1.reverse ++ aa_p0
set_option maxRecDepth 100000 in
theorem aa_c1 : aa_all_chk aa_free (fun _ _ _ _ => false) 400 aa_p0 aa_g1 = true := by decide +kernel
def aa_p2 : List aa_K := aa_g2.reverse ++ aa_p1
set_option maxRecDepth 100000 in
theorem aa_c2 : aa_all_chk aa_free (fun _ _ _ _ => false) 400 aa_p1 aa_g2 = true := by decide +kernel
def aa_p3 : List aa_K := aa_g3.reverse ++ aa_p2
set_option maxRecDepth 100000 in
theorem aa_c3 : aa_all_chk aa_free (fun _ _ _ _ => false) 400 aa_p2 aa_g3 = true := by decide +kernel
section AZ
variable {Φ : aa_G → Prop}
theorem aa_met_p0 (hG : aa_good Φ aa_free (fun _ _ _ _ => false)) : ∀ K ∈ aa_p0, aa_met Φ K := by
  intro K hK
  exact aa_all_ok hG aa_g0 [] (fun K h => by cases h) aa_c0 K (List.mem_reverse.mp hK)
theorem aa_met_p1 (hG : aa_good Φ aa_free (fun _ _ _ _ => false)) : ∀ K ∈ aa_p1, aa_met Φ K := by
  intro K hK
  rcases List.mem_append.mp hK with hK | hK
  · exact aa_all_ok hG aa_g1 aa_p0 (aa_met_p0 hG) aa_c1 K (List.mem_reverse.mp hK)
  · exact aa_met_p0 hG K hK
theorem aa_met_p2 (hG : aa_good Φ aa_free (fun _ _ _ _ => false)) : ∀ K ∈ aa_p2, aa_met Φ K := by
  intro K hK
  rcases List.mem_append.mp hK with hK | hK
  · exact aa_all_ok hG aa_g2 aa_p1 (aa_met_p1 hG) aa_c2 K (List.mem_reverse.mp hK)
  · exact aa_met_p1 hG K hK
theorem aa_met_p3 (hG : aa_good Φ aa_free (fun _ _ _ _ => false)) : ∀ K ∈ aa_p3, aa_met Φ K := by
  intro K hK
  rcases List.mem_append.mp hK with hK | hK
  · exact aa_all_ok hG aa_g3 aa_p2 (aa_met_p2 hG) aa_c3 K (List.mem_reverse.mp hK)
  · exact aa_met_p2 hG K hK
end AZ
