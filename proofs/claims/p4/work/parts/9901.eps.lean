/-! a method that answers nothing: the heap that it leaves, whatever it is; remember -/
noncomputable def ep_g (m : Nat) (as : List Value) (g : aa_G) : aa_G := @Classical.epsilon aa_G ⟨g⟩ (fun g' => ∃ n, rn_s n m (0, zz_in as (zz_nl m), [], aa_H g) none (aa_H g'))
theorem ep_H {a b : aa_G} (h : aa_H a = aa_H b) : a = b := congrArg (fun x => x.2.2) h
theorem ep_ok {m : Nat} {as : List Value} {g : aa_G} {φ : aa_G → Prop} (f : zz_fin none m (0, zz_in as (zz_nl m), [], aa_H g) (fun v h => v = none ∧ ∃ g', h = aa_H g' ∧ φ g')) : (∀ n v h, rn_s n m (0, zz_in as (zz_nl m), [], aa_H g) v h → v = none ∧ h = aa_H (ep_g m as g)) ∧ φ (ep_g m as g) := by
  obtain ⟨n, v, h, r, rfl, g', rfl, hφ⟩ := rn_of f
  have hx : ∃ g', ∃ n, rn_s n m (0, zz_in as (zz_nl m), [], aa_H g) none (aa_H g') := ⟨g', n, r⟩
  have h1 : ∃ n, rn_s n m (0, zz_in as (zz_nl m), [], aa_H g) none (aa_H (ep_g m as g)) := @Classical.epsilon_spec_aux aa_G ⟨g⟩ (fun g' => ∃ n, rn_s n m (0, zz_in as (zz_nl m), [], aa_H g) none (aa_H g')) hx
  obtain ⟨n2, r2⟩ := h1
  have e : ep_g m as g = g' := ep_H (rn_det r2 r).2
  refine ⟨fun n3 v3 h3 r3 => rn_det r3 r2, ?_⟩
  rw [e]
  exact hφ
/-- the ring of deeds is in order -/
def rem_ok (g : aa_G) : Prop := ∃ c e, c ≤ 12 ∧ e < 12 ∧ g 66 0 = Int32.ofNat c ∧ g 66 1 = Int32.ofNat e
noncomputable def fn_40 (g : aa_G) : aa_G := ep_g 40 [.ref 66, .ref 2] g
theorem dn_40 {v : Option Value} {h : zz_H} {n : Nat} {g : aa_G} (hi : rem_ok g) (r : rn_s n 40 (0, zz_in [.ref 66, .ref 2] (zz_nl 40), [], aa_H g) v h) : ig_s v h (fn_40 g) := by
  obtain ⟨c, e, hc, he, h0, h1⟩ := hi
  exact (ep_ok (cd_rem he hc h0 h1)).1 n v h r
theorem dk_40 {g : aa_G} {c e : Nat} (hc : c ≤ 12) (he : e < 12) (h0 : g 66 0 = Int32.ofNat c) (h1 : g 66 1 = Int32.ofNat e) : cd_push g (fn_40 g) 2 e c := (ep_ok (cd_rem he hc h0 h1)).2
