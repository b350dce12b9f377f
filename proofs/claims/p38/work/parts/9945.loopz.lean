/-! THE LAW'S LOOP, with a relation that is kept from call to call: cases by the checker, or by hand -/
section AV
variable {Φ : aa_G → Prop} {fr : aa_W} {hk : aa_Hk} {Ks : List aa_K} {K : aa_K} {L : Nat} {xs : Nat → Int32} {sp : Nat → Bool} {φ : Option Value → zz_H → Prop} {R : aa_G → Prop}
def aa_kept (Φ R : aa_G → Prop) (L : Nat) (xs : Nat → Int32) (τ : List Int) (g : aa_G) : Prop := (∃ ρ, τ = [(L : Int)] ++ ρ) ∧ aa_inv g ∧ Φ g ∧ (∀ j, j < L → g 546 (10000 + j) = xs j) ∧ R g
def aa_runY (Φ R : aa_G → Prop) (L : Nat) (xs : Nat → Int32) (K : aa_K) (φ : Option Value → zz_H → Prop) (c : Nat × (aa_T × aa_Wh) × aa_F) (y : Int) : Prop := ∀ (τ : List Int) (g : aa_G) (lv : zz_V), aa_vb c.2.1.1.1.1 τ → aa_vc c.2.1.1.1.2 τ → aa_vh c.2.1.1.2.1 τ g → aa_ml τ c.2.1.1.2.2 lv → aa_kept Φ R L xs τ g → aa_ev τ c.2.2 = some y → zz_fin (some (L, xs)) K.1.1 (c.1, lv, [], aa_H g) φ
theorem aa_loopZ (hL : L < 2147483648) (hG : aa_good Φ fr hk) (hKs : ∀ K ∈ Ks, aa_met Φ K) (hws : ∀ w ∈ K.1.2.2, w.1 = 41 → w.2.2 < 10000) (hν : K.1.2.1 = 1) (hR : ∀ g g', aa_inv g → aa_fr K.1.2.2 g g' → R g → R g') (hφ : ∀ g0 v h, aa_post Φ K [(L : Int)] g0 v h → φ v h) {n : Nat} (by_hand : Nat → Bool) (h4 : ∀ c ∈ K.2.2.2, (by_hand c.1 || aa_exX Ks K fr hk sp n false (some c.2.2) c.1 (c.2.1.1.1, (c.2.1.1.2.1, (c.2.1.1.2.2, [])))) = true) (hsp : ∀ c ∈ K.2.2.2, by_hand c.1 = true → ∀ y : Int, 0 ≤ y → (∀ c' ∈ K.2.2.2, ∀ y' : Int, 0 ≤ y' → y' < y → aa_runY Φ R L xs K φ c' y') → aa_runY Φ R L xs K φ c y) : ∀ c ∈ K.2.2.2, ∀ y : Int, 0 ≤ y → aa_runY Φ R L xs K φ c y := by
  have loop : ∀ (N : Nat), ∀ c ∈ K.2.2.2, ∀ y : Int, 0 ≤ y → y < N → aa_runY Φ R L xs K φ c y := by
    intro N
    induction N with
    | zero => intro c _ y q1 q2; omega
    | succ N ih =>
      intro c hc y q1 q2
      have h5 := h4 c hc
      rw [Bool.or_eq_true] at h5
      rcases h5 with h5 | h5
      · exact hsp c hc h5 y q1 fun c' hc' y' p1 p2 => ih c' hc' y' p1 (by omega)
      · intro τ g lv t1 t2 t3 t4 t5 t6
        obtain ⟨⟨ρ, rfl⟩, k1, k2, k3, k4⟩ := t5
        refine aa_exY_ok (b := y) (ν0 := [(L : Int)]) (g0 := g) (hφ g) hL rfl k3 hws hG hKs hν.symm n false (some c.2.2) c.1 _ _ g lv [] h5 ⟨t1, t2, t3, t4, trivial⟩ ⟨⟨ρ, rfl⟩, k1, k2, aa_fr.rf⟩ (fun f hf => by cases hf; exact t6) ?_
        intro c' hc' y' p1 p2 τ' g' lv' u1 u2 u3 u4 u5 u6
        have := p2 _ rfl
        obtain ⟨w1, w2, w3, w4⟩ := u5
        refine ih c' hc' y' p1 (by omega) τ' g' lv' u1 u2 u3 u4 ⟨w1, w2, w3, fun j hj => ?_, hR g g' k1 w4 k4⟩ u6
        rcases w4.1 546 (10000 + j) with e | ⟨w, hw, e1, e2, e3⟩
        · exact e.trans (k3 j hj)
        · have := hws w hw e1
          omega
  intro c hc y p1
  exact loop (y.toNat + 1) c hc y p1 (by omega)
end AV
