/-! THE FRESH HEAP: its bounds, what the model's rows keep -/
def fr_ok (q : Int × Int) : Bool := decide (q.1 ≤ 0) && decide (0 ≤ q.2)
def fr_ck (k : Nat) : Bool := match aa_ivA (aa_gc k) with
  | some q => fr_ok q
  | none => Nat.beq (aa_gc k) aa_all || (List.range (aa_ivO (aa_gc k)).length).all fun j => match (aa_ivO (aa_gc k))[j]? with
    | some q => fr_ok q || zz_gk.contains (k, j)
    | none => true
set_option maxRecDepth 100000 in
theorem fr_ck_all : (List.range 554).all fr_ck = true := by decide +kernel
set_option maxRecDepth 100000 in
theorem fr_in_all : zz_gk.all (fun q => decide ((aa_iv (aa_gc q.1) q.2).1 ≤ (zz_g0 q.1 q.2).toInt) && decide ((zz_g0 q.1 q.2).toInt ≤ (aa_iv (aa_gc q.1) q.2).2)) = true := by decide +kernel
theorem fr_out {k j : Nat} (h : (k, j) ∉ zz_gk) : zz_g0 k j = 0 := zz_lk_none zz_gl k j h
theorem fr_541 {j : Nat} (h : j ≠ 1) : zz_g0 541 j = 0 := fr_out fun q => by
  have h1 : ∀ q ∈ zz_gk, q.1 = 541 → q.2 = 1 := by decide +kernel
  exact h (h1 _ q rfl)
theorem fr_542 {j : Nat} : zz_g0 542 j = 0 := fr_out fun q => by
  have h1 : ∀ q ∈ zz_gk, q.1 ≠ 542 := by decide +kernel
  exact h1 _ q rfl
theorem fr_place {r q : Nat} (h : r ≠ 0 ∨ q ≠ 1) : (aa_place r q).1 ≤ 0 ∧ 0 ≤ (aa_place r q).2 := by
  unfold aa_place
  split
  · exact ⟨by decide, by decide⟩
  · split
    · unfold aa_bell
      split <;> exact ⟨by decide, by decide⟩
    · split
      · unfold aa_town
        split
        · exact ⟨by decide, by decide⟩
        · split
          · exact ⟨by decide, by decide⟩
          · split <;> exact ⟨by decide, by decide⟩
      · split
        · exact ⟨by decide, by decide⟩
        · split
          · rename_i e
            have e := Nat.eq_of_beq_eq_true e
            omega
          · exact ⟨by decide, by decide⟩
        · exact ⟨by decide, by decide⟩
theorem fr_inv : aa_inv zz_g0 := fun k j => by
  by_cases hm : (k, j) ∈ zz_gk
  · have := List.all_eq_true.mp fr_in_all _ hm
    rw [Bool.and_eq_true, decide_eq_true_eq, decide_eq_true_eq] at this
    exact this
  · rw [fr_out hm]
    have e0 : (0 : Int32).toInt = 0 := rfl
    rw [e0]
    by_cases hk : k ≤ 553
    · have h1 := List.all_eq_true.mp fr_ck_all k (List.mem_range.mpr (by omega))
      unfold fr_ck at h1
      unfold aa_iv
      split
      · rename_i q hq
        rw [hq] at h1
        dsimp only at h1
        unfold fr_ok at h1
        rw [Bool.and_eq_true, decide_eq_true_eq, decide_eq_true_eq] at h1
        exact h1
      · rename_i hq
        rw [hq] at h1
        dsimp only at h1
        rw [Bool.or_eq_true] at h1
        split
        · rename_i ha
          refine fr_place ?_
          have hkk : k = 541 := by
            have h2 : (List.range 554).all (fun k => !(Nat.beq (aa_gc k) aa_all) || Nat.beq k 541) = true := by decide +kernel
            have h3 := List.all_eq_true.mp h2 k (List.mem_range.mpr (by omega))
            rw [ha] at h3
            exact Nat.eq_of_beq_eq_true h3
          subst hkk
          have hj : j ≠ 1 := fun e => hm (by rw [e]; decide +kernel)
          omega
        · rename_i ha
          rcases h1 with h1 | h1
          · exact absurd h1 ha
          · split
            · rename_i q hq2
              have hl := (List.getElem?_eq_some_iff.mp hq2).1
              have h3 := List.all_eq_true.mp h1 j (List.mem_range.mpr hl)
              rw [hq2] at h3
              dsimp only at h3
              rw [Bool.or_eq_true] at h3
              rcases h3 with h3 | h3
              · unfold fr_ok at h3
                rw [Bool.and_eq_true, decide_eq_true_eq, decide_eq_true_eq] at h3
                exact h3
              · exact absurd (List.contains_iff_mem.mp h3) hm
            · exact ⟨by decide, by decide⟩
    · have hg : aa_gc k = 0 := by
        unfold aa_gc
        rw [show Nat.ble k 553 = false from by
          cases e : Nat.ble k 553 with
          | false => rfl
          | true => exact absurd (Nat.le_of_ble_eq_true e) hk]
        rfl
      rw [hg]
      have h1 : aa_ivA 0 = none ∨ ∃ q, aa_ivA 0 = some q ∧ fr_ok q = true := by
        cases e : aa_ivA 0 with
        | none => exact .inl rfl
        | some q =>
          refine .inr ⟨q, rfl, ?_⟩
          have : (match aa_ivA 0 with
            | some q => fr_ok q
            | none => true) = true := by decide +kernel
          rw [e] at this
          exact this
      have h2 : aa_ivO 0 = [] := by decide +kernel
      unfold aa_iv
      rcases h1 with h1 | ⟨q, h1, h3⟩
      · rw [h1, h2]
        show (-2147483648 : Int) ≤ 0 ∧ (0 : Int) ≤ 2147483647
        exact ⟨by decide, by decide⟩
      · rw [h1]
        unfold fr_ok at h3
        rw [Bool.and_eq_true, decide_eq_true_eq, decide_eq_true_eq] at h3
        exact h3
theorem fr_Phi : aa_Phi zz_g0 := by
  have e0 : (0 : Int32).toInt = 0 := rfl
  have h1 : zz_g0 540 1 = 0 := fr_out (by decide +kernel)
  have h10 : zz_g0 540 10 = 0 := fr_out (by decide +kernel)
  refine ⟨fun r hr => ⟨fun t i ht hi hc => ?_, fun b hb hc => ?_⟩, ⟨fun k hk hc => ?_, fun k hk hc => ?_⟩, fun b hb hc => ?_⟩
  · rw [fr_541 (by omega), e0] at hc
    omega
  · rw [fr_541 (by omega), e0] at hc
    omega
  · rw [fr_542, e0] at hc
    exact absurd rfl hc
  · rw [h1, e0] at hc
    omega
  · rw [h10, e0] at hc
    omega
/-- the fresh heap, with the script kept behind the places of cell 546 -/
def lw_g0 (xs : Nat → Int32) : aa_G := fun k j => if k = 546 ∧ 10000 ≤ j then xs (j - 10000) else zz_g0 k j
theorem lw_g0_x (xs : Nat → Int32) (j : Nat) : lw_g0 xs 546 (10000 + j) = xs j := by
  unfold lw_g0
  rw [if_pos ⟨rfl, by omega⟩, show 10000 + j - 10000 = j by omega]
theorem lw_g0_ne (xs : Nat → Int32) {k j : Nat} (h : k ≠ 546) : lw_g0 xs k j = zz_g0 k j := if_neg fun e => h e.1
theorem lw_g0_lt (xs : Nat → Int32) {k j : Nat} (h : j < 10000) : lw_g0 xs k j = zz_g0 k j := if_neg fun e => by omega
theorem lw_g0_inv (xs : Nat → Int32) : aa_inv (lw_g0 xs) := fun k j => by
  by_cases h : k = 546 ∧ 10000 ≤ j
  · obtain ⟨rfl, h2⟩ := h
    have e : lw_g0 xs 546 j = xs (j - 10000) := if_pos ⟨rfl, h2⟩
    rw [e, show aa_iv (aa_gc 546) j = (-2147483648, 2147483647) from aa_flat_ok rfl j 0]
    have r1 := (xs (j - 10000)).le_toInt
    have r2 := (xs (j - 10000)).toInt_lt
    exact ⟨by omega, by omega⟩
  · rw [show lw_g0 xs k j = zz_g0 k j from if_neg h]
    exact fr_inv k j
theorem lw_g0_Phi (xs : Nat → Int32) : aa_Phi (lw_g0 xs) := by
  refine aa_Phi_same (g := zz_g0) ⟨fun j _ _ _ _ _ _ => lw_g0_ne xs (by decide), ?_, lw_g0_ne xs (by decide), lw_g0_ne xs (by decide), lw_g0_ne xs (by decide), ?_, ?_⟩ fr_Phi
  · funext j
    exact lw_g0_ne xs (by decide)
  · funext j
    exact lw_g0_ne xs (by decide)
  · funext j
    exact lw_g0_ne xs (by decide)
theorem lw_g0_Zr (xs : Nat → Int32) : zz_Zr (aa_H (lw_g0 xs)) := fun k hk => by
  have h1 := zz_hs_Zr k hk
  have h1 : zz_g0 k = fun _ => 0 := h1
  have hk : 553 < k := hk
  funext j
  show lw_g0 xs k j = 0
  rw [lw_g0_ne xs (by omega), h1]
