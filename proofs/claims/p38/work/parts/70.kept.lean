/-! BY HAND: what the pushes keep -/
theorem aa_town_neg {r : Nat} : aa_town (r + 2) = match r % 4 with
    | 0 => (0, 359)
    | 1 => (-1, 86399)
    | 2 => (-1, 86399)
    | _ => (-1, 1) := by
  unfold aa_town
  rw [if_neg fun e => by have := Nat.eq_of_beq_eq_true e; omega, if_neg fun e => by have := Nat.eq_of_beq_eq_true e; omega, show r + 2 - 2 = r by omega]
  rfl
theorem aa_town_4 {r : Nat} : aa_town (r + 4 + 2) = aa_town (r + 2) := by
  rw [aa_town_neg, aa_town_neg, show (r + 4) % 4 = r % 4 by omega]
theorem aa_iv_pt {t r : Nat} (ht : t < 4) (hr : r < 48) : aa_iv 36 (5 + 50 * t + r) = aa_town (r + 2) := by
  rw [aa_iv36, show (5 + 50 * t + r) / 399 = 0 by omega, show (5 + 50 * t + r) % 399 = 5 + 50 * t + r by omega]
  unfold aa_place
  rw [if_neg fun e => by have := Nat.le_of_ble_eq_true e; omega, if_neg fun e => by have := Nat.le_of_ble_eq_true e; omega, if_pos (Nat.ble_eq_true_of_le (by omega)), show (5 + 50 * t + r - 3) % 50 = r + 2 by omega]
theorem aa_iv_4 {t q : Nat} (ht : t < 4) (h1 : 5 + 50 * t ≤ q) (h2 : q < 5 + 50 * t + 44) : aa_iv 36 (q + 4) = aa_iv 36 q := by
  obtain ⟨r, rfl⟩ : ∃ r, q = 5 + 50 * t + r := ⟨q - (5 + 50 * t), by omega⟩
  rw [show 5 + 50 * t + r + 4 = 5 + 50 * t + (r + 4) by omega, aa_iv_pt ht (by omega), aa_iv_pt ht (by omega), aa_town_4]
theorem aa_up_inv {g0 g : aa_G} {t S E : Nat} (h : aa_up g0 g S E) (hi : aa_inv g0) (ht : t < 4) (hS : 5 + 50 * t ≤ S) (hE : E ≤ 5 + 50 * t + 44) : aa_inv g := fun k j => by
  by_cases e : k = 541 ∧ S + 4 ≤ j ∧ j < E + 4
  · obtain ⟨rfl, e1, e2⟩ := e
    obtain ⟨q, rfl⟩ : ∃ q, j = q + 4 := ⟨j - 4, by omega⟩
    rw [h.1 q (by omega) (by omega)]
    have k1 : (aa_iv 36 q).1 ≤ (g0 541 q).toInt ∧ (g0 541 q).toInt ≤ (aa_iv 36 q).2 := hi 541 q
    show (aa_iv 36 (q + 4)).1 ≤ (g0 541 q).toInt ∧ (g0 541 q).toInt ≤ (aa_iv 36 (q + 4)).2
    rw [aa_iv_4 ht (by omega) (by omega)]
    exact k1
  · rw [h.2 k j e]
    exact hi k j
theorem aa_dn_inv {g0 g : aa_G} {t S E : Nat} (h : aa_dn g0 g S E) (hi : aa_inv g0) (ht : t < 4) (hS : 5 + 50 * t ≤ S) (hE : E ≤ 5 + 50 * t + 44) : aa_inv g := fun k j => by
  by_cases e : k = 541 ∧ S ≤ j ∧ j < E
  · obtain ⟨rfl, e1, e2⟩ := e
    rw [h.1 j (by omega) (by omega)]
    have k1 : (aa_iv 36 (j + 4)).1 ≤ (g0 541 (j + 4)).toInt ∧ (g0 541 (j + 4)).toInt ≤ (aa_iv 36 (j + 4)).2 := hi 541 (j + 4)
    show (aa_iv 36 j).1 ≤ (g0 541 (j + 4)).toInt ∧ (g0 541 (j + 4)).toInt ≤ (aa_iv 36 j).2
    rw [← aa_iv_4 ht (by omega) (by omega)]
    exact k1
  · rw [h.2 k j e]
    exact hi k j
/-- the table of one town has changed, behind its count, and no more -/
def aa_tb (g g' : aa_G) (t : Nat) : Prop := ∀ k j, ¬ (k = 541 ∧ 4 + 50 * t ≤ j ∧ j < 53 + 50 * t) → g' k j = g k j
theorem aa_Phi_tb {g g' : aa_G} {t : Nat} (ht : t < 4) (h : aa_Phi g) (hc : aa_tb g g' t) (hp : ∀ i : Nat, i < 12 → (i : Int) < (g' 541 (4 + 50 * t)).toInt → aa_gd g' (5 + 50 * t + 4 * i)) : aa_Phi g' := by
  obtain ⟨k1, ⟨k2, k3⟩, k4⟩ := h
  have oth : ∀ k, k ≠ 541 → g' k = g k := fun k hk => by
    funext j
    exact hc k j fun e => hk e.1
  have out : ∀ j, ¬ (4 + 50 * t ≤ j ∧ j < 53 + 50 * t) → g' 541 j = g 541 j := fun j hj => hc 541 j fun e => hj e.2
  refine ⟨fun r hr => ⟨?_, aa_rp_of (out _ (by omega)) (fun q hq => out _ (by omega)) (k1 r hr).2⟩, ⟨fun k hk hq => ?_, fun k hk hq => ?_⟩, fun b hb hq => ?_⟩
  · by_cases e : r = 0
    · subst e
      intro s i hs hi hcnt
      by_cases es : s = t
      · subst es
        rw [show 399 * 0 + 50 * s + 4 = 4 + 50 * s by omega] at hcnt
        have := hp i hi hcnt
        rwa [show 399 * 0 + 50 * s + 4 * i + 5 = 5 + 50 * s + 4 * i by omega]
      · rw [out _ (by omega)] at hcnt
        have := (k1 0 hr).1 s i hs hi hcnt
        unfold aa_gd at this ⊢
        rwa [out _ (by omega), out _ (by omega), out _ (by omega)]
    · exact aa_pt_of (fun q _ _ _ _ _ => out _ (by omega)) (k1 r hr).1
  · rw [oth 542 (by decide)] at hq
    rw [out _ (by omega)]
    exact k2 k hk hq
  · rw [oth 540 (by decide)] at hq
    rw [out _ (by omega)]
    exact k3 k hk hq
  · rw [oth 540 (by decide)] at hq
    exact aa_nb_of (fun q _ => by rw [oth 544 (by decide)]) (by rw [oth 540 (by decide)]; exact Int.le_refl _) (fun i _ => by rw [oth 545 (by decide)]) (k4 b hb hq)
theorem aa_tb_fr {g g' : aa_G} {t : Nat} (ht : t < 4) (h : aa_tb g g' t) {ws : aa_W} (hw : (36, 0, 398) ∈ ws) : aa_fr ws g g' := by
  refine ⟨fun k j => ?_, .inl (aa_dep_eq (h 540 10 (by omega)) (h 540 11 (by omega)) ?_ ?_)⟩
  · by_cases e : k = 541 ∧ 4 + 50 * t ≤ j ∧ j < 53 + 50 * t
    · obtain ⟨rfl, e1, e2⟩ := e
      exact .inr ⟨_, hw, rfl, by show (0 : Int) ≤ (j : Int); omega, by show (j : Int) ≤ 398; omega⟩
    · exact .inl (h k j e)
  · funext j
    exact h 544 j (by omega)
  · funext j
    exact h 545 j (by omega)
