section
/-! BY HAND: a code more; a row copied onto another one -/
theorem aa_inv_w {g : aa_G} (h : aa_inv g) {k j : Nat} {v : Int32} (h1 : (aa_iv (aa_gc k) j).1 ≤ v.toInt) (h2 : v.toInt ≤ (aa_iv (aa_gc k) j).2) : aa_inv (zz_w g k j v) := fun a b => by
  by_cases e : a = k ∧ b = j
  · obtain ⟨rfl, rfl⟩ := e
    rw [aa_w_at]
    exact ⟨h1, h2⟩
  · rw [aa_w_ne _ _ e]
    exact h a b
theorem zz_ofN {n : Nat} (h : n < 2147483648) : (Int32.ofNat n).toInt = n := Int32.toInt_ofNat_of_lt (by omega)
theorem zz_toN {n : Nat} (h : n < 2147483648) : (Int32.ofNat n).toNatClampNeg = n := by
  have e : (Int32.ofNat n).toNatClampNeg = (Int32.ofNat n).toInt.toNat := rfl
  rw [e, zz_ofN h]
  rfl
theorem zz_inbN {n l : Nat} (h : n < l) (hl : l < 2147483648) : zz_inb (Int32.ofNat n) l = true := aa_inb (by rw [zz_ofN (by omega)]; omega) (by rw [zz_ofN (by omega)]; omega)
theorem zz_row (t k : Nat) : (399 : Int32) * Int32.ofNat t + Int32.ofNat k = Int32.ofNat (399 * t + k) := by
  rw [Int32.ofNat_add, Int32.ofNat_mul]
  rfl
/-- row t has become row f -/
def aa_cp (g g' : aa_G) (f t n : Nat) : Prop := (∀ q, q < n → g' 541 (399 * t + q) = g 541 (399 * f + q)) ∧ ∀ k j, ¬ (k = 541 ∧ 399 * t ≤ j ∧ j < 399 * t + n) → g' k j = g k j
theorem row_loop (f t : Nat) (hf : f < 16) (ht : t < 16) (hne : f ≠ t) (g0 : aa_G) (n : Nat) : ∀ (k : Nat), n + k = 399 → ∀ (g : aa_G), aa_cp g0 g f t k → zz_fin none 152 (2, [some (.ref 540), some (.int (Int32.ofNat f)), some (.int (Int32.ofNat t)), some (.int (Int32.ofNat k))], [], aa_H g) (fun v h => v = none ∧ ∃ g', h = aa_H g' ∧ aa_cp g0 g' f t 399) := by
  induction n with
  | zero =>
    intro k hk g hg
    refine zz_fin.steps (n := 2) (s' := (6, [some (.ref 540), some (.int (Int32.ofNat f)), some (.int (Int32.ofNat t)), some (.int (Int32.ofNat k))], [.int 399, .int (Int32.ofNat k)], aa_H g)) rfl ?_
    refine zz_fin.ic rfl (fun c => ?_) (fun c => ?_)
    · have hk : k = 399 := by omega
      subst hk
      exact zz_fin.at (n := 1) rfl ⟨rfl, g, rfl, hg⟩
    · refine absurd (decide_eq_true ?_) c
      refine Int32.le_iff_toInt_le.mpr ?_
      rw [zz_ofN (by omega), show (399 : Int32).toInt = 399 by decide]
      omega
  | succ n ih =>
    intro k hk g hg
    refine zz_fin.steps (n := 2) (s' := (6, [some (.ref 540), some (.int (Int32.ofNat f)), some (.int (Int32.ofNat t)), some (.int (Int32.ofNat k))], [.int 399, .int (Int32.ofNat k)], aa_H g)) rfl ?_
    refine zz_fin.ic rfl (fun c => ?_) (fun c => ?_)
    · have c1 := Int32.le_iff_toInt_le.mp (of_decide_eq_true c)
      rw [zz_ofN (by omega), show (399 : Int32).toInt = 399 by decide] at c1
      omega
    · refine zz_fin.steps (n := 14) (s' := (31, [some (.ref 540), some (.int (Int32.ofNat f)), some (.int (Int32.ofNat t)), some (.int (Int32.ofNat k))], [.int (399 * Int32.ofNat f + Int32.ofNat k), .ref 541, .int (399 * Int32.ofNat t + Int32.ofNat k), .ref 541], aa_H g)) rfl ?_
      rw [zz_row, zz_row]
      refine zz_fin.ial (n := 6384) rfl rfl (zz_inbN (by omega) (by omega)) ?_
      refine zz_fin.ias (n := 6384) rfl rfl (zz_inbN (by omega) (by omega)) ?_
      rw [zz_toN (by omega), zz_toN (by omega)]
      refine zz_fin.steps (n := 2) (s' := (2, [some (.ref 540), some (.int (Int32.ofNat f)), some (.int (Int32.ofNat t)), some (.int (Int32.ofNat k + 1))], [], aa_H (zz_w g 541 (399 * t + k) (g 541 (399 * f + k))))) rfl ?_
      rw [show Int32.ofNat k + 1 = Int32.ofNat (k + 1) from (Int32.ofNat_add k 1).symm]
      refine ih (k + 1) (by omega) _ ⟨fun q hq => ?_, fun a b hab => ?_⟩
      · by_cases hqk : q = k
        · subst hqk
          rw [aa_w_at]
          exact hg.2 541 _ (by omega)
        · rw [aa_w_ne _ _ (by omega)]
          exact hg.1 q (by omega)
      · rw [aa_w_ne _ _ (by omega)]
        exact hg.2 a b (by omega)
theorem row_copy (f t : Nat) (hf : f < 16) (ht : t < 16) (hne : f ≠ t) (g : aa_G) : zz_fin none 152 (0, zz_in [.ref 540, .int (Int32.ofNat f), .int (Int32.ofNat t)] (zz_nl 152), [], aa_H g) (fun v h => v = none ∧ ∃ g', h = aa_H g' ∧ aa_cp g g' f t 399) := by
  refine zz_fin.steps (n := 2) (s' := (2, [some (.ref 540), some (.int (Int32.ofNat f)), some (.int (Int32.ofNat t)), some (.int (Int32.ofNat 0))], [], aa_H g)) rfl ?_
  exact row_loop f t hf ht hne g 399 0 rfl g ⟨fun q hq => absurd hq (Nat.not_lt_zero q), fun _ _ _ => rfl⟩
theorem aa_iv36 (j : Nat) : aa_iv 36 j = aa_place (j / 399) (j % 399) := rfl
theorem aa_place_le {f t q : Nat} {x : Int} (h : (aa_place f q).1 ≤ x ∧ x ≤ (aa_place f q).2) (h1 : q = 1 → 1 ≤ x) : (aa_place t q).1 ≤ x ∧ x ≤ (aa_place t q).2 := by
  unfold aa_place at h ⊢
  split
  · rename_i c
    rw [if_pos c] at h
    exact h
  · rename_i c
    rw [if_neg c] at h
    split
    · rename_i c
      rw [if_pos c] at h
      exact h
    · rename_i c
      rw [if_neg c] at h
      split
      · rename_i c
        rw [if_pos c] at h
        exact h
      · rename_i c
        rw [if_neg c] at h
        match q, h, h1 with
        | 0, h, _ => exact h
        | 1, h, h1 =>
          have h2 := h1 rfl
          have h : (if Nat.beq f 0 = true then ((1 : Int), (3600 : Int)) else (0, 3600)).1 ≤ x ∧ x ≤ (if Nat.beq f 0 = true then ((1 : Int), (3600 : Int)) else (0, 3600)).2 := h
          show (if Nat.beq t 0 = true then ((1 : Int), (3600 : Int)) else (0, 3600)).1 ≤ x ∧ x ≤ (if Nat.beq t 0 = true then ((1 : Int), (3600 : Int)) else (0, 3600)).2
          have h3 : x ≤ 3600 := by
            have := h.2
            split at this <;> exact this
          split
          · exact ⟨h2, h3⟩
          · exact ⟨show (0 : Int) ≤ x by omega, h3⟩
        | q + 2, h, _ => exact h
theorem aa_inv_cp {g g' : aa_G} {f t : Nat} (h : aa_inv g) (hc : aa_cp g g' f t 399) (hp : 1 ≤ (g 541 (399 * f + 1)).toInt) : aa_inv g' := fun k j => by
  by_cases e : k = 541 ∧ 399 * t ≤ j ∧ j < 399 * t + 399
  · obtain ⟨rfl, e1, e2⟩ := e
    obtain ⟨q, rfl⟩ : ∃ q, j = 399 * t + q := ⟨j - 399 * t, by omega⟩
    have hq : q < 399 := by omega
    rw [hc.1 q hq]
    have k1 := h 541 (399 * f + q)
    have k1 : (aa_iv 36 (399 * f + q)).1 ≤ (g 541 (399 * f + q)).toInt ∧ (g 541 (399 * f + q)).toInt ≤ (aa_iv 36 (399 * f + q)).2 := k1
    show (aa_iv 36 (399 * t + q)).1 ≤ (g 541 (399 * f + q)).toInt ∧ (g 541 (399 * f + q)).toInt ≤ (aa_iv 36 (399 * t + q)).2
    rw [aa_iv36, show (399 * t + q) / 399 = t by omega, show (399 * t + q) % 399 = q by omega]
    rw [aa_iv36, show (399 * f + q) / 399 = f by omega, show (399 * f + q) % 399 = q by omega] at k1
    refine aa_place_le k1 fun e => ?_
    subst e
    exact hp
  · rw [hc.2 k j e]
    exact h k j
theorem aa_to_le {g : aa_G} (h : aa_inv g) (r b : Nat) (hb : b < 8) : (g 541 (399 * r + 203 + 7 * b + 6)).toInt ≤ 140 := by
  have k := (h 541 (399 * r + (209 + 7 * b))).2
  have k : (g 541 (399 * r + (209 + 7 * b))).toInt ≤ (aa_iv 36 (399 * r + (209 + 7 * b))).2 := k
  rw [aa_iv36, show (399 * r + (209 + 7 * b)) / 399 = r by omega, show (399 * r + (209 + 7 * b)) % 399 = 209 + 7 * b by omega] at k
  rw [show 399 * r + 203 + 7 * b + 6 = 399 * r + (209 + 7 * b) by omega]
  rcases (show b = 0 ∨ b = 1 ∨ b = 2 ∨ b = 3 ∨ b = 4 ∨ b = 5 ∨ b = 6 ∨ b = 7 by omega) with rfl | rfl | rfl | rfl | rfl | rfl | rfl | rfl <;> exact k
theorem aa_seg_cp {g g' : aa_G} {r r' b : Nat} (h5 : g' 541 (399 * r' + 203 + 7 * b + 5) = g 541 (399 * r + 203 + 7 * b + 5)) (h6 : g' 541 (399 * r' + 203 + 7 * b + 6) = g 541 (399 * r + 203 + 7 * b + 6)) (hc : ∀ k, k < 140 → g' 541 (399 * r' + 259 + k) = g 541 (399 * r + 259 + k)) (hle : (g 541 (399 * r + 203 + 7 * b + 6)).toInt ≤ 140) (h : aa_seg g r b) : aa_seg g' r' b := by
  unfold aa_seg at h ⊢
  rw [h5, h6, aa_run_congr (c := fun k => g 541 (399 * r + 259 + k))]
  · exact h
  · intro i hi
    exact hc _ (by omega)
theorem aa_Phi_cp {g g' : aa_G} {f t : Nat} (hi : aa_inv g) (h : aa_Phi g) (hc : aa_cp g g' f t 399) (hf : f < 16) (hp : 1 ≤ (g 541 (399 * f + 1)).toInt) : aa_Phi g' := by
  obtain ⟨k1, ⟨k2, k3⟩, k4⟩ := h
  have oth : ∀ k, k ≠ 541 → g' k = g k := fun k hk => by
    funext j
    exact hc.2 k j fun e => hk e.1
  have out : ∀ j, ¬ (399 * t ≤ j ∧ j < 399 * t + 399) → g' 541 j = g 541 j := fun j hj => hc.2 541 j fun e => hj e.2
  have parts : ∀ r, 1 ≤ (g 541 (399 * r + 1)).toInt → 1 ≤ (g' 541 (399 * r + 1)).toInt := fun r hr => by
    by_cases e : r = t
    · subst e
      rw [hc.1 1 (by omega)]
      exact hp
    · rw [out _ (by omega)]
      exact hr
  refine ⟨fun r hr => ?_, ⟨fun k hk hq => ?_, fun k hk hq => ?_⟩, fun b hb hq => ?_⟩
  · by_cases e : r = t
    · subst e
      have kf := k1 f hf
      constructor
      · intro t' i ht' hi hcnt
        rw [show 399 * r + 50 * t' + 4 = 399 * r + (50 * t' + 4) by omega, hc.1 _ (by omega), ← Nat.add_assoc] at hcnt
        have := kf.1 t' i ht' hi hcnt
        unfold aa_gd at this ⊢
        rw [show 399 * r + 50 * t' + 4 * i + 5 + 3 = 399 * r + (50 * t' + 4 * i + 5 + 3) by omega, show 399 * r + 50 * t' + 4 * i + 5 + 1 = 399 * r + (50 * t' + 4 * i + 5 + 1) by omega, show 399 * r + 50 * t' + 4 * i + 5 + 2 = 399 * r + (50 * t' + 4 * i + 5 + 2) by omega, hc.1 _ (by omega), hc.1 _ (by omega), hc.1 _ (by omega)]
        rwa [show 399 * f + 50 * t' + 4 * i + 5 + 3 = 399 * f + (50 * t' + 4 * i + 5 + 3) by omega, show 399 * f + 50 * t' + 4 * i + 5 + 1 = 399 * f + (50 * t' + 4 * i + 5 + 1) by omega, show 399 * f + 50 * t' + 4 * i + 5 + 2 = 399 * f + (50 * t' + 4 * i + 5 + 2) by omega] at this
      · intro b hb hcnt
        rw [hc.1 2 (by omega)] at hcnt
        have := kf.2 b hb hcnt
        refine aa_seg_cp ?_ ?_ ?_ (aa_to_le hi f b hb) this
        · rw [show 399 * r + 203 + 7 * b + 5 = 399 * r + (203 + 7 * b + 5) by omega, hc.1 _ (by omega), show 399 * f + (203 + 7 * b + 5) = 399 * f + 203 + 7 * b + 5 by omega]
        · rw [show 399 * r + 203 + 7 * b + 6 = 399 * r + (203 + 7 * b + 6) by omega, hc.1 _ (by omega), show 399 * f + (203 + 7 * b + 6) = 399 * f + 203 + 7 * b + 6 by omega]
        · intro k hk
          rw [show 399 * r + 259 + k = 399 * r + (259 + k) by omega, hc.1 _ (by omega), show 399 * f + (259 + k) = 399 * f + 259 + k by omega]
    · refine ⟨aa_pt_of (fun q q1 q2 _ _ _ => out _ (by omega)) (k1 r hr).1, fun b hb hcnt => ?_⟩
      rw [out _ (by omega)] at hcnt
      exact aa_seg_cp (out _ (by omega)) (out _ (by omega)) (fun k hk => out _ (by omega)) (aa_to_le hi r b hb) ((k1 r hr).2 b hb hcnt)
  · rw [oth 542 (by decide)] at hq
    exact parts _ (k2 k hk hq)
  · rw [oth 540 (by decide)] at hq
    exact parts _ (k3 k hk hq)
  · rw [oth 540 (by decide)] at hq
    exact aa_nb_of (fun q _ => by rw [oth 544 (by decide)]) (by rw [oth 540 (by decide)]; exact Int.le_refl _) (fun i _ => by rw [oth 545 (by decide)]) (k4 b hb hq)
/-- a row is copied, and all that is kept is kept -/
theorem aa_copy {f t : Nat} (hf : f < 16) (ht : t < 16) (hne : f ≠ t) {g : aa_G} (hi : aa_inv g) (hφ : aa_Phi g) (hp : 1 ≤ (g 541 (399 * f + 1)).toInt) : zz_fin none 152 (0, zz_in [.ref 540, .int (Int32.ofNat f), .int (Int32.ofNat t)] (zz_nl 152), [], aa_H g) (fun v h => v = none ∧ ∃ g', h = aa_H g' ∧ aa_cp g g' f t 399 ∧ aa_inv g' ∧ aa_Phi g') := by
  refine (row_copy f t hf ht hne g).mono ?_
  rintro v h ⟨rfl, g', rfl, hc⟩
  exact ⟨rfl, g', rfl, hc, aa_inv_cp hi hc hp, aa_Phi_cp hi hφ hc hf hp⟩
theorem aa_cp_fr {g g' : aa_G} {f t : Nat} (h : aa_cp g g' f t 399) {ws : aa_W} {lo hi : Int} (hw : (36, lo, hi) ∈ ws) (h1 : lo ≤ 399 * t) (h2 : (399 * t + 398 : Int) ≤ hi) : aa_fr ws g g' := by
  refine ⟨fun k j => ?_, .inl (aa_dep_eq (h.2 540 10 (by omega)) (h.2 540 11 (by omega)) ?_ ?_)⟩
  · by_cases e : k = 541 ∧ 399 * t ≤ j ∧ j < 399 * t + 399
    · obtain ⟨rfl, e1, e2⟩ := e
      exact .inr ⟨_, hw, rfl, by show lo ≤ (j : Int); omega, by show (j : Int) ≤ hi; omega⟩
    · exact .inl (h.2 k j e)
  · funext j
    exact h.2 544 j (by omega)
  · funext j
    exact h.2 545 j (by omega)
theorem aa_h3 : aa_met aa_Phi aa_m3 := by
  intro ν0 g as h1 h2 h3 h4 h5 h6
  obtain ⟨as, rfl, h7⟩ := aa_this h4
  clear h4
  obtain ⟨w1, as, rfl, e1, h8⟩ := aa_ms_int h7
  clear h7
  obtain ⟨w2, as, rfl, e2, h9⟩ := aa_ms_int h8
  clear h8
  cases as with
  | cons _ _ => exact h9.elim
  | nil =>
    have e1 : (0 : Int) + 0 = w1.toInt := Option.some.inj e1
    have e2 : (15 : Int) + 0 = w2.toInt := Option.some.inj e2
    have e1 : w1 = Int32.ofNat 0 := Int32.toInt_inj.mp (by rw [← e1]; rfl)
    have e2 : w2 = Int32.ofNat 15 := Int32.toInt_inj.mp (by rw [← e2]; rfl)
    subst e1
    subst e2
    have hp : (1 : Int) ≤ (g 541 1).toInt ∧ (g 541 1).toInt ≤ 3600 := h5 541 1
    refine (aa_copy (f := 0) (t := 15) (by omega) (by omega) (by omega) h5 h6 hp.1).mono ?_
    rintro v h ⟨rfl, g', rfl, hc, k1, k2⟩
    refine ⟨g', rfl, k1, k2, aa_cp_fr hc List.mem_cons_self (by omega) (by omega), _, List.mem_cons_self, [(g 541 1).toInt], ?_, fun f hf => (by cases hf), ?_, trivial⟩
    · exact aa_vb_new h1 (lo := 1) (hi := 3600) (gr := 0) (by omega) (by omega) (fun z => absurd rfl z)
    · intro q hq
      rcases List.mem_cons.mp hq with rfl | hq
      · have hlen : ν0.length = 0 := h1.1
        match ν0, hlen with
        | [], _ =>
          refine ⟨541, 5986, _, rfl, rfl, rfl, ?_⟩
          have := hc.1 1 (by omega)
          show (g' 541 5986).toInt = (0 : Int) + (1 * (g 541 1).toInt + 0)
          rw [show (5986 : Nat) = 399 * 15 + 1 from rfl, this]
          show (g 541 1).toInt = _
          omega
      · cases hq
theorem aa_h6 : aa_met aa_Phi aa_m6 := by
  intro ν0 g as h1 h2 h3 h4 h5 h6
  obtain ⟨as, rfl, h7⟩ := aa_this h4
  clear h4
  obtain ⟨w1, as, rfl, e1, h8⟩ := aa_ms_int h7
  clear h7
  obtain ⟨w2, as, rfl, e2, h9⟩ := aa_ms_int h8
  clear h8
  have hlen : ν0.length = 1 := h1.1
  match ν0, hlen, as, h9 with
  | [a], _, [], _ =>
    have e1 : (15 : Int) + 0 = w1.toInt := Option.some.inj e1
    have e2 : (0 : Int) + 0 = w2.toInt := Option.some.inj e2
    have e1 : w1 = Int32.ofNat 15 := Int32.toInt_inj.mp (by rw [← e1]; rfl)
    have e2 : w2 = Int32.ofNat 0 := Int32.toInt_inj.mp (by rw [← e2]; rfl)
    subst e1
    subst e2
    have ra := aa_vh_at h3 (k := 541) (j := 5986) (r := (541, [])) (sl := (5986, [])) (f := (0, [(0, 1)])) List.mem_cons_self rfl rfl
    have ra : (0 : Int) + (1 * a + 0) = (g 541 5986).toInt := Option.some.inj ra
    have ba := (h1.2 0 _ a rfl rfl).1
    have ba : (1 : Int) ≤ a := ba
    have hp : (1 : Int) ≤ (g 541 (399 * 15 + 1)).toInt := by
      show (1 : Int) ≤ (g 541 5986).toInt
      omega
    refine (aa_copy (f := 15) (t := 0) (by omega) (by omega) (by omega) h5 h6 hp).mono ?_
    rintro v h ⟨rfl, g', rfl, hc, k1, k2⟩
    exact ⟨g', rfl, k1, k2, aa_cp_fr hc List.mem_cons_self (by omega) (by omega), _, List.mem_cons_self, [], h1, fun f hf => (by cases hf), fun q hq => (by cases hq), trivial⟩
end
section
/-! BY HAND: a row comes to the deeds -/
theorem aa_add32 {a b : Int32} (h1 : -2147483648 ≤ a.toInt + b.toInt) (h2 : a.toInt + b.toInt ≤ 2147483647) : (a + b).toInt = a.toInt + b.toInt := by
  rw [Int32.toInt_add, aa_bm h1 h2]
theorem aa_sub32 {a b : Int32} (h1 : -2147483648 ≤ a.toInt - b.toInt) (h2 : a.toInt - b.toInt ≤ 2147483647) : (a - b).toInt = a.toInt - b.toInt := by
  rw [Int32.toInt_sub, aa_bm h1 h2]
theorem aa_eqN {a : Int32} {n : Nat} (h : a.toInt = n) (hn : n < 2147483648) : a = Int32.ofNat n := Int32.toInt_inj.mp (by rw [h, zz_ofN hn])
theorem aa_Phi_deeds {g : aa_G} (h : aa_Phi g) {v : Int32} (hv : ∀ k : Nat, k < 12 → (k : Int) < v.toInt → 1 ≤ (g 541 (399 * (3 + k) + 1)).toInt) : aa_Phi (zz_w g 540 1 v) := by
  obtain ⟨k1, ⟨k2, k3⟩, k4⟩ := h
  have oth : ∀ k, k ≠ 540 → zz_w g 540 1 v k = g k := fun k hk => zz_w_other _ _ _ hk
  have o1 := oth 541 (by decide)
  have o2 := oth 542 (by decide)
  have o3 : ∀ j, j ≠ 1 → zz_w g 540 1 v 540 j = g 540 j := fun j hj => aa_w_ne _ _ fun e => hj e.2
  refine ⟨fun r hr => ⟨aa_pt_of (fun q _ _ _ _ _ => by rw [o1]) (k1 r hr).1, aa_rp_of (by rw [o1]) (fun q _ => by rw [o1]) (k1 r hr).2⟩, ⟨fun k hk hc => ?_, fun k hk hc => ?_⟩, fun b hb hc => ?_⟩
  · rw [o1]
    rw [o2] at hc
    exact k2 k hk hc
  · rw [o1]
    rw [aa_w_at] at hc
    exact hv k hk hc
  · rw [o3 10 (by decide)] at hc
    exact aa_nb_of (fun q _ => by rw [oth 544 (by decide)]) (by rw [o3 11 (by decide)]; exact Int.le_refl _) (fun i _ => by rw [oth 545 (by decide)]) (k4 b hb hc)
abbrev aa_dw : aa_W := [(35, 1, 1), (36, 1197, 5984)]
theorem aa_fr_deeds {g : aa_G} {v : Int32} {ws : aa_W} (hw : (35, 1, 1) ∈ ws) : aa_fr ws g (zz_w g 540 1 v) := by
  refine ⟨fun k j => ?_, .inl (aa_dep_w ⟨fun e => by have := e.2; omega, by decide, by decide⟩)⟩
  by_cases e : k = 540 ∧ j = 1
  · obtain ⟨rfl, rfl⟩ := e
    exact .inr ⟨_, hw, rfl, by decide, by decide⟩
  · exact .inl (aa_w_ne _ _ e)
/-- what a deed begins with -/
def aa_dbeg (row : Nat) (g : aa_G) : Prop := aa_inv g ∧ aa_Phi g ∧ 1 ≤ (g 541 (399 * row + 1)).toInt
theorem deed_tail {row : Nat} (hrow : row = 0 ∨ row = 15) {g : aa_G} (hb : aa_dbeg row g) (hd : (g 540 1).toInt ≤ 11) (x : Option Value) : zz_fin none 157 (45, [some (.ref 540), some (.int (Int32.ofNat row)), x], [], aa_H g) (fun v h => v = none ∧ ∃ g', h = aa_H g' ∧ aa_inv g' ∧ aa_Phi g' ∧ aa_fr aa_dw g g') := by
  obtain ⟨h5, h6, hp⟩ := hb
  have hd0 : 0 ≤ (g 540 1).toInt := (h5 540 1).1
  obtain ⟨d, hdd⟩ : ∃ d : Nat, (g 540 1).toInt = (d : Int) := ⟨(g 540 1).toInt.toNat, by omega⟩
  have e3 : (3 : Int32).toInt = 3 := rfl
  have e1 : (1 : Int32).toInt = 1 := rfl
  have et : (3 : Int32) + g 540 1 = Int32.ofNat (3 + d) := aa_eqN (by rw [aa_add32 (by omega) (by omega), e3, hdd]; omega) (by omega)
  refine zz_fin.steps (n := 6) (s' := (53, [some (.ref 540), some (.int (Int32.ofNat row)), x], [.int (3 + g 540 1), .int (Int32.ofNat row), .ref 540], aa_H g)) rfl ?_
  rw [et]
  refine zz_fin.call rfl rfl (Nat.le_of_ble_eq_true rfl) (aa_copy (f := row) (t := 3 + d) (by omega) (by omega) (by omega) h5 h6 hp) ?_
  rintro v h ⟨rfl, g1, rfl, hc, k1, k2⟩
  refine zz_fin.steps (n := 6) (s' := (66, [some (.ref 540), some (.int (Int32.ofNat row)), x], [], aa_H (zz_w g1 540 1 (g1 540 1 + 1)))) rfl ?_
  have hd1 : g1 540 1 = g 540 1 := hc.2 540 1 (by omega)
  have hv : (g1 540 1 + 1).toInt = (d : Int) + 1 := by
    rw [aa_add32 (by rw [hd1]; omega) (by rw [hd1]; omega), hd1, hdd, e1]
  refine zz_fin.at (n := 1) rfl ⟨rfl, _, rfl, aa_inv_w k1 ?_ ?_, aa_Phi_deeds k2 fun k hk hkv => ?_, ?_⟩
  · show (0 : Int) ≤ _
    omega
  · show _ ≤ (12 : Int)
    omega
  · by_cases hkd : k = d
    · subst hkd
      rw [hc.1 1 (by omega)]
      exact hp
    · exact k2.2.1.2 k hk (by rw [hd1]; omega)
  · exact aa_fr.tr (aa_cp_fr hc (List.mem_cons_of_mem _ List.mem_cons_self) (by omega) (by omega)) (aa_fr_deeds List.mem_cons_self)
theorem deed_loop {row : Nat} (hrow : row = 0 ∨ row = 15) {φ : Option Value → zz_H → Prop} (g0 : aa_G) (hk : ∀ g, aa_dbeg row g → (g 540 1).toInt = 12 → aa_fr aa_dw g0 g → ∀ x, zz_fin none 157 (35, [some (.ref 540), some (.int (Int32.ofNat row)), x], [], aa_H g) φ) (n : Nat) : ∀ (k : Nat), n + k = 12 → 1 ≤ k → ∀ g, aa_dbeg row g → (g 540 1).toInt = 12 → aa_fr aa_dw g0 g → zz_fin none 157 (11, [some (.ref 540), some (.int (Int32.ofNat row)), some (.int (Int32.ofNat k))], [], aa_H g) φ := by
  have e12 : (12 : Int32).toInt = 12 := rfl
  have e3 : (3 : Int32).toInt = 3 := rfl
  have e1 : (1 : Int32).toInt = 1 := rfl
  induction n with
  | zero =>
    intro k hk' h1 g hb hd hf
    refine zz_fin.steps (n := 2) (s' := (14, [some (.ref 540), some (.int (Int32.ofNat row)), some (.int (Int32.ofNat k))], [.int 12, .int (Int32.ofNat k)], aa_H g)) rfl ?_
    refine zz_fin.ic rfl (fun c => ?_) (fun c => ?_)
    · exact hk g hb hd hf _
    · refine absurd ((aa_cmp _ _ _).mpr ?_) c
      show (0 : Int) ≤ _
      rw [zz_ofN (by omega), e12]
      omega
  | succ n ih =>
    intro k hk' h1 g hb hd hf
    have ek := zz_ofN (show k < 2147483648 by omega)
    refine zz_fin.steps (n := 2) (s' := (14, [some (.ref 540), some (.int (Int32.ofNat row)), some (.int (Int32.ofNat k))], [.int 12, .int (Int32.ofNat k)], aa_H g)) rfl ?_
    refine zz_fin.ic rfl (fun c => ?_) (fun c => ?_)
    · have c : (0 : Int) ≤ (Int32.ofNat k).toInt - (12 : Int32).toInt := (aa_cmp _ _ _).mp c
      rw [ek, e12] at c
      omega
    · refine zz_fin.steps (n := 9) (s' := (26, [some (.ref 540), some (.int (Int32.ofNat row)), some (.int (Int32.ofNat k))], [.int (3 + Int32.ofNat k - 1), .int (3 + Int32.ofNat k), .ref 540], aa_H g)) rfl ?_
      have es : (3 + Int32.ofNat k : Int32).toInt = 3 + (k : Int) := by rw [aa_add32 (by omega) (by omega), e3, ek]
      have ef : (3 : Int32) + Int32.ofNat k = Int32.ofNat (3 + k) := aa_eqN (by rw [es]; omega) (by omega)
      have et : (3 : Int32) + Int32.ofNat k - 1 = Int32.ofNat (2 + k) := aa_eqN (by rw [aa_sub32 (by rw [es, e1]; omega) (by rw [es, e1]; omega), es, e1]; omega) (by omega)
      rw [et, ef]
      obtain ⟨h5, h6, hp⟩ := hb
      refine zz_fin.call rfl rfl (Nat.le_of_ble_eq_true rfl) (aa_copy (f := 3 + k) (t := 2 + k) (by omega) (by omega) (by omega) h5 h6 (h6.2.1.2 k (by omega) (by omega))) ?_
      rintro v h ⟨rfl, g1, rfl, hc, k1, k2⟩
      refine zz_fin.steps (n := 2) (s' := (11, [some (.ref 540), some (.int (Int32.ofNat row)), some (.int (Int32.ofNat k + 1))], [], aa_H g1)) rfl ?_
      rw [show Int32.ofNat k + 1 = Int32.ofNat (k + 1) from (Int32.ofNat_add k 1).symm]
      refine ih (k + 1) (by omega) (by omega) g1 ⟨k1, k2, ?_⟩ ?_ (hf.tr (aa_cp_fr hc (List.mem_cons_of_mem _ List.mem_cons_self) (by omega) (by omega)))
      · rw [hc.2 541 _ (by omega)]
        exact hp
      · rw [hc.2 540 1 (by omega)]
        exact hd
theorem deed_all {row : Nat} (hrow : row = 0 ∨ row = 15) {g : aa_G} (hb : aa_dbeg row g) : zz_fin none 157 (0, zz_in [.ref 540, .int (Int32.ofNat row)] (zz_nl 157), [], aa_H g) (fun v h => v = none ∧ ∃ g', h = aa_H g' ∧ aa_inv g' ∧ aa_Phi g' ∧ aa_fr aa_dw g g') := by
  have e12 : (12 : Int32).toInt = 12 := rfl
  have e1 : (1 : Int32).toInt = 1 := rfl
  have b1 : 0 ≤ (g 540 1).toInt := (hb.1 540 1).1
  have b2 : (g 540 1).toInt ≤ 12 := (hb.1 540 1).2
  refine zz_fin.steps (n := 3) (s' := (6, [some (.ref 540), some (.int (Int32.ofNat row)), none], [.int 12, .int (g 540 1)], aa_H g)) rfl ?_
  refine zz_fin.ic rfl (fun c => ?_) (fun c => ?_)
  · have c : (g 540 1).toInt - (12 : Int32).toInt ≠ 0 := (aa_cmp _ _ _).mp c
    exact deed_tail hrow hb (by omega) _
  · have c : ¬ ((g 540 1).toInt - (12 : Int32).toInt ≠ 0) := fun z => c ((aa_cmp _ _ _).mpr z)
    have hd : (g 540 1).toInt = 12 := by omega
    refine zz_fin.steps (n := 2) (s' := (11, [some (.ref 540), some (.int (Int32.ofNat row)), some (.int (Int32.ofNat 1))], [], aa_H g)) rfl ?_
    refine deed_loop hrow g (fun g1 hb1 hd1 hf1 x => ?_) 11 1 rfl (Nat.le_refl 1) g hb hd aa_fr.rf
    refine zz_fin.steps (n := 6) (s' := (45, [some (.ref 540), some (.int (Int32.ofNat row)), x], [], aa_H (zz_w g1 540 1 (g1 540 1 - 1)))) rfl ?_
    have hv : (g1 540 1 - 1).toInt = 11 := by
      rw [aa_sub32 (by omega) (by omega), hd1, e1]
      omega
    obtain ⟨k1, k2, k3⟩ := hb1
    refine (deed_tail hrow (g := zz_w g1 540 1 (g1 540 1 - 1)) ⟨aa_inv_w k1 (by show (0 : Int) ≤ _; omega) (by show _ ≤ (12 : Int); omega), aa_Phi_deeds k2 (fun k hk hkv => k2.2.1.2 k hk (by omega)), by rw [zz_w_other _ _ _ (by decide)]; exact k3⟩ (by rw [aa_w_at]; omega) x).mono ?_
    rintro v h ⟨rfl, g2, rfl, q1, q2, q3⟩
    exact ⟨rfl, g2, rfl, q1, q2, hf1.tr ((aa_fr_deeds List.mem_cons_self).tr q3)⟩
theorem aa_h11 : aa_met aa_Phi aa_m11 := by
  intro ν0 g as h1 h2 h3 h4 h5 h6
  obtain ⟨as, rfl, h7⟩ := aa_this h4
  clear h4
  obtain ⟨w1, as, rfl, e1, h8⟩ := aa_ms_int h7
  clear h7
  have e1 : (0 : Int) + 0 = w1.toInt := Option.some.inj e1
  have e1 : w1 = Int32.ofNat 0 := Int32.toInt_inj.mp (by rw [← e1]; rfl)
  subst e1
  match as, h8 with
  | [], _ =>
    have hp : (1 : Int) ≤ (g 541 1).toInt := (h5 541 1).1
    refine (deed_all (.inl rfl) ⟨h5, h6, hp⟩).mono ?_
    rintro v h ⟨rfl, g', rfl, k1, k2, k3⟩
    exact ⟨g', rfl, k1, k2, k3, _, List.mem_cons_self, [], (by rw [List.append_nil]; exact h1), fun f hf => (by cases hf), fun q hq => (by cases hq), trivial⟩
theorem aa_h5 : aa_met aa_Phi aa_m5 := by
  intro ν0 g as h1 h2 h3 h4 h5 h6
  obtain ⟨as, rfl, h7⟩ := aa_this h4
  clear h4
  obtain ⟨w1, as, rfl, e1, h8⟩ := aa_ms_int h7
  clear h7
  have e1 : (15 : Int) + 0 = w1.toInt := Option.some.inj e1
  have e1 : w1 = Int32.ofNat 15 := Int32.toInt_inj.mp (by rw [← e1]; rfl)
  subst e1
  have hlen : ν0.length = 1 := h1.1
  match ν0, hlen, as, h8 with
  | [a], _, [], _ =>
    have ra := aa_vh_at h3 (k := 541) (j := 5986) (r := (541, [])) (sl := (5986, [])) (f := (0, [(0, 1)])) List.mem_cons_self rfl rfl
    have ra : (0 : Int) + (1 * a + 0) = (g 541 5986).toInt := Option.some.inj ra
    have ba : (1 : Int) ≤ a := (h1.2 0 _ a rfl rfl).1
    have hp : (1 : Int) ≤ (g 541 (399 * 15 + 1)).toInt := by
      show (1 : Int) ≤ (g 541 5986).toInt
      omega
    refine (deed_all (.inr rfl) ⟨h5, h6, hp⟩).mono ?_
    rintro v h ⟨rfl, g', rfl, k1, k2, k3⟩
    exact ⟨g', rfl, k1, k2, k3, _, List.mem_cons_self, [], h1, fun f hf => (by cases hf), fun q hq => (by cases hq), trivial⟩
end
section
/-! BY HAND: undo, keep, restore -/
section AK
variable {X : zz_X} {m pc : Nat} {lv : zz_V} {h : zz_H} {φ : Option Value → zz_H → Prop}
theorem zz_fin.bas1 {i a : Int32} {k n : Nat} {r : List Value} {x y u w : Nat} {vv : Value} {sw : List (Int × Nat)} (hT : zz_T m pc = some (.bastore, (x, y, u, w), vv, sw)) (ha : zz_arr h (k + 1) 1 = some n) (hb : zz_inb i n = true) (kk : zz_fin X m (pc + 1, lv, r, (h.1, (h.2.1, zz_w h.2.2 (k + 1) i.toNatClampNeg (vp_nar .boolean a)))) φ) : zz_fin X m (pc, lv, .int a :: .int i :: .ref (k + 1) :: r, h) φ := by
  refine zz_fin.step1 hT ?_ kk
  show zz_bas pc lv (.int a :: .int i :: .ref (k + 1) :: r) h = _
  unfold zz_bas
  dsimp only
  rw [ha]
  dsimp only
  rw [if_pos hb]
  rfl
theorem zz_fin.bal1 {i : Int32} {k n : Nat} {r : List Value} {x y u w : Nat} {vv : Value} {sw : List (Int × Nat)} (hT : zz_T m pc = some (.baload, (x, y, u, w), vv, sw)) (ha : zz_arr h (k + 1) 1 = some n) (hb : zz_inb i n = true) (kk : zz_fin X m (pc + 1, lv, .int (h.2.2 (k + 1) i.toNatClampNeg) :: r, h) φ) : zz_fin X m (pc, lv, .int i :: .ref (k + 1) :: r, h) φ := by
  refine zz_fin.step1 hT ?_ kk
  show zz_bal pc lv (.int i :: .ref (k + 1) :: r) h = _
  unfold zz_bal
  dsimp only
  rw [ha]
  dsimp only
  rw [if_pos hb]
  rfl
end AK
theorem aa_le32 {a b : Int32} : a ≤ b ↔ a.toInt ≤ b.toInt := Int32.le_iff_toInt_le
theorem aa_Phi_kept {g : aa_G} (h : aa_Phi g) {i : Nat} {v : Int32} (hv : 1 ≤ (g 541 (399 * (1 + i) + 1)).toInt) : aa_Phi (zz_w g 542 i v) := by
  obtain ⟨k1, ⟨k2, k3⟩, k4⟩ := h
  have oth : ∀ k, k ≠ 542 → zz_w g 542 i v k = g k := fun k hk => zz_w_other _ _ _ hk
  have o1 := oth 541 (by decide)
  have o2 := oth 540 (by decide)
  refine ⟨fun r hr => ⟨aa_pt_of (fun q _ _ _ _ _ => by rw [o1]) (k1 r hr).1, aa_rp_of (by rw [o1]) (fun q _ => by rw [o1]) (k1 r hr).2⟩, ⟨fun k hk hc => ?_, fun k hk hc => ?_⟩, fun b hb hc => ?_⟩
  · rw [o1]
    by_cases e : k = i
    · rw [e]
      exact hv
    · rw [aa_w_ne _ _ fun z => e z.2] at hc
      exact k2 k hk hc
  · rw [o1]
    rw [o2] at hc
    exact k3 k hk hc
  · rw [o2] at hc
    exact aa_nb_of (fun q _ => by rw [oth 544 (by decide)]) (by rw [o2]; exact Int.le_refl _) (fun i _ => by rw [oth 545 (by decide)]) (k4 b hb hc)
theorem aa_h0 : aa_met aa_Phi aa_m0 := by
  intro ν0 g as h1 h2 h3 h4 h5 h6
  obtain ⟨as, rfl, h7⟩ := aa_this h4
  clear h4
  have e1 : (1 : Int32).toInt = 1 := rfl
  have e3 : (3 : Int32).toInt = 3 := rfl
  match as, h7 with
  | [], _ =>
    have b1 : 0 ≤ (g 540 1).toInt := (h5 540 1).1
    have b2 : (g 540 1).toInt ≤ 12 := (h5 540 1).2
    have hlen : ν0.length = 0 := h1.1
    match ν0, hlen, h1 with
    | [], _, h1 =>
      refine zz_fin.steps (n := 2) (s' := (4, [some (.ref 540)], [.int (g 540 1)], aa_H g)) rfl ?_
      refine zz_fin.if rfl (fun c => ?_) (fun c => ?_)
      · have c : g 540 1 ≠ 0 := of_decide_eq_true c
        have c1 : (g 540 1).toInt ≠ 0 := fun z => c (Int32.toInt_inj.mp z)
        obtain ⟨d, hdd⟩ : ∃ d : Nat, (g 540 1).toInt = (d : Int) + 1 := ⟨(g 540 1).toInt.toNat - 1, by omega⟩
        have es : (g 540 1 - 1).toInt = (d : Int) := by rw [aa_sub32 (by omega) (by omega), e1]; omega
        have et : (3 : Int32) + (g 540 1 - 1) = Int32.ofNat (3 + d) := aa_eqN (by rw [aa_add32 (by omega) (by omega), e3, es]; omega) (by omega)
        refine zz_fin.steps (n := 12) (s' := (27, [some (.ref 540)], [.int (Int32.ofNat 0), .int (3 + (g 540 1 - 1)), .ref 540], aa_H (zz_w g 540 1 (g 540 1 - 1)))) rfl ?_
        rw [et]
        have q1 : aa_inv (zz_w g 540 1 (g 540 1 - 1)) := aa_inv_w h5 (by show (0 : Int) ≤ _; omega) (by show _ ≤ (12 : Int); omega)
        have q2 : aa_Phi (zz_w g 540 1 (g 540 1 - 1)) := aa_Phi_deeds h6 fun k hk hkv => h6.2.1.2 k hk (by omega)
        have q3 : 1 ≤ (zz_w g 540 1 (g 540 1 - 1) 541 (399 * (3 + d) + 1)).toInt := by
          rw [zz_w_other _ _ _ (by decide)]
          exact h6.2.1.2 d (by omega) (by omega)
        refine zz_fin.call rfl rfl (Nat.le_of_ble_eq_true rfl) (aa_copy (f := 3 + d) (t := 0) (by omega) (by omega) (by omega) q1 q2 q3) ?_
        rintro v h ⟨rfl, g1, rfl, hc, k1, k2⟩
        refine zz_fin.steps (n := 2) (s' := (34, [some (.ref 540)], [.int (g1 540 1)], aa_H g1)) rfl ?_
        have hd1 : (g1 540 1).toInt = (d : Int) := by
          rw [hc.2 540 1 (by omega), aa_w_at]
          exact es
        refine zz_fin.at (n := 1) rfl ⟨g1, rfl, k1, k2, (aa_fr_deeds List.mem_cons_self).tr (aa_cp_fr hc (List.mem_cons_of_mem _ List.mem_cons_self) (by omega) (by omega)), _, List.mem_cons_of_mem _ List.mem_cons_self, [(g1 540 1).toInt], ?_, fun f hf => (by cases hf), fun q hq => (by cases hq), ?_⟩
        · exact aa_vb_new h1 (lo := 0) (hi := 11) (gr := 0) (by omega) (by omega) (fun z => absurd rfl z)
        · refine ⟨Nat.one_ne_zero, _, rfl, ?_⟩
          show some ((0 : Int) + (1 * (g1 540 1).toInt + 0)) = some _
          congr 1
          omega
      · refine zz_fin.steps (n := 1) (s' := (8, [some (.ref 540)], [.int (-1)], aa_H g)) rfl ?_
        exact zz_fin.at (n := 1) rfl ⟨g, rfl, h5, h6, aa_fr.rf, _, List.mem_cons_self, [], h1, fun f hf => (by cases hf), fun q hq => (by cases hq), Nat.one_ne_zero, _, rfl, rfl⟩
theorem aa_slot {w : Int32} (c : (0 : Int32) ≤ w ∧ w ≤ 1) : ∃ k : Nat, k < 2 ∧ w = Int32.ofNat k := by
  have c1 : (0 : Int) ≤ w.toInt := aa_le32.mp c.1
  have c2 : w.toInt ≤ 1 := aa_le32.mp c.2
  exact ⟨w.toInt.toNat, by omega, aa_eqN (by omega) (by omega)⟩
theorem aa_fr_kept {g : aa_G} {v : Int32} {ws : aa_W} {k : Nat} (hk : k < 2) (hw : (37, 0, 1) ∈ ws) : aa_fr ws g (zz_w g 542 k v) := by
  refine ⟨fun a b => ?_, .inl (aa_dep_w ⟨fun e => by have := e.1; omega, by decide, by decide⟩)⟩
  by_cases e : a = 542 ∧ b = k
  · obtain ⟨rfl, rfl⟩ := e
    exact .inr ⟨_, hw, rfl, by show (0 : Int) ≤ (b : Int); omega, by show (b : Int) ≤ 1; omega⟩
  · exact .inl (aa_w_ne _ _ e)
theorem aa_h1 : aa_met aa_Phi aa_m1 := by
  intro ν0 g as h1 h2 h3 h4 h5 h6
  obtain ⟨as, rfl, h7⟩ := aa_this h4
  clear h4
  obtain ⟨w1, as, rfl, e1, h8⟩ := aa_ms_int h7
  clear h7
  have hlen : ν0.length = 1 := h1.1
  match ν0, hlen, h1, as, h8, e1 with
  | [a], _, h1, [], _, e1 =>
    have e1 : (0 : Int) + (1 * a + 0) = w1.toInt := Option.some.inj e1
    refine zz_fin.steps (n := 3) (s' := (3, [some (.ref 540), some (.int w1)], [.int 1, .int 0, .int w1], aa_H g)) rfl ?_
    by_cases c : (0 : Int32) ≤ w1 ∧ w1 ≤ 1
    · refine zz_fin.call rfl rfl (Nat.le_of_ble_eq_true rfl) (zz_within1 (.inr rfl) c) ?_
      rintro v h ⟨rfl, rfl⟩
      obtain ⟨k, hk, rfl⟩ := aa_slot c
      refine zz_fin.steps (n := 6) (s' := (16, [some (.ref 540), some (.int (Int32.ofNat k))], [.int (1 + Int32.ofNat k), .int (Int32.ofNat 0), .ref 540], aa_H g)) rfl ?_
      rw [show (1 : Int32) + Int32.ofNat k = Int32.ofNat (1 + k) from (Int32.ofNat_add 1 k).symm]
      have hp : (1 : Int) ≤ (g 541 1).toInt := (h5 541 1).1
      refine zz_fin.call rfl rfl (Nat.le_of_ble_eq_true rfl) (aa_copy (f := 0) (t := 1 + k) (by omega) (by omega) (by omega) h5 h6 hp) ?_
      rintro v h ⟨rfl, g1, rfl, hc, k1, k2⟩
      refine zz_fin.steps (n := 4) (s' := (25, [some (.ref 540), some (.int (Int32.ofNat k))], [.int 1, .int (Int32.ofNat k), .ref 542], aa_H g1)) rfl ?_
      refine zz_fin.bas1 (n := 2) rfl rfl (zz_inbN hk (by omega)) ?_
      rw [zz_toN (by omega)]
      have hp1 : 1 ≤ (g1 541 (399 * (1 + k) + 1)).toInt := by
        rw [hc.1 1 (by omega)]
        exact hp
      have b1 : aa_iv 37 k = (0, 1) := aa_flat_ok rfl k 0
      have b2 : (vp_nar .boolean 1).toInt = 1 := by decide
      refine zz_fin.at (n := 2) rfl ⟨_, rfl, aa_inv_w k1 (v := vp_nar .boolean 1) ?_ ?_, aa_Phi_kept k2 hp1, ?_, _, List.mem_cons_of_mem _ List.mem_cons_self, [], h1, ?_, fun q hq => (by cases hq), Nat.one_ne_zero, _, rfl, rfl⟩
      · show (aa_iv 37 k).1 ≤ _
        rw [b1, b2]
        decide
      · show _ ≤ (aa_iv 37 k).2
        rw [b1, b2]
        decide
      · exact (aa_cp_fr hc (List.mem_cons_of_mem _ List.mem_cons_self) (by omega) (by omega)).tr (aa_fr_kept hk List.mem_cons_self)
      · have ek := zz_ofN (show k < 2147483648 by omega)
        intro f hf
        rcases List.mem_cons.mp hf with rfl | hf
        · exact ⟨_, rfl, by show 0 ≤ (0 : Int) + (1 * a + 0); omega⟩
        · rcases List.mem_cons.mp hf with rfl | hf
          · exact ⟨_, rfl, by show 0 ≤ (1 : Int) + (-1 * a + 0); omega⟩
          · cases hf
    · refine zz_fin.call rfl rfl (Nat.le_of_ble_eq_true rfl) (zz_within0 (.inr rfl) c) ?_
      rintro v h ⟨rfl, rfl⟩
      refine zz_fin.at (n := 3) rfl ⟨g, rfl, h5, h6, aa_fr.rf, _, List.mem_cons_self, [], h1, fun f hf => (by cases hf), fun q hq => (by cases hq), Nat.one_ne_zero, _, rfl, rfl⟩
theorem aa_h2 : aa_met aa_Phi aa_m2 := by
  intro ν0 g as h1 h2 h3 h4 h5 h6
  obtain ⟨as, rfl, h7⟩ := aa_this h4
  clear h4
  obtain ⟨w1, as, rfl, e1, h8⟩ := aa_ms_int h7
  clear h7
  match as, h8 with
  | [], _ =>
    have h1 : aa_vb [(-2147483648, 2147483647, 0)] (ν0 ++ []) := by rw [List.append_nil]; exact h1
    have end0 : aa_post aa_Phi aa_m2 ν0 g (some (.int 0)) (aa_H g) := ⟨g, rfl, h5, h6, aa_fr.rf, _, List.mem_cons_self, [], h1, fun f hf => (by cases hf), fun q hq => (by cases hq), Nat.one_ne_zero, _, rfl, rfl⟩
    refine zz_fin.steps (n := 3) (s' := (3, [some (.ref 540), some (.int w1)], [.int 1, .int 0, .int w1], aa_H g)) rfl ?_
    by_cases c : (0 : Int32) ≤ w1 ∧ w1 ≤ 1
    · refine zz_fin.call rfl rfl (Nat.le_of_ble_eq_true rfl) (zz_within1 (.inr rfl) c) ?_
      rintro v h ⟨rfl, rfl⟩
      obtain ⟨k, hk, rfl⟩ := aa_slot c
      refine zz_fin.steps (n := 4) (s' := (14, [some (.ref 540), some (.int (Int32.ofNat k))], [.int (Int32.ofNat k), .ref 542], aa_H g)) rfl ?_
      refine zz_fin.bal1 (n := 2) rfl rfl (zz_inbN hk (by omega)) ?_
      rw [zz_toN (by omega)]
      refine zz_fin.if rfl (fun d => ?_) (fun d => ?_)
      · have d : g 542 k ≠ 0 := of_decide_eq_true d
        have d1 : (g 542 k).toInt ≠ 0 := fun z => d (Int32.toInt_inj.mp z)
        have hp : (1 : Int) ≤ (g 541 1).toInt := (h5 541 1).1
        refine zz_fin.steps (n := 1) (s' := (21, [some (.ref 540), some (.int (Int32.ofNat k))], [.ref 540], aa_H g)) rfl ?_
        refine zz_fin.call (ψ := fun v h => v = none ∧ ∃ g', h = aa_H g' ∧ aa_inv g' ∧ aa_Phi g' ∧ aa_fr aa_dw g g') rfl rfl (Nat.le_of_ble_eq_true rfl) ?_ ?_
        · refine zz_fin.steps (n := 2) (s' := (2, [some (.ref 540)], [.int (Int32.ofNat 0), .ref 540], aa_H g)) rfl ?_
          refine zz_fin.call rfl rfl (Nat.le_of_ble_eq_true rfl) (deed_all (row := 0) (.inl rfl) ⟨h5, h6, hp⟩) ?_
          rintro v h ⟨rfl, g1, rfl, k1, k2, k3⟩
          exact zz_fin.at (n := 1) rfl ⟨rfl, g1, rfl, k1, k2, k3⟩
        · rintro v h ⟨rfl, g1, rfl, k1, k2, k3⟩
          refine zz_fin.steps (n := 5) (s' := (29, [some (.ref 540), some (.int (Int32.ofNat k))], [.int (Int32.ofNat 0), .int (1 + Int32.ofNat k), .ref 540], aa_H g1)) rfl ?_
          rw [show (1 : Int32) + Int32.ofNat k = Int32.ofNat (1 + k) from (Int32.ofNat_add 1 k).symm]
          have hk1 : g1 542 k = g 542 k := by
            rcases k3.1 542 k with e | ⟨w, hw, e, -⟩
            · exact e
            · rcases List.mem_cons.mp hw with rfl | hw
              · exact absurd e (by decide)
              · rcases List.mem_cons.mp hw with rfl | hw
                · exact absurd e (by decide)
                · cases hw
          have hp1 : 1 ≤ (g1 541 (399 * (1 + k) + 1)).toInt := k2.2.1.1 k hk (by rw [hk1]; exact d1)
          refine zz_fin.call rfl rfl (Nat.le_of_ble_eq_true rfl) (aa_copy (f := 1 + k) (t := 0) (by omega) (by omega) (by omega) k1 k2 hp1) ?_
          rintro v h ⟨rfl, g2, rfl, hc, q1, q2⟩
          have fw : aa_fr [(35, 1, 1), (36, 1197, 5984), (36, 0, 398)] g g1 := ⟨fun a b => (k3.1 a b).imp id fun ⟨w, hw, z⟩ => ⟨w, List.mem_append_left [(36, 0, 398)] hw, z⟩, k3.2.imp id fun ⟨w, hw, z⟩ => ⟨w, List.mem_append_left [(36, 0, 398)] hw, z⟩⟩
          refine zz_fin.at (n := 2) rfl ⟨g2, rfl, q1, q2, fw.tr (aa_cp_fr hc (List.mem_cons_of_mem _ (List.mem_cons_of_mem _ List.mem_cons_self)) (by omega) (by omega)), _, List.mem_cons_of_mem _ List.mem_cons_self, [], h1, fun f hf => (by cases hf), fun q hq => (by cases hq), Nat.one_ne_zero, _, rfl, rfl⟩
      · have d : g 542 k = 0 := Decidable.byContradiction fun z => d (decide_eq_true z)
        exact zz_fin.at (n := 2) rfl end0
    · refine zz_fin.call rfl rfl (Nat.le_of_ble_eq_true rfl) (zz_within0 (.inr rfl) c) ?_
      rintro v h ⟨rfl, rfl⟩
      exact zz_fin.at (n := 3) rfl end0
end
section
/-! BY HAND: a code more behind the codes -/
abbrev aa_ow : aa_W := [(35, 11, 11), (40, 0, 139), (900, 0, 0)]
def aa_doing (g : aa_G) (w : Int32) : aa_G := zz_w (zz_w g 545 (g 540 11).toNatClampNeg w) 540 11 (g 540 11 + 1)
theorem aa_doing_oth {g : aa_G} {w : Int32} {k : Nat} (h1 : k ≠ 540) (h2 : k ≠ 545) : aa_doing g w k = g k := by
  unfold aa_doing
  rw [zz_w_other _ _ _ h1, zz_w_other _ _ _ h2]
theorem aa_doing_540 {g : aa_G} {w : Int32} {j : Nat} (h : j ≠ 11) : aa_doing g w 540 j = g 540 j := by
  unfold aa_doing
  rw [aa_w_ne _ _ fun e => h e.2, zz_w_other _ _ _ (by decide)]
theorem aa_doing_11 {g : aa_G} {w : Int32} : aa_doing g w 540 11 = g 540 11 + 1 := aa_w_at _ _ _ _
theorem aa_doing_545 {g : aa_G} {w : Int32} {j : Nat} : aa_doing g w 545 j = zz_w g 545 (g 540 11).toNatClampNeg w 545 j := by
  unfold aa_doing
  rw [zz_w_other _ _ _ (by decide)]
theorem aa_doing_dep {g : aa_G} {w : Int32} {C : Nat} (hC : (g 540 11).toInt = (C : Int)) (hC2 : C ≤ 139) (hd : 0 ≤ aa_dep g) : aa_dep (aa_doing g w) = aa_rst w (aa_dep g) := by
  have e1 : (1 : Int32).toInt = 1 := rfl
  have en : (g 540 11).toNatClampNeg = C := by
    have e : (g 540 11).toNatClampNeg = (g 540 11).toInt.toNat := rfl
    omega
  have e11 : (aa_doing g w 540 11).toInt = (C : Int) + 1 := by rw [aa_doing_11, aa_add32 (by omega) (by omega), hC, e1]
  have eb : aa_beg (aa_doing g w) = aa_beg g := by
    unfold aa_beg
    rw [aa_doing_540 (by decide), aa_doing_oth (by decide) (by decide)]
  have hb : aa_beg g ≤ C := by
    unfold aa_dep at hd
    split at hd
    · omega
    · omega
  unfold aa_dep
  rw [eb, e11, hC, if_neg (by omega), if_neg (by omega), show ((C : Int) + 1).toNat - aa_beg g = (C - aa_beg g) + 1 by omega, aa_run_add, show aa_beg g + (C - aa_beg g) = C by omega, show ((C : Int)).toNat - aa_beg g = C - aa_beg g by omega]
  congr 1
  · rw [aa_doing_545, en, aa_w_at]
  · refine aa_run_congr _ _ _ fun i hi => ?_
    rw [aa_doing_545, en, aa_w_ne _ _ (by omega)]
theorem does_all {g : aa_G} {w : Int32} (h5 : aa_inv g) (h6 : aa_Phi g) (hw0 : 0 ≤ w.toInt) (hw1 : w.toInt ≤ 200255) {C : Nat} (hC : (g 540 11).toInt = (C : Int)) (hC2 : C ≤ 139) (hd : 0 ≤ aa_dep g) : zz_fin none 188 (0, zz_in [.ref 540, .int w] (zz_nl 188), [], aa_H g) (fun v h => v = none ∧ ∃ g', h = aa_H g' ∧ aa_inv g' ∧ aa_Phi g' ∧ aa_fr aa_ow g g' ∧ (g' 540 11).toInt = (C : Int) + 1 ∧ aa_dep g' = aa_rst w (aa_dep g)) := by
  have e1 : (1 : Int32).toInt = 1 := rfl
  have en : (g 540 11).toNatClampNeg = C := by
    have e : (g 540 11).toNatClampNeg = (g 540 11).toInt.toNat := rfl
    omega
  have e11 : (g 540 11 + 1).toInt = (C : Int) + 1 := by rw [aa_add32 (by omega) (by omega), hC, e1]
  refine zz_fin.steps (n := 5) (s' := (9, [some (.ref 540), some (.int w)], [.int w, .int (g 540 11), .ref 545], aa_H g)) rfl ?_
  refine zz_fin.ias (n := 140) rfl rfl (aa_inb (by omega) (by omega)) ?_
  refine zz_fin.steps (n := 6) (s' := (20, [some (.ref 540), some (.int w)], [], aa_H (aa_doing g w))) rfl ?_
  have b1 : aa_iv 40 C = (0, 200255) := aa_flat_ok rfl C 0
  refine zz_fin.at (n := 1) rfl ⟨rfl, _, rfl, ?_, ?_, ?_, ?_, aa_doing_dep hC hC2 hd⟩
  · unfold aa_doing
    refine aa_inv_w (aa_inv_w h5 ?_ ?_) ?_ ?_
    · rw [en]
      show (aa_iv 40 C).1 ≤ _
      rw [b1]
      exact hw0
    · rw [en]
      show _ ≤ (aa_iv 40 C).2
      rw [b1]
      exact hw1
    · show (0 : Int) ≤ _
      omega
    · show _ ≤ (140 : Int)
      omega
  · obtain ⟨k1, ⟨k2, k3⟩, k4⟩ := h6
    have o1 : aa_doing g w 541 = g 541 := aa_doing_oth (by decide) (by decide)
    have o2 : aa_doing g w 542 = g 542 := aa_doing_oth (by decide) (by decide)
    have o3 : aa_doing g w 544 = g 544 := aa_doing_oth (by decide) (by decide)
    refine ⟨fun r hr => ⟨aa_pt_of (fun q _ _ _ _ _ => by rw [o1]) (k1 r hr).1, aa_rp_of (by rw [o1]) (fun q _ => by rw [o1]) (k1 r hr).2⟩, ⟨fun k hk hc => ?_, fun k hk hc => ?_⟩, fun b hb hc => ?_⟩
    · rw [o1]
      rw [o2] at hc
      exact k2 k hk hc
    · rw [o1]
      rw [aa_doing_540 (by decide)] at hc
      exact k3 k hk hc
    · rw [aa_doing_540 (by decide)] at hc
      refine aa_nb_of (fun q _ => by rw [o3]) (by rw [aa_doing_11, e11]; omega) (fun i hi => ?_) (k4 b hb hc)
      rw [aa_doing_545, en, aa_w_ne _ _ (by omega)]
  · refine ⟨fun a b => ?_, .inr ⟨(900, 0, 0), List.mem_cons_of_mem _ (List.mem_cons_of_mem _ List.mem_cons_self), rfl⟩⟩
    by_cases ea : a = 540 ∧ b = 11
    · obtain ⟨rfl, rfl⟩ := ea
      exact .inr ⟨_, List.mem_cons_self, rfl, by decide, by decide⟩
    · by_cases eb : a = 545 ∧ b = C
      · obtain ⟨rfl, rfl⟩ := eb
        exact .inr ⟨_, List.mem_cons_of_mem _ List.mem_cons_self, rfl, by show (0 : Int) ≤ (b : Int); omega, by show (b : Int) ≤ 139; omega⟩
      · refine .inl ?_
        unfold aa_doing
        rw [aa_w_ne _ _ ea, en, aa_w_ne _ _ eb]
  · rw [aa_doing_11]
    exact e11
theorem aa_h7 : aa_met aa_Phi aa_m7 := by
  intro ν0 g as h1 h2 h3 h4 h5 h6
  obtain ⟨as, rfl, h7⟩ := aa_this h4
  clear h4
  obtain ⟨w, as, rfl, e1, h8⟩ := aa_ms_int h7
  clear h7
  have hlen : ν0.length = 3 := h1.1
  match ν0, hlen, h1, as, h8, h3, e1 with
  | [a, c, d], _, h1, [], _, h3, e1 =>
    have e1 : (0 : Int) + (1 * a + 0) = w.toInt := Option.some.inj e1
    have rc := aa_vh_at h3 (k := 540) (j := 11) (r := (540, [])) (sl := (11, [])) (f := (0, [(1, 1)])) List.mem_cons_self rfl rfl
    have rd := aa_vh_at h3 (k := 600) (j := 0) (r := (600, [])) (sl := (0, [])) (f := (0, [(2, 1)])) (List.mem_cons_of_mem _ List.mem_cons_self) rfl rfl
    have rc : (0 : Int) + (1 * c + 0) = (g 540 11).toInt := Option.some.inj rc
    have rd : (0 : Int) + (1 * d + 0) = aa_dep g := Option.some.inj rd
    have ba := (h1.2 0 _ a rfl rfl)
    have bc := (h1.2 1 _ c rfl rfl)
    have bd := (h1.2 2 _ d rfl rfl)
    have ba1 : 0 ≤ a := ba.1
    have ba2 : a ≤ 100004 := ba.2.1
    have bc1 : 0 ≤ c := bc.1
    have bc2 : c ≤ 139 := bc.2.1
    have bd1 : 0 ≤ d := bd.1
    have bd2 : d ≤ 43 := bd.2.1
    refine (does_all (w := w) h5 h6 (by omega) (by omega) (C := c.toNat) (by omega) (by omega) (by omega)).mono ?_
    rintro v h ⟨rfl, g', rfl, k1, k2, k3, k4, k5⟩
    refine ⟨g', rfl, k1, k2, k3, _, List.mem_cons_self, [], h1, fun f hf => (by cases hf), ?_, trivial⟩
    intro q hq
    rcases List.mem_cons.mp hq with rfl | hq
    · refine ⟨540, 11, _, rfl, rfl, rfl, ?_⟩
      show (g' 540 11).toInt = (1 : Int) + (1 * c + 0)
      omega
    · rcases List.mem_cons.mp hq with rfl | hq
      · refine ⟨600, 0, _, rfl, rfl, rfl, ?_⟩
        show aa_dep g' = (1 : Int) + (1 * d + 0)
        rw [k5]
        unfold aa_rst
        rw [if_pos (by omega), if_neg (by omega), if_neg (by omega), if_neg (by omega)]
        omega
      · cases hq
theorem aa_h8 : aa_met aa_Phi aa_m8 := by
  intro ν0 g as h1 h2 h3 h4 h5 h6
  obtain ⟨as, rfl, h7⟩ := aa_this h4
  clear h4
  obtain ⟨w, as, rfl, e1, h8⟩ := aa_ms_int h7
  clear h7
  have hlen : ν0.length = 3 := h1.1
  match ν0, hlen, h1, as, h8, h3, e1 with
  | [a, c, d], _, h1, [], _, h3, e1 =>
    have e1 : (0 : Int) + (1 * a + 0) = w.toInt := Option.some.inj e1
    have rc := aa_vh_at h3 (k := 540) (j := 11) (r := (540, [])) (sl := (11, [])) (f := (0, [(1, 1)])) List.mem_cons_self rfl rfl
    have rd := aa_vh_at h3 (k := 600) (j := 0) (r := (600, [])) (sl := (0, [])) (f := (0, [(2, 1)])) (List.mem_cons_of_mem _ List.mem_cons_self) rfl rfl
    have rc : (0 : Int) + (1 * c + 0) = (g 540 11).toInt := Option.some.inj rc
    have rd : (0 : Int) + (1 * d + 0) = aa_dep g := Option.some.inj rd
    have ba := (h1.2 0 _ a rfl rfl)
    have bc := (h1.2 1 _ c rfl rfl)
    have bd := (h1.2 2 _ d rfl rfl)
    have ba1 : 200000 ≤ a := ba.1
    have ba2 : a ≤ 200255 := ba.2.1
    have bc1 : 0 ≤ c := bc.1
    have bc2 : c ≤ 139 := bc.2.1
    have bd1 : 2 ≤ d := bd.1
    have bd2 : d ≤ 44 := bd.2.1
    refine (does_all (w := w) h5 h6 (by omega) (by omega) (C := c.toNat) (by omega) (by omega) (by omega)).mono ?_
    rintro v h ⟨rfl, g', rfl, k1, k2, k3, k4, k5⟩
    refine ⟨g', rfl, k1, k2, k3, _, List.mem_cons_self, [], h1, fun f hf => (by cases hf), ?_, trivial⟩
    intro q hq
    rcases List.mem_cons.mp hq with rfl | hq
    · refine ⟨540, 11, _, rfl, rfl, rfl, ?_⟩
      show (g' 540 11).toInt = (1 : Int) + (1 * c + 0)
      omega
    · rcases List.mem_cons.mp hq with rfl | hq
      · refine ⟨600, 0, _, rfl, rfl, rfl, ?_⟩
        show aa_dep g' = (-1 : Int) + (1 * d + 0)
        rw [k5]
        unfold aa_rst
        rw [if_neg (by omega), if_neg (by omega)]
        omega
      · cases hq
end
section
/-! BY HAND: a COND is reckoned -/
def aa_mj : aa_K := ((215, 3, []), (((([(-2147483648, 2147483647, 0), (-2147483648, 2147483647, 0), (-2147483648, 2147483647, 0)], []), ([], [(1, (0, [(0, 1)])), (1, (0, [(1, 1)])), (1, (0, [(2, 1)]))])), [(0, 0), (0, 1), (0, 2)]), ([((([(-2147483648, 2147483647, 0), (-2147483648, 2147483647, 0), (-2147483648, 2147483647, 0), (-2147483648, 2147483647, 0)], []), ([], [(1, (0, [(3, 1)]))])), [(0, 0)])], [])))
set_option maxRecDepth 100000 in
theorem aa_hj : aa_met aa_Phi aa_mj := aa_chk_ok (Ks := []) (gv := fun _ => false) (n := 400) aa_model_good (fun _ h => by cases h) (fun _ _ q => by cases q) (by decide +kernel)
theorem joined_all {a b c : Int32} {g : aa_G} (h5 : aa_inv g) (h6 : aa_Phi g) : zz_fin none 215 (0, zz_in [.int a, .int b, .int c] (zz_nl 215), [], aa_H g) (fun v h => ∃ z : Int32, v = some (.int z) ∧ h = aa_H g) := by
  have v0 : aa_vb [] [] := ⟨rfl, fun i q x h => by cases h⟩
  have b0 : ∀ x : Int32, (-2147483648 : Int) ≤ x.toInt ∧ x.toInt ≤ 2147483647 := fun x => by
    have := x.le_toInt
    have := x.toInt_lt
    omega
  have v1 := aa_vb_new v0 (gr := 0) (b0 a).1 (b0 a).2 (fun z => absurd rfl z)
  have v2 := aa_vb_new v1 (gr := 0) (b0 b).1 (b0 b).2 (fun z => absurd rfl z)
  have v3 := aa_vb_new v2 (gr := 0) (b0 c).1 (b0 c).2 (fun z => absurd rfl z)
  have ev : ∀ x : Int, (0 : Int) + (1 * x + 0) = x := fun x => by omega
  refine (aa_hj [a.toInt, b.toInt, c.toInt] g [.int a, .int b, .int c] v3 (fun f hf => by cases hf) (fun f hf => by cases hf) ⟨⟨Nat.one_ne_zero, a, rfl, congrArg some (ev _)⟩, ⟨Nat.one_ne_zero, b, rfl, congrArg some (ev _)⟩, ⟨Nat.one_ne_zero, c, rfl, congrArg some (ev _)⟩, trivial⟩ h5 h6).mono ?_
  rintro v h ⟨g', rfl, -, -, fr, A, hA, ρ, -, -, -, mr⟩
  have eg : g' = g := by
    funext k j
    rcases fr.1 k j with e | ⟨w, hw, -⟩
    · exact e
    · cases hw
  rw [eg]
  rcases List.mem_cons.mp hA with rfl | hA
  · match v, mr with
    | some w, ⟨_, z, e, _⟩ => exact ⟨z, e, rfl⟩
  · cases hA
theorem aa_rst_neg {w : Int32} {d : Int} (h : d < 0) : aa_rst w d < 0 := by
  unfold aa_rst
  by_cases c : w.toInt < 200000
  · rw [if_pos c, if_pos h]
    decide
  · rw [if_neg c, if_pos (by omega)]
    decide
theorem aa_run_neg {c : Nat → Int32} : ∀ (n k : Nat) (d : Int), d < 0 → aa_run c n k d < 0
  | 0, _, _, h => h
  | n + 1, k, d, h => aa_run_neg n (k + 1) _ (aa_rst_neg h)
theorem aa_from_ge {g : aa_G} (h : aa_inv g) (b : Nat) (hb : b < 8) : 0 ≤ (g 541 (208 + 7 * b)).toInt := by
  have k := (h 541 (208 + 7 * b)).1
  have k : (aa_iv 36 (208 + 7 * b)).1 ≤ (g 541 (208 + 7 * b)).toInt := k
  rw [aa_iv36, show (208 + 7 * b) / 399 = 0 by omega, show (208 + 7 * b) % 399 = 208 + 7 * b by omega] at k
  rcases (show b = 0 ∨ b = 1 ∨ b = 2 ∨ b = 3 ∨ b = 4 ∨ b = 5 ∨ b = 6 ∨ b = 7 by omega) with rfl | rfl | rfl | rfl | rfl | rfl | rfl | rfl <;> exact k
abbrev aa_hw : aa_W := [(44, 0, 43)]
theorem aa_pile {g : aa_G} (h5 : aa_inv g) (h6 : aa_Phi g) {q : Nat} (hq : q < 44) (v : Int32) : aa_inv (zz_w g 549 q v) ∧ aa_Phi (zz_w g 549 q v) ∧ aa_fr aa_hw g (zz_w g 549 q v) ∧ zz_w g 549 q v 541 = g 541 := by
  have b1 : aa_iv 44 q = (-2147483648, 2147483647) := aa_flat_ok rfl q 0
  have c1 := v.le_toInt
  have c2 := v.toInt_lt
  have fr : ∀ ws : aa_W, (44, 0, 43) ∈ ws → aa_fr ws g (zz_w g 549 q v) := fun ws hw => by
    refine ⟨fun a b => ?_, .inl (aa_dep_w ⟨fun e => by have := e.1; omega, by decide, by decide⟩)⟩
    by_cases e : a = 549 ∧ b = q
    · obtain ⟨rfl, rfl⟩ := e
      exact .inr ⟨_, hw, rfl, by show (0 : Int) ≤ (b : Int); omega, by show (b : Int) ≤ 43; omega⟩
    · exact .inl (aa_w_ne _ _ e)
  refine ⟨aa_inv_w h5 ?_ ?_, aa_Phi_same (aa_same_fr (fr aa_mfree (by decide))) h6, fr _ List.mem_cons_self, zz_w_other _ _ _ (by decide)⟩
  · show (aa_iv 44 q).1 ≤ _
    rw [b1]
    omega
  · show _ ≤ (aa_iv 44 q).2
    rw [b1]
    omega
def aa_hpost (g0 : aa_G) (v : Option Value) (h : zz_H) : Prop := (v = some (.int 0) ∨ v = some (.int 1)) ∧ ∃ g', h = aa_H g' ∧ aa_inv g' ∧ aa_Phi g' ∧ aa_fr aa_hw g0 g'
theorem holds_end {g0 g : aa_G} {w i : Int32} {x : Option Value} (p : Nat) (hp : p ≤ 44) (h5 : aa_inv g) (h6 : aa_Phi g) (hf : aa_fr aa_hw g0 g) : zz_fin none 214 (116, [some (.ref 540), some (.int w), some (.int (Int32.ofNat p)), some (.int i), x], [], aa_H g) (aa_hpost g0) := by
  refine zz_fin.steps (n := 1) (s' := (117, [some (.ref 540), some (.int w), some (.int (Int32.ofNat p)), some (.int i), x], [.int (Int32.ofNat p)], aa_H g)) rfl ?_
  refine zz_fin.if rfl (fun c => ?_) (fun c => ?_)
  · exact zz_fin.at (n := 3) rfl ⟨.inr rfl, g, rfl, h5, h6, hf⟩
  · refine zz_fin.steps (n := 5) (s' := (127, [some (.ref 540), some (.int w), some (.int (Int32.ofNat p)), some (.int i), x], [.int 1, .int (g 549 0)], aa_H g)) rfl ?_
    refine zz_fin.ic rfl (fun c => ?_) (fun c => ?_)
    · exact zz_fin.at (n := 2) rfl ⟨.inl rfl, g, rfl, h5, h6, hf⟩
    · exact zz_fin.at (n := 3) rfl ⟨.inr rfl, g, rfl, h5, h6, hf⟩
theorem holds_loop {b : Nat} (hb : b < 8) (g0 : aa_G) (G : Nat → Int32) (T : Nat) (hT : (G (209 + 7 * b)).toInt = (T : Int)) (hT2 : T ≤ 140) (n : Nat) : ∀ (i p : Nat) (x : Option Value) (g : aa_G), aa_inv g → aa_Phi g → g 541 = G → aa_fr aa_hw g0 g → T - i = n → i ≤ 140 → p ≤ 44 → 0 ≤ aa_run (fun k => G (259 + k)) n i (p : Int) → zz_fin none 214 (11, [some (.ref 540), some (.int (Int32.ofNat (203 + 7 * b))), some (.int (Int32.ofNat p)), some (.int (Int32.ofNat i)), x], [], aa_H g) (aa_hpost g0) := by
  have eL : (200000 : Int32).toInt = 200000 := rfl
  have eM : (100000 : Int32).toInt = 100000 := rfl
  induction n with
  | zero =>
    intro i p x g h5 h6 hG hf hn hi hp hr
    refine zz_fin.steps (n := 6) (s' := (20, [some (.ref 540), some (.int (Int32.ofNat (203 + 7 * b))), some (.int (Int32.ofNat p)), some (.int (Int32.ofNat i)), x], [.int (Int32.ofNat (203 + 7 * b) + 6), .ref 541, .int (Int32.ofNat i)], aa_H g)) rfl ?_
    rw [show Int32.ofNat (203 + 7 * b) + 6 = Int32.ofNat (203 + 7 * b + 6) from (Int32.ofNat_add _ 6).symm]
    refine zz_fin.ial (n := 6384) rfl rfl (zz_inbN (by omega) (by omega)) ?_
    rw [zz_toN (by omega)]
    refine zz_fin.ic rfl (fun c => ?_) (fun c => ?_)
    · exact holds_end p hp h5 h6 hf
    · refine absurd ((aa_cmp _ _ _).mpr ?_) c
      show (0 : Int) ≤ (Int32.ofNat i).toInt - (g 541 (203 + 7 * b + 6)).toInt
      rw [zz_ofN (by omega), hG, show 203 + 7 * b + 6 = 209 + 7 * b by omega]
      omega
  | succ n ih =>
    intro i p x g h5 h6 hG hf hn hi hp hr
    have ei := zz_ofN (show i < 2147483648 by omega)
    have ep := zz_ofN (show p < 2147483648 by omega)
    refine zz_fin.steps (n := 6) (s' := (20, [some (.ref 540), some (.int (Int32.ofNat (203 + 7 * b))), some (.int (Int32.ofNat p)), some (.int (Int32.ofNat i)), x], [.int (Int32.ofNat (203 + 7 * b) + 6), .ref 541, .int (Int32.ofNat i)], aa_H g)) rfl ?_
    rw [show Int32.ofNat (203 + 7 * b) + 6 = Int32.ofNat (203 + 7 * b + 6) from (Int32.ofNat_add _ 6).symm]
    refine zz_fin.ial (n := 6384) rfl rfl (zz_inbN (by omega) (by omega)) ?_
    rw [zz_toN (by omega)]
    refine zz_fin.ic rfl (fun c => ?_) (fun c => ?_)
    · exact holds_end p hp h5 h6 hf
    · refine zz_fin.steps (n := 5) (s' := (33, [some (.ref 540), some (.int (Int32.ofNat (203 + 7 * b))), some (.int (Int32.ofNat p)), some (.int (Int32.ofNat i)), x], [.int (259 + Int32.ofNat i), .ref 541], aa_H g)) rfl ?_
      rw [show (259 : Int32) + Int32.ofNat i = Int32.ofNat (259 + i) from (Int32.ofNat_add 259 i).symm]
      refine zz_fin.ial (n := 6384) rfl rfl (zz_inbN (by omega) (by omega)) ?_
      rw [zz_toN (by omega)]
      have hGi : (aa_H g).2.2 541 (259 + i) = G (259 + i) := congrFun hG _
      rw [hGi]
      have hr : 0 ≤ aa_run (fun k => G (259 + k)) n (i + 1) (aa_rst (G (259 + i)) (p : Int)) := hr
      have hs : 0 ≤ aa_rst (G (259 + i)) (p : Int) := by
        rcases Int.lt_or_le (aa_rst (G (259 + i)) (p : Int)) 0 with z | z
        · have := aa_run_neg (c := fun k => G (259 + k)) n (i + 1) _ z
          omega
        · exact z
      generalize G (259 + i) = c at hr hs
      refine zz_fin.steps (n := 3) (s' := (40, [some (.ref 540), some (.int (Int32.ofNat (203 + 7 * b))), some (.int (Int32.ofNat p)), some (.int (Int32.ofNat i)), some (.int c)], [.int 200000, .int c], aa_H g)) rfl ?_
      refine zz_fin.ic rfl (fun d => ?_) (fun d => ?_)
      · have d : (0 : Int) ≤ c.toInt - (200000 : Int32).toInt := (aa_cmp _ _ _).mp d
        rw [eL] at d
        unfold aa_rst at hr hs
        rw [if_neg (by omega)] at hr hs
        have p2 : ¬ (p : Int) < 2 := fun z => by
          rw [if_pos z] at hs
          omega
        rw [if_neg p2] at hr
        obtain ⟨q, rfl⟩ : ∃ q, p = q + 2 := ⟨p - 2, by omega⟩
        have e1 : (1 : Int32).toInt = 1 := rfl
        have em : (-1 : Int32).toInt = -1 := rfl
        have eq1 : Int32.ofNat (q + 2) + (-1) = Int32.ofNat (q + 1) := aa_eqN (by rw [aa_add32 (by omega) (by omega), ep, em]; omega) (by omega)
        have ep1 := zz_ofN (show q + 1 < 2147483648 by omega)
        have eq2 : Int32.ofNat (q + 1) - 1 = Int32.ofNat q := aa_eqN (by rw [aa_sub32 (by omega) (by omega), ep1, e1]; omega) (by omega)
        refine zz_fin.steps (n := 1) (s' := (80, [some (.ref 540), some (.int (Int32.ofNat (203 + 7 * b))), some (.int (Int32.ofNat (q + 2) + (-1))), some (.int (Int32.ofNat i)), some (.int c)], [], aa_H g)) rfl ?_
        rw [eq1]
        refine zz_fin.steps (n := 13) (s' := (99, [some (.ref 540), some (.int (Int32.ofNat (203 + 7 * b))), some (.int (Int32.ofNat (q + 1))), some (.int (Int32.ofNat i)), some (.int c)], [.int (Int32.ofNat (q + 1) - 1), .ref 549, .int (c - 200000), .int (Int32.ofNat (q + 1) - 1), .ref 549], aa_H g)) rfl ?_
        rw [eq2]
        refine zz_fin.ial (n := 44) rfl rfl (zz_inbN (by omega) (by omega)) ?_
        refine zz_fin.steps (n := 3) (s' := (105, [some (.ref 540), some (.int (Int32.ofNat (203 + 7 * b))), some (.int (Int32.ofNat (q + 1))), some (.int (Int32.ofNat i)), some (.int c)], [.int (Int32.ofNat (q + 1)), .ref 549, .int (g 549 (Int32.ofNat q).toNatClampNeg), .int (c - 200000), .int (Int32.ofNat q), .ref 549], aa_H g)) rfl ?_
        refine zz_fin.ial (n := 44) rfl rfl (zz_inbN (by omega) (by omega)) ?_
        refine zz_fin.call rfl rfl (Nat.le_of_ble_eq_true rfl) (joined_all h5 h6) ?_
        rintro v h ⟨z, rfl, rfl⟩
        refine zz_fin.ias (n := 44) rfl rfl (zz_inbN (by omega) (by omega)) ?_
        rw [zz_toN (by omega)]
        obtain ⟨k1, k2, k3, k4⟩ := aa_pile h5 h6 (show q < 44 by omega) z
        refine zz_fin.steps (n := 2) (s' := (11, [some (.ref 540), some (.int (Int32.ofNat (203 + 7 * b))), some (.int (Int32.ofNat (q + 1))), some (.int (Int32.ofNat i + 1)), some (.int c)], [], aa_H (zz_w g 549 q z))) rfl ?_
        rw [show Int32.ofNat i + 1 = Int32.ofNat (i + 1) from (Int32.ofNat_add i 1).symm]
        refine ih (i + 1) (q + 1) _ _ k1 k2 (k4.trans hG) (hf.tr k3) (by omega) (by omega) (by omega) ?_
        rwa [show ((q + 1 : Nat) : Int) = ((q + 2 : Nat) : Int) - 1 by omega]
      · have d : ¬ (0 : Int) ≤ c.toInt - (200000 : Int32).toInt := fun z => d ((aa_cmp _ _ _).mpr z)
        rw [eL] at d
        unfold aa_rst at hr hs
        rw [if_pos (by omega), if_neg (by omega)] at hr hs
        have p2 : ¬ 43 < (p : Int) := fun z => by
          rw [if_pos z] at hs
          omega
        rw [if_neg p2] at hr hs
        have c2 : ¬ 100004 < c.toInt := fun z => by
          rw [if_pos z] at hs
          omega
        rw [if_neg c2] at hr
        have fin : ∀ z : Int32, zz_fin none 214 (70, [some (.ref 540), some (.int (Int32.ofNat (203 + 7 * b))), some (.int (Int32.ofNat p)), some (.int (Int32.ofNat i)), some (.int c)], [.int z, .int (Int32.ofNat p), .ref 549], aa_H g) (aa_hpost g0) := fun z => by
          refine zz_fin.ias (n := 44) rfl rfl (zz_inbN (by omega) (by omega)) ?_
          rw [zz_toN (by omega)]
          obtain ⟨k1, k2, k3, k4⟩ := aa_pile h5 h6 (show p < 44 by omega) z
          refine zz_fin.steps (n := 4) (s' := (11, [some (.ref 540), some (.int (Int32.ofNat (203 + 7 * b))), some (.int (Int32.ofNat p + 1)), some (.int (Int32.ofNat i + 1)), some (.int c)], [], aa_H (zz_w g 549 p z))) rfl ?_
          rw [show Int32.ofNat i + 1 = Int32.ofNat (i + 1) from (Int32.ofNat_add i 1).symm, show Int32.ofNat p + 1 = Int32.ofNat (p + 1) from (Int32.ofNat_add p 1).symm]
          exact ih (i + 1) (p + 1) _ _ k1 k2 (k4.trans hG) (hf.tr k3) (by omega) (by omega) (by omega) hr
        refine zz_fin.steps (n := 5) (s' := (52, [some (.ref 540), some (.int (Int32.ofNat (203 + 7 * b))), some (.int (Int32.ofNat p)), some (.int (Int32.ofNat i)), some (.int c)], [.int 100000, .int c, .int (Int32.ofNat p), .ref 549], aa_H g)) rfl ?_
        refine zz_fin.ic rfl (fun e => ?_) (fun e => ?_)
        · have e : (0 : Int) ≤ c.toInt - (100000 : Int32).toInt := (aa_cmp _ _ _).mp e
          rw [eM] at e
          have ec : (c - 100000).toInt = c.toInt - 100000 := by
            rw [aa_sub32 (by omega) (by omega), eM]
          refine zz_fin.steps (n := 5) (s' := (69, [some (.ref 540), some (.int (Int32.ofNat (203 + 7 * b))), some (.int (Int32.ofNat p)), some (.int (Int32.ofNat i)), some (.int c)], [.int (c - 100000), .ref 548, .int (Int32.ofNat p), .ref 549], aa_H g)) rfl ?_
          refine zz_fin.ial (n := 5) rfl rfl (aa_inb (by omega) (by omega)) ?_
          exact fin _
        · refine zz_fin.steps (n := 2) (s' := (70, [some (.ref 540), some (.int (Int32.ofNat (203 + 7 * b))), some (.int (Int32.ofNat p)), some (.int (Int32.ofNat i)), some (.int c)], [.int c, .int (Int32.ofNat p), .ref 549], aa_H g)) rfl ?_
          exact fin _
theorem aa_h10 : aa_met aa_Phi aa_m10 := by
  intro ν0 g as h1 h2 h3 h4 h5 h6
  obtain ⟨as, rfl, h7⟩ := aa_this h4
  clear h4
  obtain ⟨w, as, rfl, e1, h8⟩ := aa_ms_int h7
  clear h7
  have hlen : ν0.length = 2 := h1.1
  match ν0, hlen, h1, as, h8, h2, h3, e1 with
  | [a, c], _, h1, [], _, h2, h3, e1 =>
    have e1 : (203 : Int) + (7 * a + 0) = w.toInt := Option.some.inj e1
    have rc := aa_vh_at h3 (k := 541) (j := 2) (r := (541, [])) (sl := (2, [])) (f := (0, [(1, 1)])) List.mem_cons_self rfl rfl
    have rc : (0 : Int) + (1 * c + 0) = (g 541 2).toInt := Option.some.inj rc
    have ba := (h1.2 0 _ a rfl rfl)
    have ba1 : 0 ≤ a := ba.1
    have ba2 : a ≤ 7 := ba.2.1
    obtain ⟨x, hx, hx2⟩ := h2 _ List.mem_cons_self
    have hx : (-1 : Int) + (-1 * a + (1 * c + 0)) = x := Option.some.inj hx
    obtain ⟨b, rfl⟩ : ∃ b : Nat, a = (b : Int) := ⟨a.toNat, by omega⟩
    have ew : w = Int32.ofNat (203 + 7 * b) := aa_eqN (by omega) (by omega)
    subst ew
    have hseg : aa_seg g 0 b := (h6.1 0 (by omega)).2 b (by omega) (by show (b : Int) < (g 541 2).toInt; omega)
    have t1 := aa_to_le h5 0 b (by omega)
    have f1 := aa_from_ge h5 b (by omega)
    unfold aa_seg at hseg
    rw [show 399 * 0 + 203 + 7 * b + 5 = 208 + 7 * b by omega, show 399 * 0 + 203 + 7 * b + 6 = 209 + 7 * b by omega] at hseg
    rw [show 399 * 0 + 203 + 7 * b + 6 = 209 + 7 * b by omega] at t1
    have t0 : 0 ≤ (g 541 (209 + 7 * b)).toInt := by
      have k := (h5 541 (209 + 7 * b)).1
      have k : (aa_iv 36 (209 + 7 * b)).1 ≤ (g 541 (209 + 7 * b)).toInt := k
      rw [aa_iv36, show (209 + 7 * b) / 399 = 0 by omega, show (209 + 7 * b) % 399 = 209 + 7 * b by omega] at k
      rcases (show b = 0 ∨ b = 1 ∨ b = 2 ∨ b = 3 ∨ b = 4 ∨ b = 5 ∨ b = 6 ∨ b = 7 by omega) with rfl | rfl | rfl | rfl | rfl | rfl | rfl | rfl <;> exact k
    have f2 : (g 541 (208 + 7 * b)).toInt ≤ 140 := by
      have k := (h5 541 (208 + 7 * b)).2
      have k : (g 541 (208 + 7 * b)).toInt ≤ (aa_iv 36 (208 + 7 * b)).2 := k
      rw [aa_iv36, show (208 + 7 * b) / 399 = 0 by omega, show (208 + 7 * b) % 399 = 208 + 7 * b by omega] at k
      rcases (show b = 0 ∨ b = 1 ∨ b = 2 ∨ b = 3 ∨ b = 4 ∨ b = 5 ∨ b = 6 ∨ b = 7 by omega) with rfl | rfl | rfl | rfl | rfl | rfl | rfl | rfl <;> exact k
    refine zz_fin.steps (n := 7) (s' := (9, [some (.ref 540), some (.int (Int32.ofNat (203 + 7 * b))), some (.int 0), none, none], [.int (Int32.ofNat (203 + 7 * b) + 5), .ref 541], aa_H g)) rfl ?_
    rw [show Int32.ofNat (203 + 7 * b) + 5 = Int32.ofNat (203 + 7 * b + 5) from (Int32.ofNat_add _ 5).symm]
    refine zz_fin.ial (n := 6384) rfl rfl (zz_inbN (by omega) (by omega)) ?_
    rw [zz_toN (by omega), show 203 + 7 * b + 5 = 208 + 7 * b by omega]
    have ef : g 541 (208 + 7 * b) = Int32.ofNat (g 541 (208 + 7 * b)).toInt.toNat := aa_eqN (by omega) (by omega)
    refine zz_fin.steps (n := 1) (s' := (11, [some (.ref 540), some (.int (Int32.ofNat (203 + 7 * b))), some (.int (Int32.ofNat 0)), some (.int (g 541 (208 + 7 * b))), none], [], aa_H g)) rfl ?_
    rw [ef]
    refine (holds_loop (b := b) (by omega) g (g 541) (g 541 (209 + 7 * b)).toInt.toNat (by omega) (by omega) _ _ 0 none g h5 h6 rfl aa_fr.rf rfl (by omega) (by omega) ?_).mono ?_
    · rw [aa_run_congr (c := fun k => g 541 (399 * 0 + 259 + k))]
      · exact hseg
      · intro j hj
        rfl
    · rintro v h ⟨hv, g', rfl, k1, k2, k3⟩
      rcases hv with rfl | rfl
      · exact ⟨g', rfl, k1, k2, k3, _, List.mem_cons_self, [], h1, fun f hf => (by cases hf), fun q hq => (by cases hq), Nat.one_ne_zero, _, rfl, rfl⟩
      · exact ⟨g', rfl, k1, k2, k3, _, List.mem_cons_of_mem _ List.mem_cons_self, [], h1, fun f hf => (by cases hf), fun q hq => (by cases hq), Nat.one_ne_zero, _, rfl, rfl⟩
end
section
/-! BY HAND: a point between two points -/
section AI
variable {X : zz_X} {m pc : Nat} {lv : zz_V} {h : zz_H} {φ : Option Value → zz_H → Prop}
theorem zz_fin.div {a b : Int32} {r : List Value} {x y u w : Nat} {vv : Value} {sw : List (Int × Nat)} (hT : zz_T m pc = some (.idiv, (x, y, u, w), vv, sw)) (hb : b ≠ 0) (kk : zz_fin X m (pc + 1, lv, .int (a / b) :: r, h) φ) : zz_fin X m (pc, lv, .int b :: .int a :: r, h) φ := by
  refine zz_fin.step1 hT ?_ kk
  show (if b = 0 then none else zz_go (pc + 1) lv (.int (a / b) :: r) h) = _
  rw [if_neg hb]
  rfl
end AI
theorem aa_ceil {d w : Int} (hw : 0 < w) : (w - 1 - d) / w = -(d / w) := by
  have h1 := Int.mul_ediv_add_emod d w
  have h2 := Int.emod_nonneg d (show w ≠ 0 by omega)
  have h3 := Int.emod_lt_of_pos d hw
  have e : w - 1 - d = (w - 1 - d % w) + w * (-(d / w)) := by
    rw [Int.mul_neg]
    omega
  rw [e, Int.add_mul_ediv_left _ _ (show w ≠ 0 by omega), Int.ediv_eq_zero_of_lt (by omega) (by omega)]
  omega
theorem between_all {a b p w : Int32} {h : zz_H} (ha0 : 0 ≤ a.toInt) (ha1 : a.toInt ≤ 86399) (hb0 : 0 ≤ b.toInt) (hb1 : b.toInt ≤ 86399) (hp0 : 0 ≤ p.toInt) (hp1 : p.toInt ≤ 359) (hw0 : 0 ≤ w.toInt) (hw1 : w.toInt ≤ 718) : zz_fin none 197 (0, zz_in [.int a, .int b, .int p, .int w] (zz_nl 197), [], h) (fun v h' => (∃ z : Int32, v = some (.int z) ∧ z.toInt = a.toInt + (b.toInt - a.toInt) * p.toInt / w.toInt) ∧ h' = h) := by
  have e1 : (1 : Int32).toInt = 1 := rfl
  refine zz_fin.steps (n := 1) (s' := (1, [some (.int a), some (.int b), some (.int p), some (.int w), none], [.int w], h)) rfl ?_
  refine zz_fin.if rfl (fun c => ?_) (fun c => ?_)
  · have c : w ≠ 0 := of_decide_eq_true c
    have c1 : w.toInt ≠ 0 := fun z => c (Int32.toInt_inj.mp z)
    have es : (b - a).toInt = b.toInt - a.toInt := aa_sub32 (by omega) (by omega)
    have m1 : (b.toInt - a.toInt) * p.toInt ≤ 86399 * p.toInt := Int.mul_le_mul_of_nonneg_right (by omega) hp0
    have m2 : (-86399) * p.toInt ≤ (b.toInt - a.toInt) * p.toInt := Int.mul_le_mul_of_nonneg_right (by omega) hp0
    have ed : ((b - a) * p).toInt = (b.toInt - a.toInt) * p.toInt := by
      rw [Int32.toInt_mul, es, aa_bm (by omega) (by omega)]
    generalize (b.toInt - a.toInt) * p.toInt = D at m1 m2 ed ⊢
    refine zz_fin.steps (n := 8) (s' := (16, [some (.int a), some (.int b), some (.int p), some (.int w), some (.int ((b - a) * p))], [.int ((b - a) * p), .int a], h)) rfl ?_
    generalize (b - a) * p = d at ed ⊢
    refine zz_fin.if rfl (fun k => ?_) (fun k => ?_)
    · have k : (0 : Int32) ≤ d := of_decide_eq_true k
      have k : (0 : Int) ≤ d.toInt := aa_le32.mp k
      refine zz_fin.steps (n := 2) (s' := (34, [some (.int a), some (.int b), some (.int p), some (.int w), some (.int d)], [.int w, .int d, .int a], h)) rfl ?_
      refine zz_fin.div rfl c ?_
      have eq : (d / w).toInt = D / w.toInt := by
        rw [Int32.toInt_div_of_ne_right _ _ (aa_one_ne (by omega)), aa_tdiv_nonneg k, ed]
      have q0 : 0 ≤ D / w.toInt := Int.ediv_nonneg (by omega) (by omega)
      have q1 : D / w.toInt ≤ D := Int.ediv_le_self _ (by omega)
      refine zz_fin.at (n := 2) rfl ⟨⟨_, rfl, ?_⟩, rfl⟩
      rw [aa_add32 (by omega) (by omega), eq]
    · have k : ¬ (0 : Int32) ≤ d := fun z => k (decide_eq_true z)
      have k : ¬ (0 : Int) ≤ d.toInt := fun z => k (aa_le32.mpr z)
      have en1 : (w - 1).toInt = w.toInt - 1 := by rw [aa_sub32 (by omega) (by omega), e1]
      have en : (w - 1 - d).toInt = w.toInt - 1 - D := by rw [aa_sub32 (by omega) (by omega), en1, ed]
      refine zz_fin.steps (n := 6) (s' := (26, [some (.int a), some (.int b), some (.int p), some (.int w), some (.int d)], [.int w, .int (w - 1 - d), .int a], h)) rfl ?_
      refine zz_fin.div rfl c ?_
      have eq : ((w - 1 - d) / w).toInt = -(D / w.toInt) := by
        rw [Int32.toInt_div_of_ne_right _ _ (aa_one_ne (by omega)), aa_tdiv_nonneg (by omega), en, aa_ceil (by omega)]
      have q0 : 0 ≤ (w.toInt - 1 - D) / w.toInt := Int.ediv_nonneg (by omega) (by omega)
      have q1 : (w.toInt - 1 - D) / w.toInt ≤ w.toInt - 1 - D := Int.ediv_le_self _ (by omega)
      rw [aa_ceil (by omega)] at q0 q1
      have eneg : (-((w - 1 - d) / w)).toInt = D / w.toInt := by
        rw [Int32.toInt_neg, eq, aa_bm (by omega) (by omega)]
        omega
      refine zz_fin.at (n := 4) rfl ⟨⟨_, rfl, ?_⟩, rfl⟩
      rw [aa_add32 (by omega) (by omega), eneg]
  · have c : w = 0 := Decidable.byContradiction fun z => c (decide_eq_true z)
    subst c
    refine zz_fin.at (n := 2) rfl ⟨⟨_, rfl, ?_⟩, rfl⟩
    rw [show (0 : Int32).toInt = 0 from rfl, Int.ediv_zero]
    omega
theorem aa_mid {a1 a2 b1 b2 p q : Int} (h1 : 0 ≤ a1) (h2 : a1 < a2) (h3 : a2 ≤ 86399) (h4 : 0 ≤ b1) (h5 : b1 < b2) (h6 : b2 ≤ 86399) (hp : 0 ≤ p) (hq : 0 ≤ q) : 0 ≤ a1 + (b1 - a1) * p / (p + q) ∧ a1 + (b1 - a1) * p / (p + q) < a2 + (b2 - a2) * p / (p + q) ∧ a2 + (b2 - a2) * p / (p + q) ≤ 86399 := by
  rcases Int.lt_or_le 0 (p + q) with hw | hw
  · have r : ∀ a b : Int, a + (b - a) * p / (p + q) = (b * p + a * q) / (p + q) := fun a b => by
      have e : b * p + a * q = (b - a) * p + (p + q) * a := by
        rw [Int.sub_mul, Int.add_mul, Int.mul_comm p a, Int.mul_comm q a]
        omega
      rw [e, Int.add_mul_ediv_left _ _ (show p + q ≠ 0 by omega)]
      omega
    rw [r, r]
    have m1 : 0 ≤ b1 * p := Int.mul_nonneg h4 hp
    have m2 : 0 ≤ a1 * q := Int.mul_nonneg h1 hq
    have m3 : (b1 + 1) * p ≤ b2 * p := Int.mul_le_mul_of_nonneg_right (by omega) hp
    have m4 : (a1 + 1) * q ≤ a2 * q := Int.mul_le_mul_of_nonneg_right (by omega) hq
    have m5 : b2 * p ≤ 86399 * p := Int.mul_le_mul_of_nonneg_right h6 hp
    have m6 : a2 * q ≤ 86399 * q := Int.mul_le_mul_of_nonneg_right h3 hq
    rw [Int.add_mul, Int.one_mul] at m3 m4
    refine ⟨Int.ediv_nonneg (by omega) (by omega), ?_, ?_⟩
    · have k : (b1 * p + a1 * q + (p + q) * 1) / (p + q) ≤ (b2 * p + a2 * q) / (p + q) := Int.ediv_le_ediv hw (by omega)
      rw [Int.add_mul_ediv_left _ _ (show p + q ≠ 0 by omega)] at k
      omega
    · exact Int.ediv_le_of_le_mul hw (by omega)
  · have e : p + q = 0 := by omega
    rw [e, Int.ediv_zero, Int.ediv_zero]
    omega
theorem aa_town1 {x : Nat} : aa_town (4 * x + 1 + 2) = (-1, 86399) := by
  unfold aa_town
  rw [if_neg fun e => by have := Nat.eq_of_beq_eq_true e; omega, if_neg fun e => by have := Nat.eq_of_beq_eq_true e; omega, show (4 * x + 1 + 2 - 2) % 4 = 1 by omega]
  rfl
theorem aa_town2 {x : Nat} : aa_town (4 * x + 2 + 2) = (-1, 86399) := by
  unfold aa_town
  rw [if_neg fun e => by have := Nat.eq_of_beq_eq_true e; omega, if_neg fun e => by have := Nat.eq_of_beq_eq_true e; omega, show (4 * x + 2 + 2 - 2) % 4 = 2 by omega]
  rfl
theorem aa_town3 {x : Nat} : aa_town (4 * x + 3 + 2) = (-1, 1) := by
  unfold aa_town
  rw [if_neg fun e => by have := Nat.eq_of_beq_eq_true e; omega, if_neg fun e => by have := Nat.eq_of_beq_eq_true e; omega, show (4 * x + 3 + 2 - 2) % 4 = 3 by omega]
  rfl
theorem aa_point {g : aa_G} (h : aa_inv g) {t x k : Nat} (ht : t < 4) (hx : x < 12) (hk : k < 4) : (aa_town (4 * x + k + 2)).1 ≤ (g 541 (5 + 50 * t + 4 * x + k)).toInt ∧ (g 541 (5 + 50 * t + 4 * x + k)).toInt ≤ (aa_town (4 * x + k + 2)).2 := by
  have c := h 541 (5 + 50 * t + 4 * x + k)
  have c : (aa_iv 36 (5 + 50 * t + 4 * x + k)).1 ≤ (g 541 (5 + 50 * t + 4 * x + k)).toInt ∧ (g 541 (5 + 50 * t + 4 * x + k)).toInt ≤ (aa_iv 36 (5 + 50 * t + 4 * x + k)).2 := c
  rw [aa_iv36, show (5 + 50 * t + 4 * x + k) / 399 = 0 by omega, show (5 + 50 * t + 4 * x + k) % 399 = 5 + 50 * t + 4 * x + k by omega] at c
  unfold aa_place at c
  rw [if_neg fun e => by have := Nat.le_of_ble_eq_true e; omega, if_neg fun e => by have := Nat.le_of_ble_eq_true e; omega, if_pos (Nat.ble_eq_true_of_le (by omega)), show (5 + 50 * t + 4 * x + k - 3) % 50 = 4 * x + k + 2 by omega] at c
  exact c
abbrev aa_lw : aa_W := [(35, 13, 15)]
theorem aa_lay {g : aa_G} (h5 : aa_inv g) (h6 : aa_Phi g) {j : Nat} {v : Int32} (hj : 13 ≤ j ∧ j ≤ 15) (hv : (aa_iv 35 j).1 ≤ v.toInt ∧ v.toInt ≤ (aa_iv 35 j).2) : aa_inv (zz_w g 540 j v) ∧ aa_Phi (zz_w g 540 j v) ∧ aa_fr aa_lw g (zz_w g 540 j v) := by
  have fr : ∀ ws : aa_W, (∃ w ∈ ws, w.1 = 35 ∧ w.2.1 ≤ 13 ∧ 15 ≤ w.2.2) → aa_fr ws g (zz_w g 540 j v) := fun ws ⟨w, hw, w1, w2, w3⟩ => by
    refine ⟨fun a b => ?_, .inl (aa_dep_w ⟨fun e => by have := e.2; omega, by decide, by decide⟩)⟩
    by_cases e : a = 540 ∧ b = j
    · obtain ⟨rfl, rfl⟩ := e
      exact .inr ⟨w, hw, w1, by omega, by omega⟩
    · exact .inl (aa_w_ne _ _ e)
  exact ⟨aa_inv_w h5 hv.1 hv.2, aa_Phi_same (aa_same_fr (fr aa_mfree (by decide))) h6, fr _ (by decide)⟩
theorem lay_tail {g0 g : aa_G} (hf : aa_fr aa_lw g0 g) (h5 : aa_inv g) (h6 : aa_Phi g) {P Q : Nat} (hP : P < 6000) (hQ : Q < 6000) {w3 w4 : Int32} (p0 : 0 ≤ w3.toInt) (p1 : w3.toInt ≤ 359) (q0 : 0 ≤ w4.toInt) (q1 : w4.toInt ≤ 359) (a0 : 0 ≤ (g 541 (P + 1)).toInt) (a1 : (g 541 (P + 1)).toInt < (g 541 (P + 2)).toInt) (a2 : (g 541 (P + 2)).toInt ≤ 86399) (b0 : 0 ≤ (g 541 (Q + 1)).toInt) (b1 : (g 541 (Q + 1)).toInt < (g 541 (Q + 2)).toInt) (b2 : (g 541 (Q + 2)).toInt ≤ 86399) (hk : (g 540 13).toInt = -1) : zz_fin none 196 (45, [some (.ref 540), some (.int (Int32.ofNat P)), some (.int (Int32.ofNat Q)), some (.int w3), some (.int w4)], [], aa_H g) (fun v h => v = some (.int 1) ∧ ∃ g', h = aa_H g' ∧ aa_inv g' ∧ aa_Phi g' ∧ aa_fr aa_lw g0 g' ∧ (g' 540 13).toInt = -1 ∧ 0 ≤ (g' 540 14).toInt ∧ (g' 540 14).toInt < (g' 540 15).toInt ∧ (g' 540 15).toInt ≤ 86399) := by
  have es : (w3 + w4).toInt = w3.toInt + w4.toInt := aa_add32 (by omega) (by omega)
  have eP : ∀ k : Nat, Int32.ofNat P + Int32.ofNat k = Int32.ofNat (P + k) := fun k => (Int32.ofNat_add P k).symm
  have eQ : ∀ k : Nat, Int32.ofNat Q + Int32.ofNat k = Int32.ofNat (Q + k) := fun k => (Int32.ofNat_add Q k).symm
  obtain ⟨r1, r2, r3⟩ := aa_mid a0 a1 a2 b0 b1 b2 p0 q0
  refine zz_fin.steps (n := 6) (s' := (53, [some (.ref 540), some (.int (Int32.ofNat P)), some (.int (Int32.ofNat Q)), some (.int w3), some (.int w4)], [.int (Int32.ofNat P + Int32.ofNat 1), .ref 541, .ref 540], aa_H g)) rfl ?_
  rw [eP]
  refine zz_fin.ial (n := 6384) rfl rfl (zz_inbN (by omega) (by omega)) ?_
  rw [zz_toN (by omega)]
  refine zz_fin.steps (n := 5) (s' := (61, [some (.ref 540), some (.int (Int32.ofNat P)), some (.int (Int32.ofNat Q)), some (.int w3), some (.int w4)], [.int (Int32.ofNat Q + Int32.ofNat 1), .ref 541, .int (g 541 (P + 1)), .ref 540], aa_H g)) rfl ?_
  rw [eQ]
  refine zz_fin.ial (n := 6384) rfl rfl (zz_inbN (by omega) (by omega)) ?_
  rw [zz_toN (by omega)]
  refine zz_fin.steps (n := 4) (s' := (67, [some (.ref 540), some (.int (Int32.ofNat P)), some (.int (Int32.ofNat Q)), some (.int w3), some (.int w4)], [.int (w3 + w4), .int w3, .int (g 541 (Q + 1)), .int (g 541 (P + 1)), .ref 540], aa_H g)) rfl ?_
  refine zz_fin.call rfl rfl (Nat.le_of_ble_eq_true rfl) (between_all (by omega) (by omega) (by omega) (by omega) p0 p1 (by omega) (by omega)) ?_
  rintro v h ⟨⟨u, rfl, hu⟩, rfl⟩
  rw [es] at hu
  rw [← hu] at r1 r2
  have k1 := aa_lay h5 h6 (j := 14) (v := u) (by omega) ⟨by show (-1 : Int) ≤ _; omega, by show _ ≤ (86399 : Int); omega⟩
  have o1 : zz_w g 540 14 u 541 = g 541 := zz_w_other _ _ _ (by decide)
  refine zz_fin.steps (n := 7) (s' := (81, [some (.ref 540), some (.int (Int32.ofNat P)), some (.int (Int32.ofNat Q)), some (.int w3), some (.int w4)], [.int (Int32.ofNat P + Int32.ofNat 2), .ref 541, .ref 540], aa_H (zz_w g 540 14 u))) rfl ?_
  rw [eP]
  refine zz_fin.ial (n := 6384) rfl rfl (zz_inbN (by omega) (by omega)) ?_
  rw [zz_toN (by omega)]
  refine zz_fin.steps (n := 5) (s' := (89, [some (.ref 540), some (.int (Int32.ofNat P)), some (.int (Int32.ofNat Q)), some (.int w3), some (.int w4)], [.int (Int32.ofNat Q + Int32.ofNat 2), .ref 541, .int (zz_w g 540 14 u 541 (P + 2)), .ref 540], aa_H (zz_w g 540 14 u))) rfl ?_
  rw [eQ]
  refine zz_fin.ial (n := 6384) rfl rfl (zz_inbN (by omega) (by omega)) ?_
  rw [zz_toN (by omega)]
  refine zz_fin.steps (n := 4) (s' := (95, [some (.ref 540), some (.int (Int32.ofNat P)), some (.int (Int32.ofNat Q)), some (.int w3), some (.int w4)], [.int (w3 + w4), .int w3, .int (zz_w g 540 14 u 541 (Q + 2)), .int (zz_w g 540 14 u 541 (P + 2)), .ref 540], aa_H (zz_w g 540 14 u))) rfl ?_
  rw [o1]
  refine zz_fin.call rfl rfl (Nat.le_of_ble_eq_true rfl) (between_all (by omega) (by omega) (by omega) (by omega) p0 p1 (by omega) (by omega)) ?_
  rintro v h ⟨⟨z, rfl, hz⟩, rfl⟩
  rw [es] at hz
  rw [← hz] at r2 r3
  have k2 := aa_lay k1.1 k1.2.1 (j := 15) (v := z) (by omega) ⟨by show (-1 : Int) ≤ _; omega, by show _ ≤ (86399 : Int); omega⟩
  refine zz_fin.at (n := 3) rfl ⟨rfl, zz_w (zz_w g 540 14 u) 540 15 z, rfl, k2.1, k2.2.1, hf.tr (k1.2.2.tr k2.2.2), ?_, ?_, ?_, ?_⟩
  · rw [aa_w_ne _ _ (by omega), aa_w_ne _ _ (by omega)]
    exact hk
  · rw [aa_w_ne _ _ (by omega), aa_w_at]
    exact r1
  · rw [aa_w_ne _ _ (by omega), aa_w_at, aa_w_at]
    exact r2
  · rw [aa_w_at]
    exact r3
def aa_lpost (g0 : aa_G) (v : Option Value) (h : zz_H) : Prop := ∃ g', h = aa_H g' ∧ aa_inv g' ∧ aa_Phi g' ∧ aa_fr aa_lw g0 g' ∧ ((v = some (.int 0) ∧ 0 ≤ (g' 540 13).toInt ∧ (g' 540 13).toInt ≤ 1) ∨ (v = some (.int 1) ∧ (g' 540 13).toInt = -1 ∧ 0 ≤ (g' 540 14).toInt ∧ (g' 540 14).toInt < (g' 540 15).toInt ∧ (g' 540 15).toInt ≤ 86399))
theorem lay_32 {g : aa_G} (h5 : aa_inv g) (h6 : aa_Phi g) {P Q : Nat} (hP : P < 6000) (hQ : Q < 6000) {w3 w4 : Int32} (p0 : 0 ≤ w3.toInt) (p1 : w3.toInt ≤ 359) (q0 : 0 ≤ w4.toInt) (q1 : w4.toInt ≤ 359) (gp : aa_gd g P) (gq : aa_gd g Q) (p2 : (g 541 (P + 2)).toInt ≤ 86399) (q2 : (g 541 (Q + 2)).toInt ≤ 86399) (k : Int32) (k0 : -1 ≤ k.toInt) (k1 : k.toInt ≤ 1) (kk : k.toInt = -1 → (g 541 (P + 3)).toInt = -1 ∧ (g 541 (Q + 3)).toInt = -1) : zz_fin none 196 (32, [some (.ref 540), some (.int (Int32.ofNat P)), some (.int (Int32.ofNat Q)), some (.int w3), some (.int w4)], [.int k, .ref 540], aa_H g) (aa_lpost g) := by
  have em : (-1 : Int32).toInt = -1 := rfl
  have l1 := aa_lay h5 h6 (j := 13) (v := k) (by omega) ⟨by show (-1 : Int) ≤ _; exact k0, by show _ ≤ (1 : Int); exact k1⟩
  have o1 : zz_w g 540 13 k 541 = g 541 := zz_w_other _ _ _ (by decide)
  refine zz_fin.steps (n := 4) (s' := (40, [some (.ref 540), some (.int (Int32.ofNat P)), some (.int (Int32.ofNat Q)), some (.int w3), some (.int w4)], [.int (-1), .int k], aa_H (zz_w g 540 13 k))) rfl ?_
  refine zz_fin.ic rfl (fun d => ?_) (fun d => ?_)
  · have d : k.toInt - (-1 : Int32).toInt = 0 := (aa_cmp _ _ _).mp d
    have d : k.toInt = -1 := by omega
    obtain ⟨s1, s2⟩ := kk d
    obtain ⟨a0, a1⟩ := gp s1
    obtain ⟨b0, b1⟩ := gq s2
    refine (lay_tail (g0 := g) (g := zz_w g 540 13 k) l1.2.2 l1.1 l1.2.1 hP hQ p0 p1 q0 q1 (by rw [o1]; exact a0) (by rw [o1]; exact a1) (by rw [o1]; exact p2) (by rw [o1]; exact b0) (by rw [o1]; exact b1) (by rw [o1]; exact q2) (by rw [aa_w_at]; exact d)).mono ?_
    rintro v h ⟨rfl, g', rfl, r1, r2, r3, r4, r5, r6, r7⟩
    exact ⟨g', rfl, r1, r2, r3, .inr ⟨rfl, r4, r5, r6, r7⟩⟩
  · have d : ¬ k.toInt - (-1 : Int32).toInt = 0 := fun z => d ((aa_cmp _ _ _).mpr z)
    refine zz_fin.at (n := 2) rfl ⟨zz_w g 540 13 k, rfl, l1.1, l1.2.1, l1.2.2, .inl ⟨rfl, ?_, ?_⟩⟩
    · rw [aa_w_at]
      omega
    · rw [aa_w_at]
      omega
theorem lay_all {g : aa_G} (h5 : aa_inv g) (h6 : aa_Phi g) {P Q : Nat} (hP : P < 6000) (hQ : Q < 6000) {w3 w4 : Int32} (p0 : 0 ≤ w3.toInt) (p1 : w3.toInt ≤ 359) (q0 : 0 ≤ w4.toInt) (q1 : w4.toInt ≤ 359) (gp : aa_gd g P) (gq : aa_gd g Q) (p2 : (g 541 (P + 2)).toInt ≤ 86399) (q2 : (g 541 (Q + 2)).toInt ≤ 86399) (p3 : -1 ≤ (g 541 (P + 3)).toInt ∧ (g 541 (P + 3)).toInt ≤ 1) (q3 : -1 ≤ (g 541 (Q + 3)).toInt ∧ (g 541 (Q + 3)).toInt ≤ 1) : zz_fin none 196 (0, zz_in [.ref 540, .int (Int32.ofNat P), .int (Int32.ofNat Q), .int w3, .int w4] (zz_nl 196), [], aa_H g) (aa_lpost g) := by
  have em : (-1 : Int32).toInt = -1 := rfl
  have eP : Int32.ofNat P + Int32.ofNat 3 = Int32.ofNat (P + 3) := (Int32.ofNat_add P 3).symm
  have eQ : Int32.ofNat Q + Int32.ofNat 3 = Int32.ofNat (Q + 3) := (Int32.ofNat_add Q 3).symm
  refine zz_fin.steps (n := 6) (s' := (8, [some (.ref 540), some (.int (Int32.ofNat P)), some (.int (Int32.ofNat Q)), some (.int w3), some (.int w4)], [.int (Int32.ofNat P + Int32.ofNat 3), .ref 541, .ref 540], aa_H g)) rfl ?_
  rw [eP]
  refine zz_fin.ial (n := 6384) rfl rfl (zz_inbN (by omega) (by omega)) ?_
  rw [zz_toN (by omega)]
  refine zz_fin.steps (n := 1) (s' := (10, [some (.ref 540), some (.int (Int32.ofNat P)), some (.int (Int32.ofNat Q)), some (.int w3), some (.int w4)], [.int (-1), .int (g 541 (P + 3)), .ref 540], aa_H g)) rfl ?_
  refine zz_fin.ic rfl (fun d => ?_) (fun d => ?_)
  · have d : (g 541 (P + 3)).toInt - (-1 : Int32).toInt = 0 := (aa_cmp _ _ _).mp d
    refine zz_fin.steps (n := 5) (s' := (31, [some (.ref 540), some (.int (Int32.ofNat P)), some (.int (Int32.ofNat Q)), some (.int w3), some (.int w4)], [.int (Int32.ofNat Q + Int32.ofNat 3), .ref 541, .ref 540], aa_H g)) rfl ?_
    rw [eQ]
    refine zz_fin.ial (n := 6384) rfl rfl (zz_inbN (by omega) (by omega)) ?_
    rw [zz_toN (by omega)]
    exact lay_32 h5 h6 hP hQ p0 p1 q0 q1 gp gq p2 q2 _ q3.1 q3.2 fun z => ⟨by omega, z⟩
  · have d : ¬ (g 541 (P + 3)).toInt - (-1 : Int32).toInt = 0 := fun z => d ((aa_cmp _ _ _).mpr z)
    refine zz_fin.steps (n := 5) (s' := (20, [some (.ref 540), some (.int (Int32.ofNat P)), some (.int (Int32.ofNat Q)), some (.int w3), some (.int w4)], [.int (Int32.ofNat P + Int32.ofNat 3), .ref 541, .ref 540], aa_H g)) rfl ?_
    rw [eP]
    refine zz_fin.ial (n := 6384) rfl rfl (zz_inbN (by omega) (by omega)) ?_
    rw [zz_toN (by omega)]
    refine zz_fin.steps (n := 1) (s' := (32, [some (.ref 540), some (.int (Int32.ofNat P)), some (.int (Int32.ofNat Q)), some (.int w3), some (.int w4)], [.int (g 541 (P + 3)), .ref 540], aa_H g)) rfl ?_
    exact lay_32 h5 h6 hP hQ p0 p1 q0 q1 gp gq p2 q2 _ p3.1 p3.2 fun z => absurd z (by omega)
theorem aa_pick {g : aa_G} (h5 : aa_inv g) (h6 : aa_Phi g) {t x : Nat} (ht : t < 4) (hx : x < 12) (hc : (x : Int) < (g 541 (50 * t + 4)).toInt) : aa_gd g (5 + 50 * t + 4 * x) ∧ (g 541 (5 + 50 * t + 4 * x + 2)).toInt ≤ 86399 ∧ -1 ≤ (g 541 (5 + 50 * t + 4 * x + 3)).toInt ∧ (g 541 (5 + 50 * t + 4 * x + 3)).toInt ≤ 1 := by
  have gp : aa_gd g (399 * 0 + 50 * t + 4 * x + 5) := (h6.1 0 (by omega)).1 t x ht hx (by rw [show 399 * 0 + 50 * t + 4 = 50 * t + 4 by omega]; exact hc)
  rw [show 399 * 0 + 50 * t + 4 * x + 5 = 5 + 50 * t + 4 * x by omega] at gp
  have p2 := (aa_point h5 (t := t) (x := x) (k := 2) ht hx (by omega)).2
  have p3 := aa_point h5 (t := t) (x := x) (k := 3) ht hx (by omega)
  rw [aa_town2] at p2
  rw [aa_town3] at p3
  exact ⟨gp, p2, p3.1, p3.2⟩
end
section
/-! BY HAND: a point between two points, its contract -/
theorem aa_six {l : List Int} (h : l.length = 6) : ∃ a b c d e f, l = [a, b, c, d, e, f] := by
  match l, h with
  | [a, b, c, d, e, f], _ => exact ⟨a, b, c, d, e, f, rfl⟩
theorem lay_vb {t x y p q c u v : Int} (h1 : aa_vb [(0, 3, 0), (0, 11, 0), (0, 11, 0), (0, 359, 0), (0, 359, 0), (0, 12, 0)] [t, x, y, p, q, c]) (u0 : 0 ≤ u) (u1 : u ≤ 86398) (v0 : 1 ≤ v) (v1 : v ≤ 86399) : aa_vb [(0, 3, 0), (0, 11, 0), (0, 11, 0), (0, 359, 0), (0, 359, 0), (0, 12, 0), (0, 86398, 0), (1, 86399, 0)] [t, x, y, p, q, c, u, v] := by
  refine ⟨rfl, fun i r w hr hw => ?_⟩
  match i, hr, hw with
  | 0, hr, hw => exact h1.2 0 r w hr hw
  | 1, hr, hw => exact h1.2 1 r w hr hw
  | 2, hr, hw => exact h1.2 2 r w hr hw
  | 3, hr, hw => exact h1.2 3 r w hr hw
  | 4, hr, hw => exact h1.2 4 r w hr hw
  | 5, hr, hw => exact h1.2 5 r w hr hw
  | 6, hr, hw =>
    have hr : (0, 86398, 0) = r := Option.some.inj hr
    have hw : u = w := Option.some.inj hw
    subst hr
    subst hw
    exact ⟨u0, u1, fun z => absurd rfl z⟩
  | 7, hr, hw =>
    have hr : (1, 86399, 0) = r := Option.some.inj hr
    have hw : v = w := Option.some.inj hw
    subst hr
    subst hw
    exact ⟨v0, v1, fun z => absurd rfl z⟩
  | n + 8, hr, hw => exact absurd hr (fun z => by cases z)
theorem lay_end {t x y p q c : Int} {g : aa_G} (h1 : aa_vb aa_m9.2.1.1.1.1 [t, x, y, p, q, c]) : ∀ v h, aa_lpost g v h → aa_post aa_Phi aa_m9 [t, x, y, p, q, c] g v h := by
  rintro v h ⟨g', rfl, r1, r2, r3, ⟨rfl, r4, r5⟩ | ⟨rfl, r4, r5, r6, r7⟩⟩
  · have vb := aa_vb_new h1 (lo := 0) (hi := 1) (gr := 0) (v := (g' 540 13).toInt) r4 r5 (fun z => absurd rfl z)
    refine ⟨g', rfl, r1, r2, r3, _, List.mem_cons_self, [(g' 540 13).toInt], vb, fun f hf => (by cases hf), ?_, Nat.one_ne_zero, _, rfl, rfl⟩
    intro f hf
    rcases List.mem_cons.mp hf with rfl | hf
    · refine ⟨540, 13, _, rfl, rfl, rfl, ?_⟩
      show (g' 540 13).toInt = (0 : Int) + (1 * (g' 540 13).toInt + 0)
      omega
    · cases hf
  · have vb : aa_vb [(0, 3, 0), (0, 11, 0), (0, 11, 0), (0, 359, 0), (0, 359, 0), (0, 12, 0), (0, 86398, 0), (1, 86399, 0)] [t, x, y, p, q, c, (g' 540 14).toInt, (g' 540 15).toInt] := lay_vb h1 r5 (by omega) (by omega) r7
    refine ⟨g', rfl, r1, r2, r3, _, List.mem_cons_of_mem _ List.mem_cons_self, [(g' 540 14).toInt, (g' 540 15).toInt], vb, ?_, ?_, Nat.one_ne_zero, _, rfl, rfl⟩
    · intro f hf
      rcases List.mem_cons.mp hf with rfl | hf
      · exact ⟨_, rfl, by show 0 ≤ (-1 : Int) + (-1 * (g' 540 14).toInt + (1 * (g' 540 15).toInt + 0)); omega⟩
      · cases hf
    · intro f hf
      rcases List.mem_cons.mp hf with rfl | hf
      · exact ⟨540, 13, _, rfl, rfl, rfl, by show (g' 540 13).toInt = (-1 : Int) + 0; omega⟩
      · rcases List.mem_cons.mp hf with rfl | hf
        · exact ⟨540, 14, _, rfl, rfl, rfl, by show (g' 540 14).toInt = (0 : Int) + (1 * (g' 540 14).toInt + 0); omega⟩
        · rcases List.mem_cons.mp hf with rfl | hf
          · exact ⟨540, 15, _, rfl, rfl, rfl, by show (g' 540 15).toInt = (0 : Int) + (1 * (g' 540 15).toInt + 0); omega⟩
          · cases hf
theorem aa_h9 : aa_met aa_Phi aa_m9 := by
  intro ν0 g as h1 h2 h3 h4 h5 h6
  obtain ⟨as, rfl, h7⟩ := aa_this h4
  clear h4
  obtain ⟨w1, as, rfl, e1, h8⟩ := aa_ms_int h7
  clear h7
  obtain ⟨w2, as, rfl, e2, h7⟩ := aa_ms_int h8
  clear h8
  obtain ⟨w3, as, rfl, e3, h8⟩ := aa_ms_int h7
  clear h7
  obtain ⟨w4, as, rfl, e4, h7⟩ := aa_ms_int h8
  clear h8
  have hlen : ν0.length = 6 := h1.1
  obtain ⟨t, x, y, p, q, c, rfl⟩ := aa_six hlen
  cases as with
  | cons _ _ => exact h7.elim
  | nil =>
    have e1 : (5 : Int) + (50 * t + (4 * x + 0)) = w1.toInt := Option.some.inj e1
    have e2 : (5 : Int) + (50 * t + (4 * y + 0)) = w2.toInt := Option.some.inj e2
    have e3 : (0 : Int) + (1 * p + 0) = w3.toInt := Option.some.inj e3
    have e4 : (0 : Int) + (1 * q + 0) = w4.toInt := Option.some.inj e4
    have bt : (0 : Int) ≤ t ∧ t ≤ 3 := ⟨(h1.2 0 _ t rfl rfl).1, (h1.2 0 _ t rfl rfl).2.1⟩
    have bx : (0 : Int) ≤ x ∧ x ≤ 11 := ⟨(h1.2 1 _ x rfl rfl).1, (h1.2 1 _ x rfl rfl).2.1⟩
    have bz : (0 : Int) ≤ y ∧ y ≤ 11 := ⟨(h1.2 2 _ y rfl rfl).1, (h1.2 2 _ y rfl rfl).2.1⟩
    have bp : (0 : Int) ≤ p ∧ p ≤ 359 := ⟨(h1.2 3 _ p rfl rfl).1, (h1.2 3 _ p rfl rfl).2.1⟩
    have bq : (0 : Int) ≤ q ∧ q ≤ 359 := ⟨(h1.2 4 _ q rfl rfl).1, (h1.2 4 _ q rfl rfl).2.1⟩
    obtain ⟨z1, hz1, hz2⟩ := h2 _ List.mem_cons_self
    have hz1 : (-1 : Int) + (-1 * x + (1 * c + 0)) = z1 := Option.some.inj hz1
    obtain ⟨z3, hz3, hz4⟩ := h2 _ (List.mem_cons_of_mem _ List.mem_cons_self)
    have hz3 : (-1 : Int) + (-1 * y + (1 * c + 0)) = z3 := Option.some.inj hz3
    obtain ⟨tn, rfl⟩ : ∃ b : Nat, t = (b : Int) := ⟨t.toNat, by omega⟩
    obtain ⟨xn, rfl⟩ : ∃ b : Nat, x = (b : Int) := ⟨x.toNat, by omega⟩
    obtain ⟨yn, rfl⟩ : ∃ b : Nat, y = (b : Int) := ⟨y.toNat, by omega⟩
    have es : aa_ev [(tn : Int), (xn : Int), (yn : Int), p, q, c] (4, [(0, 50)]) = some ((50 * tn + 4 : Nat) : Int) := congrArg some (show (4 : Int) + (50 * (tn : Int) + 0) = ((50 * tn + 4 : Nat) : Int) by omega)
    have rc := aa_vh_at h3 (k := 541) (j := 50 * tn + 4) (r := (541, [])) (sl := (4, [(0, 50)])) (f := (0, [(5, 1)])) List.mem_cons_self rfl es
    rw [aa_rd_of (k := 541) (by decide)] at rc
    have rc : (0 : Int) + (1 * c + 0) = (g 541 (50 * tn + 4)).toInt := Option.some.inj rc
    have ew1 : w1 = Int32.ofNat (5 + 50 * tn + 4 * xn) := aa_eqN (by omega) (by omega)
    have ew2 : w2 = Int32.ofNat (5 + 50 * tn + 4 * yn) := aa_eqN (by omega) (by omega)
    subst ew1
    subst ew2
    obtain ⟨gp, p2, p3⟩ := aa_pick h5 h6 (t := tn) (x := xn) (by omega) (by omega) (by omega)
    obtain ⟨gq, q2, q3⟩ := aa_pick h5 h6 (t := tn) (x := yn) (by omega) (by omega) (by omega)
    refine (lay_all h5 h6 (P := 5 + 50 * tn + 4 * xn) (Q := 5 + 50 * tn + 4 * yn) (by omega) (by omega) (by omega) (by omega) (by omega) (by omega) gp gq p2 q2 p3 q3).mono (lay_end h1)
end
section
/-! BY HAND: the points are pushed along, up by one and down by one -/
theorem at_all {t i : Nat} {h : zz_H} : zz_fin none 175 (0, zz_in [.int (Int32.ofNat t), .int (Int32.ofNat i)] (zz_nl 175), [], h) (fun v h' => v = some (.int (Int32.ofNat (5 + 50 * t + 4 * i))) ∧ h' = h) := by
  refine zz_fin.at (n := 12) rfl ⟨?_, rfl⟩
  have e : Int32.ofNat (3 + 50 * t + 2 + 4 * i) = Int32.ofNat 3 + Int32.ofNat 50 * Int32.ofNat t + Int32.ofNat 2 + Int32.ofNat 4 * Int32.ofNat i := by
    rw [Int32.ofNat_add, Int32.ofNat_add, Int32.ofNat_add, Int32.ofNat_mul, Int32.ofNat_mul]
  rw [show 5 + 50 * t + 4 * i = 3 + 50 * t + 2 + 4 * i by omega, e]
  rfl
def aa_up (g0 g : aa_G) (m E : Nat) : Prop := (∀ q, m ≤ q → q < E → g 541 (q + 4) = g0 541 q) ∧ ∀ k r, ¬ (k = 541 ∧ m + 4 ≤ r ∧ r < E + 4) → g k r = g0 k r
theorem up_loop {t x S E : Nat} (hx : x < 12) (ht : t < 4) (hS : S = 5 + 50 * t + 4 * x) (hE : E ≤ 5 + 50 * t + 44) {w2 w3 w4 l5 : Option Value} {z7 : Int32} (g0 : aa_G) {φ : Option Value → zz_H → Prop} (kk : ∀ g y, aa_up g0 g S E → zz_fin none 257 (168, [some (.ref 540), some (.int (Int32.ofNat t)), w2, w3, w4, l5, some (.int (Int32.ofNat x)), some (.int z7), y], [], aa_H g) φ) (n : Nat) : ∀ j, j + 1 = S + n → j < E → ∀ g, aa_up g0 g (j + 1) E → zz_fin none 257 (135, [some (.ref 540), some (.int (Int32.ofNat t)), w2, w3, w4, l5, some (.int (Int32.ofNat x)), some (.int z7), some (.int (Int32.ofNat j))], [], aa_H g) φ := by
  induction n with
  | zero =>
    intro j hj hjE g hg
    refine zz_fin.steps (n := 3) (s' := (140, [some (.ref 540), some (.int (Int32.ofNat t)), w2, w3, w4, l5, some (.int (Int32.ofNat x)), some (.int z7), some (.int (Int32.ofNat j))], [.int (Int32.ofNat x), .int (Int32.ofNat t), .int (Int32.ofNat j)], aa_H g)) rfl ?_
    refine zz_fin.call rfl rfl (Nat.le_of_ble_eq_true rfl) at_all ?_
    rintro v h ⟨rfl, rfl⟩
    refine zz_fin.ic rfl (fun d => ?_) (fun d => ?_)
    · exact kk g _ (by rwa [show S = j + 1 by omega])
    · refine absurd ((aa_cmp _ _ _).mpr ?_) d
      show (Int32.ofNat j).toInt - (Int32.ofNat (5 + 50 * t + 4 * x)).toInt < 0
      rw [zz_ofN (by omega), zz_ofN (by omega)]
      omega
  | succ n ih =>
    intro j hj hjE g hg
    have ej := zz_ofN (show j < 2147483648 by omega)
    have em : (-1 : Int32).toInt = -1 := rfl
    refine zz_fin.steps (n := 3) (s' := (140, [some (.ref 540), some (.int (Int32.ofNat t)), w2, w3, w4, l5, some (.int (Int32.ofNat x)), some (.int z7), some (.int (Int32.ofNat j))], [.int (Int32.ofNat x), .int (Int32.ofNat t), .int (Int32.ofNat j)], aa_H g)) rfl ?_
    refine zz_fin.call rfl rfl (Nat.le_of_ble_eq_true rfl) at_all ?_
    rintro v h ⟨rfl, rfl⟩
    refine zz_fin.ic rfl (fun d => ?_) (fun d => ?_)
    · have d : (Int32.ofNat j).toInt - (Int32.ofNat (5 + 50 * t + 4 * x)).toInt < 0 := (aa_cmp _ _ _).mp d
      rw [ej, zz_ofN (by omega)] at d
      omega
    · refine zz_fin.steps (n := 8) (s' := (160, [some (.ref 540), some (.int (Int32.ofNat t)), w2, w3, w4, l5, some (.int (Int32.ofNat x)), some (.int z7), some (.int (Int32.ofNat j))], [.int (Int32.ofNat j), .ref 541, .int (Int32.ofNat j + Int32.ofNat 4), .ref 541], aa_H g)) rfl ?_
      rw [show Int32.ofNat j + Int32.ofNat 4 = Int32.ofNat (j + 4) from (Int32.ofNat_add j 4).symm]
      refine zz_fin.ial (n := 6384) rfl rfl (zz_inbN (by omega) (by omega)) ?_
      refine zz_fin.ias (n := 6384) rfl rfl (zz_inbN (by omega) (by omega)) ?_
      rw [zz_toN (by omega), zz_toN (by omega)]
      refine zz_fin.steps (n := 2) (s' := (135, [some (.ref 540), some (.int (Int32.ofNat t)), w2, w3, w4, l5, some (.int (Int32.ofNat x)), some (.int z7), some (.int (Int32.ofNat j + (-1)))], [], aa_H (zz_w g 541 (j + 4) (g 541 j)))) rfl ?_
      obtain ⟨i, rfl⟩ : ∃ i, j = i + 1 := ⟨j - 1, by omega⟩
      rw [show Int32.ofNat (i + 1) + (-1) = Int32.ofNat i from aa_eqN (by rw [aa_add32 (by omega) (by omega), ej, em]; omega) (by omega)]
      refine ih i (by omega) (by omega) _ ⟨fun q hq hqE => ?_, fun k r hr => ?_⟩
      · by_cases e : q = i + 1
        · subst e
          rw [aa_w_at]
          exact hg.2 541 _ (by omega)
        · rw [aa_w_ne _ _ (by omega)]
          exact hg.1 q (by omega) hqE
      · rw [aa_w_ne _ _ (by omega)]
        exact hg.2 k r (by omega)
def aa_dn (g0 g : aa_G) (S m : Nat) : Prop := (∀ q, S ≤ q → q < m → g 541 q = g0 541 (q + 4)) ∧ ∀ k r, ¬ (k = 541 ∧ S ≤ r ∧ r < m) → g k r = g0 k r
theorem dn_loop {t c S E : Nat} (hc : c ≤ 11) (ht : t < 4) (hS : 5 + 50 * t ≤ S) (hE : E = 5 + 50 * t + 4 * c) {w2 : Option Value} {z4 : Int32} (g0 : aa_G) (h0 : g0 541 (4 + 50 * t) = Int32.ofNat c) {φ : Option Value → zz_H → Prop} (kk : ∀ g y, aa_dn g0 g S E → zz_fin none 259 (112, [some (.ref 540), some (.int (Int32.ofNat t)), w2, some (.int (Int32.ofNat (4 + 50 * t))), some (.int z4), y], [], aa_H g) φ) (n : Nat) : ∀ j, j + n = E → S ≤ j → ∀ g, aa_dn g0 g S j → zz_fin none 259 (75, [some (.ref 540), some (.int (Int32.ofNat t)), w2, some (.int (Int32.ofNat (4 + 50 * t))), some (.int z4), some (.int (Int32.ofNat j))], [], aa_H g) φ := by
  induction n with
  | zero =>
    intro j hj hjS g hg
    have hcnt : (aa_H g).2.2 541 (4 + 50 * t) = Int32.ofNat c := (hg.2 541 _ (by omega)).trans h0
    refine zz_fin.steps (n := 5) (s' := (83, [some (.ref 540), some (.int (Int32.ofNat t)), w2, some (.int (Int32.ofNat (4 + 50 * t))), some (.int z4), some (.int (Int32.ofNat j))], [.int (Int32.ofNat (4 + 50 * t)), .ref 541, .int (Int32.ofNat t), .int (Int32.ofNat j)], aa_H g)) rfl ?_
    refine zz_fin.ial (n := 6384) rfl rfl (zz_inbN (by omega) (by omega)) ?_
    rw [zz_toN (by omega), hcnt]
    refine zz_fin.call rfl rfl (Nat.le_of_ble_eq_true rfl) at_all ?_
    rintro v h ⟨rfl, rfl⟩
    refine zz_fin.ic rfl (fun d => ?_) (fun d => ?_)
    · exact kk g _ (by rwa [show E = j by omega])
    · refine absurd ((aa_cmp _ _ _).mpr ?_) d
      show (0 : Int) ≤ (Int32.ofNat j).toInt - (Int32.ofNat (5 + 50 * t + 4 * c)).toInt
      rw [zz_ofN (by omega), zz_ofN (by omega)]
      omega
  | succ n ih =>
    intro j hj hjS g hg
    have ej := zz_ofN (show j < 2147483648 by omega)
    have hcnt : (aa_H g).2.2 541 (4 + 50 * t) = Int32.ofNat c := (hg.2 541 _ (by omega)).trans h0
    refine zz_fin.steps (n := 5) (s' := (83, [some (.ref 540), some (.int (Int32.ofNat t)), w2, some (.int (Int32.ofNat (4 + 50 * t))), some (.int z4), some (.int (Int32.ofNat j))], [.int (Int32.ofNat (4 + 50 * t)), .ref 541, .int (Int32.ofNat t), .int (Int32.ofNat j)], aa_H g)) rfl ?_
    refine zz_fin.ial (n := 6384) rfl rfl (zz_inbN (by omega) (by omega)) ?_
    rw [zz_toN (by omega), hcnt]
    refine zz_fin.call rfl rfl (Nat.le_of_ble_eq_true rfl) at_all ?_
    rintro v h ⟨rfl, rfl⟩
    refine zz_fin.ic rfl (fun d => ?_) (fun d => ?_)
    · have d : (0 : Int) ≤ (Int32.ofNat j).toInt - (Int32.ofNat (5 + 50 * t + 4 * c)).toInt := (aa_cmp _ _ _).mp d
      rw [ej, zz_ofN (by omega)] at d
      omega
    · refine zz_fin.steps (n := 8) (s' := (104, [some (.ref 540), some (.int (Int32.ofNat t)), w2, some (.int (Int32.ofNat (4 + 50 * t))), some (.int z4), some (.int (Int32.ofNat j))], [.int (Int32.ofNat j + Int32.ofNat 4), .ref 541, .int (Int32.ofNat j), .ref 541], aa_H g)) rfl ?_
      rw [show Int32.ofNat j + Int32.ofNat 4 = Int32.ofNat (j + 4) from (Int32.ofNat_add j 4).symm]
      refine zz_fin.ial (n := 6384) rfl rfl (zz_inbN (by omega) (by omega)) ?_
      refine zz_fin.ias (n := 6384) rfl rfl (zz_inbN (by omega) (by omega)) ?_
      rw [zz_toN (by omega), zz_toN (by omega)]
      refine zz_fin.steps (n := 2) (s' := (75, [some (.ref 540), some (.int (Int32.ofNat t)), w2, some (.int (Int32.ofNat (4 + 50 * t))), some (.int z4), some (.int (Int32.ofNat j + 1))], [], aa_H (zz_w g 541 j (g 541 (j + 4))))) rfl ?_
      rw [show Int32.ofNat j + 1 = Int32.ofNat (j + 1) from (Int32.ofNat_add j 1).symm]
      refine ih (j + 1) (by omega) (by omega) _ ⟨fun q hq hqE => ?_, fun k r hr => ?_⟩
      · by_cases e : q = j
        · subst e
          rw [aa_w_at]
          exact hg.2 541 _ (by omega)
        · rw [aa_w_ne _ _ (by omega)]
          exact hg.1 q hq (by omega)
      · rw [aa_w_ne _ _ (by omega)]
        exact hg.2 k r (by omega)
end
section
/-! BY HAND: the point that is looked up -/
theorem tab_all {t : Nat} {h : zz_H} : zz_fin none 164 (0, zz_in [.int (Int32.ofNat t)] (zz_nl 164), [], h) (fun v h' => v = some (.int (Int32.ofNat (3 + 50 * t))) ∧ h' = h) := by
  refine zz_fin.at (n := 6) rfl ⟨?_, rfl⟩
  have e : Int32.ofNat (3 + 50 * t) = Int32.ofNat 3 + Int32.ofNat 50 * Int32.ofNat t := by
    rw [Int32.ofNat_add, Int32.ofNat_mul]
  rw [e]
  rfl
theorem point_loop {t c : Nat} (ht : t < 4) (hc : c ≤ 12) {w2 : Int32} {g : aa_G} (h0 : g 541 (4 + 50 * t) = Int32.ofNat c) (n : Nat) : ∀ i, i + n = c → zz_fin none 258 (2, [some (.ref 540), some (.int (Int32.ofNat t)), some (.int w2), some (.int (Int32.ofNat i))], [], aa_H g) (fun v h' => (∃ x : Nat, x ≤ c ∧ v = some (.int (Int32.ofNat x))) ∧ h' = aa_H g) := by
  have hcnt : (aa_H g).2.2 541 (3 + 50 * t + 1) = Int32.ofNat c := by
    rw [show 3 + 50 * t + 1 = 4 + 50 * t by omega]
    exact h0
  have top : ∀ i, i ≤ c → (i < c → zz_fin none 258 (17, [some (.ref 540), some (.int (Int32.ofNat t)), some (.int w2), some (.int (Int32.ofNat i))], [], aa_H g) (fun v h' => (∃ x : Nat, x ≤ c ∧ v = some (.int (Int32.ofNat x))) ∧ h' = aa_H g)) → zz_fin none 258 (2, [some (.ref 540), some (.int (Int32.ofNat t)), some (.int w2), some (.int (Int32.ofNat i))], [], aa_H g) (fun v h' => (∃ x : Nat, x ≤ c ∧ v = some (.int (Int32.ofNat x))) ∧ h' = aa_H g) := fun i hi kk => by
    refine zz_fin.steps (n := 4) (s' := (8, [some (.ref 540), some (.int (Int32.ofNat t)), some (.int w2), some (.int (Int32.ofNat i))], [.int (Int32.ofNat t), .ref 541, .int (Int32.ofNat i)], aa_H g)) rfl ?_
    refine zz_fin.call rfl rfl (Nat.le_of_ble_eq_true rfl) tab_all ?_
    rintro v h ⟨rfl, rfl⟩
    refine zz_fin.steps (n := 2) (s' := (13, [some (.ref 540), some (.int (Int32.ofNat t)), some (.int w2), some (.int (Int32.ofNat i))], [.int (Int32.ofNat (3 + 50 * t) + Int32.ofNat 1), .ref 541, .int (Int32.ofNat i)], aa_H g)) rfl ?_
    rw [show Int32.ofNat (3 + 50 * t) + Int32.ofNat 1 = Int32.ofNat (3 + 50 * t + 1) from (Int32.ofNat_add _ 1).symm]
    refine zz_fin.ial (n := 6384) rfl rfl (zz_inbN (by omega) (by omega)) ?_
    rw [zz_toN (by omega), hcnt]
    refine zz_fin.ic rfl (fun d => ?_) (fun d => ?_)
    · exact zz_fin.at (n := 2) rfl ⟨⟨i, hi, rfl⟩, rfl⟩
    · have d : ¬ (0 : Int) ≤ (Int32.ofNat i).toInt - (Int32.ofNat c).toInt := fun z => d ((aa_cmp _ _ _).mpr z)
      rw [zz_ofN (by omega), zz_ofN (by omega)] at d
      exact kk (by omega)
  induction n with
  | zero => exact fun i hi => top i (by omega) fun z => absurd z (by omega)
  | succ n ih =>
    intro i hi
    refine top i (by omega) fun hic => ?_
    refine zz_fin.steps (n := 4) (s' := (23, [some (.ref 540), some (.int (Int32.ofNat t)), some (.int w2), some (.int (Int32.ofNat i))], [.int (Int32.ofNat i), .int (Int32.ofNat t), .ref 541], aa_H g)) rfl ?_
    refine zz_fin.call rfl rfl (Nat.le_of_ble_eq_true rfl) at_all ?_
    rintro v h ⟨rfl, rfl⟩
    refine zz_fin.ial (n := 6384) rfl rfl (zz_inbN (by omega) (by omega)) ?_
    refine zz_fin.steps (n := 1) (s' := (28, [some (.ref 540), some (.int (Int32.ofNat t)), some (.int w2), some (.int (Int32.ofNat i))], [.int w2, .int (g 541 (Int32.ofNat (5 + 50 * t + 4 * i)).toNatClampNeg)], aa_H g)) rfl ?_
    refine zz_fin.ic rfl (fun d => ?_) (fun d => ?_)
    · exact zz_fin.at (n := 2) rfl ⟨⟨i, by omega, rfl⟩, rfl⟩
    · refine zz_fin.steps (n := 2) (s' := (2, [some (.ref 540), some (.int (Int32.ofNat t)), some (.int w2), some (.int (Int32.ofNat i + 1))], [], aa_H g)) rfl ?_
      rw [show Int32.ofNat i + 1 = Int32.ofNat (i + 1) from (Int32.ofNat_add i 1).symm]
      exact ih (i + 1) (by omega)
theorem point_all {t c : Nat} (ht : t < 4) (hc : c ≤ 12) {w2 : Int32} {g : aa_G} (h0 : g 541 (4 + 50 * t) = Int32.ofNat c) : zz_fin none 258 (0, zz_in [.ref 540, .int (Int32.ofNat t), .int w2] (zz_nl 258), [], aa_H g) (fun v h' => (∃ x : Nat, x ≤ c ∧ v = some (.int (Int32.ofNat x))) ∧ h' = aa_H g) := by
  refine zz_fin.steps (n := 2) (s' := (2, [some (.ref 540), some (.int (Int32.ofNat t)), some (.int w2), some (.int (Int32.ofNat 0))], [], aa_H g)) rfl ?_
  exact point_loop ht hc h0 c 0 (by omega)
end
section
/-! BY HAND: what set and remove call -/
theorem town_all {w1 : Int32} {g : aa_G} (h5 : aa_inv g) : zz_fin none 192 (0, zz_in [.ref 540, .int w1] (zz_nl 192), [], aa_H g) (fun v h' => (v = some (.int 0) ∨ (v = some (.int 1) ∧ ∃ t : Nat, t < 4 ∧ w1 = Int32.ofNat t)) ∧ h' = aa_H g) := by
  have e1 : (1 : Int32).toInt = 1 := rfl
  have e0 : (0 : Int32).toInt = 0 := rfl
  have b0 : (0 : Int) ≤ (g 541 0).toInt := (h5 541 0).1
  have b1 : (g 541 0).toInt ≤ 4 := (h5 541 0).2
  have es : (g 541 0 - 1).toInt = (g 541 0).toInt - 1 := by rw [aa_sub32 (by omega) (by omega), e1]
  refine zz_fin.steps (n := 8) (s' := (10, [some (.ref 540), some (.int w1)], [.int (g 541 0 - 1), .int 0, .int w1], aa_H g)) rfl ?_
  by_cases c : (0 : Int32) ≤ w1 ∧ w1 ≤ g 541 0 - 1
  · refine zz_fin.call rfl rfl (Nat.le_of_ble_eq_true rfl) (zz_within1 (.inr rfl) c) ?_
    rintro v h ⟨rfl, rfl⟩
    have c1 : (0 : Int) ≤ w1.toInt := aa_le32.mp c.1
    have c2 := aa_le32.mp c.2
    rw [es] at c2
    exact zz_fin.at (n := 1) rfl ⟨.inr ⟨rfl, w1.toInt.toNat, by omega, aa_eqN (by omega) (by omega)⟩, rfl⟩
  · refine zz_fin.call rfl rfl (Nat.le_of_ble_eq_true rfl) (zz_within0 (.inr rfl) c) ?_
    rintro v h ⟨rfl, rfl⟩
    exact zz_fin.at (n := 1) rfl ⟨.inl rfl, rfl⟩
theorem second_all {w1 : Int32} {h : zz_H} : zz_fin none 199 (0, zz_in [.int w1] (zz_nl 199), [], h) (fun v h' => (v = some (.int 0) ∨ (v = some (.int 1) ∧ 0 ≤ w1.toInt ∧ w1.toInt ≤ 86399)) ∧ h' = h) := by
  refine zz_fin.steps (n := 3) (s' := (4, [some (.int w1)], [.int 86399, .int 0, .int w1], h)) rfl ?_
  by_cases c : (0 : Int32) ≤ w1 ∧ w1 ≤ 86399
  · refine zz_fin.call rfl rfl (Nat.le_of_ble_eq_true rfl) (zz_within1 (.inr rfl) c) ?_
    rintro v h ⟨rfl, rfl⟩
    have c1 : (0 : Int) ≤ w1.toInt := aa_le32.mp c.1
    have c2 : w1.toInt ≤ (86399 : Int32).toInt := aa_le32.mp c.2
    have e : (86399 : Int32).toInt = 86399 := rfl
    exact zz_fin.at (n := 1) rfl ⟨.inr ⟨rfl, c1, by omega⟩, rfl⟩
  · refine zz_fin.call rfl rfl (Nat.le_of_ble_eq_true rfl) (zz_within0 (.inr rfl) c) ?_
    rintro v h ⟨rfl, rfl⟩
    exact zz_fin.at (n := 1) rfl ⟨.inl rfl, rfl⟩
theorem point_lay {P : Nat} (hP : P < 6000) {a b c : Int32} {g : aa_G} : zz_fin none 177 (0, zz_in [.ref 540, .int (Int32.ofNat P), .int a, .int b, .int c] (zz_nl 177), [], aa_H g) (fun v h' => v = none ∧ h' = aa_H (zz_w (zz_w (zz_w g 541 (P + 1) a) 541 (P + 2) b) 541 (P + 3) c)) := by
  have eP : ∀ k : Nat, Int32.ofNat P + Int32.ofNat k = Int32.ofNat (P + k) := fun k => (Int32.ofNat_add P k).symm
  refine zz_fin.steps (n := 6) (s' := (8, [some (.ref 540), some (.int (Int32.ofNat P)), some (.int a), some (.int b), some (.int c)], [.int a, .int (Int32.ofNat P + Int32.ofNat 1), .ref 541], aa_H g)) rfl ?_
  rw [eP]
  refine zz_fin.ias (n := 6384) rfl rfl (zz_inbN (by omega) (by omega)) ?_
  rw [zz_toN (by omega)]
  refine zz_fin.steps (n := 6) (s' := (17, [some (.ref 540), some (.int (Int32.ofNat P)), some (.int a), some (.int b), some (.int c)], [.int b, .int (Int32.ofNat P + Int32.ofNat 2), .ref 541], aa_H (zz_w g 541 (P + 1) a))) rfl ?_
  rw [eP]
  refine zz_fin.ias (n := 6384) rfl rfl (zz_inbN (by omega) (by omega)) ?_
  rw [zz_toN (by omega)]
  refine zz_fin.steps (n := 6) (s' := (27, [some (.ref 540), some (.int (Int32.ofNat P)), some (.int a), some (.int b), some (.int c)], [.int c, .int (Int32.ofNat P + Int32.ofNat 3), .ref 541], aa_H (zz_w (zz_w g 541 (P + 1) a) 541 (P + 2) b))) rfl ?_
  rw [eP]
  refine zz_fin.ias (n := 6384) rfl rfl (zz_inbN (by omega) (by omega)) ?_
  rw [zz_toN (by omega)]
  exact zz_fin.at (n := 1) rfl ⟨rfl, rfl⟩
theorem deed156 {g : aa_G} (h5 : aa_inv g) (h6 : aa_Phi g) : zz_fin none 156 (0, zz_in [.ref 540] (zz_nl 156), [], aa_H g) (fun v h => v = none ∧ ∃ g', h = aa_H g' ∧ aa_inv g' ∧ aa_Phi g' ∧ aa_fr aa_dw g g') := by
  have hp : (1 : Int) ≤ (g 541 1).toInt := (h5 541 1).1
  refine zz_fin.steps (n := 2) (s' := (2, [some (.ref 540)], [.int (Int32.ofNat 0), .ref 540], aa_H g)) rfl ?_
  refine zz_fin.call rfl rfl (Nat.le_of_ble_eq_true rfl) (deed_all (row := 0) (.inl rfl) ⟨h5, h6, hp⟩) ?_
  rintro v h ⟨rfl, g1, rfl, k1, k2, k3⟩
  exact zz_fin.at (n := 1) rfl ⟨rfl, g1, rfl, k1, k2, k3⟩
end
section
/-! BY HAND: what the pushes keep -/
theorem aa_town_neg {r : Nat} : aa_town (r + 2) = match r % 4 with
    | 0 => (0, 359)
    | 1 => (-1, 86399)
    | 2 => (-1, 86399)
    | _ => (-1, 1) := by
  unfold aa_town
  rw [if_neg fun e => by have := Nat.eq_of_beq_eq_true e; omega, if_neg fun e => by have := Nat.eq_of_beq_eq_true e; omega, show r + 2 - 2 = r by omega]
  rfl
theorem aa_town_4 {r : Nat} : aa_town (r + 4 + 2) = aa_town (r + 2) := by
  rw [aa_town_neg, aa_town_neg, show (r + 4) % 4 = r % 4 by omega]
theorem aa_iv_pt {t r : Nat} (ht : t < 4) (hr : r < 48) : aa_iv 36 (5 + 50 * t + r) = aa_town (r + 2) := by
  rw [aa_iv36, show (5 + 50 * t + r) / 399 = 0 by omega, show (5 + 50 * t + r) % 399 = 5 + 50 * t + r by omega]
  unfold aa_place
  rw [if_neg fun e => by have := Nat.le_of_ble_eq_true e; omega, if_neg fun e => by have := Nat.le_of_ble_eq_true e; omega, if_pos (Nat.ble_eq_true_of_le (by omega)), show (5 + 50 * t + r - 3) % 50 = r + 2 by omega]
theorem aa_iv_4 {t q : Nat} (ht : t < 4) (h1 : 5 + 50 * t ≤ q) (h2 : q < 5 + 50 * t + 44) : aa_iv 36 (q + 4) = aa_iv 36 q := by
  obtain ⟨r, rfl⟩ : ∃ r, q = 5 + 50 * t + r := ⟨q - (5 + 50 * t), by omega⟩
  rw [show 5 + 50 * t + r + 4 = 5 + 50 * t + (r + 4) by omega, aa_iv_pt ht (by omega), aa_iv_pt ht (by omega), aa_town_4]
theorem aa_up_inv {g0 g : aa_G} {t S E : Nat} (h : aa_up g0 g S E) (hi : aa_inv g0) (ht : t < 4) (hS : 5 + 50 * t ≤ S) (hE : E ≤ 5 + 50 * t + 44) : aa_inv g := fun k j => by
  by_cases e : k = 541 ∧ S + 4 ≤ j ∧ j < E + 4
  · obtain ⟨rfl, e1, e2⟩ := e
    obtain ⟨q, rfl⟩ : ∃ q, j = q + 4 := ⟨j - 4, by omega⟩
    rw [h.1 q (by omega) (by omega)]
    have k1 : (aa_iv 36 q).1 ≤ (g0 541 q).toInt ∧ (g0 541 q).toInt ≤ (aa_iv 36 q).2 := hi 541 q
    show (aa_iv 36 (q + 4)).1 ≤ (g0 541 q).toInt ∧ (g0 541 q).toInt ≤ (aa_iv 36 (q + 4)).2
    rw [aa_iv_4 ht (by omega) (by omega)]
    exact k1
  · rw [h.2 k j e]
    exact hi k j
theorem aa_dn_inv {g0 g : aa_G} {t S E : Nat} (h : aa_dn g0 g S E) (hi : aa_inv g0) (ht : t < 4) (hS : 5 + 50 * t ≤ S) (hE : E ≤ 5 + 50 * t + 44) : aa_inv g := fun k j => by
  by_cases e : k = 541 ∧ S ≤ j ∧ j < E
  · obtain ⟨rfl, e1, e2⟩ := e
    rw [h.1 j (by omega) (by omega)]
    have k1 : (aa_iv 36 (j + 4)).1 ≤ (g0 541 (j + 4)).toInt ∧ (g0 541 (j + 4)).toInt ≤ (aa_iv 36 (j + 4)).2 := hi 541 (j + 4)
    show (aa_iv 36 j).1 ≤ (g0 541 (j + 4)).toInt ∧ (g0 541 (j + 4)).toInt ≤ (aa_iv 36 j).2
    rw [← aa_iv_4 ht (by omega) (by omega)]
    exact k1
  · rw [h.2 k j e]
    exact hi k j
/-- the table of one town has changed, behind its count, and no more -/
def aa_tb (g g' : aa_G) (t : Nat) : Prop := ∀ k j, ¬ (k = 541 ∧ 4 + 50 * t ≤ j ∧ j < 53 + 50 * t) → g' k j = g k j
theorem aa_Phi_tb {g g' : aa_G} {t : Nat} (ht : t < 4) (h : aa_Phi g) (hc : aa_tb g g' t) (hp : ∀ i : Nat, i < 12 → (i : Int) < (g' 541 (4 + 50 * t)).toInt → aa_gd g' (5 + 50 * t + 4 * i)) : aa_Phi g' := by
  obtain ⟨k1, ⟨k2, k3⟩, k4⟩ := h
  have oth : ∀ k, k ≠ 541 → g' k = g k := fun k hk => by
    funext j
    exact hc k j fun e => hk e.1
  have out : ∀ j, ¬ (4 + 50 * t ≤ j ∧ j < 53 + 50 * t) → g' 541 j = g 541 j := fun j hj => hc 541 j fun e => hj e.2
  refine ⟨fun r hr => ⟨?_, aa_rp_of (out _ (by omega)) (fun q hq => out _ (by omega)) (k1 r hr).2⟩, ⟨fun k hk hq => ?_, fun k hk hq => ?_⟩, fun b hb hq => ?_⟩
  · by_cases e : r = 0
    · subst e
      intro s i hs hi hcnt
      by_cases es : s = t
      · subst es
        rw [show 399 * 0 + 50 * s + 4 = 4 + 50 * s by omega] at hcnt
        have := hp i hi hcnt
        rwa [show 399 * 0 + 50 * s + 4 * i + 5 = 5 + 50 * s + 4 * i by omega]
      · rw [out _ (by omega)] at hcnt
        have := (k1 0 hr).1 s i hs hi hcnt
        unfold aa_gd at this ⊢
        rwa [out _ (by omega), out _ (by omega), out _ (by omega)]
    · exact aa_pt_of (fun q _ _ _ _ _ => out _ (by omega)) (k1 r hr).1
  · rw [oth 542 (by decide)] at hq
    rw [out _ (by omega)]
    exact k2 k hk hq
  · rw [oth 540 (by decide)] at hq
    rw [out _ (by omega)]
    exact k3 k hk hq
  · rw [oth 540 (by decide)] at hq
    exact aa_nb_of (fun q _ => by rw [oth 544 (by decide)]) (by rw [oth 540 (by decide)]; exact Int.le_refl _) (fun i _ => by rw [oth 545 (by decide)]) (k4 b hb hq)
theorem aa_tb_fr {g g' : aa_G} {t : Nat} (ht : t < 4) (h : aa_tb g g' t) {ws : aa_W} (hw : (36, 0, 398) ∈ ws) : aa_fr ws g g' := by
  refine ⟨fun k j => ?_, .inl (aa_dep_eq (h 540 10 (by omega)) (h 540 11 (by omega)) ?_ ?_)⟩
  · by_cases e : k = 541 ∧ 4 + 50 * t ≤ j ∧ j < 53 + 50 * t
    · obtain ⟨rfl, e1, e2⟩ := e
      exact .inr ⟨_, hw, rfl, by show (0 : Int) ≤ (j : Int); omega, by show (j : Int) ≤ 398; omega⟩
    · exact .inl (h k j e)
  · funext j
    exact h 544 j (by omega)
  · funext j
    exact h 545 j (by omega)
end
section
/-! BY HAND: remove -/
theorem aa_cnt {g : aa_G} (h5 : aa_inv g) {t : Nat} (ht : t < 4) : ∃ c : Nat, c ≤ 12 ∧ (g 541 (4 + 50 * t)).toInt = (c : Int) ∧ g 541 (4 + 50 * t) = Int32.ofNat c := by
  have k : (aa_iv 36 (4 + 50 * t)).1 ≤ (g 541 (4 + 50 * t)).toInt ∧ (g 541 (4 + 50 * t)).toInt ≤ (aa_iv 36 (4 + 50 * t)).2 := h5 541 (4 + 50 * t)
  have e : aa_iv 36 (4 + 50 * t) = (0, 12) := by
    rcases (show t = 0 ∨ t = 1 ∨ t = 2 ∨ t = 3 by omega) with rfl | rfl | rfl | rfl <;> rfl
  rw [e] at k
  have k1 : (0 : Int) ≤ (g 541 (4 + 50 * t)).toInt := k.1
  have k2 : (g 541 (4 + 50 * t)).toInt ≤ 12 := k.2
  exact ⟨(g 541 (4 + 50 * t)).toInt.toNat, by omega, by omega, aa_eqN (by omega) (by omega)⟩
theorem aa_dw_same {g g1 : aa_G} (h : aa_fr aa_dw g g1) {j : Nat} (hj : j < 399) : g1 541 j = g 541 j := by
  rcases h.1 541 j with e | ⟨w, hw, e, e1, e2⟩
  · exact e
  · rcases List.mem_cons.mp hw with rfl | hw
    · exact absurd e (by decide)
    · rcases List.mem_cons.mp hw with rfl | hw
      · have e1 : (1197 : Int) ≤ (j : Int) := e1
        omega
      · cases hw
abbrev aa_rw : aa_W := [(35, 1, 1), (36, 1197, 5984), (36, 0, 398)]
theorem aa_dw_rw {g g1 : aa_G} (k3 : aa_fr aa_dw g g1) : aa_fr aa_rw g g1 := ⟨fun a b => (k3.1 a b).imp id fun ⟨w, hw, z⟩ => ⟨w, List.mem_append_left [(36, 0, 398)] hw, z⟩, k3.2.imp id fun ⟨w, hw, z⟩ => ⟨w, List.mem_append_left [(36, 0, 398)] hw, z⟩⟩
/-- what set and remove end with -/
def aa_rpost (g0 : aa_G) (v : Option Value) (h : zz_H) : Prop := ∃ g', h = aa_H g' ∧ aa_inv g' ∧ aa_Phi g' ∧ aa_fr aa_rw g0 g' ∧ ∃ z : Int32, v = some (.int z) ∧ -1 ≤ z.toInt ∧ z.toInt ≤ 12
theorem remove_tail {g : aa_G} (h5 : aa_inv g) (h6 : aa_Phi g) {t x c : Nat} (ht : t < 4) (hx : x < c) (hc : c ≤ 12) (h0 : g 541 (4 + 50 * t) = Int32.ofNat c) {w2 : Int32} {y : Option Value} : zz_fin none 259 (53, [some (.ref 540), some (.int (Int32.ofNat t)), some (.int w2), some (.int (Int32.ofNat (4 + 50 * t))), some (.int (Int32.ofNat x)), y], [], aa_H g) (aa_rpost g) := by
  have e1 : (1 : Int32).toInt = 1 := rfl
  refine zz_fin.steps (n := 1) (s' := (54, [some (.ref 540), some (.int (Int32.ofNat t)), some (.int w2), some (.int (Int32.ofNat (4 + 50 * t))), some (.int (Int32.ofNat x)), y], [.ref 540], aa_H g)) rfl ?_
  refine zz_fin.call rfl rfl (Nat.le_of_ble_eq_true rfl) (deed156 h5 h6) ?_
  rintro v h ⟨rfl, g1, rfl, k1, k2, k3⟩
  have h1 : (aa_H g1).2.2 541 (4 + 50 * t) = Int32.ofNat c := (aa_dw_same k3 (by omega)).trans h0
  refine zz_fin.steps (n := 4) (s' := (63, [some (.ref 540), some (.int (Int32.ofNat t)), some (.int w2), some (.int (Int32.ofNat (4 + 50 * t))), some (.int (Int32.ofNat x)), y], [.int (Int32.ofNat (4 + 50 * t)), .ref 541, .int (Int32.ofNat (4 + 50 * t)), .ref 541], aa_H g1)) rfl ?_
  refine zz_fin.ial (n := 6384) rfl rfl (zz_inbN (by omega) (by omega)) ?_
  rw [zz_toN (by omega), h1]
  refine zz_fin.steps (n := 2) (s' := (66, [some (.ref 540), some (.int (Int32.ofNat t)), some (.int w2), some (.int (Int32.ofNat (4 + 50 * t))), some (.int (Int32.ofNat x)), y], [.int (Int32.ofNat c - 1), .int (Int32.ofNat (4 + 50 * t)), .ref 541], aa_H g1)) rfl ?_
  obtain ⟨d, rfl⟩ : ∃ d, c = d + 1 := ⟨c - 1, by omega⟩
  have ec : Int32.ofNat (d + 1) - 1 = Int32.ofNat d := aa_eqN (by rw [aa_sub32 (by rw [zz_ofN (by omega), e1]; omega) (by rw [zz_ofN (by omega), e1]; omega), zz_ofN (by omega), e1]; omega) (by omega)
  rw [ec]
  refine zz_fin.ias (n := 6384) rfl rfl (zz_inbN (by omega) (by omega)) ?_
  rw [zz_toN (by omega)]
  refine zz_fin.steps (n := 2) (s' := (70, [some (.ref 540), some (.int (Int32.ofNat t)), some (.int w2), some (.int (Int32.ofNat (4 + 50 * t))), some (.int (Int32.ofNat x)), y], [.int (Int32.ofNat x), .int (Int32.ofNat t)], aa_H (zz_w g1 541 (4 + 50 * t) (Int32.ofNat d)))) rfl ?_
  refine zz_fin.call rfl rfl (Nat.le_of_ble_eq_true rfl) at_all ?_
  rintro v h ⟨rfl, rfl⟩
  refine zz_fin.steps (n := 1) (s' := (75, [some (.ref 540), some (.int (Int32.ofNat t)), some (.int w2), some (.int (Int32.ofNat (4 + 50 * t))), some (.int (Int32.ofNat x)), some (.int (Int32.ofNat (5 + 50 * t + 4 * x)))], [], aa_H (zz_w g1 541 (4 + 50 * t) (Int32.ofNat d)))) rfl ?_
  have ei : aa_iv 36 (4 + 50 * t) = (0, 12) := by
    rcases (show t = 0 ∨ t = 1 ∨ t = 2 ∨ t = 3 by omega) with rfl | rfl | rfl | rfl <;> rfl
  have q1 : aa_inv (zz_w g1 541 (4 + 50 * t) (Int32.ofNat d)) := by
    refine aa_inv_w k1 ?_ ?_
    · show (aa_iv 36 (4 + 50 * t)).1 ≤ _
      rw [ei, zz_ofN (by omega)]
      show (0 : Int) ≤ (d : Int)
      omega
    · show _ ≤ (aa_iv 36 (4 + 50 * t)).2
      rw [ei, zz_ofN (by omega)]
      show (d : Int) ≤ 12
      omega
  refine dn_loop (c := d) (S := 5 + 50 * t + 4 * x) (E := 5 + 50 * t + 4 * d) (by omega) ht (by omega) rfl (zz_w g1 541 (4 + 50 * t) (Int32.ofNat d)) (aa_w_at _ _ _ _) (fun g3 z hd => ?_) (4 * d - 4 * x) _ (by omega) (Nat.le_refl _) _ ⟨fun q hq hq2 => absurd hq2 (by omega), fun _ _ _ => rfl⟩
  have q2 : aa_inv g3 := aa_dn_inv hd q1 ht (by omega) (by omega)
  have hcn : g3 541 (4 + 50 * t) = Int32.ofNat d := by rw [hd.2 541 _ (by omega), aa_w_at]
  have hold : ∀ j, 4 + 50 * t < j → j < 5 + 50 * t + 4 * x → g3 541 j = g1 541 j := fun j j1 j2 => by rw [hd.2 541 _ (by omega), aa_w_ne _ _ (by omega)]
  have hnew : ∀ j, 5 + 50 * t + 4 * x ≤ j → j < 5 + 50 * t + 4 * d → g3 541 j = g1 541 (j + 4) := fun j j1 j2 => by rw [hd.1 j j1 j2, aa_w_ne _ _ (by omega)]
  have tb : aa_tb g1 g3 t := fun k j hj => by rw [hd.2 k j (by omega), aa_w_ne _ _ (by omega)]
  have hc1 : (g1 541 (4 + 50 * t)).toInt = (d : Int) + 1 := by
    have h1 : g1 541 (4 + 50 * t) = Int32.ofNat (d + 1) := h1
    rw [h1, zz_ofN (by omega)]
    omega
  have gd1 : ∀ i : Nat, i < d + 1 → aa_gd g1 (5 + 50 * t + 4 * i) := fun i hi => by
    have := (k2.1 0 (by omega)).1 t i ht (by omega) (by rw [show 399 * 0 + 50 * t + 4 = 4 + 50 * t by omega]; omega)
    rwa [show 399 * 0 + 50 * t + 4 * i + 5 = 5 + 50 * t + 4 * i by omega] at this
  have q3 : aa_Phi g3 := by
    refine aa_Phi_tb ht k2 tb fun i hi hic => ?_
    rw [hcn, zz_ofN (by omega)] at hic
    by_cases e : i < x
    · have := gd1 i (by omega)
      unfold aa_gd at this ⊢
      rwa [hold _ (by omega) (by omega), hold _ (by omega) (by omega), hold _ (by omega) (by omega)]
    · have := gd1 (i + 1) (by omega)
      unfold aa_gd at this ⊢
      rw [hnew _ (by omega) (by omega), hnew _ (by omega) (by omega), hnew _ (by omega) (by omega)]
      rwa [show 5 + 50 * t + 4 * i + 3 + 4 = 5 + 50 * t + 4 * (i + 1) + 3 by omega, show 5 + 50 * t + 4 * i + 1 + 4 = 5 + 50 * t + 4 * (i + 1) + 1 by omega, show 5 + 50 * t + 4 * i + 2 + 4 = 5 + 50 * t + 4 * (i + 1) + 2 by omega]
  have hcn' : (aa_H g3).2.2 541 (4 + 50 * t) = Int32.ofNat d := hcn
  refine zz_fin.steps (n := 3) (s' := (117, [some (.ref 540), some (.int (Int32.ofNat t)), some (.int w2), some (.int (Int32.ofNat (4 + 50 * t))), some (.int (Int32.ofNat x)), z], [.int (Int32.ofNat (4 + 50 * t)), .ref 541], aa_H g3)) rfl ?_
  refine zz_fin.ial (n := 6384) rfl rfl (zz_inbN (by omega) (by omega)) ?_
  rw [zz_toN (by omega), hcn']
  refine zz_fin.at (n := 1) rfl ⟨g3, rfl, q2, q3, (aa_dw_rw k3).tr (aa_tb_fr ht tb (by decide)), _, rfl, ?_, ?_⟩
  · rw [zz_ofN (by omega)]
    omega
  · rw [zz_ofN (by omega)]
    omega
end
section
/-! BY HAND: remove, its contract -/
theorem remove_all {g : aa_G} (h5 : aa_inv g) (h6 : aa_Phi g) {w1 w2 : Int32} : zz_fin none 259 (0, zz_in [.ref 540, .int w1, .int w2] (zz_nl 259), [], aa_H g) (aa_rpost g) := by
  have no : aa_rpost g (some (.int (-1))) (aa_H g) := ⟨g, rfl, h5, h6, aa_fr.rf, -1, rfl, by decide, by decide⟩
  refine zz_fin.steps (n := 2) (s' := (2, [some (.ref 540), some (.int w1), some (.int w2), none, none, none], [.int w1, .ref 540], aa_H g)) rfl ?_
  refine zz_fin.call rfl rfl (Nat.le_of_ble_eq_true rfl) (town_all h5) ?_
  rintro v h ⟨hv, rfl⟩
  rcases hv with rfl | ⟨rfl, t, ht, rfl⟩
  · exact zz_fin.at (n := 3) rfl no
  · obtain ⟨c, hc, -, h0⟩ := aa_cnt h5 ht
    have h0' : (aa_H g).2.2 541 (4 + 50 * t) = Int32.ofNat c := h0
    refine zz_fin.steps (n := 2) (s' := (11, [some (.ref 540), some (.int (Int32.ofNat t)), some (.int w2), none, none, none], [.int (Int32.ofNat t)], aa_H g)) rfl ?_
    refine zz_fin.call rfl rfl (Nat.le_of_ble_eq_true rfl) tab_all ?_
    rintro v h ⟨rfl, rfl⟩
    refine zz_fin.steps (n := 3) (s' := (17, [some (.ref 540), some (.int (Int32.ofNat t)), some (.int w2), some (.int (Int32.ofNat (3 + 50 * t) + Int32.ofNat 1)), none, none], [], aa_H g)) rfl ?_
    rw [show Int32.ofNat (3 + 50 * t) + Int32.ofNat 1 = Int32.ofNat (4 + 50 * t) by rw [← Int32.ofNat_add, show 3 + 50 * t + 1 = 4 + 50 * t by omega]]
    refine zz_fin.steps (n := 3) (s' := (20, [some (.ref 540), some (.int (Int32.ofNat t)), some (.int w2), some (.int (Int32.ofNat (4 + 50 * t))), none, none], [.int w2, .int (Int32.ofNat t), .ref 540], aa_H g)) rfl ?_
    refine zz_fin.call rfl rfl (Nat.le_of_ble_eq_true rfl) (point_all ht hc h0) ?_
    rintro v h ⟨⟨x, hx, rfl⟩, rfl⟩
    refine zz_fin.steps (n := 5) (s' := (32, [some (.ref 540), some (.int (Int32.ofNat t)), some (.int w2), some (.int (Int32.ofNat (4 + 50 * t))), some (.int (Int32.ofNat x)), none], [.int (Int32.ofNat (4 + 50 * t)), .ref 541, .int (Int32.ofNat x)], aa_H g)) rfl ?_
    refine zz_fin.ial (n := 6384) rfl rfl (zz_inbN (by omega) (by omega)) ?_
    rw [zz_toN (by omega), h0']
    refine zz_fin.ic rfl (fun d => ?_) (fun d => ?_)
    · exact zz_fin.at (n := 2) rfl no
    · have d : ¬ (Int32.ofNat x).toInt - (Int32.ofNat c).toInt = 0 := fun z => d ((aa_cmp _ _ _).mpr z)
      rw [zz_ofN (by omega), zz_ofN (by omega)] at d
      refine zz_fin.steps (n := 4) (s' := (43, [some (.ref 540), some (.int (Int32.ofNat t)), some (.int w2), some (.int (Int32.ofNat (4 + 50 * t))), some (.int (Int32.ofNat x)), none], [.int (Int32.ofNat x), .int (Int32.ofNat t), .ref 541], aa_H g)) rfl ?_
      refine zz_fin.call rfl rfl (Nat.le_of_ble_eq_true rfl) at_all ?_
      rintro v h ⟨rfl, rfl⟩
      refine zz_fin.ial (n := 6384) rfl rfl (zz_inbN (by omega) (by omega)) ?_
      refine zz_fin.steps (n := 1) (s' := (48, [some (.ref 540), some (.int (Int32.ofNat t)), some (.int w2), some (.int (Int32.ofNat (4 + 50 * t))), some (.int (Int32.ofNat x)), none], [.int w2, .int (g 541 (Int32.ofNat (5 + 50 * t + 4 * x)).toNatClampNeg)], aa_H g)) rfl ?_
      refine zz_fin.ic rfl (fun e => ?_) (fun e => ?_)
      · exact remove_tail h5 h6 ht (by omega) hc h0
      · exact zz_fin.at (n := 2) rfl no
theorem aa_h13 : aa_met aa_Phi aa_m13 := by
  intro ν0 g as h1 h2 h3 h4 h5 h6
  obtain ⟨as, rfl, h7⟩ := aa_this h4
  clear h4
  obtain ⟨w1, as, rfl, e1, h8⟩ := aa_ms_int h7
  clear h7
  obtain ⟨w2, as, rfl, e2, h7⟩ := aa_ms_int h8
  clear h8
  have hlen : ν0.length = 2 := h1.1
  match ν0, hlen, h1, as, h7 with
  | [a, b], _, h1, [], _ =>
    refine (remove_all h5 h6).mono ?_
    rintro v h ⟨g', rfl, k1, k2, k3, z, rfl, z1, z2⟩
    refine ⟨g', rfl, k1, k2, k3, _, List.mem_cons_self, [z.toInt], aa_vb_new h1 (lo := -1) (hi := 12) (gr := 0) z1 z2 (fun y => absurd rfl y), fun f hf => (by cases hf), fun q hq => (by cases hq), Nat.one_ne_zero, z, rfl, ?_⟩
    show some ((0 : Int) + (1 * z.toInt + 0)) = some _
    congr 1
    omega
end
section
/-! BY HAND: set, from the point's own writing on -/
theorem set_tail {g0 g1 g : aa_G} (k3 : aa_fr aa_dw g0 g1) (h6 : aa_Phi g1) (h5 : aa_inv g) {t x c : Nat} (ht : t < 4) (hx : x < c) (hc : c ≤ 12) (h0 : g 541 (4 + 50 * t) = Int32.ofNat c) (tb : aa_tb g1 g t) (hp : ∀ i, i < c → i ≠ x → aa_gd g (5 + 50 * t + 4 * i)) {w2 w3 w4 : Int32} (a0 : 0 ≤ w2.toInt) (a1 : w2.toInt ≤ 359) (b0 : 0 ≤ w3.toInt) (b1 : w3.toInt < w4.toInt) (b2 : w4.toInt ≤ 86399) {z7 : Int32} {y : Option Value} : zz_fin none 257 (179, [some (.ref 540), some (.int (Int32.ofNat t)), some (.int w2), some (.int w3), some (.int w4), some (.int (Int32.ofNat (4 + 50 * t))), some (.int (Int32.ofNat x)), some (.int z7), y], [], aa_H g) (aa_rpost g0) := by
  have em : (-1 : Int32).toInt = -1 := rfl
  refine zz_fin.steps (n := 4) (s' := (186, [some (.ref 540), some (.int (Int32.ofNat t)), some (.int w2), some (.int w3), some (.int w4), some (.int (Int32.ofNat (4 + 50 * t))), some (.int (Int32.ofNat x)), some (.int z7), y], [.int (Int32.ofNat x), .int (Int32.ofNat t), .ref 541], aa_H g)) rfl ?_
  refine zz_fin.call rfl rfl (Nat.le_of_ble_eq_true rfl) at_all ?_
  rintro v h ⟨rfl, rfl⟩
  refine zz_fin.steps (n := 1) (s' := (190, [some (.ref 540), some (.int (Int32.ofNat t)), some (.int w2), some (.int w3), some (.int w4), some (.int (Int32.ofNat (4 + 50 * t))), some (.int (Int32.ofNat x)), some (.int z7), y], [.int w2, .int (Int32.ofNat (5 + 50 * t + 4 * x)), .ref 541], aa_H g)) rfl ?_
  refine zz_fin.ias (n := 6384) rfl rfl (zz_inbN (by omega) (by omega)) ?_
  rw [zz_toN (by omega)]
  refine zz_fin.steps (n := 3) (s' := (195, [some (.ref 540), some (.int (Int32.ofNat t)), some (.int w2), some (.int w3), some (.int w4), some (.int (Int32.ofNat (4 + 50 * t))), some (.int (Int32.ofNat x)), some (.int z7), y], [.int (Int32.ofNat x), .int (Int32.ofNat t), .ref 540], aa_H (zz_w g 541 (5 + 50 * t + 4 * x) w2))) rfl ?_
  refine zz_fin.call rfl rfl (Nat.le_of_ble_eq_true rfl) at_all ?_
  rintro v h ⟨rfl, rfl⟩
  refine zz_fin.steps (n := 3) (s' := (202, [some (.ref 540), some (.int (Int32.ofNat t)), some (.int w2), some (.int w3), some (.int w4), some (.int (Int32.ofNat (4 + 50 * t))), some (.int (Int32.ofNat x)), some (.int z7), y], [.int (-1), .int w4, .int w3, .int (Int32.ofNat (5 + 50 * t + 4 * x)), .ref 540], aa_H (zz_w g 541 (5 + 50 * t + 4 * x) w2))) rfl ?_
  refine zz_fin.call rfl rfl (Nat.le_of_ble_eq_true rfl) (point_lay (by omega)) ?_
  rintro v h ⟨rfl, rfl⟩
  have bd : ∀ k, k < 4 → aa_iv 36 (5 + 50 * t + 4 * x + k) = aa_town (4 * x + k + 2) := fun k hk => by
    rw [show 5 + 50 * t + 4 * x + k = 5 + 50 * t + (4 * x + k) by omega, aa_iv_pt ht (by omega)]
  have bd0 : aa_iv 36 (5 + 50 * t + 4 * x) = (0, 359) := by
    rw [show 5 + 50 * t + 4 * x = 5 + 50 * t + 4 * x + 0 by omega, bd 0 (by omega), show 4 * x + 0 + 2 = 4 * x + 2 by omega, aa_town_neg, show 4 * x % 4 = 0 by omega]
    rfl
  have bd1 := bd 1 (by omega)
  have bd2 := bd 2 (by omega)
  have bd3 := bd 3 (by omega)
  rw [aa_town1] at bd1
  rw [aa_town2] at bd2
  rw [aa_town3] at bd3
  have q1 : aa_inv (zz_w g 541 (5 + 50 * t + 4 * x) w2) := aa_inv_w h5 (by show (aa_iv 36 _).1 ≤ _; rw [bd0]; exact a0) (by show _ ≤ (aa_iv 36 _).2; rw [bd0]; exact a1)
  have q2 := aa_inv_w q1 (k := 541) (j := 5 + 50 * t + 4 * x + 1) (v := w3) (by show (aa_iv 36 _).1 ≤ _; rw [bd1]; show (-1 : Int) ≤ _; omega) (by show _ ≤ (aa_iv 36 _).2; rw [bd1]; show _ ≤ (86399 : Int); omega)
  have q3 := aa_inv_w q2 (k := 541) (j := 5 + 50 * t + 4 * x + 2) (v := w4) (by show (aa_iv 36 _).1 ≤ _; rw [bd2]; show (-1 : Int) ≤ _; omega) (by show _ ≤ (aa_iv 36 _).2; rw [bd2]; show _ ≤ (86399 : Int); omega)
  have q4 := aa_inv_w q3 (k := 541) (j := 5 + 50 * t + 4 * x + 3) (v := -1) (by show (aa_iv 36 _).1 ≤ _; rw [bd3]; show (-1 : Int) ≤ _; omega) (by show _ ≤ (aa_iv 36 _).2; rw [bd3]; show _ ≤ (1 : Int); omega)
  have out : ∀ k j, ¬ (k = 541 ∧ 5 + 50 * t + 4 * x ≤ j ∧ j < 5 + 50 * t + 4 * x + 4) → zz_w (zz_w (zz_w (zz_w g 541 (5 + 50 * t + 4 * x) w2) 541 (5 + 50 * t + 4 * x + 1) w3) 541 (5 + 50 * t + 4 * x + 2) w4) 541 (5 + 50 * t + 4 * x + 3) (-1) k j = g k j := fun k j hj => by
    rw [aa_w_ne _ _ (by omega), aa_w_ne _ _ (by omega), aa_w_ne _ _ (by omega), aa_w_ne _ _ (by omega)]
  have p1 : zz_w (zz_w (zz_w (zz_w g 541 (5 + 50 * t + 4 * x) w2) 541 (5 + 50 * t + 4 * x + 1) w3) 541 (5 + 50 * t + 4 * x + 2) w4) 541 (5 + 50 * t + 4 * x + 3) (-1) 541 (5 + 50 * t + 4 * x + 1) = w3 := by
    rw [aa_w_ne _ _ (by omega), aa_w_ne _ _ (by omega), aa_w_at]
  have p2 : zz_w (zz_w (zz_w (zz_w g 541 (5 + 50 * t + 4 * x) w2) 541 (5 + 50 * t + 4 * x + 1) w3) 541 (5 + 50 * t + 4 * x + 2) w4) 541 (5 + 50 * t + 4 * x + 3) (-1) 541 (5 + 50 * t + 4 * x + 2) = w4 := by
    rw [aa_w_ne _ _ (by omega), aa_w_at]
  generalize zz_w (zz_w (zz_w (zz_w g 541 (5 + 50 * t + 4 * x) w2) 541 (5 + 50 * t + 4 * x + 1) w3) 541 (5 + 50 * t + 4 * x + 2) w4) 541 (5 + 50 * t + 4 * x + 3) (-1) = G at *
  have tb2 : aa_tb g1 G t := fun k j hj => by rw [out k j (by omega), tb k j hj]
  have hG : (aa_H G).2.2 541 (4 + 50 * t) = Int32.ofNat c := (out 541 _ (by omega)).trans h0
  have q5 : aa_Phi G := by
    refine aa_Phi_tb ht h6 tb2 fun i hi hic => ?_
    have hG : G 541 (4 + 50 * t) = Int32.ofNat c := hG
    rw [hG, zz_ofN (by omega)] at hic
    by_cases e : i = x
    · subst e
      intro _
      rw [p1, p2]
      exact ⟨b0, b1⟩
    · have := hp i (by omega) e
      unfold aa_gd at this ⊢
      rwa [out 541 _ (by omega), out 541 _ (by omega), out 541 _ (by omega)]
  refine zz_fin.steps (n := 3) (s' := (211, [some (.ref 540), some (.int (Int32.ofNat t)), some (.int w2), some (.int w3), some (.int w4), some (.int (Int32.ofNat (4 + 50 * t))), some (.int (Int32.ofNat x)), some (.int z7), y], [.int (Int32.ofNat (4 + 50 * t)), .ref 541], aa_H G)) rfl ?_
  refine zz_fin.ial (n := 6384) rfl rfl (zz_inbN (by omega) (by omega)) ?_
  rw [zz_toN (by omega), hG]
  refine zz_fin.at (n := 1) rfl ⟨G, rfl, q4, q5, (aa_dw_rw k3).tr (aa_tb_fr ht tb2 (by decide)), _, rfl, ?_, ?_⟩
  · rw [zz_ofN (by omega)]
    omega
  · rw [zz_ofN (by omega)]
    omega
end
section
/-! BY HAND: set, from the deed on -/
theorem set_mid {g : aa_G} (h5 : aa_inv g) (h6 : aa_Phi g) {t x c : Nat} (ht : t < 4) (hc : c ≤ 12) (h0 : g 541 (4 + 50 * t) = Int32.ofNat c) {w2 w3 w4 : Int32} (a0 : 0 ≤ w2.toInt) (a1 : w2.toInt ≤ 359) (b0 : 0 ≤ w3.toInt) (b1 : w3.toInt < w4.toInt) (b2 : w4.toInt ≤ 86399) {z7 : Int32} (hz : (z7 ≠ 0 ∧ x < c) ∨ (z7 = 0 ∧ x ≤ c ∧ c ≤ 11)) {y : Option Value} : zz_fin none 257 (111, [some (.ref 540), some (.int (Int32.ofNat t)), some (.int w2), some (.int w3), some (.int w4), some (.int (Int32.ofNat (4 + 50 * t))), some (.int (Int32.ofNat x)), some (.int z7), y], [], aa_H g) (aa_rpost g) := by
  have e1 : (1 : Int32).toInt = 1 := rfl
  refine zz_fin.steps (n := 1) (s' := (112, [some (.ref 540), some (.int (Int32.ofNat t)), some (.int w2), some (.int w3), some (.int w4), some (.int (Int32.ofNat (4 + 50 * t))), some (.int (Int32.ofNat x)), some (.int z7), y], [.ref 540], aa_H g)) rfl ?_
  refine zz_fin.call rfl rfl (Nat.le_of_ble_eq_true rfl) (deed156 h5 h6) ?_
  rintro v h ⟨rfl, g1, rfl, k1, k2, k3⟩
  have h1 : g1 541 (4 + 50 * t) = Int32.ofNat c := (aa_dw_same k3 (by omega)).trans h0
  have h1' : (aa_H g1).2.2 541 (4 + 50 * t) = Int32.ofNat c := h1
  have gd1 : ∀ i : Nat, i < c → aa_gd g1 (5 + 50 * t + 4 * i) := fun i hi => by
    have := (k2.1 0 (by omega)).1 t i ht (by omega) (by rw [show 399 * 0 + 50 * t + 4 = 4 + 50 * t by omega, h1, zz_ofN (by omega)]; omega)
    rwa [show 399 * 0 + 50 * t + 4 * i + 5 = 5 + 50 * t + 4 * i by omega] at this
  refine zz_fin.steps (n := 1) (s' := (117, [some (.ref 540), some (.int (Int32.ofNat t)), some (.int w2), some (.int w3), some (.int w4), some (.int (Int32.ofNat (4 + 50 * t))), some (.int (Int32.ofNat x)), some (.int z7), y], [.int z7], aa_H g1)) rfl ?_
  refine zz_fin.if rfl (fun d => ?_) (fun d => ?_)
  · have d : z7 ≠ 0 := of_decide_eq_true d
    have hx : x < c := by
      rcases hz with z | z
      · exact z.2
      · exact absurd z.1 d
    exact set_tail k3 k2 k1 ht hx hc h1 (fun _ _ _ => rfl) (fun i hi _ => gd1 i hi) a0 a1 b0 b1 b2
  · have hx : x ≤ c ∧ c ≤ 11 := by
      rcases hz with z | z
      · exact absurd (decide_eq_true z.1) d
      · exact z.2
    obtain ⟨hx, hc1⟩ := hx
    refine zz_fin.steps (n := 4) (s' := (127, [some (.ref 540), some (.int (Int32.ofNat t)), some (.int w2), some (.int w3), some (.int w4), some (.int (Int32.ofNat (4 + 50 * t))), some (.int (Int32.ofNat x)), some (.int z7), y], [.int (Int32.ofNat (4 + 50 * t)), .ref 541, .int (Int32.ofNat t)], aa_H g1)) rfl ?_
    refine zz_fin.ial (n := 6384) rfl rfl (zz_inbN (by omega) (by omega)) ?_
    rw [zz_toN (by omega), h1']
    refine zz_fin.call rfl rfl (Nat.le_of_ble_eq_true rfl) at_all ?_
    rintro v h ⟨rfl, rfl⟩
    refine zz_fin.steps (n := 3) (s' := (135, [some (.ref 540), some (.int (Int32.ofNat t)), some (.int w2), some (.int w3), some (.int w4), some (.int (Int32.ofNat (4 + 50 * t))), some (.int (Int32.ofNat x)), some (.int z7), some (.int (Int32.ofNat (5 + 50 * t + 4 * c) - 1))], [], aa_H g1)) rfl ?_
    rw [show Int32.ofNat (5 + 50 * t + 4 * c) - 1 = Int32.ofNat (4 + 50 * t + 4 * c) from aa_eqN (by rw [aa_sub32 (by rw [zz_ofN (by omega), e1]; omega) (by rw [zz_ofN (by omega), e1]; omega), zz_ofN (by omega), e1]; omega) (by omega)]
    refine up_loop (S := 5 + 50 * t + 4 * x) (E := 5 + 50 * t + 4 * c) (by omega) ht rfl (by omega) g1 (fun g2 z hu => ?_) (4 * c - 4 * x) _ (by omega) (by omega) g1 ⟨fun q hq hq2 => absurd hq2 (by omega), fun _ _ _ => rfl⟩
    have h2' : (aa_H g2).2.2 541 (4 + 50 * t) = Int32.ofNat c := (hu.2 541 _ (by omega)).trans h1
    refine zz_fin.steps (n := 4) (s' := (175, [some (.ref 540), some (.int (Int32.ofNat t)), some (.int w2), some (.int w3), some (.int w4), some (.int (Int32.ofNat (4 + 50 * t))), some (.int (Int32.ofNat x)), some (.int z7), z], [.int (Int32.ofNat (4 + 50 * t)), .ref 541, .int (Int32.ofNat (4 + 50 * t)), .ref 541], aa_H g2)) rfl ?_
    refine zz_fin.ial (n := 6384) rfl rfl (zz_inbN (by omega) (by omega)) ?_
    rw [zz_toN (by omega), h2']
    refine zz_fin.steps (n := 2) (s' := (178, [some (.ref 540), some (.int (Int32.ofNat t)), some (.int w2), some (.int w3), some (.int w4), some (.int (Int32.ofNat (4 + 50 * t))), some (.int (Int32.ofNat x)), some (.int z7), z], [.int (Int32.ofNat c + 1), .int (Int32.ofNat (4 + 50 * t)), .ref 541], aa_H g2)) rfl ?_
    rw [show Int32.ofNat c + 1 = Int32.ofNat (c + 1) from (Int32.ofNat_add c 1).symm]
    refine zz_fin.ias (n := 6384) rfl rfl (zz_inbN (by omega) (by omega)) ?_
    rw [zz_toN (by omega)]
    have ei : aa_iv 36 (4 + 50 * t) = (0, 12) := by
      rcases (show t = 0 ∨ t = 1 ∨ t = 2 ∨ t = 3 by omega) with rfl | rfl | rfl | rfl <;> rfl
    have q1 : aa_inv (zz_w g2 541 (4 + 50 * t) (Int32.ofNat (c + 1))) := by
      refine aa_inv_w (aa_up_inv hu k1 ht (by omega) (by omega)) ?_ ?_
      · show (aa_iv 36 (4 + 50 * t)).1 ≤ _
        rw [ei, zz_ofN (by omega)]
        show (0 : Int) ≤ _
        omega
      · show _ ≤ (aa_iv 36 (4 + 50 * t)).2
        rw [ei, zz_ofN (by omega)]
        show _ ≤ (12 : Int)
        omega
    refine set_tail (c := c + 1) k3 k2 q1 ht (by omega) (by omega) (aa_w_at _ _ _ _) (fun k j hj => by rw [aa_w_ne _ _ (by omega), hu.2 k j (by omega)]) (fun i hi hne => ?_) a0 a1 b0 b1 b2
    by_cases e : i < x
    · have := gd1 i (by omega)
      unfold aa_gd at this ⊢
      rw [aa_w_ne _ _ (by omega), aa_w_ne _ _ (by omega), aa_w_ne _ _ (by omega)]
      rwa [hu.2 541 _ (by omega), hu.2 541 _ (by omega), hu.2 541 _ (by omega)]
    · obtain ⟨i, rfl⟩ : ∃ k, i = k + 1 := ⟨i - 1, by omega⟩
      have := gd1 i (by omega)
      unfold aa_gd at this ⊢
      rw [aa_w_ne _ _ (by omega), aa_w_ne _ _ (by omega), aa_w_ne _ _ (by omega)]
      rw [show 5 + 50 * t + 4 * (i + 1) + 3 = 5 + 50 * t + 4 * i + 3 + 4 by omega, show 5 + 50 * t + 4 * (i + 1) + 1 = 5 + 50 * t + 4 * i + 1 + 4 by omega, show 5 + 50 * t + 4 * (i + 1) + 2 = 5 + 50 * t + 4 * i + 2 + 4 by omega]
      rwa [hu.1 _ (by omega) (by omega), hu.1 _ (by omega) (by omega), hu.1 _ (by omega) (by omega)]
end
section
/-! BY HAND: set, up to the deed -/
theorem set_find {g : aa_G} (h5 : aa_inv g) (h6 : aa_Phi g) {t : Nat} (ht : t < 4) {w2 w3 w4 : Int32} (a0 : 0 ≤ w2.toInt) (a1 : w2.toInt ≤ 359) (b0 : 0 ≤ w3.toInt) (b1 : w3.toInt < w4.toInt) (b2 : w4.toInt ≤ 86399) : zz_fin none 257 (42, [some (.ref 540), some (.int (Int32.ofNat t)), some (.int w2), some (.int w3), some (.int w4), none, none, none, none], [], aa_H g) (aa_rpost g) := by
  have no : aa_rpost g (some (.int (-1))) (aa_H g) := ⟨g, rfl, h5, h6, aa_fr.rf, -1, rfl, by decide, by decide⟩
  obtain ⟨c, hc, -, h0⟩ := aa_cnt h5 ht
  have h0' : (aa_H g).2.2 541 (4 + 50 * t) = Int32.ofNat c := h0
  refine zz_fin.steps (n := 1) (s' := (43, [some (.ref 540), some (.int (Int32.ofNat t)), some (.int w2), some (.int w3), some (.int w4), none, none, none, none], [.int (Int32.ofNat t)], aa_H g)) rfl ?_
  refine zz_fin.call rfl rfl (Nat.le_of_ble_eq_true rfl) tab_all ?_
  rintro v h ⟨rfl, rfl⟩
  refine zz_fin.steps (n := 3) (s' := (50, [some (.ref 540), some (.int (Int32.ofNat t)), some (.int w2), some (.int w3), some (.int w4), some (.int (Int32.ofNat (3 + 50 * t) + Int32.ofNat 1)), none, none, none], [], aa_H g)) rfl ?_
  rw [show Int32.ofNat (3 + 50 * t) + Int32.ofNat 1 = Int32.ofNat (4 + 50 * t) by rw [← Int32.ofNat_add, show 3 + 50 * t + 1 = 4 + 50 * t by omega]]
  refine zz_fin.steps (n := 3) (s' := (53, [some (.ref 540), some (.int (Int32.ofNat t)), some (.int w2), some (.int w3), some (.int w4), some (.int (Int32.ofNat (4 + 50 * t))), none, none, none], [.int w2, .int (Int32.ofNat t), .ref 540], aa_H g)) rfl ?_
  refine zz_fin.call rfl rfl (Nat.le_of_ble_eq_true rfl) (point_all ht hc h0) ?_
  rintro v h ⟨⟨x, hx, rfl⟩, rfl⟩
  refine zz_fin.steps (n := 5) (s' := (66, [some (.ref 540), some (.int (Int32.ofNat t)), some (.int w2), some (.int w3), some (.int w4), some (.int (Int32.ofNat (4 + 50 * t))), some (.int (Int32.ofNat x)), none, none], [.int (Int32.ofNat (4 + 50 * t)), .ref 541, .int (Int32.ofNat x)], aa_H g)) rfl ?_
  refine zz_fin.ial (n := 6384) rfl rfl (zz_inbN (by omega) (by omega)) ?_
  rw [zz_toN (by omega), h0']
  have neu : zz_fin none 257 (89, [some (.ref 540), some (.int (Int32.ofNat t)), some (.int w2), some (.int w3), some (.int w4), some (.int (Int32.ofNat (4 + 50 * t))), some (.int (Int32.ofNat x)), none, none], [], aa_H g) (aa_rpost g) := by
    refine zz_fin.steps (n := 7) (s' := (103, [some (.ref 540), some (.int (Int32.ofNat t)), some (.int w2), some (.int w3), some (.int w4), some (.int (Int32.ofNat (4 + 50 * t))), some (.int (Int32.ofNat x)), some (.int 0), none], [.int (Int32.ofNat (4 + 50 * t)), .ref 541], aa_H g)) rfl ?_
    refine zz_fin.ial (n := 6384) rfl rfl (zz_inbN (by omega) (by omega)) ?_
    rw [zz_toN (by omega), h0']
    refine zz_fin.steps (n := 1) (s' := (106, [some (.ref 540), some (.int (Int32.ofNat t)), some (.int w2), some (.int w3), some (.int w4), some (.int (Int32.ofNat (4 + 50 * t))), some (.int (Int32.ofNat x)), some (.int 0), none], [.int 12, .int (Int32.ofNat c)], aa_H g)) rfl ?_
    refine zz_fin.ic rfl (fun d => ?_) (fun d => ?_)
    · have d : (Int32.ofNat c).toInt - (12 : Int32).toInt ≠ 0 := (aa_cmp _ _ _).mp d
      have e12 : (12 : Int32).toInt = 12 := rfl
      rw [zz_ofN (by omega), e12] at d
      exact set_mid h5 h6 ht hc h0 a0 a1 b0 b1 b2 (.inr ⟨rfl, hx, by omega⟩)
    · exact zz_fin.at (n := 2) rfl no
  refine zz_fin.ic rfl (fun d => neu) (fun d => ?_)
  have d : ¬ (0 : Int) ≤ (Int32.ofNat x).toInt - (Int32.ofNat c).toInt := fun z => d ((aa_cmp _ _ _).mpr z)
  rw [zz_ofN (by omega), zz_ofN (by omega)] at d
  refine zz_fin.steps (n := 4) (s' := (77, [some (.ref 540), some (.int (Int32.ofNat t)), some (.int w2), some (.int w3), some (.int w4), some (.int (Int32.ofNat (4 + 50 * t))), some (.int (Int32.ofNat x)), none, none], [.int (Int32.ofNat x), .int (Int32.ofNat t), .ref 541], aa_H g)) rfl ?_
  refine zz_fin.call rfl rfl (Nat.le_of_ble_eq_true rfl) at_all ?_
  rintro v h ⟨rfl, rfl⟩
  refine zz_fin.ial (n := 6384) rfl rfl (zz_inbN (by omega) (by omega)) ?_
  refine zz_fin.steps (n := 1) (s' := (82, [some (.ref 540), some (.int (Int32.ofNat t)), some (.int w2), some (.int w3), some (.int w4), some (.int (Int32.ofNat (4 + 50 * t))), some (.int (Int32.ofNat x)), none, none], [.int w2, .int (g 541 (Int32.ofNat (5 + 50 * t + 4 * x)).toNatClampNeg)], aa_H g)) rfl ?_
  refine zz_fin.ic rfl (fun e => neu) (fun e => ?_)
  refine zz_fin.steps (n := 5) (s' := (111, [some (.ref 540), some (.int (Int32.ofNat t)), some (.int w2), some (.int w3), some (.int w4), some (.int (Int32.ofNat (4 + 50 * t))), some (.int (Int32.ofNat x)), some (.int 1), none], [], aa_H g)) rfl ?_
  exact set_mid h5 h6 ht hc h0 a0 a1 b0 b1 b2 (.inl ⟨by decide, by omega⟩)
end
section
/-! BY HAND: set, its contract -/
theorem set_all {g : aa_G} (h5 : aa_inv g) (h6 : aa_Phi g) {w1 w2 w3 w4 : Int32} : zz_fin none 257 (0, zz_in [.ref 540, .int w1, .int w2, .int w3, .int w4] (zz_nl 257), [], aa_H g) (aa_rpost g) := by
  have no : aa_rpost g (some (.int (-1))) (aa_H g) := ⟨g, rfl, h5, h6, aa_fr.rf, -1, rfl, by decide, by decide⟩
  refine zz_fin.steps (n := 2) (s' := (2, [some (.ref 540), some (.int w1), some (.int w2), some (.int w3), some (.int w4), none, none, none, none], [.int w1, .ref 540], aa_H g)) rfl ?_
  refine zz_fin.call rfl rfl (Nat.le_of_ble_eq_true rfl) (town_all h5) ?_
  rintro v h ⟨rfl | ⟨rfl, t, ht, rfl⟩, rfl⟩
  · exact zz_fin.at (n := 3) rfl no
  refine zz_fin.steps (n := 4) (s' := (13, [some (.ref 540), some (.int (Int32.ofNat t)), some (.int w2), some (.int w3), some (.int w4), none, none, none, none], [.int 359, .int 0, .int w2], aa_H g)) rfl ?_
  by_cases c : (0 : Int32) ≤ w2 ∧ w2 ≤ 359
  · refine zz_fin.call rfl rfl (Nat.le_of_ble_eq_true rfl) (zz_within1 (.inr rfl) c) ?_
    rintro v h ⟨rfl, rfl⟩
    have c1 : (0 : Int) ≤ w2.toInt := aa_le32.mp c.1
    have c2 : w2.toInt ≤ (359 : Int32).toInt := aa_le32.mp c.2
    have e : (359 : Int32).toInt = 359 := rfl
    refine zz_fin.steps (n := 2) (s' := (20, [some (.ref 540), some (.int (Int32.ofNat t)), some (.int w2), some (.int w3), some (.int w4), none, none, none, none], [.int w3], aa_H g)) rfl ?_
    refine zz_fin.call rfl rfl (Nat.le_of_ble_eq_true rfl) second_all ?_
    rintro v h ⟨rfl | ⟨rfl, b0, b1⟩, rfl⟩
    · exact zz_fin.at (n := 3) rfl no
    refine zz_fin.steps (n := 2) (s' := (28, [some (.ref 540), some (.int (Int32.ofNat t)), some (.int w2), some (.int w3), some (.int w4), none, none, none, none], [.int w4], aa_H g)) rfl ?_
    refine zz_fin.call rfl rfl (Nat.le_of_ble_eq_true rfl) second_all ?_
    rintro v h ⟨rfl | ⟨rfl, d0, d1⟩, rfl⟩
    · exact zz_fin.at (n := 3) rfl no
    refine zz_fin.steps (n := 3) (s' := (37, [some (.ref 540), some (.int (Int32.ofNat t)), some (.int w2), some (.int w3), some (.int w4), none, none, none, none], [.int w4, .int w3], aa_H g)) rfl ?_
    refine zz_fin.ic rfl (fun d => ?_) (fun d => zz_fin.at (n := 2) rfl no)
    have d : w3.toInt - w4.toInt < 0 := (aa_cmp _ _ _).mp d
    exact set_find h5 h6 ht c1 (by omega) b0 (by omega) d1
  · refine zz_fin.call rfl rfl (Nat.le_of_ble_eq_true rfl) (zz_within0 (.inr rfl) c) ?_
    rintro v h ⟨rfl, rfl⟩
    exact zz_fin.at (n := 3) rfl no
end
section
/-! BY HAND: set's contract -/
theorem aa_h12 : aa_met aa_Phi aa_m12 := by
  intro ν0 g as h1 h2 h3 h4 h5 h6
  obtain ⟨as, rfl, h7⟩ := aa_this h4
  clear h4
  obtain ⟨w1, as, rfl, e1, h8⟩ := aa_ms_int h7
  clear h7
  obtain ⟨w2, as, rfl, e2, h7⟩ := aa_ms_int h8
  clear h8
  obtain ⟨w3, as, rfl, e3, h8⟩ := aa_ms_int h7
  clear h7
  obtain ⟨w4, as, rfl, e4, h7⟩ := aa_ms_int h8
  clear h8
  have hlen : ν0.length = 4 := h1.1
  match ν0, hlen, h1, as, h7 with
  | [a, b, c, d], _, h1, [], _ =>
    refine (set_all h5 h6).mono ?_
    rintro v h ⟨g', rfl, k1, k2, k3, z, rfl, z1, z2⟩
    refine ⟨g', rfl, k1, k2, k3, _, List.mem_cons_self, [z.toInt], aa_vb_new h1 (lo := -1) (hi := 12) (gr := 0) z1 z2 (fun y => absurd rfl y), fun f hf => (by cases hf), fun q hq => (by cases hq), Nat.one_ne_zero, z, rfl, ?_⟩
    show some ((0 : Int) + (1 * z.toInt + 0)) = some _
    congr 1
    omega
end
section
/-! THE FRESH HEAP: its bounds, what the model's rows keep -/
def fr_ok (q : Int × Int) : Bool := decide (q.1 ≤ 0) && decide (0 ≤ q.2)
def fr_ck (k : Nat) : Bool := match aa_ivA (aa_gc k) with
  | some q => fr_ok q
  | none => Nat.beq (aa_gc k) aa_all || (List.range (aa_ivO (aa_gc k)).length).all fun j => match (aa_ivO (aa_gc k))[j]? with
    | some q => fr_ok q || zz_gk.contains (k, j)
    | none => true
set_option maxRecDepth 100000 in
theorem fr_ck_all : (List.range 554).all fr_ck = true := by decide +kernel
set_option maxRecDepth 100000 in
theorem fr_in_all : zz_gk.all (fun q => decide ((aa_iv (aa_gc q.1) q.2).1 ≤ (zz_g0 q.1 q.2).toInt) && decide ((zz_g0 q.1 q.2).toInt ≤ (aa_iv (aa_gc q.1) q.2).2)) = true := by decide +kernel
theorem fr_out {k j : Nat} (h : (k, j) ∉ zz_gk) : zz_g0 k j = 0 := zz_lk_none zz_gl k j h
theorem fr_541 {j : Nat} (h : j ≠ 1) : zz_g0 541 j = 0 := fr_out fun q => by
  have h1 : ∀ q ∈ zz_gk, q.1 = 541 → q.2 = 1 := by decide +kernel
  exact h (h1 _ q rfl)
theorem fr_542 {j : Nat} : zz_g0 542 j = 0 := fr_out fun q => by
  have h1 : ∀ q ∈ zz_gk, q.1 ≠ 542 := by decide +kernel
  exact h1 _ q rfl
theorem fr_place {r q : Nat} (h : r ≠ 0 ∨ q ≠ 1) : (aa_place r q).1 ≤ 0 ∧ 0 ≤ (aa_place r q).2 := by
  unfold aa_place
  split
  · exact ⟨by decide, by decide⟩
  · split
    · unfold aa_bell
      split <;> exact ⟨by decide, by decide⟩
    · split
      · unfold aa_town
        split
        · exact ⟨by decide, by decide⟩
        · split
          · exact ⟨by decide, by decide⟩
          · split <;> exact ⟨by decide, by decide⟩
      · split
        · exact ⟨by decide, by decide⟩
        · split
          · rename_i e
            have e := Nat.eq_of_beq_eq_true e
            omega
          · exact ⟨by decide, by decide⟩
        · exact ⟨by decide, by decide⟩
theorem fr_inv : aa_inv zz_g0 := fun k j => by
  by_cases hm : (k, j) ∈ zz_gk
  · have := List.all_eq_true.mp fr_in_all _ hm
    rw [Bool.and_eq_true, decide_eq_true_eq, decide_eq_true_eq] at this
    exact this
  · rw [fr_out hm]
    have e0 : (0 : Int32).toInt = 0 := rfl
    rw [e0]
    by_cases hk : k ≤ 553
    · have h1 := List.all_eq_true.mp fr_ck_all k (List.mem_range.mpr (by omega))
      unfold fr_ck at h1
      unfold aa_iv
      split
      · rename_i q hq
        rw [hq] at h1
        dsimp only at h1
        unfold fr_ok at h1
        rw [Bool.and_eq_true, decide_eq_true_eq, decide_eq_true_eq] at h1
        exact h1
      · rename_i hq
        rw [hq] at h1
        dsimp only at h1
        rw [Bool.or_eq_true] at h1
        split
        · rename_i ha
          refine fr_place ?_
          have hkk : k = 541 := by
            have h2 : (List.range 554).all (fun k => !(Nat.beq (aa_gc k) aa_all) || Nat.beq k 541) = true := by decide +kernel
            have h3 := List.all_eq_true.mp h2 k (List.mem_range.mpr (by omega))
            rw [ha] at h3
            exact Nat.eq_of_beq_eq_true h3
          subst hkk
          have hj : j ≠ 1 := fun e => hm (by rw [e]; decide +kernel)
          omega
        · rename_i ha
          rcases h1 with h1 | h1
          · exact absurd h1 ha
          · split
            · rename_i q hq2
              have hl := (List.getElem?_eq_some_iff.mp hq2).1
              have h3 := List.all_eq_true.mp h1 j (List.mem_range.mpr hl)
              rw [hq2] at h3
              dsimp only at h3
              rw [Bool.or_eq_true] at h3
              rcases h3 with h3 | h3
              · unfold fr_ok at h3
                rw [Bool.and_eq_true, decide_eq_true_eq, decide_eq_true_eq] at h3
                exact h3
              · exact absurd (List.contains_iff_mem.mp h3) hm
            · exact ⟨by decide, by decide⟩
    · have hg : aa_gc k = 0 := by
        unfold aa_gc
        rw [show Nat.ble k 553 = false from by
          cases e : Nat.ble k 553 with
          | false => rfl
          | true => exact absurd (Nat.le_of_ble_eq_true e) hk]
        rfl
      rw [hg]
      have h1 : aa_ivA 0 = none ∨ ∃ q, aa_ivA 0 = some q ∧ fr_ok q = true := by
        cases e : aa_ivA 0 with
        | none => exact .inl rfl
        | some q =>
          refine .inr ⟨q, rfl, ?_⟩
          have : (match aa_ivA 0 with
            | some q => fr_ok q
            | none => true) = true := by decide +kernel
          rw [e] at this
          exact this
      have h2 : aa_ivO 0 = [] := by decide +kernel
      unfold aa_iv
      rcases h1 with h1 | ⟨q, h1, h3⟩
      · rw [h1, h2]
        show (-2147483648 : Int) ≤ 0 ∧ (0 : Int) ≤ 2147483647
        exact ⟨by decide, by decide⟩
      · rw [h1]
        unfold fr_ok at h3
        rw [Bool.and_eq_true, decide_eq_true_eq, decide_eq_true_eq] at h3
        exact h3
theorem fr_Phi : aa_Phi zz_g0 := by
  have e0 : (0 : Int32).toInt = 0 := rfl
  have h1 : zz_g0 540 1 = 0 := fr_out (by decide +kernel)
  have h10 : zz_g0 540 10 = 0 := fr_out (by decide +kernel)
  refine ⟨fun r hr => ⟨fun t i ht hi hc => ?_, fun b hb hc => ?_⟩, ⟨fun k hk hc => ?_, fun k hk hc => ?_⟩, fun b hb hc => ?_⟩
  · rw [fr_541 (by omega), e0] at hc
    omega
  · rw [fr_541 (by omega), e0] at hc
    omega
  · rw [fr_542, e0] at hc
    exact absurd rfl hc
  · rw [h1, e0] at hc
    omega
  · rw [h10, e0] at hc
    omega
/-- the fresh heap, with the script kept behind the places of cell 546 -/
def lw_g0 (xs : Nat → Int32) : aa_G := fun k j => if k = 546 ∧ 10000 ≤ j then xs (j - 10000) else zz_g0 k j
theorem lw_g0_x (xs : Nat → Int32) (j : Nat) : lw_g0 xs 546 (10000 + j) = xs j := by
  unfold lw_g0
  rw [if_pos ⟨rfl, by omega⟩, show 10000 + j - 10000 = j by omega]
theorem lw_g0_ne (xs : Nat → Int32) {k j : Nat} (h : k ≠ 546) : lw_g0 xs k j = zz_g0 k j := if_neg fun e => h e.1
theorem lw_g0_lt (xs : Nat → Int32) {k j : Nat} (h : j < 10000) : lw_g0 xs k j = zz_g0 k j := if_neg fun e => by omega
theorem lw_g0_inv (xs : Nat → Int32) : aa_inv (lw_g0 xs) := fun k j => by
  by_cases h : k = 546 ∧ 10000 ≤ j
  · obtain ⟨rfl, h2⟩ := h
    have e : lw_g0 xs 546 j = xs (j - 10000) := if_pos ⟨rfl, h2⟩
    rw [e, show aa_iv (aa_gc 546) j = (-2147483648, 2147483647) from aa_flat_ok rfl j 0]
    have r1 := (xs (j - 10000)).le_toInt
    have r2 := (xs (j - 10000)).toInt_lt
    exact ⟨by omega, by omega⟩
  · rw [show lw_g0 xs k j = zz_g0 k j from if_neg h]
    exact fr_inv k j
theorem lw_g0_Phi (xs : Nat → Int32) : aa_Phi (lw_g0 xs) := by
  refine aa_Phi_same (g := zz_g0) ⟨fun j _ _ _ _ _ _ => lw_g0_ne xs (by decide), ?_, lw_g0_ne xs (by decide), lw_g0_ne xs (by decide), lw_g0_ne xs (by decide), ?_, ?_⟩ fr_Phi
  · funext j
    exact lw_g0_ne xs (by decide)
  · funext j
    exact lw_g0_ne xs (by decide)
  · funext j
    exact lw_g0_ne xs (by decide)
theorem lw_g0_Zr (xs : Nat → Int32) : zz_Zr (aa_H (lw_g0 xs)) := fun k hk => by
  have h1 := zz_hs_Zr k hk
  have h1 : zz_g0 k = fun _ => 0 := h1
  have hk : 553 < k := hk
  funext j
  show lw_g0 xs k j = 0
  rw [lw_g0_ne xs (by omega), h1]
end
section
/-! BY HAND: bells, from where all is read on -/
/-- so much of what was read stands in row 0 -/
def aa_bt (g0 g : aa_G) (p q : Nat) : Prop := g 541 2 = g0 540 10 ∧ (∀ i, i < p → g 541 (203 + i) = g0 544 i) ∧ (∀ i, i < q → g 541 (259 + i) = g0 545 i) ∧ ∀ k j, ¬ (k = 541 ∧ (j = 2 ∨ (203 ≤ j ∧ j < 203 + p) ∨ (259 ≤ j ∧ j < 259 + q))) → g k j = g0 k j
theorem bt_codes {g0 : aa_G} {v1 : Int32} {C N : Nat} (hC : C ≤ 140) (hN : N ≤ 8) (eC : g0 540 11 = Int32.ofNat C) (n : Nat) : ∀ (k : Nat), n + k = C → ∀ (g : aa_G), aa_bt g0 g (7 * N) k → zz_fin none 178 (106, [some (.ref 540), some (.int v1), some (.int (Int32.ofNat k))], [], aa_H g) (fun v h => v = some (.int (g0 540 10)) ∧ ∃ g', h = aa_H g' ∧ aa_bt g0 g' (7 * N) C) := by
  induction n with
  | zero =>
    intro k hk g hg
    have e11 : g 540 11 = Int32.ofNat C := by rw [hg.2.2.2 540 11 (by omega)]; exact eC
    have e10 : g 540 10 = g0 540 10 := hg.2.2.2 540 10 (by omega)
    refine zz_fin.steps (n := 3) (s' := (111, [some (.ref 540), some (.int v1), some (.int (Int32.ofNat k))], [.int (g 540 11), .int (Int32.ofNat k)], aa_H g)) rfl ?_
    rw [e11]
    refine zz_fin.ic rfl (fun c => ?_) (fun c => ?_)
    · refine zz_fin.steps (n := 2) (s' := (140, [some (.ref 540), some (.int v1), some (.int (Int32.ofNat k))], [.int (g 540 10)], aa_H g)) rfl ?_
      have hk : k = C := by omega
      subst hk
      exact zz_fin.at (n := 1) rfl ⟨by rw [e10], g, rfl, hg⟩
    · refine absurd ((aa_cmp .ge (Int32.ofNat k) (Int32.ofNat C)).mpr ?_) c
      show (0 : Int) ≤ (Int32.ofNat k).toInt - (Int32.ofNat C).toInt
      rw [zz_ofN (by omega), zz_ofN (by omega)]
      omega
  | succ n ih =>
    intro k hk g hg
    have e11 : g 540 11 = Int32.ofNat C := by rw [hg.2.2.2 540 11 (by omega)]; exact eC
    refine zz_fin.steps (n := 3) (s' := (111, [some (.ref 540), some (.int v1), some (.int (Int32.ofNat k))], [.int (g 540 11), .int (Int32.ofNat k)], aa_H g)) rfl ?_
    rw [e11]
    refine zz_fin.ic rfl (fun c => ?_) (fun c => ?_)
    · have c : (0 : Int) ≤ (Int32.ofNat k).toInt - (Int32.ofNat C).toInt := (aa_cmp _ _ _).mp c
      rw [zz_ofN (by omega), zz_ofN (by omega)] at c
      omega
    · refine zz_fin.steps (n := 8) (s' := (128, [some (.ref 540), some (.int v1), some (.int (Int32.ofNat k))], [.int (Int32.ofNat k), .ref 545, .int (Int32.ofNat 259 + Int32.ofNat k), .ref 541], aa_H g)) rfl ?_
      rw [show Int32.ofNat 259 + Int32.ofNat k = Int32.ofNat (259 + k) from (Int32.ofNat_add 259 k).symm]
      refine zz_fin.ial (n := 140) rfl rfl (zz_inbN (by omega) (by omega)) ?_
      refine zz_fin.ias (n := 6384) rfl rfl (zz_inbN (by omega) (by omega)) ?_
      rw [zz_toN (by omega), zz_toN (by omega)]
      refine zz_fin.steps (n := 2) (s' := (106, [some (.ref 540), some (.int v1), some (.int (Int32.ofNat k + 1))], [], aa_H (zz_w g 541 (259 + k) (g 545 k)))) rfl ?_
      rw [show Int32.ofNat k + 1 = Int32.ofNat (k + 1) from (Int32.ofNat_add k 1).symm]
      obtain ⟨b1, b2, b3, b4⟩ := hg
      refine ih (k + 1) (by omega) _ ⟨?_, fun i hi => ?_, fun i hi => ?_, fun a b hab => ?_⟩
      · rw [aa_w_ne _ _ (by omega)]
        exact b1
      · rw [aa_w_ne _ _ (by omega)]
        exact b2 i hi
      · by_cases hik : i = k
        · subst hik
          rw [aa_w_at]
          exact b4 545 _ (by omega)
        · rw [aa_w_ne _ _ (by omega)]
          exact b3 i (by omega)
      · rw [aa_w_ne _ _ (by omega)]
        exact b4 a b (by omega)
theorem bt_bells {g0 : aa_G} {v1 : Int32} {C N : Nat} (hC : C ≤ 140) (hN : N ≤ 8) (eC : g0 540 11 = Int32.ofNat C) (eN : g0 540 10 = Int32.ofNat N) (n : Nat) : ∀ (k : Nat), n + k = 7 * N → ∀ (g : aa_G), aa_bt g0 g k 0 → zz_fin none 178 (71, [some (.ref 540), some (.int v1), some (.int (Int32.ofNat k))], [], aa_H g) (fun v h => v = some (.int (g0 540 10)) ∧ ∃ g', h = aa_H g' ∧ aa_bt g0 g' (7 * N) C) := by
  have e7 : (7 : Int32) * Int32.ofNat N = Int32.ofNat (7 * N) := (Int32.ofNat_mul 7 N).symm
  induction n with
  | zero =>
    intro k hk g hg
    have e10 : g 540 10 = Int32.ofNat N := by rw [hg.2.2.2 540 10 (by omega)]; exact eN
    refine zz_fin.steps (n := 5) (s' := (79, [some (.ref 540), some (.int v1), some (.int (Int32.ofNat k))], [.int (7 * g 540 10), .int (Int32.ofNat k)], aa_H g)) rfl ?_
    rw [e10, e7]
    refine zz_fin.ic rfl (fun c => ?_) (fun c => ?_)
    · refine zz_fin.steps (n := 2) (s' := (106, [some (.ref 540), some (.int v1), some (.int (Int32.ofNat 0))], [], aa_H g)) rfl ?_
      have hk : k = 7 * N := by omega
      subst hk
      exact bt_codes hC hN eC C 0 (by omega) g hg
    · refine absurd ((aa_cmp .ge (Int32.ofNat k) (Int32.ofNat (7 * N))).mpr ?_) c
      show (0 : Int) ≤ (Int32.ofNat k).toInt - (Int32.ofNat (7 * N)).toInt
      rw [zz_ofN (by omega), zz_ofN (by omega)]
      omega
  | succ n ih =>
    intro k hk g hg
    have e10 : g 540 10 = Int32.ofNat N := by rw [hg.2.2.2 540 10 (by omega)]; exact eN
    refine zz_fin.steps (n := 5) (s' := (79, [some (.ref 540), some (.int v1), some (.int (Int32.ofNat k))], [.int (7 * g 540 10), .int (Int32.ofNat k)], aa_H g)) rfl ?_
    rw [e10, e7]
    refine zz_fin.ic rfl (fun c => ?_) (fun c => ?_)
    · have c : (0 : Int) ≤ (Int32.ofNat k).toInt - (Int32.ofNat (7 * N)).toInt := (aa_cmp _ _ _).mp c
      rw [zz_ofN (by omega), zz_ofN (by omega)] at c
      omega
    · refine zz_fin.steps (n := 8) (s' := (96, [some (.ref 540), some (.int v1), some (.int (Int32.ofNat k))], [.int (Int32.ofNat k), .ref 544, .int (Int32.ofNat 203 + Int32.ofNat k), .ref 541], aa_H g)) rfl ?_
      rw [show Int32.ofNat 203 + Int32.ofNat k = Int32.ofNat (203 + k) from (Int32.ofNat_add 203 k).symm]
      refine zz_fin.ial (n := 56) rfl rfl (zz_inbN (by omega) (by omega)) ?_
      refine zz_fin.ias (n := 6384) rfl rfl (zz_inbN (by omega) (by omega)) ?_
      rw [zz_toN (by omega), zz_toN (by omega)]
      refine zz_fin.steps (n := 2) (s' := (71, [some (.ref 540), some (.int v1), some (.int (Int32.ofNat k + 1))], [], aa_H (zz_w g 541 (203 + k) (g 544 k)))) rfl ?_
      rw [show Int32.ofNat k + 1 = Int32.ofNat (k + 1) from (Int32.ofNat_add k 1).symm]
      obtain ⟨b1, b2, b3, b4⟩ := hg
      refine ih (k + 1) (by omega) _ ⟨?_, fun i hi => ?_, fun i hi => absurd hi (Nat.not_lt_zero i), fun a b hab => ?_⟩
      · rw [aa_w_ne _ _ (by omega)]
        exact b1
      · by_cases hik : i = k
        · subst hik
          rw [aa_w_at]
          exact b4 544 _ (by omega)
        · rw [aa_w_ne _ _ (by omega)]
          exact b2 i (by omega)
      · rw [aa_w_ne _ _ (by omega)]
        exact b4 a b (by omega)
theorem bt_nb {g : aa_G} (h : aa_Phi g) {N : Nat} (hN : N ≤ 8) (eN : g 540 10 = Int32.ofNat N) {b : Nat} (hb : b < N) : aa_nb g b := h.2.2 b (by omega) (by rw [eN, zz_ofN (by omega)]; omega)
theorem bt_inv {g0 g : aa_G} {C N : Nat} (hi : aa_inv g0) (h : aa_Phi g0) (hC : C ≤ 140) (hN : N ≤ 8) (eC : g0 540 11 = Int32.ofNat C) (eN : g0 540 10 = Int32.ofNat N) (hg : aa_bt g0 g (7 * N) C) : aa_inv g := fun k j => by
  obtain ⟨b1, b2, b3, b4⟩ := hg
  by_cases e : k = 541 ∧ (j = 2 ∨ (203 ≤ j ∧ j < 203 + 7 * N) ∨ (259 ≤ j ∧ j < 259 + C))
  · obtain ⟨rfl, rfl | ⟨e1, e2⟩ | ⟨e1, e2⟩⟩ := e
    · rw [b1, eN]
      show (0 : Int) ≤ (Int32.ofNat N).toInt ∧ (Int32.ofNat N).toInt ≤ 8
      rw [zz_ofN (by omega)]
      omega
    · obtain ⟨i, rfl⟩ : ∃ i, j = 203 + i := ⟨j - 203, by omega⟩
      rw [b2 i (by omega)]
      show (aa_iv 36 (203 + i)).1 ≤ _ ∧ _ ≤ (aa_iv 36 (203 + i)).2
      rw [aa_iv36, show (203 + i) / 399 = 0 by omega, show (203 + i) % 399 = 203 + i by omega]
      unfold aa_place
      rw [if_neg fun z => by have := Nat.le_of_ble_eq_true z; omega, if_pos (Nat.ble_eq_true_of_le (by omega)), show 203 + i - 203 = i by omega]
      obtain ⟨k0, k1, k2, k3, k4, k5, k6, k7, -⟩ := bt_nb h hN eN (b := i / 7) (by omega)
      rw [eC, zz_ofN (by omega)] at k7
      have hb : ∃ b, i / 7 = b := ⟨_, rfl⟩
      obtain ⟨b, hb⟩ := hb
      rw [hb] at k0 k1 k2 k3 k4 k5 k6 k7
      have hm : i % 7 = 0 ∨ i % 7 = 1 ∨ i % 7 = 2 ∨ i % 7 = 3 ∨ i % 7 = 4 ∨ i % 7 = 5 ∨ i % 7 = 6 := by omega
      rcases hm with hm | hm | hm | hm | hm | hm | hm
      · rw [hm, show i = 7 * b by omega]; exact k0
      · rw [hm, show i = 7 * b + 1 by omega]; exact k1
      · rw [hm, show i = 7 * b + 2 by omega]; exact k2
      · rw [hm, show i = 7 * b + 3 by omega]; exact k3
      · rw [hm, show i = 7 * b + 4 by omega]; exact k4
      · rw [hm, show i = 7 * b + 5 by omega]
        show (0 : Int) ≤ (g0 544 (7 * b + 5)).toInt ∧ (g0 544 (7 * b + 5)).toInt ≤ 140
        omega
      · rw [hm, show i = 7 * b + 6 by omega]
        show (0 : Int) ≤ (g0 544 (7 * b + 6)).toInt ∧ (g0 544 (7 * b + 6)).toInt ≤ 140
        omega
    · obtain ⟨i, rfl⟩ : ∃ i, j = 259 + i := ⟨j - 259, by omega⟩
      rw [b3 i (by omega)]
      show (aa_iv 36 (259 + i)).1 ≤ _ ∧ _ ≤ (aa_iv 36 (259 + i)).2
      rw [aa_iv36, show (259 + i) / 399 = 0 by omega, show (259 + i) % 399 = 259 + i by omega]
      unfold aa_place
      rw [if_pos (Nat.ble_eq_true_of_le (by omega))]
      have q := hi 545 i
      rw [show aa_iv (aa_gc 545) i = (0, 200255) from aa_flat_ok rfl i 0] at q
      exact q
  · rw [b4 k j e]
    exact hi k j
theorem bt_Phi {g0 g : aa_G} {C N : Nat} (h : aa_Phi g0) (hC : C ≤ 140) (hN : N ≤ 8) (eC : g0 540 11 = Int32.ofNat C) (eN : g0 540 10 = Int32.ofNat N) (hg : aa_bt g0 g (7 * N) C) : aa_Phi g := by
  obtain ⟨b1, b2, b3, b4⟩ := hg
  have hnb := fun {b : Nat} (hb : b < N) => bt_nb h hN eN hb
  obtain ⟨k1, ⟨k2, k3⟩, k4⟩ := h
  have oth : ∀ k, k ≠ 541 → g k = g0 k := fun k hk => by
    funext j
    exact b4 k j fun e => hk e.1
  have out : ∀ j, ¬ (j = 2 ∨ (203 ≤ j ∧ j < 399)) → g 541 j = g0 541 j := fun j hj => b4 541 j fun e => by omega
  refine ⟨fun r hr => ⟨?_, ?_⟩, ⟨fun k hk hq => ?_, fun k hk hq => ?_⟩, fun b hb hq => ?_⟩
  · exact aa_pt_of (fun q q1 q2 _ _ _ => out _ (by omega)) (k1 r hr).1
  · by_cases e : r = 0
    · subst e
      intro b hb hc
      rw [show 399 * 0 + 2 = 2 from rfl, b1, eN, zz_ofN (by omega)] at hc
      obtain ⟨-, -, -, -, -, q5, q6, q7, q8⟩ := hnb (b := b) (by omega)
      rw [eC, zz_ofN (by omega)] at q7
      unfold aa_seg
      rw [show 399 * 0 + 203 + 7 * b + 5 = 203 + (7 * b + 5) by omega, show 399 * 0 + 203 + 7 * b + 6 = 203 + (7 * b + 6) by omega, b2 _ (by omega), b2 _ (by omega), aa_run_congr (c := g0 545)]
      · exact q8
      · intro i hi
        show g 541 (399 * 0 + 259 + ((g0 544 (7 * b + 5)).toInt.toNat + i)) = _
        rw [show 399 * 0 + 259 + ((g0 544 (7 * b + 5)).toInt.toNat + i) = 259 + ((g0 544 (7 * b + 5)).toInt.toNat + i) by omega]
        exact b3 _ (by omega)
    · exact aa_rp_of (out _ (by omega)) (fun q _ => out _ (by omega)) (k1 r hr).2
  · rw [oth 542 (by decide)] at hq
    rw [out _ (by omega)]
    exact k2 k hk hq
  · rw [oth 540 (by decide)] at hq
    rw [out _ (by omega)]
    exact k3 k hk hq
  · rw [oth 540 (by decide)] at hq
    exact aa_nb_of (fun q _ => by rw [oth 544 (by decide)]) (by rw [oth 540 (by decide)]; exact Int.le_refl _) (fun i _ => by rw [oth 545 (by decide)]) (k4 b hb hq)
theorem bt_fr {g0 g : aa_G} {C N : Nat} (hC : C ≤ 140) (hN : N ≤ 8) (hg : aa_bt g0 g (7 * N) C) {ws : aa_W} (hw : (36, 0, 398) ∈ ws) : aa_fr ws g0 g := by
  obtain ⟨b1, b2, b3, b4⟩ := hg
  refine ⟨fun k j => ?_, .inl (aa_dep_eq (b4 540 10 (by omega)) (b4 540 11 (by omega)) ?_ ?_)⟩
  · by_cases e : k = 541 ∧ (j = 2 ∨ (203 ≤ j ∧ j < 203 + 7 * N) ∨ (259 ≤ j ∧ j < 259 + C))
    · obtain ⟨rfl, e⟩ := e
      exact .inr ⟨_, hw, rfl, by show (0 : Int) ≤ (j : Int); omega, by show (j : Int) ≤ 398; omega⟩
    · exact .inl (b4 k j e)
  · funext j
    exact b4 544 j (by omega)
  · funext j
    exact b4 545 j (by omega)
/-- what is written from there on -/
def bt_ws : aa_W := [(35, 1, 1), (36, 1197, 5984), (36, 0, 398)]
theorem bells_tail {g : aa_G} (h5 : aa_inv g) (h6 : aa_Phi g) (v1 : Int32) (v2 : Option Value) : zz_fin none 178 (55, [some (.ref 540), some (.int v1), v2], [], aa_H g) (fun v h => ∃ g' z, h = aa_H g' ∧ v = some (.int z) ∧ 0 ≤ z.toInt ∧ z.toInt ≤ 8 ∧ aa_inv g' ∧ aa_Phi g' ∧ aa_fr bt_ws g g') := by
  refine zz_fin.steps (n := 1) (s' := (56, [some (.ref 540), some (.int v1), v2], [.ref 540], aa_H g)) rfl ?_
  refine zz_fin.call rfl rfl (Nat.le_of_ble_eq_true rfl) (deed156 h5 h6) ?_
  rintro v h ⟨rfl, g1, rfl, k1, k2, k3⟩
  have n0 : (0 : Int) ≤ (g1 540 10).toInt := (k1 540 10).1
  have n1 : (g1 540 10).toInt ≤ 8 := (k1 540 10).2
  have c0 : (0 : Int) ≤ (g1 540 11).toInt := (k1 540 11).1
  have c1 : (g1 540 11).toInt ≤ 140 := (k1 540 11).2
  have eN : g1 540 10 = Int32.ofNat (g1 540 10).toInt.toNat := aa_eqN (by omega) (by omega)
  have eC : g1 540 11 = Int32.ofNat (g1 540 11).toInt.toNat := aa_eqN (by omega) (by omega)
  have hN : (g1 540 10).toInt.toNat ≤ 8 := by omega
  have hC : (g1 540 11).toInt.toNat ≤ 140 := by omega
  refine zz_fin.steps (n := 5) (s' := (68, [some (.ref 540), some (.int v1), v2], [.int (g1 540 10), .int (Int32.ofNat 2), .ref 541], aa_H g1)) rfl ?_
  refine zz_fin.ias (n := 6384) rfl rfl (zz_inbN (by omega) (by omega)) ?_
  rw [zz_toN (by omega)]
  refine zz_fin.steps (n := 2) (s' := (71, [some (.ref 540), some (.int v1), some (.int (Int32.ofNat 0))], [], aa_H (zz_w g1 541 2 (g1 540 10)))) rfl ?_
  refine (bt_bells (g0 := g1) hC hN eC eN (7 * (g1 540 10).toInt.toNat) 0 rfl _ ⟨aa_w_at _ _ _ _, fun i hi => absurd hi (Nat.not_lt_zero i), fun i hi => absurd hi (Nat.not_lt_zero i), fun k j hkj => aa_w_ne _ _ fun e => hkj ⟨e.1, .inl e.2⟩⟩).mono ?_
  rintro v h ⟨rfl, g', rfl, hg⟩
  refine ⟨g', _, rfl, rfl, n0, n1, bt_inv k1 k2 hC hN eC eN hg, bt_Phi k2 hC hN eC eN hg, ?_⟩
  refine aa_fr.tr (g1 := g1) ⟨fun a b => (k3.1 a b).imp id fun ⟨w, hw, z⟩ => ⟨w, List.mem_append_left [(36, 0, 398)] hw, z⟩, k3.2.imp id fun ⟨w, hw, z⟩ => ⟨w, List.mem_append_left [(36, 0, 398)] hw, z⟩⟩ (bt_fr hC hN hg (List.mem_cons_of_mem _ (List.mem_cons_of_mem _ List.mem_cons_self)))
end
section
/-! THE LAW WALKED BY THE ANALYSER: as any method, and the script is read; the name 0 is its length -/
/-- what is read of the script is kept: behind the places of cell 546, which nobody reads -/
def lw_add (s : aa_S) (r : List aa_A) (i f : aa_F) : aa_S := (s.1, (((aa_c 546, aa_plus i 10000), f) :: s.2.1, (s.2.2.1, (1, f) :: r)))
def lw_new (s : aa_S) (r : List aa_A) (i : aa_F) (lo hi : Int) : aa_S := ((s.1.1 ++ [(lo, hi, 0)], s.1.2), (((aa_c 546, aa_plus i 10000), aa_id s.1.1.length) :: s.2.1, (s.2.2.1, (1, aa_id s.1.1.length) :: r)))
def lw_rd (sp : Nat → Bool) (pc : Nat) (s : aa_S) (r : List aa_A) (i : aa_F) : List aa_S := match aa_lk (aa_c 546) (aa_plus i 10000) s.2.1 with
  | some f => [aa_pi s r f]
  | none => if sp pc = true then [lw_add s r i (aa_c 0), lw_add s r i (aa_c 1), lw_new s r i (-2147483648) (-1), lw_new s r i 2 2147483647] else [lw_new s r i (-2147483648) 2147483647]
theorem lw_add_ok {s : aa_S} {ν : List Int} {g : aa_G} {lv : zz_V} {st q : List Value} {r : List aa_A} {i f : aa_F} {j : Nat} {w : Int32} (h : aa_ok s ν g lv st) (hq : aa_ms ν r q) (hj : aa_ev ν (aa_plus i 10000) = some (j : Int)) (hw : g 546 j = w) (hf : aa_ev ν f = some w.toInt) : aa_ok (lw_add s r i f) ν g lv (.int w :: q) :=
  ⟨h.1, h.2.1, aa_vh_cons h.2.2.1 (a := 546) (aa_c_ev) hj hf (by rw [aa_rd_of (by decide), hw]), h.2.2.2.1, ⟨⟨Nat.one_ne_zero, w, rfl, hf⟩, hq⟩⟩
theorem lw_new_ok {s : aa_S} {ν : List Int} {g : aa_G} {lv : zz_V} {st q : List Value} {r : List aa_A} {i : aa_F} {j : Nat} {w : Int32} {lo hi : Int} (h : aa_ok s ν g lv st) (hq : aa_ms ν r q) (hj : aa_ev ν (aa_plus i 10000) = some (j : Int)) (hw : g 546 j = w) (h3 : lo ≤ w.toInt) (h4 : w.toInt ≤ hi) : aa_ok (lw_new s r i lo hi) (ν ++ [w.toInt]) g lv (.int w :: q) := by
  have hn := aa_ok_new h h3 h4 (gr := 0) (fun q => absurd rfl q)
  exact ⟨hn.1, hn.2.1, aa_vh_cons hn.2.2.1 (a := 546) (aa_c_ev) (aa_ev_app hj) (aa_ev_new h.1) (by rw [aa_rd_of (by decide), hw]), hn.2.2.2.1, ⟨⟨Nat.one_ne_zero, w, rfl, aa_ev_new h.1⟩, aa_ms_app hq⟩⟩
theorem lw_rd_ok {sp : Nat → Bool} {pc : Nat} {s : aa_S} {ν : List Int} {g : aa_G} {lv : zz_V} {st q : List Value} {r : List aa_A} {i : aa_F} {j : Nat} {w : Int32} (h : aa_ok s ν g lv st) (hq : aa_ms ν r q) (hj : aa_ev ν (aa_plus i 10000) = some (j : Int)) (hw : g 546 j = w) : ∃ s' ∈ lw_rd sp pc s r i, ∃ ρ, aa_ok s' (ν ++ ρ) g lv (.int w :: q) := by
  unfold lw_rd
  split
  · rename_i f hl
    obtain ⟨a, b, x, e1, e2, e3, e4⟩ := h.2.2.1 _ (aa_lk_ok hl)
    have e1 : aa_ev ν (aa_c 546) = some (a : Int) := e1
    have e2 : aa_ev ν (aa_plus i 10000) = some (b : Int) := e2
    have e3 : aa_ev ν f = some x := e3
    rw [aa_c_ev] at e1
    rw [hj] at e2
    have a1 : a = 546 := by
      have := Option.some.inj e1
      omega
    have a2 : b = j := by
      have := Option.some.inj e2
      omega
    subst a1
    subst a2
    rw [aa_rd_of (by decide), hw] at e4
    exact ⟨_, List.mem_cons_self, [], by rw [List.append_nil]; exact aa_pi_ok h hq (by rw [e3, e4])⟩
  · have r1 := w.le_toInt
    have r2 := w.toInt_lt
    split
    · by_cases c0 : w.toInt = 0
      · exact ⟨_, List.mem_cons_self, [], by rw [List.append_nil]; exact lw_add_ok h hq hj hw (by rw [c0]; exact aa_c_ev)⟩
      by_cases c1 : w.toInt = 1
      · exact ⟨_, List.mem_cons_of_mem _ List.mem_cons_self, [], by rw [List.append_nil]; exact lw_add_ok h hq hj hw (by rw [c1]; exact aa_c_ev)⟩
      by_cases c2 : w.toInt < 0
      · exact ⟨_, List.mem_cons_of_mem _ (List.mem_cons_of_mem _ List.mem_cons_self), _, lw_new_ok h hq hj hw (by omega) (by omega)⟩
      · exact ⟨_, List.mem_cons_of_mem _ (List.mem_cons_of_mem _ (List.mem_cons_of_mem _ List.mem_cons_self)), _, lw_new_ok h hq hj hw (by omega) (by omega)⟩
    · exact ⟨_, List.mem_cons_self, _, lw_new_ok h hq hj hw (by omega) (by omega)⟩
/-- 'sp': places at which what is read is told apart: 0, 1, below, above -/
def aa_nxX (Ks : List aa_K) (ws fr : aa_W) (hk : aa_Hk) (sp : Nat → Bool) (e : zz_I) (pc : Nat) (s : aa_S) : aa_Q := match e.1 with
  | .iaload => (match s.2.2.2 with
    | (1, i) :: (3, f) :: r => if aa_eqf f (aa_c 0) = true then (if 0 ≤ aa_lo s.1.1 s.1.2 i ∧ 1 ≤ aa_lo s.1.1 s.1.2 (aa_add (aa_id 0) i (-1)) then some ((lw_rd sp pc s r i).map fun t => (pc + 1, t)) else none) else aa_nx Ks ws fr hk e pc s
    | _ => none)
  | .arraylength => (match s.2.2.2 with
    | (3, f) :: r => if aa_eqf f (aa_c 0) = true then some [(pc + 1, aa_pi s r (aa_id 0))] else aa_nx Ks ws fr hk e pc s
    | _ => none)
  | _ => aa_nx Ks ws fr hk e pc s
def aa_exX (Ks : List aa_K) (K : aa_K) (fr : aa_W) (hk : aa_Hk) (sp : Nat → Bool) : Nat → Bool → Option aa_F → Nat → aa_S → Bool
  | 0, _, _, _, _ => false
  | n + 1, mv, cur, pc, s => match (if mv = true then aa_cut pc K.2.2.2 else []) with
    | c :: r => (match s.2.2.2 with
      | [] => (c :: r).any fun c => aa_arv K cur s c
      | _ => false)
    | [] => match zz_T K.1.1 pc with
      | none => false
      | some e => match aa_rt K e s with
        | some b => b
        | none => match aa_nxX Ks K.1.2.2 fr hk sp e pc s with
          | none => false
          | some l => l.all fun q => aa_exX Ks K fr hk sp n true cur q.1 q.2
section AX
variable {Φ : aa_G → Prop} {fr : aa_W} {hk : aa_Hk} {Ks : List aa_K} {K : aa_K} {ν0 : List Int} {g0 : aa_G} {L : Nat} {xs : Nat → Int32} {sp : Nat → Bool}
/-- a step or a call: the walk goes on in one of these -/
def aa_onX (Φ : aa_G → Prop) (L : Nat) (xs : Nat → Int32) (ws : aa_W) (m : Nat) (ν : List Int) (g : aa_G) (pc : Nat) (lv : zz_V) (st : List Value) (l : List (Nat × aa_S)) : Prop := ∀ φ : Option Value → zz_H → Prop, (∀ (pc' : Nat) (s' : aa_S) (ρ : List Int) (g' : aa_G) (lv' : zz_V) (st' : List Value), (pc', s') ∈ l → aa_ok s' (ν ++ ρ) g' lv' st' → aa_inv g' → Φ g' → aa_fr ws g g' → zz_fin (some (L, xs)) m (pc', lv', st', aa_H g') φ) → zz_fin (some (L, xs)) m (pc, lv, st, aa_H g) φ
theorem aa_on_stX (hG : aa_good Φ fr hk) {ws : aa_W} {m : Nat} {e : zz_I} {pc : Nat} (hT : zz_T m pc = some e) {s : aa_S} {ν : List Int} {g : aa_G} {lv : zz_V} {st : List Value} (hs : aa_ok s ν g lv st) (hi : aa_inv g) (hφ : Φ g) {l : List (Nat × aa_S)} (hl : aa_st ws fr hk e pc s = some l) : aa_onX Φ L xs ws m ν g pc lv st l := fun φ k => by
  obtain ⟨pc', lv', st', g', h1, ⟨s', ρ, h2, h3⟩, h4, h5, h6⟩ := aa_st_ok hG (rt := zz_rt m) hs hi l hl
  exact zz_fin.step1 hT (zz_step_X h1) (k pc' s' ρ g' lv' st' h2 h3 h4 (h6 hφ) h5)
theorem aa_on_tryX (hKs : ∀ K ∈ Ks, aa_met Φ K) {ws : aa_W} {m m2 : Nat} {e : zz_I} {pc : Nat} (hT : zz_T m pc = some e) {s : aa_S} {ν : List Int} {g : aa_G} {lv : zz_V} {st as q : List Value} {avs rest : List aa_A} (hs : aa_ok s ν g lv st) (hi : aa_inv g) (hφ : Φ g) (ha : aa_ms ν avs as) (hr : aa_ms ν rest q) {l : List aa_S} (hl : aa_try ws s m2 avs rest Ks = some l) (hstep : (q.map fun v => v.category).sum ≤ 8 → zz_step none zz_us (zz_rt m) e pc lv st (aa_H g) = some (.inr (.inr (m2, as, q)))) : aa_onX Φ L xs ws m ν g pc lv st (l.map fun t => (pc + 3, t)) := fun φ k => by
  obtain ⟨K', hK', rfl, e1⟩ := aa_try_ok hl
  obtain ⟨k1, k2, k3⟩ := aa_app_ok hs hi hφ ha hr (hKs K' hK') e1
  refine zz_fin.call hT (zz_step_X (hstep k1)) k2 (zz_finX k3) ?_
  rintro v h' ⟨g', rfl, g1, g2, g3, s', hs', ρ, h3⟩
  exact k (pc + 3) s' ρ g' lv (v.toList ++ q) (List.mem_map.mpr ⟨s', hs', rfl⟩) h3 g1 g2 g3
theorem aa_on_csX (hKs : ∀ K ∈ Ks, aa_met Φ K) {ws : aa_W} {m m2 n i : Nat} {u w : Nat} {v : Value} {sw : List (Int × Nat)} {pc : Nat} (hT : zz_T m pc = some (.invokestatic i, (m2, n, u, w), v, sw)) (hm : m2 < 100000) {s : aa_S} {ν : List Int} {g : aa_G} {lv : zz_V} {st : List Value} (hs : aa_ok s ν g lv st) (hi : aa_inv g) (hφ : Φ g) {l : List (Nat × aa_S)} (hl : aa_calls Ks ws (pc + 3) s m2 n = some l) : aa_onX Φ L xs ws m ν g pc lv st l := by
  unfold aa_calls at hl
  split at hl
  · rename_i hn
    split at hl
    · rename_i l' hl'
      cases hl
      refine aa_on_tryX hKs hT hs hi hφ (aa_ms_rev (aa_ms_take n hs.2.2.2.2)) (aa_ms_drop n hs.2.2.2.2) hl' fun h8 => ?_
      show (if m2 < 100000 then zz_cs m2 n st else _) = _
      rw [if_pos hm]
      unfold zz_cs zz_call
      rw [if_pos (by rw [aa_ms_len hs.2.2.2.2]; exact hn), if_pos h8]
    · cases hl
  · cases hl
theorem aa_on_cvX (hKs : ∀ K ∈ Ks, aa_met Φ K) {ws : aa_W} {m m2 n u : Nat} {e : zz_I} {pc : Nat} {s : aa_S} {ν : List Int} {g : aa_G} {lv : zz_V} {st : List Value} (hT : zz_T m pc = some e) (he : zz_step none zz_us (zz_rt m) e pc lv st (aa_H g) = zz_cv m2 n u st (aa_H g)) (hs : aa_ok s ν g lv st) (hi : aa_inv g) (hφ : Φ g) {l : List (Nat × aa_S)} (hl : aa_callv Ks ws (pc + 3) s m2 n u = some l) : aa_onX Φ L xs ws m ν g pc lv st l := by
  unfold aa_callv at hl
  split at hl
  · rename_i f r hd
    have hm := aa_ms_drop n hs.2.2.2.2
    rw [hd] at hm
    obtain ⟨k, q, hq, h2, h3⟩ := aa_ms_ref hm
    split at hl
    · cases hl
    · rename_i hg
      have hg : aa_gp s.1.1 f ≠ 0 := fun z => hg (by rw [z]; rfl)
      have hgc := aa_gp_ok hs.1 h2 hg
      have hk0 := (aa_fit_at (k := k) (by rw [hgc]; exact hg)).2.1
      split at hl
      · rename_i c n' ts hgi
        split at hl
        · rename_i hc
          obtain ⟨hc, hn⟩ := hc
          have e1 := Nat.eq_of_beq_eq_true hc
          subst e1
          obtain ⟨fs, hly, hob, hsl⟩ := aa_obj g (k := k) (by rw [hgc]; exact hg) (by rw [hgc]; exact hgi)
          obtain ⟨k', rfl⟩ : ∃ k', k = k' + 1 := ⟨k - 1, by omega⟩
          split at hl
          · rename_i l' hl'
            cases hl
            refine aa_on_tryX (avs := (3, f) :: (s.2.2.2.take n).reverse) hKs hT hs hi hφ (as := .ref (k' + 1) :: (st.take n).reverse) ⟨⟨Nat.succ_ne_zero _, k' + 1, rfl, h2⟩, aa_ms_rev (aa_ms_take n hs.2.2.2.2)⟩ h3 hl' fun h8 => ?_
            rw [he]
            unfold zz_cv zz_call
            rw [hq]
            dsimp only
            rw [if_pos ⟨by rw [aa_ms_len hs.2.2.2.2]; exact hn, by rw [hob]; rfl⟩, if_pos h8]
          · cases hl
        · cases hl
      · cases hl
  · cases hl
theorem aa_nx_okX (hG : aa_good Φ fr hk) (hKs : ∀ K ∈ Ks, aa_met Φ K) {ws : aa_W} {m : Nat} {e : zz_I} {pc : Nat} (hT : zz_T m pc = some e) {s : aa_S} {ν : List Int} {g : aa_G} {lv : zz_V} {st : List Value} (hs : aa_ok s ν g lv st) (hi : aa_inv g) (hφ : Φ g) {l : List (Nat × aa_S)} (hl : aa_nx Ks ws fr hk e pc s = some l) : aa_onX Φ L xs ws m ν g pc lv st l := by
  obtain ⟨i, ⟨x, y, u, w⟩, v, sw⟩ := e
  cases i with
  | invokestatic n =>
    have hl : (if x < 100000 then aa_calls Ks ws (pc + 3) s x y else aa_st ws fr hk (.invokestatic n, (x, y, u, w), v, sw) pc s) = some l := hl
    split at hl
    · exact aa_on_csX hKs hT (by assumption) hs hi hφ hl
    · exact aa_on_stX hG hT hs hi hφ hl
  | invokevirtual n => exact aa_on_cvX (m2 := x) (n := y) (u := u) hKs hT rfl hs hi hφ hl
  | invokespecial n =>
    have hl : (if x = 100000 then aa_st ws fr hk (.invokespecial n, (x, y, u, w), v, sw) pc s else aa_callv Ks ws (pc + 3) s x y u) = some l := hl
    split at hl
    · exact aa_on_stX hG hT hs hi hφ hl
    · rename_i hx
      refine aa_on_cvX (m2 := x) (n := y) (u := u) hKs hT ?_ hs hi hφ hl
      show (if x = 100000 then _ else zz_cv x y u st (aa_H g)) = _
      rw [if_neg hx]
  | _ => exact aa_on_stX hG hT hs hi hφ hl
theorem aa_nxX_ok (hL : L < 2147483648) (hG : aa_good Φ fr hk) (hKs : ∀ K ∈ Ks, aa_met Φ K) {ws : aa_W} {m : Nat} {e : zz_I} {pc : Nat} (hT : zz_T m pc = some e) {s : aa_S} {ν : List Int} (h0 : ν[0]? = some (L : Int)) {g : aa_G} (hx : ∀ j, j < L → g 546 (10000 + j) = xs j) {lv : zz_V} {st : List Value} (hs : aa_ok s ν g lv st) (hi : aa_inv g) (hφ : Φ g) {l : List (Nat × aa_S)} (hl : aa_nxX Ks ws fr hk sp e pc s = some l) : aa_onX Φ L xs ws m ν g pc lv st l := by
  obtain ⟨i, ⟨x, y, u, w⟩, v, sw⟩ := e
  unfold aa_nxX at hl
  dsimp only at hl
  split at hl
  · split at hl
    · rename_i a f r hst
      split at hl
      · rename_i hz
        have hz := aa_eqf_ok hz
        subst hz
        split at hl
        · rename_i hc
          have hm := hs.2.2.2.2
          rw [hst] at hm
          obtain ⟨z, q, rfl, z1, h2⟩ := aa_ms_int hm
          obtain ⟨k, q, rfl, z2, h3⟩ := aa_ms_ref h2
          rw [aa_c_ev] at z2
          have hk0 : k = 0 := by
            have := Option.some.inj z2
            omega
          subst hk0
          have b1 := aa_lo_ok hs.1 hs.2.1 z1
          have b2 := aa_lo_ok hs.1 hs.2.1 (aa_add_ev (k := -1) (aa_id_ev h0) z1)
          have hin : zz_inb z L = true := aa_inb (by omega) (by omega)
          have hz0 : 0 ≤ z.toInt := by omega
          have hzn : ((10000 + z.toNatClampNeg : Nat) : Int) = z.toInt + 10000 := by
            have e : z.toNatClampNeg = z.toInt.toNat := rfl
            omega
          obtain ⟨s', hs', ρ, h5⟩ := lw_rd_ok (sp := sp) (pc := pc) (w := xs z.toNatClampNeg) hs h3 (j := 10000 + z.toNatClampNeg) (by rw [hzn]; exact aa_plus_ev z1) (hx _ (by have e : z.toNatClampNeg = z.toInt.toNat := rfl; omega))
          cases hl
          intro φ k
          refine zz_fin.step1 hT ?_ (k (pc + 1) s' ρ g lv _ (List.mem_map.mpr ⟨s', hs', rfl⟩) h5 hi hφ aa_fr.rf)
          show zz_ial (some (L, xs)) pc lv (.int z :: .ref 0 :: q) (aa_H g) = _
          unfold zz_ial
          dsimp only
          rw [if_pos hin]
          rfl
        · cases hl
      · exact aa_nx_okX hG hKs hT hs hi hφ hl
    · cases hl
  · split at hl
    · rename_i f r hst
      split at hl
      · rename_i hz
        have hz := aa_eqf_ok hz
        subst hz
        cases hl
        have hm := hs.2.2.2.2
        rw [hst] at hm
        obtain ⟨k, q, rfl, z2, h3⟩ := aa_ms_ref hm
        rw [aa_c_ev] at z2
        have hk0 : k = 0 := by
          have := Option.some.inj z2
          omega
        subst hk0
        intro φ k
        have hw : (Int32.ofNat L).toInt = L := zz_ofN hL
        refine zz_fin.step1 hT ?_ (k (pc + 1) _ [] g lv (.int (Int32.ofNat L) :: q) List.mem_cons_self (by rw [List.append_nil]; exact aa_pi_ok hs h3 (by rw [hw]; exact aa_id_ev h0)) hi hφ aa_fr.rf)
        rfl
      · exact aa_nx_okX hG hKs hT hs hi hφ hl
    · cases hl
  · exact aa_nx_okX hG hKs hT hs hi hφ hl
/-- at this place of a loop, with so much left -/
def aa_hereX (Φ : aa_G → Prop) (L : Nat) (xs : Nat → Int32) (K : aa_K) (ν0 : List Int) (g0 : aa_G) (c : Nat × (aa_T × aa_Wh) × aa_F) (y : Int) : Prop := ∀ (τ : List Int) (g : aa_G) (lv : zz_V), aa_vb c.2.1.1.1.1 τ → aa_vc c.2.1.1.1.2 τ → aa_vh c.2.1.1.2.1 τ g → aa_ml τ c.2.1.1.2.2 lv → aa_at Φ K ν0 g0 τ g → aa_ev τ c.2.2 = some y → zz_fin (some (L, xs)) K.1.1 (c.1, lv, [], aa_H g) (aa_post Φ K ν0 g0)
theorem aa_arvX_ok (hν0 : ν0.length = K.1.2.1) {cur : Option aa_F} {s : aa_S} {c : Nat × (aa_T × aa_Wh) × aa_F} {ν : List Int} {g : aa_G} {lv : zz_V} {st : List Value} {b : Int} (h : aa_ok s ν g lv st) (ha : aa_at Φ K ν0 g0 ν g) (hb : ∀ f, cur = some f → aa_ev ν f = some b) (hc : ∀ y, 0 ≤ y → (∀ f, cur = some f → y < b) → aa_hereX Φ L xs K ν0 g0 c y) (e : aa_arv K cur s c = true) : zz_fin (some (L, xs)) K.1.1 (c.1, lv, [], aa_H g) (aa_post Φ K ν0 g0) := by
  unfold aa_arv at e
  dsimp only at e
  generalize hσ : aa_fnd s s.2.2.1 c.2.1.1 c.2.1.2 (aa_ids 0 K.1.2.1) = σ at e
  simp only [Bool.and_eq_true] at e
  obtain ⟨e1, e2, e3⟩ := e
  obtain ⟨τ, t1, t2, t3, t4, t5⟩ := aa_mt_ok h.1 h.2.1 h.2.2.1 e1
  obtain ⟨⟨ρ0, rfl⟩, a1, a2, a3⟩ := ha
  rw [← hν0] at e2
  obtain ⟨ρ, rfl⟩ := aa_pfx_ok e2 t1
  split at e3
  · cases e3
  · rename_i μ hμ
    rw [Bool.and_eq_true, decide_eq_true_eq] at e3
    obtain ⟨y, y1, y2⟩ := aa_sub_ok t1 hμ
    have b1 := aa_lo_ok h.1 h.2.1 y2
    refine hc y (by omega) ?_ _ g lv t2 t3 t4 (aa_mav_ml t1 t5 h.2.2.2.1) ⟨⟨ρ, rfl⟩, a1, a2, a3⟩ y1
    rintro f rfl
    have b2 := aa_lo_ok h.1 h.2.1 (aa_add_ev (k := -1) (hb f rfl) y2)
    have b3 := of_decide_eq_true e3.2
    omega
theorem aa_exX_ok (hL : L < 2147483648) (hLν : ν0[0]? = some (L : Int)) (hx0 : ∀ j, j < L → g0 546 (10000 + j) = xs j) (hws : ∀ w ∈ K.1.2.2, w.1 = 41 → w.2.2 < 10000) (hG : aa_good Φ fr hk) (hKs : ∀ K ∈ Ks, aa_met Φ K) (hν0 : ν0.length = K.1.2.1) {b : Int} : ∀ (n : Nat) (mv : Bool) (cur : Option aa_F) (pc : Nat) (s : aa_S) (ν : List Int) (g : aa_G) (lv : zz_V) (st : List Value), aa_exX Ks K fr hk sp n mv cur pc s = true → aa_ok s ν g lv st → aa_at Φ K ν0 g0 ν g → (∀ f, cur = some f → aa_ev ν f = some b) → (∀ c ∈ K.2.2.2, ∀ y, 0 ≤ y → (∀ f, cur = some f → y < b) → aa_hereX Φ L xs K ν0 g0 c y) → zz_fin (some (L, xs)) K.1.1 (pc, lv, st, aa_H g) (aa_post Φ K ν0 g0)
  | 0, _, _, _, _, _, _, _, _, h, _, _, _, _ => by cases h
  | n + 1, mv, cur, pc, s, ν, g, lv, st, e, h, ha, hb, hc => by
    rw [aa_exX] at e
    split at e
    · rename_i c r hcut
      have hmem : ∀ c' ∈ c :: r, c' ∈ K.2.2.2 ∧ c'.1 = pc := fun c' hc' => by
        rw [← hcut] at hc'
        cases mv with
        | false => cases hc'
        | true =>
          obtain ⟨k1, k2⟩ := List.mem_filter.mp hc'
          exact ⟨k1, Nat.eq_of_beq_eq_true k2⟩
      split at e
      · rename_i hst
        obtain ⟨c', hc', e1⟩ := List.any_eq_true.mp e
        obtain ⟨m1, m2⟩ := hmem c' hc'
        have hm := h.2.2.2.2
        rw [hst] at hm
        cases st with
        | cons v q => exact hm.elim
        | nil =>
          rw [← m2]
          exact aa_arvX_ok hν0 h ha hb (hc c' m1) e1
      · cases e
    · split at e
      · cases e
      · rename_i i hT
        split at e
        · rename_i bb hrt
          subst e
          have hm := h.2.2.2.2
          obtain ⟨i, ⟨x, y, u, w⟩, v, sw⟩ := i
          unfold aa_rt at hrt
          dsimp only at hrt
          split at hrt
          · have hrt := Option.some.inj hrt
            split at hrt
            · rename_i f hst
              rw [hst] at hm
              obtain ⟨a, q, rfl, h1, h2⟩ := aa_ms_int hm
              cases q with
              | cons _ _ => exact h2.elim
              | nil =>
                split at hrt
                · rename_i hr
                  have hr := Nat.eq_of_beq_eq_true hr
                  refine zz_fin.ret (v := some (.int a)) (q := pc) hT ?_ (aa_exit_ok (avs := [(1, f)]) hν0 h ha ⟨Nat.one_ne_zero, a, rfl, h1⟩ hrt)
                  show (if zz_rt K.1.1 = 1 ∨ (zz_rt K.1.1 = 2 ∧ (a = 0 ∨ a = 1)) then _ else none) = _
                  rw [if_pos (.inl hr)]
                · simp only [Bool.and_eq_true, decide_eq_true_eq] at hrt
                  obtain ⟨r1, r2, r3, r4, r5⟩ := hrt
                  have hr := Nat.eq_of_beq_eq_true r1
                  have b1 := aa_lo_ok h.1 h.2.1 h1
                  have b2 := aa_hi_ok h.1 h.2.1 h1
                  have key : ∀ z : Int32, a = z → aa_exz K s f z.toInt = true → aa_post Φ K ν0 g0 (some (.int a)) (aa_H g) := fun z hz hx => by
                    subst hz
                    unfold aa_exz at hx
                    obtain ⟨s', e3, h3⟩ := aa_as2_ok h (f := aa_plus f (-a.toInt)) (by rw [aa_plus_ev h1, Int.add_right_neg])
                    rw [e3] at hx
                    exact aa_exit_ok (avs := [(1, aa_c a.toInt)]) hν0 h3 ha ⟨Nat.one_ne_zero, a, rfl, aa_c_ev⟩ hx
                  have h01 : a = 0 ∨ a = 1 := by
                    rcases (show a.toInt = 0 ∨ a.toInt = 1 by omega) with z | z
                    · exact .inl (Int32.toInt_inj.mp z)
                    · exact .inr (Int32.toInt_inj.mp z)
                  refine zz_fin.ret (v := some (.int a)) (q := pc) (h' := aa_H g) hT ?_ ?_
                  · show (if zz_rt K.1.1 = 1 ∨ (zz_rt K.1.1 = 2 ∧ (a = 0 ∨ a = 1)) then _ else none) = _
                    rw [if_pos (.inr ⟨hr, h01⟩)]
                  · rcases h01 with z | z
                    · exact key 0 z r4
                    · exact key 1 z r5
            · cases hrt
          · have hrt := Option.some.inj hrt
            split at hrt
            · rename_i f hst
              rw [Bool.and_eq_true] at hrt
              have hr := Nat.eq_of_beq_eq_true hrt.1
              rw [hst] at hm
              obtain ⟨a, q, rfl, h1, h2⟩ := aa_ms_ref hm
              cases q with
              | cons _ _ => exact h2.elim
              | nil =>
                refine zz_fin.ret (v := some (.ref a)) (q := pc) hT ?_ (aa_exit_ok (avs := [(3, f)]) hν0 h ha ⟨Nat.succ_ne_zero _, a, rfl, h1⟩ hrt.2)
                show (if zz_rt K.1.1 = 3 then _ else none) = _
                rw [if_pos hr]
            · rename_i f hst
              rw [Bool.and_eq_true] at hrt
              have hr := Nat.eq_of_beq_eq_true hrt.1
              rw [hst] at hm
              obtain ⟨q, rfl, h2⟩ := aa_ms_null hm
              cases q with
              | cons _ _ => exact h2.elim
              | nil =>
                refine zz_fin.ret (v := some .null) (q := pc) hT ?_ (aa_exit_ok (avs := [(4, f)]) hν0 h ha ⟨Nat.succ_ne_zero _, rfl⟩ hrt.2)
                show (if zz_rt K.1.1 = 3 then _ else none) = _
                rw [if_pos hr]
            · cases hrt
          · have hrt := Option.some.inj hrt
            split at hrt
            · rename_i hst
              rw [Bool.and_eq_true] at hrt
              have hr := Nat.eq_of_beq_eq_true hrt.1
              rw [hst] at hm
              cases st with
              | cons _ _ => exact hm.elim
              | nil =>
                refine zz_fin.ret (v := none) (q := pc) hT ?_ (aa_exit_ok (avs := []) hν0 h ha trivial hrt.2)
                show (if zz_rt K.1.1 = 0 then _ else none) = _
                rw [if_pos hr]
            · cases hrt
          · cases hrt
        · split at e
          · cases e
          · rename_i l hl
            have hν1 : ν[0]? = some (L : Int) := by
              obtain ⟨⟨ρ0, rfl⟩, -⟩ := ha
              rw [List.getElem?_append_left (List.getElem?_eq_some_iff.mp hLν).1]
              exact hLν
            have hx1 : ∀ j, j < L → g 546 (10000 + j) = xs j := fun j hj => by
              rcases ha.2.2.2.1 546 (10000 + j) with e | ⟨w, hw, w1, w2, w3⟩
              · exact e.trans (hx0 j hj)
              · have := hws w hw w1
                omega
            refine aa_nxX_ok hL hG hKs hT hν1 hx1 h ha.2.1 ha.2.2.1 hl _ fun pc' s' ρ g' lv' st' h1 h2 h3 h4 h5 => ?_
            have e1 := List.all_eq_true.mp e _ h1
            obtain ⟨⟨ρ0, rfl⟩, a1, a2, a3⟩ := ha
            exact aa_exX_ok hL hLν hx0 hws hG hKs hν0 n true cur pc' s' _ g' lv' st' e1 h2 ⟨⟨ρ0 ++ ρ, by rw [List.append_assoc]⟩, h3, h4, a3.tr h5⟩ (fun f hf => aa_ev_app (hb f hf)) hc
end AX
theorem aa_chkX_ok {Φ : aa_G → Prop} {fr : aa_W} {hk : aa_Hk} {sp : Nat → Bool} {Ks : List aa_K} {K : aa_K} {L : Nat} {xs : Nat → Int32} (hL : L < 2147483648) {ν0 : List Int} (hLν : ν0[0]? = some (L : Int)) (hν0 : ν0.length = K.1.2.1) (hG : aa_good Φ fr hk) (hKs : ∀ K ∈ Ks, aa_met Φ K) {n : Nat} {g0 : aa_G} (hx0 : ∀ j, j < L → g0 546 (10000 + j) = xs j) (hws : ∀ w ∈ K.1.2.2, w.1 = 41 → w.2.2 < 10000) (h4 : ∀ c ∈ K.2.2.2, aa_exX Ks K fr hk sp n false (some c.2.2) c.1 (c.2.1.1.1, (c.2.1.1.2.1, (c.2.1.1.2.2, []))) = true) : ∀ c ∈ K.2.2.2, ∀ y : Int, 0 ≤ y → aa_hereX Φ L xs K ν0 g0 c y := by
  have loop : ∀ (N : Nat), ∀ c ∈ K.2.2.2, ∀ y : Int, 0 ≤ y → y < N → aa_hereX Φ L xs K ν0 g0 c y := by
    intro N
    induction N with
    | zero => intro c _ y q1 q2; omega
    | succ N ih =>
      intro c hc y q1 q2 τ g lv t1 t2 t3 t4 t5 t6
      refine aa_exX_ok (b := y) hL hLν hx0 hws hG hKs hν0 n false (some c.2.2) c.1 _ τ g lv [] (h4 c hc) ⟨t1, t2, t3, t4, trivial⟩ t5 (fun f hf => by cases hf; exact t6) ?_
      intro c' hc' y' p1 p2
      have := p2 _ rfl
      exact ih c' hc' y' p1 (by omega)
  intro c hc y p1
  exact loop (y.toNat + 1) c hc y p1 (by omega)
end
