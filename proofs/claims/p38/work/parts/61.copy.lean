/-! BY HAND: a code more; a row copied onto another one -/
theorem aa_inv_w {g : aa_G} (h : aa_inv g) {k j : Nat} {v : Int32} (h1 : (aa_iv (aa_gc k) j).1 ≤ v.toInt) (h2 : v.toInt ≤ (aa_iv (aa_gc k) j).2) : aa_inv (zz_w g k j v) := fun a b => by
  by_cases e : a = k ∧ b = j
  · obtain ⟨rfl, rfl⟩ := e
    rw [aa_w_at]
    exact ⟨h1, h2⟩
  · rw [aa_w_ne _ _ e]
    exact h a b
theorem zz_ofN {n : Nat} (h : n < 2147483648) : (Int32.ofNat n).toInt = n := Int32.toInt_ofNat_of_lt (by omega)
theorem zz_toN {n : Nat} (h : n < 2147483648) : (Int32.ofNat n).toNatClampNeg = n := by
  have e : (Int32.ofNat n).toNatClampNeg = (Int32.ofNat n).toInt.toNat := rfl
  rw [e, zz_ofN h]
  rfl
theorem zz_inbN {n l : Nat} (h : n < l) (hl : l < 2147483648) : zz_inb (Int32.ofNat n) l = true := aa_inb (by rw [zz_ofN (by omega)]; omega) (by rw [zz_ofN (by omega)]; omega)
theorem zz_row (t k : Nat) : (399 : Int32) * Int32.ofNat t + Int32.ofNat k = Int32.ofNat (399 * t + k) := by
  rw [Int32.ofNat_add, Int32.ofNat_mul]
  rfl
/-- row t has become row f -/
def aa_cp (g g' : aa_G) (f t n : Nat) : Prop := (∀ q, q < n → g' 541 (399 * t + q) = g 541 (399 * f + q)) ∧ ∀ k j, ¬ (k = 541 ∧ 399 * t ≤ j ∧ j < 399 * t + n) → g' k j = g k j
theorem row_loop (f t : Nat) (hf : f < 16) (ht : t < 16) (hne : f ≠ t) (g0 : aa_G) (n : Nat) : ∀ (k : Nat), n + k = 399 → ∀ (g : aa_G), aa_cp g0 g f t k → zz_fin none 152 (2, [some (.ref 540), some (.int (Int32.ofNat f)), some (.int (Int32.ofNat t)), some (.int (Int32.ofNat k))], [], aa_H g) (fun v h => v = none ∧ ∃ g', h = aa_H g' ∧ aa_cp g0 g' f t 399) := by
  induction n with
  | zero =>
    intro k hk g hg
    refine zz_fin.steps (n := 2) (s' := (6, [some (.ref 540), some (.int (Int32.ofNat f)), some (.int (Int32.ofNat t)), some (.int (Int32.ofNat k))], [.int 399, .int (Int32.ofNat k)], aa_H g)) rfl ?_
    refine zz_fin.ic rfl (fun c => ?_) (fun c => ?_)
    · have hk : k = 399 := by omega
      subst hk
      exact zz_fin.at (n := 1) rfl ⟨rfl, g, rfl, hg⟩
    · refine absurd (decide_eq_true ?_) c
      refine Int32.le_iff_toInt_le.mpr ?_
      rw [zz_ofN (by omega), show (399 : Int32).toInt = 399 by decide]
      omega
  | succ n ih =>
    intro k hk g hg
    refine zz_fin.steps (n := 2) (s' := (6, [some (.ref 540), some (.int (Int32.ofNat f)), some (.int (Int32.ofNat t)), some (.int (Int32.ofNat k))], [.int 399, .int (Int32.ofNat k)], aa_H g)) rfl ?_
    refine zz_fin.ic rfl (fun c => ?_) (fun c => ?_)
    · have c1 := Int32.le_iff_toInt_le.mp (of_decide_eq_true c)
      rw [zz_ofN (by omega), show (399 : Int32).toInt = 399 by decide] at c1
      omega
    · refine zz_fin.steps (n := 14) (s' := (31, [some (.ref 540), some (.int (Int32.ofNat f)), some (.int (Int32.ofNat t)), some (.int (Int32.ofNat k))], [.int (399 * Int32.ofNat f + Int32.ofNat k), .ref 541, .int (399 * Int32.ofNat t + Int32.ofNat k), .ref 541], aa_H g)) rfl ?_
      rw [zz_row, zz_row]
      refine zz_fin.ial (n := 6384) rfl rfl (zz_inbN (by omega) (by omega)) ?_
      refine zz_fin.ias (n := 6384) rfl rfl (zz_inbN (by omega) (by omega)) ?_
      rw [zz_toN (by omega), zz_toN (by omega)]
      refine zz_fin.steps (n := 2) (s' := (2, [some (.ref 540), some (.int (Int32.ofNat f)), some (.int (Int32.ofNat t)), some (.int (Int32.ofNat k + 1))], [], aa_H (zz_w g 541 (399 * t + k) (g 541 (399 * f + k))))) rfl ?_
      rw [show Int32.ofNat k + 1 = Int32.ofNat (k + 1) from (Int32.ofNat_add k 1).symm]
      refine ih (k + 1) (by omega) _ ⟨fun q hq => ?_, fun a b hab => ?_⟩
      · by_cases hqk : q = k
        · subst hqk
          rw [aa_w_at]
          exact hg.2 541 _ (by omega)
        · rw [aa_w_ne _ _ (by omega)]
          exact hg.1 q (by omega)
      · rw [aa_w_ne _ _ (by omega)]
        exact hg.2 a b (by omega)
theorem row_copy (f t : Nat) (hf : f < 16) (ht : t < 16) (hne : f ≠ t) (g : aa_G) : zz_fin none 152 (0, zz_in [.ref 540, .int (Int32.ofNat f), .int (Int32.ofNat t)] (zz_nl 152), [], aa_H g) (fun v h => v = none ∧ ∃ g', h = aa_H g' ∧ aa_cp g g' f t 399) := by
  refine zz_fin.steps (n := 2) (s' := (2, [some (.ref 540), some (.int (Int32.ofNat f)), some (.int (Int32.ofNat t)), some (.int (Int32.ofNat 0))], [], aa_H g)) rfl ?_
  exact row_loop f t hf ht hne g 399 0 rfl g ⟨fun q hq => absurd hq (Nat.not_lt_zero q), fun _ _ _ => rfl⟩
theorem aa_iv36 (j : Nat) : aa_iv 36 j = aa_place (j / 399) (j % 399) := rfl
theorem aa_place_le {f t q : Nat} {x : Int} (h : (aa_place f q).1 ≤ x ∧ x ≤ (aa_place f q).2) (h1 : q = 1 → 1 ≤ x) : (aa_place t q).1 ≤ x ∧ x ≤ (aa_place t q).2 := by
  unfold aa_place at h ⊢
  split
  · rename_i c
    rw [if_pos c] at h
    exact h
  · rename_i c
    rw [if_neg c] at h
    split
    · rename_i c
      rw [if_pos c] at h
      exact h
    · rename_i c
      rw [if_neg c] at h
      split
      · rename_i c
        rw [if_pos c] at h
        exact h
      · rename_i c
        rw [if_neg c] at h
        match q, h, h1 with
        | 0, h, _ => exact h
        | 1, h, h1 =>
          have h2 := h1 rfl
          have h : (if Nat.beq f 0 = true then ((1 : Int), (3600 : Int)) else (0, 3600)).1 ≤ x ∧ x ≤ (if Nat.beq f 0 = true then ((1 : Int), (3600 : Int)) else (0, 3600)).2 := h
          show (if Nat.beq t 0 = true then ((1 : Int), (3600 : Int)) else (0, 3600)).1 ≤ x ∧ x ≤ (if Nat.beq t 0 = true then ((1 : Int), (3600 : Int)) else (0, 3600)).2
          have h3 : x ≤ 3600 := by
            have := h.2
            split at this <;> exact this
          split
          · exact ⟨h2, h3⟩
          · exact ⟨show (0 : Int) ≤ x by omega, h3⟩
        | q + 2, h, _ => exact h
theorem aa_inv_cp {g g' : aa_G} {f t : Nat} (h : aa_inv g) (hc : aa_cp g g' f t 399) (hp : 1 ≤ (g 541 (399 * f + 1)).toInt) : aa_inv g' := fun k j => by
  by_cases e : k = 541 ∧ 399 * t ≤ j ∧ j < 399 * t + 399
  · obtain ⟨rfl, e1, e2⟩ := e
    obtain ⟨q, rfl⟩ : ∃ q, j = 399 * t + q := ⟨j - 399 * t, by omega⟩
    have hq : q < 399 := by omega
    rw [hc.1 q hq]
    have k1 := h 541 (399 * f + q)
    have k1 : (aa_iv 36 (399 * f + q)).1 ≤ (g 541 (399 * f + q)).toInt ∧ (g 541 (399 * f + q)).toInt ≤ (aa_iv 36 (399 * f + q)).2 := k1
    show (aa_iv 36 (399 * t + q)).1 ≤ (g 541 (399 * f + q)).toInt ∧ (g 541 (399 * f + q)).toInt ≤ (aa_iv 36 (399 * t + q)).2
    rw [aa_iv36, show (399 * t + q) / 399 = t by omega, show (399 * t + q) % 399 = q by omega]
    rw [aa_iv36, show (399 * f + q) / 399 = f by omega, show (399 * f + q) % 399 = q by omega] at k1
    refine aa_place_le k1 fun e => ?_
    subst e
    exact hp
  · rw [hc.2 k j e]
    exact h k j
theorem aa_to_le {g : aa_G} (h : aa_inv g) (r b : Nat) (hb : b < 8) : (g 541 (399 * r + 203 + 7 * b + 6)).toInt ≤ 140 := by
  have k := (h 541 (399 * r + (209 + 7 * b))).2
  have k : (g 541 (399 * r + (209 + 7 * b))).toInt ≤ (aa_iv 36 (399 * r + (209 + 7 * b))).2 := k
  rw [aa_iv36, show (399 * r + (209 + 7 * b)) / 399 = r by omega, show (399 * r + (209 + 7 * b)) % 399 = 209 + 7 * b by omega] at k
  rw [show 399 * r + 203 + 7 * b + 6 = 399 * r + (209 + 7 * b) by omega]
  rcases (show b = 0 ∨ b = 1 ∨ b = 2 ∨ b = 3 ∨ b = 4 ∨ b = 5 ∨ b = 6 ∨ b = 7 by omega) with rfl | rfl | rfl | rfl | rfl | rfl | rfl | rfl <;> exact k
theorem aa_seg_cp {g g' : aa_G} {r r' b : Nat} (h5 : g' 541 (399 * r' + 203 + 7 * b + 5) = g 541 (399 * r + 203 + 7 * b + 5)) (h6 : g' 541 (399 * r' + 203 + 7 * b + 6) = g 541 (399 * r + 203 + 7 * b + 6)) (hc : ∀ k, k < 140 → g' 541 (399 * r' + 259 + k) = g 541 (399 * r + 259 + k)) (hle : (g 541 (399 * r + 203 + 7 * b + 6)).toInt ≤ 140) (h : aa_seg g r b) : aa_seg g' r' b := by
  unfold aa_seg at h ⊢
  rw [h5, h6, aa_run_congr (c := fun k => g 541 (399 * r + 259 + k))]
  · exact h
  · intro i hi
    exact hc _ (by omega)
theorem aa_Phi_cp {g g' : aa_G} {f t : Nat} (hi : aa_inv g) (h : aa_Phi g) (hc : aa_cp g g' f t 399) (hf : f < 16) (hp : 1 ≤ (g 541 (399 * f + 1)).toInt) : aa_Phi g' := by
  obtain ⟨k1, ⟨k2, k3⟩, k4⟩ := h
  have oth : ∀ k, k ≠ 541 → g' k = g k := fun k hk => by
    funext j
    exact hc.2 k j fun e => hk e.1
  have out : ∀ j, ¬ (399 * t ≤ j ∧ j < 399 * t + 399) → g' 541 j = g 541 j := fun j hj => hc.2 541 j fun e => hj e.2
  have parts : ∀ r, 1 ≤ (g 541 (399 * r + 1)).toInt → 1 ≤ (g' 541 (399 * r + 1)).toInt := fun r hr => by
    by_cases e : r = t
    · subst e
      rw [hc.1 1 (by omega)]
      exact hp
    · rw [out _ (by omega)]
      exact hr
  refine ⟨fun r hr => ?_, ⟨fun k hk hq => ?_, fun k hk hq => ?_⟩, fun b hb hq => ?_⟩
  · by_cases e : r = t
    · subst e
      have kf := k1 f hf
      constructor
      · intro t' i ht' hi hcnt
        rw [show 399 * r + 50 * t' + 4 = 399 * r + (50 * t' + 4) by omega, hc.1 _ (by omega), ← Nat.add_assoc] at hcnt
        have := kf.1 t' i ht' hi hcnt
        unfold aa_gd at this ⊢
        rw [show 399 * r + 50 * t' + 4 * i + 5 + 3 = 399 * r + (50 * t' + 4 * i + 5 + 3) by omega, show 399 * r + 50 * t' + 4 * i + 5 + 1 = 399 * r + (50 * t' + 4 * i + 5 + 1) by omega, show 399 * r + 50 * t' + 4 * i + 5 + 2 = 399 * r + (50 * t' + 4 * i + 5 + 2) by omega, hc.1 _ (by omega), hc.1 _ (by omega), hc.1 _ (by omega)]
        rwa [show 399 * f + 50 * t' + 4 * i + 5 + 3 = 399 * f + (50 * t' + 4 * i + 5 + 3) by omega, show 399 * f + 50 * t' + 4 * i + 5 + 1 = 399 * f + (50 * t' + 4 * i + 5 + 1) by omega, show 399 * f + 50 * t' + 4 * i + 5 + 2 = 399 * f + (50 * t' + 4 * i + 5 + 2) by omega] at this
      · intro b hb hcnt
        rw [hc.1 2 (by omega)] at hcnt
        have := kf.2 b hb hcnt
        refine aa_seg_cp ?_ ?_ ?_ (aa_to_le hi f b hb) this
        · rw [show 399 * r + 203 + 7 * b + 5 = 399 * r + (203 + 7 * b + 5) by omega, hc.1 _ (by omega), show 399 * f + (203 + 7 * b + 5) = 399 * f + 203 + 7 * b + 5 by omega]
        · rw [show 399 * r + 203 + 7 * b + 6 = 399 * r + (203 + 7 * b + 6) by omega, hc.1 _ (by omega), show 399 * f + (203 + 7 * b + 6) = 399 * f + 203 + 7 * b + 6 by omega]
        · intro k hk
          rw [show 399 * r + 259 + k = 399 * r + (259 + k) by omega, hc.1 _ (by omega), show 399 * f + (259 + k) = 399 * f + 259 + k by omega]
    · refine ⟨aa_pt_of (fun q q1 q2 _ _ _ => out _ (by omega)) (k1 r hr).1, fun b hb hcnt => ?_⟩
      rw [out _ (by omega)] at hcnt
      exact aa_seg_cp (out _ (by omega)) (out _ (by omega)) (fun k hk => out _ (by omega)) (aa_to_le hi r b hb) ((k1 r hr).2 b hb hcnt)
  · rw [oth 542 (by decide)] at hq
    exact parts _ (k2 k hk hq)
  · rw [oth 540 (by decide)] at hq
    exact parts _ (k3 k hk hq)
  · rw [oth 540 (by decide)] at hq
    exact aa_nb_of (fun q _ => by rw [oth 544 (by decide)]) (by rw [oth 540 (by decide)]; exact Int.le_refl _) (fun i _ => by rw [oth 545 (by decide)]) (k4 b hb hq)
/-- a row is copied, and all that is kept is kept -/
theorem aa_copy {f t : Nat} (hf : f < 16) (ht : t < 16) (hne : f ≠ t) {g : aa_G} (hi : aa_inv g) (hφ : aa_Phi g) (hp : 1 ≤ (g 541 (399 * f + 1)).toInt) : zz_fin none 152 (0, zz_in [.ref 540, .int (Int32.ofNat f), .int (Int32.ofNat t)] (zz_nl 152), [], aa_H g) (fun v h => v = none ∧ ∃ g', h = aa_H g' ∧ aa_cp g g' f t 399 ∧ aa_inv g' ∧ aa_Phi g') := by
  refine (row_copy f t hf ht hne g).mono ?_
  rintro v h ⟨rfl, g', rfl, hc⟩
  exact ⟨rfl, g', rfl, hc, aa_inv_cp hi hc hp, aa_Phi_cp hi hφ hc hf hp⟩
theorem aa_cp_fr {g g' : aa_G} {f t : Nat} (h : aa_cp g g' f t 399) {ws : aa_W} {lo hi : Int} (hw : (36, lo, hi) ∈ ws) (h1 : lo ≤ 399 * t) (h2 : (399 * t + 398 : Int) ≤ hi) : aa_fr ws g g' := by
  refine ⟨fun k j => ?_, .inl (aa_dep_eq (h.2 540 10 (by omega)) (h.2 540 11 (by omega)) ?_ ?_)⟩
  · by_cases e : k = 541 ∧ 399 * t ≤ j ∧ j < 399 * t + 399
    · obtain ⟨rfl, e1, e2⟩ := e
      exact .inr ⟨_, hw, rfl, by show lo ≤ (j : Int); omega, by show (j : Int) ≤ hi; omega⟩
    · exact .inl (h.2 k j e)
  · funext j
    exact h.2 544 j (by omega)
  · funext j
    exact h.2 545 j (by omega)
theorem aa_h3 : aa_met aa_Phi aa_m3 := by
  intro ν0 g as h1 h2 h3 h4 h5 h6
  obtain ⟨as, rfl, h7⟩ := aa_this h4
  clear h4
  obtain ⟨w1, as, rfl, e1, h8⟩ := aa_ms_int h7
  clear h7
  obtain ⟨w2, as, rfl, e2, h9⟩ := aa_ms_int h8
  clear h8
  cases as with
  | cons _ _ => exact h9.elim
  | nil =>
    have e1 : (0 : Int) + 0 = w1.toInt := Option.some.inj e1
    have e2 : (15 : Int) + 0 = w2.toInt := Option.some.inj e2
    have e1 : w1 = Int32.ofNat 0 := Int32.toInt_inj.mp (by rw [← e1]; rfl)
    have e2 : w2 = Int32.ofNat 15 := Int32.toInt_inj.mp (by rw [← e2]; rfl)
    subst e1
    subst e2
    have hp : (1 : Int) ≤ (g 541 1).toInt ∧ (g 541 1).toInt ≤ 3600 := h5 541 1
    refine (aa_copy (f := 0) (t := 15) (by omega) (by omega) (by omega) h5 h6 hp.1).mono ?_
    rintro v h ⟨rfl, g', rfl, hc, k1, k2⟩
    refine ⟨g', rfl, k1, k2, aa_cp_fr hc List.mem_cons_self (by omega) (by omega), _, List.mem_cons_self, [(g 541 1).toInt], ?_, fun f hf => (by cases hf), ?_, trivial⟩
    · exact aa_vb_new h1 (lo := 1) (hi := 3600) (gr := 0) (by omega) (by omega) (fun z => absurd rfl z)
    · intro q hq
      rcases List.mem_cons.mp hq with rfl | hq
      · have hlen : ν0.length = 0 := h1.1
        match ν0, hlen with
        | [], _ =>
          refine ⟨541, 5986, _, rfl, rfl, rfl, ?_⟩
          have := hc.1 1 (by omega)
          show (g' 541 5986).toInt = (0 : Int) + (1 * (g 541 1).toInt + 0)
          rw [show (5986 : Nat) = 399 * 15 + 1 from rfl, this]
          show (g 541 1).toInt = _
          omega
      · cases hq
theorem aa_h6 : aa_met aa_Phi aa_m6 := by
  intro ν0 g as h1 h2 h3 h4 h5 h6
  obtain ⟨as, rfl, h7⟩ := aa_this h4
  clear h4
  obtain ⟨w1, as, rfl, e1, h8⟩ := aa_ms_int h7
  clear h7
  obtain ⟨w2, as, rfl, e2, h9⟩ := aa_ms_int h8
  clear h8
  have hlen : ν0.length = 1 := h1.1
  match ν0, hlen, as, h9 with
  | [a], _, [], _ =>
    have e1 : (15 : Int) + 0 = w1.toInt := Option.some.inj e1
    have e2 : (0 : Int) + 0 = w2.toInt := Option.some.inj e2
    have e1 : w1 = Int32.ofNat 15 := Int32.toInt_inj.mp (by rw [← e1]; rfl)
    have e2 : w2 = Int32.ofNat 0 := Int32.toInt_inj.mp (by rw [← e2]; rfl)
    subst e1
    subst e2
    have ra := aa_vh_at h3 (k := 541) (j := 5986) (r := (541, [])) (sl := (5986, [])) (f := (0, [(0, 1)])) List.mem_cons_self rfl rfl
    have ra : (0 : Int) + (1 * a + 0) = (g 541 5986).toInt := Option.some.inj ra
    have ba := (h1.2 0 _ a rfl rfl).1
    have ba : (1 : Int) ≤ a := ba
    have hp : (1 : Int) ≤ (g 541 (399 * 15 + 1)).toInt := by
      show (1 : Int) ≤ (g 541 5986).toInt
      omega
    refine (aa_copy (f := 15) (t := 0) (by omega) (by omega) (by omega) h5 h6 hp).mono ?_
    rintro v h ⟨rfl, g', rfl, hc, k1, k2⟩
    exact ⟨g', rfl, k1, k2, aa_cp_fr hc List.mem_cons_self (by omega) (by omega), _, List.mem_cons_self, [], h1, fun f hf => (by cases hf), fun q hq => (by cases hq), trivial⟩
