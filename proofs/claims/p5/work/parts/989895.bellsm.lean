/-! BELLS: the model's bells() -/
/-- of BELLS and the reading alone has anything changed -/
def mb_gfr (g g' : aa_G) : Prop := ∀ k j, ¬ (k = 540 ∧ 10 ≤ j ∧ j ≤ 12) → k ≠ 544 → k ≠ 545 → g' k j = g k j
theorem mb_loop {b : Nat → Int32} {n : Nat} {g0 : aa_G} {φ : Option Value → zz_H → Prop} : ∀ (k p N T c : Nat) (g : aa_G) (z : Int32), n < k + p → p ≤ n → N ≤ 8 → T ≤ 40 → c ≤ 2 * T → mb_gfr g0 g → tm_ok g b n → g 540 10 = Int32.ofNat N → g 540 11 = Int32.ofNat c → g 540 12 = Int32.ofNat T →
    (∀ f g', ml_loop b n k p N T = .inl f → g' 540 6 = Int32.ofNat f → zz_fin none 178 (44, [some (.ref 540), some (.int 0), none], [], aa_H g') φ) →
    (∀ N2 c2 g' q z2, ml_loop b n k p N T = .inr N2 → N2 ≤ 8 → c2 ≤ 80 → mb_gfr g0 g' → g' 540 10 = Int32.ofNat N2 → g' 540 11 = Int32.ofNat c2 → zz_fin none 178 (44, [some (.ref 540), some (.int 1), none], [], aa_H (tm_at g' q z2)) φ) →
    zz_fin none 178 (21, [some (.ref 540), some (.int 1), none], [], aa_H (tm_at g p z)) φ := by
  intro k
  induction k with
  | zero => intro p N T c g z hk hp; omega
  | succ k ih =>
    intro p N T c g z hk hp hN hT hc hf h h10 h11 h12 k1 k2
    have hn := h.2.1
    have h4 : tm_at g p z 540 4 = Int32.ofNat n := (tm_at_ne _ _ _ (by omega)).trans h.1
    refine zz_fin.steps (n := 1) (s' := (22, [some (.ref 540), some (.int 1), none], [.int 1], aa_H (tm_at g p z))) rfl ?_
    refine zz_fin.if rfl (fun cz => zc_no1 cz) (fun cz => ?_)
    refine zz_fin.steps (n := 4) (s' := (33, [some (.ref 540), some (.int 1), none], [.int ((tm_at g p z) 540 4), .int (Int32.ofNat p)], aa_H (tm_at g p z))) rfl ?_
    rw [h4]
    refine zz_fin.ic rfl (fun c1 => ?_) (fun c1 => ?_)
    · have c1 : (Int32.ofNat n).toInt ≤ (Int32.ofNat p).toInt := aa_le32.mp (of_decide_eq_true c1)
      rw [zz_ofN (by omega), zz_ofN (by omega)] at c1
      exact k2 N c g p z (ml_no (by omega)) hN (by omega) hf h10 h11
    · have c1 : ¬ (Int32.ofNat n).toInt ≤ (Int32.ofNat p).toInt := fun z => c1 (decide_eq_true (aa_le32.mpr z))
      rw [zz_ofN (by omega), zz_ofN (by omega)] at c1
      have hm : p < n := by omega
      refine zz_fin.steps (n := 1) (s' := (37, [some (.ref 540), some (.int 1), none], [.ref 540], aa_H (tm_at g p z))) rfl ?_
      refine zz_fin.call rfl rfl (Nat.le_of_ble_eq_true rfl) (mb_bell h hN hT (by omega) hp h10 h11 h12) ?_
      rintro v h' (⟨f, e, rfl, g', rfl, hb⟩ | ⟨q, F, T2, cs, e, hq, rfl, g1, z1, rfl, hs⟩)
      · refine zz_fin.steps (n := 4) (s' := (44, [some (.ref 540), some (.int 0), none], [], aa_H g')) rfl ?_
        exact k1 f g' (ml_inl hm e) hb.2
      · rw [ml_inr hm e] at k1 k2
        obtain ⟨a1, a2, a3, a4, a5, a6, -⟩ := (cb_pb (b := b) (n := n) (p := p) (N := N) hT).2 q F T2 cs e
        obtain ⟨s1, s2, s3, s4, -⟩ := hs
        refine zz_fin.steps (n := 2) (s' := (21, [some (.ref 540), some (.int 1), none], [], aa_H (tm_at g1 q z1))) rfl ?_
        exact ih q (N + 1) T2 (c + cs.length) g1 z1 (by omega) a2 (by omega) a3 (by omega) (fun k j e1 e2 e3 => (s1 k j e1 (fun e => e3 e.1) (fun e => e2 e.1)).trans (hf k j e1 e2 e3)) (s1.ok h) s2 s3 s4 k1 k2
/-- towns and the like aside -/
def mb_541 (g g' : aa_G) : Prop := ∀ k j, k ≠ 541 → g' k j = g k j
theorem mb_cp1 {N : Nat} (hN : N ≤ 8) {φ : Option Value → zz_H → Prop} {g0 : aa_G} (h0 : g0 540 10 = Int32.ofNat N) (k0 : ∀ g x, mb_541 g0 g → zz_fin none 178 (104, [some (.ref 540), some (.int 1), x], [], aa_H g) φ) : ∀ (m j : Nat) (g : aa_G), j + m = 7 * N → mb_541 g0 g → zz_fin none 178 (71, [some (.ref 540), some (.int 1), some (.int (Int32.ofNat j))], [], aa_H g) φ := by
  intro m
  induction m with
  | zero =>
    intro j g hj hg
    have hl : g 540 10 = Int32.ofNat N := (hg 540 10 (by decide)).trans h0
    refine zz_fin.steps (n := 5) (s' := (79, [some (.ref 540), some (.int 1), some (.int (Int32.ofNat j))], [.int (7 * (g 540 10)), .int (Int32.ofNat j)], aa_H g)) rfl ?_
    rw [hl, mb_7 hN]
    refine zz_fin.ic rfl (fun c1 => ?_) (fun c1 => ?_)
    · exact k0 g _ hg
    · refine absurd (decide_eq_true (aa_le32.mpr ?_)) c1
      rw [zz_ofN (by omega), zz_ofN (by omega)]
      omega
  | succ m ih =>
    intro j g hj hg
    have hl : g 540 10 = Int32.ofNat N := (hg 540 10 (by decide)).trans h0
    refine zz_fin.steps (n := 5) (s' := (79, [some (.ref 540), some (.int 1), some (.int (Int32.ofNat j))], [.int (7 * (g 540 10)), .int (Int32.ofNat j)], aa_H g)) rfl ?_
    rw [hl, mb_7 hN]
    refine zz_fin.ic rfl (fun c1 => ?_) (fun c1 => ?_)
    · have c1 : (Int32.ofNat (7 * N)).toInt ≤ (Int32.ofNat j).toInt := aa_le32.mp (of_decide_eq_true c1)
      rw [zz_ofN (by omega), zz_ofN (by omega)] at c1
      omega
    · refine zz_fin.steps (n := 8) (s' := (96, [some (.ref 540), some (.int 1), some (.int (Int32.ofNat j))], [.int (Int32.ofNat j), .ref 544, .int (203 + (Int32.ofNat j)), .ref 541], aa_H g)) rfl ?_
      refine zz_fin.ial (n := 56) rfl rfl (zz_inbN (by omega) (by omega)) ?_
      rw [zz_toN (by omega)]
      rw [show (203 : Int32) + Int32.ofNat j = Int32.ofNat (203 + j) from mb_add 203 j rfl]
      refine zz_fin.ias (n := 6384) rfl rfl (zz_inbN (by omega) (by omega)) ?_
      rw [zz_toN (by omega)]
      refine zz_fin.steps (n := 2) (s' := (71, [some (.ref 540), some (.int 1), some (.int (Int32.ofNat j + 1))], [], aa_H (zz_w g 541 (203 + j) (g 544 j)))) rfl ?_
      generalize hG : zz_w g 541 (203 + j) (g 544 j) = g1
      have hg1 : mb_541 g0 g1 := fun k i e => by
        rw [← hG, aa_w_ne _ _ (by omega)]
        exact hg k i e
      rw [aa_succ]
      exact ih (j + 1) g1 (by omega) hg1
theorem mb_cp2 {c : Nat} (hc : c ≤ 80) {φ : Option Value → zz_H → Prop} {g0 : aa_G} (h0 : g0 540 11 = Int32.ofNat c) (k0 : ∀ g x, mb_541 g0 g → zz_fin none 178 (136, [some (.ref 540), some (.int 1), x], [], aa_H g) φ) : ∀ (m j : Nat) (g : aa_G), j + m = c → mb_541 g0 g → zz_fin none 178 (106, [some (.ref 540), some (.int 1), some (.int (Int32.ofNat j))], [], aa_H g) φ := by
  intro m
  induction m with
  | zero =>
    intro j g hj hg
    have hl : g 540 11 = Int32.ofNat c := (hg 540 11 (by decide)).trans h0
    refine zz_fin.steps (n := 3) (s' := (111, [some (.ref 540), some (.int 1), some (.int (Int32.ofNat j))], [.int (g 540 11), .int (Int32.ofNat j)], aa_H g)) rfl ?_
    rw [hl]
    refine zz_fin.ic rfl (fun c1 => ?_) (fun c1 => ?_)
    · exact k0 g _ hg
    · refine absurd (decide_eq_true (aa_le32.mpr ?_)) c1
      rw [zz_ofN (by omega), zz_ofN (by omega)]
      omega
  | succ m ih =>
    intro j g hj hg
    have hl : g 540 11 = Int32.ofNat c := (hg 540 11 (by decide)).trans h0
    refine zz_fin.steps (n := 3) (s' := (111, [some (.ref 540), some (.int 1), some (.int (Int32.ofNat j))], [.int (g 540 11), .int (Int32.ofNat j)], aa_H g)) rfl ?_
    rw [hl]
    refine zz_fin.ic rfl (fun c1 => ?_) (fun c1 => ?_)
    · have c1 : (Int32.ofNat (c)).toInt ≤ (Int32.ofNat j).toInt := aa_le32.mp (of_decide_eq_true c1)
      rw [zz_ofN (by omega), zz_ofN (by omega)] at c1
      omega
    · refine zz_fin.steps (n := 8) (s' := (128, [some (.ref 540), some (.int 1), some (.int (Int32.ofNat j))], [.int (Int32.ofNat j), .ref 545, .int (259 + (Int32.ofNat j)), .ref 541], aa_H g)) rfl ?_
      refine zz_fin.ial (n := 140) rfl rfl (zz_inbN (by omega) (by omega)) ?_
      rw [zz_toN (by omega)]
      rw [show (259 : Int32) + Int32.ofNat j = Int32.ofNat (259 + j) from mb_add 259 j rfl]
      refine zz_fin.ias (n := 6384) rfl rfl (zz_inbN (by omega) (by omega)) ?_
      rw [zz_toN (by omega)]
      refine zz_fin.steps (n := 2) (s' := (106, [some (.ref 540), some (.int 1), some (.int (Int32.ofNat j + 1))], [], aa_H (zz_w g 541 (259 + j) (g 545 j)))) rfl ?_
      generalize hG : zz_w g 541 (259 + j) (g 545 j) = g1
      have hg1 : mb_541 g0 g1 := fun k i e => by
        rw [← hG, aa_w_ne _ _ (by omega)]
        exact hg k i e
      rw [aa_succ]
      exact ih (j + 1) g1 (by omega) hg1
theorem mb_bells {g : aa_G} {b : Nat → Int32} {n c : Nat} (h : tm_ok g b n) (hc : g 540 1 = Int32.ofNat c) (h12 : c ≤ 12) : zz_fin none 178 (0, zz_in [.ref 540] (zz_nl 178), [], aa_H g) (fun v h => ∃ g', h = aa_H g' ∧ v = some (.int (bl_ans (ml_loop b n (n + 1) 0 0 0))) ∧ g' 540 6 = bl_flt (ml_loop b n (n + 1) 0 0 0) ∧ g' 540 4 = 0) := by
  refine zz_fin.steps (n := 1) (s' := (1, [some (.ref 540), none, none], [.ref 540], aa_H g)) rfl ?_
  refine zz_fin.call (ψ := fun v h' => v = none ∧ h' = aa_H (zz_w (zz_w g 540 5 0) 540 6 (-1))) rfl rfl (Nat.le_of_ble_eq_true rfl) (zz_fin.at (n := 7) rfl ⟨rfl, rfl⟩) ?_
  rintro v h' ⟨rfl, rfl⟩
  refine zz_fin.steps (n := 11) (s' := (21, [some (.ref 540), some (.int 1), none], [], aa_H (zz_w (zz_w (zz_w (zz_w (zz_w g 540 5 0) 540 6 (-1)) 540 10 0) 540 11 0) 540 12 0))) rfl ?_
  generalize hG : zz_w (zz_w (zz_w (zz_w g 540 6 (-1)) 540 10 0) 540 11 0) 540 12 0 = G
  have hbase : zz_w (zz_w (zz_w (zz_w (zz_w g 540 5 0) 540 6 (-1)) 540 10 0) 540 11 0) 540 12 0 = tm_at G 0 (g 540 7) := by
    rw [← hG]
    funext k j
    unfold tm_at
    simp only [zz_w_if]
    by_cases e12 : k = 540 ∧ j = 12
    · obtain ⟨rfl, rfl⟩ := e12
      rfl
    · by_cases e11 : k = 540 ∧ j = 11
      · obtain ⟨rfl, rfl⟩ := e11
        rfl
      · by_cases e10 : k = 540 ∧ j = 10
        · obtain ⟨rfl, rfl⟩ := e10
          rfl
        · by_cases e6 : k = 540 ∧ j = 6
          · obtain ⟨rfl, rfl⟩ := e6
            rfl
          · by_cases e5 : k = 540 ∧ j = 5
            · obtain ⟨rfl, rfl⟩ := e5
              rfl
            · by_cases e7 : k = 540 ∧ j = 7
              · obtain ⟨rfl, rfl⟩ := e7
                rfl
              · rw [if_neg e12, if_neg e11, if_neg e10, if_neg e6, if_neg e5, if_neg e7, if_neg e5, if_neg e12, if_neg e11, if_neg e10, if_neg e6]
  rw [hbase]
  have G4 : ∀ k j, ¬ (k = 540 ∧ (j = 6 ∨ (10 ≤ j ∧ j ≤ 12))) → G k j = g k j := fun k j e => by
    rw [← hG, aa_w_ne _ _ (by omega), aa_w_ne _ _ (by omega), aa_w_ne _ _ (by omega), aa_w_ne _ _ (by omega)]
  have hok : tm_ok G b n := ⟨(G4 540 4 (by omega)).trans h.1, h.2.1, fun j hj => by rw [G4 543 j (by omega)]; exact h.2.2 j hj⟩
  have g12 : G 540 12 = 0 := by rw [← hG, aa_w_at]
  have g11 : G 540 11 = 0 := by rw [← hG, aa_w_ne _ _ (by omega), aa_w_at]
  have g10 : G 540 10 = 0 := by rw [← hG, aa_w_ne _ _ (by omega), aa_w_ne _ _ (by omega), aa_w_at]
  have g6 : G 540 6 = -1 := by rw [← hG, aa_w_ne _ _ (by omega), aa_w_ne _ _ (by omega), aa_w_ne _ _ (by omega), aa_w_at]
  refine mb_loop (g0 := G) (n + 1) 0 0 0 0 G _ (by omega) (Nat.zero_le _) (by omega) (by omega) (Nat.le_refl _) (fun _ _ _ _ _ => rfl) hok g10 g11 g12 (fun f g' hs hf => ?_) (fun N2 c2 g' q z2 hs hN hc2 hfr m10 m11 => ?_)
  · rw [hs]
    exact zz_fin.at (n := 7) rfl ⟨_, rfl, rfl, (aa_w_ne _ _ (by omega)).trans hf, aa_w_at _ _ _ _⟩
  · rw [hs]
    generalize hK : zz_w (tm_at g' q z2) 540 4 0 = K
    have K1 : ∀ k j, ¬ (k = 540 ∧ (j = 4 ∨ j = 5 ∨ j = 7)) → K k j = g' k j := fun k j e => by
      rw [← hK, aa_w_ne _ _ (by omega), tm_at_ne _ _ _ (by omega)]
    have hK4 : K 540 4 = 0 := by rw [← hK, aa_w_at]
    have hK1 : K 540 1 = Int32.ofNat c := (K1 540 1 (by omega)).trans ((hfr 540 1 (by omega) (by decide) (by decide)).trans ((G4 540 1 (by omega)).trans hc))
    refine zz_fin.steps (n := 4) (s' := (50, [some (.ref 540), some (.int 1), none], [.int 1], aa_H (zz_w (tm_at g' q z2) 540 4 0))) rfl ?_
    rw [hK]
    refine zz_fin.if rfl (fun cz => ?_) (fun cz => absurd rfl cz)
    refine zz_fin.steps (n := 1) (s' := (56, [some (.ref 540), some (.int 1), none], [.ref 540], aa_H K)) rfl ?_
    refine zz_fin.call (ψ := fun v h' => v = none ∧ ∃ g', h' = aa_H g' ∧ md_push K g' 0 c) rfl rfl (Nat.le_of_ble_eq_true rfl) ?_ ?_
    · refine zz_fin.steps (n := 2) (s' := (2, [some (.ref 540)], [.int (Int32.ofNat 0), .ref 540], aa_H K)) rfl ?_
      refine zz_fin.call rfl rfl (Nat.le_of_ble_eq_true rfl) (md_deed (row := 0) (.inl rfl) hK1 h12) ?_
      rintro v h' ⟨rfl, g3, rfl, p⟩
      exact zz_fin.at (n := 1) rfl ⟨rfl, g3, rfl, p⟩
    rintro v h' ⟨rfl, g3, rfl, p1, p2, p3, p4⟩
    have r10 : g3 540 10 = Int32.ofNat N2 := (p4 540 10 (by omega) (by omega)).trans ((K1 540 10 (by omega)).trans m10)
    have r11 : g3 540 11 = Int32.ofNat c2 := (p4 540 11 (by omega) (by omega)).trans ((K1 540 11 (by omega)).trans m11)
    have r6 : g3 540 6 = -1 := (p4 540 6 (by omega) (by omega)).trans ((K1 540 6 (by omega)).trans ((hfr 540 6 (by omega) (by decide) (by decide)).trans g6))
    refine zz_fin.steps (n := 8) (s' := (71, [some (.ref 540), some (.int 1), some (.int (Int32.ofNat 0))], [], aa_H (zz_w g3 541 2 (g3 540 10)))) rfl ?_
    generalize hM : zz_w g3 541 2 (g3 540 10) = M
    have M1 : mb_541 g3 M := fun k j e => by
      rw [← hM, aa_w_ne _ _ (by omega)]
    refine mb_cp1 hN r10 (fun g4 x hg4 => ?_) (7 * N2) 0 M (by omega) M1
    refine zz_fin.steps (n := 2) (s' := (106, [some (.ref 540), some (.int 1), some (.int (Int32.ofNat 0))], [], aa_H g4)) rfl ?_
    refine mb_cp2 hc2 ((hg4 540 11 (by decide)).trans r11) (fun g5 x hg5 => ?_) c2 0 g4 (by omega) (fun _ _ _ => rfl)
    refine zz_fin.at (n := 3) rfl ⟨g5, rfl, ?_, (hg5 540 6 (by decide)).trans ((hg4 540 6 (by decide)).trans r6), (hg5 540 4 (by decide)).trans ((hg4 540 4 (by decide)).trans ((p4 540 4 (by omega) (by omega)).trans hK4))⟩
    exact congrArg (fun x => some (Value.int x)) ((hg5 540 10 (by decide)).trans ((hg4 540 10 (by decide)).trans r10))
