/-! A TEXT: the model's text, whole -/
theorem mt_cany {g : aa_G} {T : Nat} (hT : T ≤ 4) (h0 : g 541 0 = Int32.ofNat T) (n : Nat) : ∀ (k : Nat) (w : Int32), n + k = T → zz_fin none 163 (4, [some (.ref 540), some (.int w), some (.int (Int32.ofNat k))], [], aa_H g) (fun v h => (∃ w, v = some (.int w)) ∧ h = aa_H g) := by
  induction n with
  | zero =>
    intro k w hk
    refine zz_fin.steps (n := 5) (s' := (11, [some (.ref 540), some (.int w), some (.int (Int32.ofNat k))], [.int (g 541 0), .int (Int32.ofNat k)], aa_H g)) rfl ?_
    rw [h0]
    refine zz_fin.ic rfl (fun c1 => ?_) (fun c1 => ?_)
    · refine zz_fin.steps (n := 1) (s' := (35, [some (.ref 540), some (.int w), some (.int (Int32.ofNat k))], [.int w], aa_H g)) rfl ?_
      exact zz_fin.at (n := 1) rfl ⟨⟨w, rfl⟩, rfl⟩
    · refine absurd (decide_eq_true (aa_le32.mpr ?_)) c1
      rw [zz_ofN (by omega), zz_ofN (by omega)]
      omega
  | succ n ih =>
    intro k w hk
    refine zz_fin.steps (n := 5) (s' := (11, [some (.ref 540), some (.int w), some (.int (Int32.ofNat k))], [.int (g 541 0), .int (Int32.ofNat k)], aa_H g)) rfl ?_
    rw [h0]
    refine zz_fin.ic rfl (fun c1 => ?_) (fun c1 => ?_)
    · have c1 : (Int32.ofNat T).toInt ≤ (Int32.ofNat k).toInt := aa_le32.mp (of_decide_eq_true c1)
      rw [zz_ofN (by omega), zz_ofN (by omega)] at c1
      omega
    · refine zz_fin.steps (n := 4) (s' := (20, [some (.ref 540), some (.int w), some (.int (Int32.ofNat k))], [.int (Int32.ofNat k), .ref 541, .int w], aa_H g)) rfl ?_
      refine zz_fin.call rfl rfl (Nat.le_of_ble_eq_true rfl) (tab_all (t := k)) ?_
      rintro v h ⟨rfl, rfl⟩
      refine zz_fin.steps (n := 2) (s' := (25, [some (.ref 540), some (.int w), some (.int (Int32.ofNat k))], [.int ((Int32.ofNat (3 + 50 * k)) + 1), .ref 541, .int w], aa_H g)) rfl ?_
      rw [aa_succ]
      refine zz_fin.ial (n := 6384) rfl rfl (zz_inbN (by omega) (by omega)) ?_
      rw [zz_toN (by omega)]
      refine zz_fin.steps (n := 4) (s' := (4, [some (.ref 540), some (.int (w + (g 541 (3 + 50 * k + 1)))), some (.int ((Int32.ofNat k) + 1))], [], aa_H g)) rfl ?_
      rw [aa_succ]
      exact ih (k + 1) _ (by omega)
theorem mt_any {g : aa_G} {T : Nat} (hT : T ≤ 4) (h0 : g 541 0 = Int32.ofNat T) : zz_fin none 163 (0, zz_in [.ref 540] (zz_nl 163), [], aa_H g) (fun v h => (∃ w, v = some (.int w)) ∧ h = aa_H g) := by
  refine zz_fin.steps (n := 4) (s' := (4, [some (.ref 540), some (.int 0), some (.int (Int32.ofNat 0))], [], aa_H g)) rfl ?_
  exact mt_cany hT h0 T 0 0 rfl
theorem mt_loop {b : Nat → Int32} {n : Nat} {w0 : Int32} {φ : Option Value → zz_H → Prop} {g0 : aa_G} : ∀ (k p c : Nat) (A : sp_A) (g : aa_G) (z : Int32), n < k + p → p ≤ n → mt_fr g0 g → tm_ok g b n → mv0 g A →
    (∀ f g', sp_items b n k p c A = .inl f → mt_bad g0 f g' → zz_fin none 162 (48, [some (.ref 540), some (.int w0), some (.int 0), none], [], aa_H g') φ) →
    (∀ c' A' g' q z', sp_items b n k p c A = .inr (c', A') → mt_fr g0 g' → mv0 g' A' → zz_fin none 162 (48, [some (.ref 540), some (.int w0), some (.int 1), none], [], aa_H (tm_at g' q z')) φ) →
    zz_fin none 162 (25, [some (.ref 540), some (.int w0), some (.int 1), none], [], aa_H (tm_at g p z)) φ := by
  intro k
  induction k with
  | zero => intro p c A g z hk hp hf h hA k1 k2; omega
  | succ k ih =>
    intro p c A g z hk hp hf h hA k1 k2
    have hn := h.2.1
    have h0 : tm_at g p z 540 4 = Int32.ofNat n := h.1
    refine zz_fin.steps (n := 1) (s' := (26, [some (.ref 540), some (.int w0), some (.int 1), none], [.int 1], aa_H (tm_at g p z))) rfl ?_
    refine zz_fin.if rfl (fun cz => zc_no1 cz) (fun cz => ?_)
    refine zz_fin.steps (n := 4) (s' := (37, [some (.ref 540), some (.int w0), some (.int 1), none], [.int ((tm_at g p z) 540 4), .int (Int32.ofNat p)], aa_H (tm_at g p z))) rfl ?_
    rw [h0]
    refine zz_fin.ic rfl (fun c1 => ?_) (fun c1 => ?_)
    · have c1 : (Int32.ofNat n).toInt ≤ (Int32.ofNat p).toInt := aa_le32.mp (of_decide_eq_true c1)
      rw [zz_ofN (by omega), zz_ofN (by omega)] at c1
      exact k2 c A g p z (if_neg (by omega)) hf hA
    · have c1 : ¬ (Int32.ofNat n).toInt ≤ (Int32.ofNat p).toInt := fun z => c1 (decide_eq_true (aa_le32.mpr z))
      rw [zz_ofN (by omega), zz_ofN (by omega)] at c1
      have hm : p < n := by omega
      rw [show sp_items b n (k + 1) p c A = _ from if_pos hm] at k1 k2
      refine zz_fin.steps (n := 1) (s' := (41, [some (.ref 540), some (.int w0), some (.int 1), none], [.ref 540], aa_H (tm_at g p z))) rfl ?_
      cases hs : sp_item b n p A with
      | inl f =>
        rw [hs] at k1
        refine zz_fin.call rfl rfl (Nat.le_of_ble_eq_true rfl) (mt_item h hA hm) ?_
        rintro v h' hres
        rw [hs] at hres
        rcases hres with ⟨f', e1, rfl, g', rfl, hg⟩ | ⟨q, A', e1, -⟩
        · have e1 := Sum.inl.inj (show (Sum.inl f : Nat ⊕ (Nat × sp_A)) = .inl f' from e1)
          subst e1
          refine zz_fin.steps (n := 4) (s' := (48, [some (.ref 540), some (.int w0), some (.int 0), none], [], aa_H g')) rfl ?_
          exact k1 f g' rfl (hf.bad2 hg)
        · cases e1
      | inr r =>
        obtain ⟨q, A1⟩ := r
        rw [hs] at k1 k2
        refine zz_fin.call rfl rfl (Nat.le_of_ble_eq_true rfl) (mt_item h hA hm) ?_
        rintro v h' hres
        rw [hs] at hres
        by_cases hc : sp_hb b n q = 59
        · have e0 : sp_q b n (.inr (q, A1)) = .inr (q + 1, A1) := if_pos hc
          rw [e0] at hres
          rcases hres with ⟨f', e1, -⟩ | ⟨q', A', e1, hqn, rfl, g', z', rfl, hfr, hA'⟩
          · cases e1
          · have e1 := Sum.inr.inj e1
            have e2 : q + 1 = q' := congrArg Prod.fst e1
            have e3 : A1 = A' := congrArg Prod.snd e1
            subst e2
            subst e3
            have hle := sp_item_le hs hp
            refine zz_fin.steps (n := 2) (s' := (25, [some (.ref 540), some (.int w0), some (.int 1), none], [], aa_H (tm_at g' (q + 1) z'))) rfl ?_
            dsimp only at k1 k2
            rw [if_pos hc] at k1 k2
            exact ih (q + 1) (c + 1) A1 g' z' (by omega) hqn (hf.tr hfr) (mt_ok h hfr) hA' k1 k2
        · have e0 : sp_q b n (.inr (q, A1)) = .inl q := if_neg hc
          rw [e0] at hres
          rcases hres with ⟨f', e1, rfl, g', rfl, hg⟩ | ⟨q', A', e1, -⟩
          · have e1 := Sum.inl.inj e1
            subst e1
            refine zz_fin.steps (n := 4) (s' := (48, [some (.ref 540), some (.int w0), some (.int 0), none], [], aa_H g')) rfl ?_
            dsimp only at k1
            rw [if_neg hc] at k1
            exact k1 q g' rfl (hf.bad2 hg)
          · cases e1
/-- row 0 is as it was, but for towns and points -/
def mt_row (g g' : aa_G) : Prop := ∀ j, j < 399 → ¬ (j = 0 ∨ (3 ≤ j ∧ j < 203)) → g' 541 j = g 541 j
/-- what text leaves alone -/
def mt_keep (g g' : aa_G) : Prop := ∀ k j, k ≠ 541 → ¬ (k = 540 ∧ (j = 1 ∨ (4 ≤ j ∧ j ≤ 7))) → g' k j = g k j
theorem mt_text {g : aa_G} {b : Nat → Int32} {n c : Nat} {A : sp_A} (h : tm_ok g b n) (hA : mv0 g A) (hc : g 540 1 = Int32.ofNat c) (h12 : c ≤ 12) : zz_fin none 162 (0, zz_in [.ref 540] (zz_nl 162), [], aa_H g) (fun v h => ∃ g', h = aa_H g' ∧ g' 540 4 = 0 ∧ mt_keep g g' ∧ ((∃ f, sp_items b n (n + 1) 0 0 A = .inl f ∧ v = some (.int (-1)) ∧ g' 540 6 = Int32.ofNat f ∧ g' 540 1 = g 540 1 ∧ ∀ j, j < 5985 → g' 541 j = g 541 j) ∨ (∃ c' A', sp_items b n (n + 1) 0 0 A = .inr (c', A') ∧ v = some (.int (Int32.ofNat c')) ∧ g' 540 6 = -1 ∧ mv0 g' A' ∧ mt_row g g' ∧ g' 540 1 = Int32.ofNat (min (c + 1) 12) ∧ (∀ q, q < 399 → g' 541 (399 * (3 + min c 11) + q) = g 541 q) ∧ (∀ i q, q < 399 → i < min c 11 → g' 541 (399 * (3 + i) + q) = g 541 (399 * (3 + i + (if c = 12 then 1 else 0)) + q)) ∧ ∀ j, 399 ≤ j → j < 1197 → g' 541 j = g 541 j))) := by
  have hn := h.2.1
  refine zz_fin.steps (n := 3) (s' := (4, [some (.ref 540), none, none, none], [.int (Int32.ofNat 15), .int (Int32.ofNat 0), .ref 540], aa_H g)) rfl ?_
  refine zz_fin.call rfl rfl (Nat.le_of_ble_eq_true rfl) (row_copy 0 15 (by omega) (by omega) (by omega) g) ?_
  rintro v h' ⟨rfl, g1, rfl, r1, r2⟩
  have hA1 : mv0 g1 A := mv0_of hA fun j hj => r2 541 j (by omega)
  have h1 : tm_ok g1 b n := ⟨(r2 540 4 (by omega)).trans h.1, hn, fun j hj => by rw [r2 543 j (by omega)]; exact h.2.2 j hj⟩
  refine zz_fin.steps (n := 5) (s' := (14, [some (.ref 540), none, none, none], [.ref 540, .int (g1 541 0)], aa_H g1)) rfl ?_
  rw [hA1.1]
  refine zz_fin.call rfl rfl (Nat.le_of_ble_eq_true rfl) (mt_count hA1) ?_
  rintro v h' ⟨rfl, rfl⟩
  refine zz_fin.steps (n := 3) (s' := (20, [some (.ref 540), some (.int (Int32.ofNat A.1.1 + Int32.ofNat (sp_pts A A.1.1))), none, none], [.ref 540], aa_H g1)) rfl ?_
  rw [show Int32.ofNat A.1.1 + Int32.ofNat (sp_pts A A.1.1) = Int32.ofNat (sp_all A) from (Int32.ofNat_add _ _).symm]
  refine zz_fin.call (ψ := fun v h' => v = none ∧ h' = aa_H (zz_w (zz_w g1 540 5 0) 540 6 (-1))) rfl rfl (Nat.le_of_ble_eq_true rfl) ?_ ?_
  · refine zz_fin.steps (n := 6) (s' := (10, [some (.ref 540)], [], aa_H (zz_w (zz_w g1 540 5 0) 540 6 (-1)))) rfl ?_
    exact zz_fin.at (n := 1) rfl ⟨rfl, rfl⟩
  rintro v h' ⟨rfl, rfl⟩
  have hbase : zz_w (zz_w g1 540 5 0) 540 6 (-1) = tm_at (zz_w g1 540 6 (-1)) 0 (g1 540 7) := by
    funext k j
    unfold tm_at
    simp only [zz_w_if]
    by_cases e5 : k = 540 ∧ j = 5
    · obtain ⟨rfl, rfl⟩ := e5
      rfl
    · by_cases e7 : k = 540 ∧ j = 7
      · obtain ⟨rfl, rfl⟩ := e7
        rfl
      · rw [if_neg e5, if_neg e7, if_neg e5]
  refine zz_fin.steps (n := 2) (s' := (25, [some (.ref 540), some (.int (Int32.ofNat (sp_all A))), some (.int 1), none], [], aa_H (zz_w (zz_w g1 540 5 0) 540 6 (-1)))) rfl ?_
  rw [hbase]
  have hall : sp_all A ≤ 52 := by
    have := sp_pts_le (A := A) (fun t ht => (hA.2.2 t ht).2.2.1) A.1.1 (Nat.le_refl _)
    have := hA.2.1
    unfold sp_all
    omega
  refine mt_loop (g0 := zz_w g1 540 6 (-1)) (n + 1) 0 0 A (zz_w g1 540 6 (-1)) _ (by omega) (by omega) mt_fr.rf h1 (mv0_of hA1 fun j _ => aa_w_ne _ _ (by omega)) (fun f g' hs hg => ?_) (fun c' A' g' q z' hs hf hA' => ?_)
  · obtain ⟨b1, b2, T, hT, hT2⟩ := hg
    refine zz_fin.steps (n := 8) (s' := (60, [some (.ref 540), some (.int (Int32.ofNat (sp_all A))), some (.int 0), none], [.ref 540, .int (g' 541 0)], aa_H (zz_w g' 540 4 0))) rfl ?_
    refine zz_fin.call rfl rfl (Nat.le_of_ble_eq_true rfl) (mt_any hT (g := zz_w g' 540 4 0) ((aa_w_ne _ _ (by omega)).trans hT2)) ?_
    rintro v h' ⟨⟨w, rfl⟩, rfl⟩
    refine zz_fin.steps (n := 5) (s' := (68, [some (.ref 540), some (.int (Int32.ofNat (sp_all A))), some (.int 0), some (.int (g' 541 0 + w - Int32.ofNat (sp_all A)))], [.int 0], aa_H (zz_w g' 540 4 0))) rfl ?_
    refine zz_fin.if rfl (fun cz => ?_) (fun cz => zc_no0 cz)
    refine zz_fin.steps (n := 3) (s' := (83, [some (.ref 540), some (.int (Int32.ofNat (sp_all A))), some (.int 0), some (.int (g' 541 0 + w - Int32.ofNat (sp_all A)))], [.int (Int32.ofNat 0), .int (Int32.ofNat 15), .ref 540], aa_H (zz_w g' 540 4 0))) rfl ?_
    refine zz_fin.call rfl rfl (Nat.le_of_ble_eq_true rfl) (row_copy 15 0 (by omega) (by omega) (by omega) (zz_w g' 540 4 0)) ?_
    rintro v h' ⟨rfl, g2, rfl, p1, p2⟩
    refine zz_fin.at (n := 2) rfl ⟨g2, rfl, (p2 540 4 (by omega)).trans (aa_w_at _ _ _ _), fun k j e1 e2 => ?_, .inl ⟨f, hs, rfl, ?_, ?_, fun j hj => ?_⟩⟩
    · rw [p2 k j (by omega), aa_w_ne _ _ (by omega), b1 k j (by omega) (by omega), aa_w_ne _ _ (by omega)]
      exact r2 k j (by omega)
    · rw [p2 540 6 (by omega), aa_w_ne _ _ (by omega)]
      exact b2
    · rw [p2 540 1 (by omega), aa_w_ne _ _ (by omega), b1 540 1 (by omega) (by omega), aa_w_ne _ _ (by omega)]
      exact r2 540 1 (by omega)
    · by_cases e : j < 399
      · have q1 := p1 j e
        rw [show 399 * 0 + j = j by omega] at q1
        rw [q1, aa_w_ne _ _ (by omega), b1 541 _ (by omega) (by omega), aa_w_ne _ _ (by omega), r1 j e, show 399 * 0 + j = j by omega]
      · rw [p2 541 j (by omega), aa_w_ne _ _ (by omega), b1 541 j (by omega) (by omega), aa_w_ne _ _ (by omega)]
        exact r2 541 j (by omega)
  · have hall2 := sp_items_all (n + 1) 0 0 A hs
    have hall3 : sp_all A' ≤ 52 := by
      have := sp_pts_le (A := A') (fun t ht => (hA'.2.2 t ht).2.2.1) A'.1.1 (Nat.le_refl _)
      have := hA'.2.1
      unfold sp_all
      omega
    generalize hG : tm_at g' q z' = G
    have G1 : ∀ k j, ¬ (k = 540 ∧ (j = 5 ∨ j = 7)) → G k j = g' k j := fun k j hk => by
      rw [← hG]
      unfold tm_at
      rw [aa_w_ne _ _ (by omega), aa_w_ne _ _ (by omega)]
    have hAG : mv0 (zz_w G 540 4 0) A' := mv0_of hA' fun j _ => (aa_w_ne _ _ (by omega)).trans (G1 541 j (by omega))
    have hG0 : (zz_w G 540 4 0) 541 0 = Int32.ofNat A'.1.1 := hAG.1
    refine zz_fin.steps (n := 8) (s' := (60, [some (.ref 540), some (.int (Int32.ofNat (sp_all A))), some (.int 1), none], [.ref 540, .int ((zz_w G 540 4 0) 541 0)], aa_H (zz_w G 540 4 0))) rfl ?_
    rw [hG0]
    refine zz_fin.call rfl rfl (Nat.le_of_ble_eq_true rfl) (mt_count hAG) ?_
    rintro v h' ⟨rfl, rfl⟩
    refine zz_fin.steps (n := 5) (s' := (68, [some (.ref 540), some (.int (Int32.ofNat (sp_all A))), some (.int 1), some (.int (Int32.ofNat A'.1.1 + Int32.ofNat (sp_pts A' A'.1.1) - Int32.ofNat (sp_all A)))], [.int 1], aa_H (zz_w G 540 4 0))) rfl ?_
    have hn2 : Int32.ofNat A'.1.1 + Int32.ofNat (sp_pts A' A'.1.1) - Int32.ofNat (sp_all A) = Int32.ofNat c' := by
      rw [show Int32.ofNat A'.1.1 + Int32.ofNat (sp_pts A' A'.1.1) = Int32.ofNat (sp_all A') from (Int32.ofNat_add _ _).symm]
      refine aa_eqN ?_ (by omega)
      rw [aa_sub32 (by rw [zz_ofN (by omega), zz_ofN (by omega)]; omega) (by rw [zz_ofN (by omega), zz_ofN (by omega)]; omega), zz_ofN (by omega), zz_ofN (by omega)]
      omega
    rw [hn2]
    refine zz_fin.if rfl (fun cz => zc_no1 cz) (fun cz => ?_)
    have fr : ∀ k j, ¬ (k = 541 ∧ (j = 0 ∨ (3 ≤ j ∧ j < 203) ∨ 5985 ≤ j)) → ¬ (k = 540 ∧ 4 ≤ j ∧ j ≤ 7) → (zz_w G 540 4 0) k j = g k j := fun k j e1 e2 => by
      rw [aa_w_ne _ _ (by omega), G1 k j (by omega), hf k j (by omega), aa_w_ne _ _ (by omega)]
      exact r2 k j (by omega)
    have hcG : (zz_w G 540 4 0) 540 1 = Int32.ofNat c := (fr 540 1 (by omega) (by omega)).trans hc
    refine zz_fin.steps (n := 2) (s' := (74, [some (.ref 540), some (.int (Int32.ofNat (sp_all A))), some (.int 1), some (.int (Int32.ofNat c'))], [.int (Int32.ofNat 15), .ref 540], aa_H (zz_w G 540 4 0))) rfl ?_
    refine zz_fin.call rfl rfl (Nat.le_of_ble_eq_true rfl) (md_deed (row := 15) (.inr rfl) hcG h12) ?_
    rintro v h' ⟨rfl, g2, rfl, p1, p2, p3, p4⟩
    have row15 : ∀ q, q < 399 → (zz_w G 540 4 0) 541 (399 * 15 + q) = g 541 q := fun q hq => by
      rw [aa_w_ne _ _ (by omega), G1 _ _ (by omega), hf _ _ (by omega), aa_w_ne _ _ (by omega), r1 q hq, show 399 * 0 + q = q by omega]
    refine zz_fin.at (n := 2) rfl ⟨g2, rfl, (p4 540 4 (by omega) (by omega)).trans (aa_w_at _ _ _ _), fun k j e1 e2 => ?_, .inr ⟨c', A', hs, rfl, ?_, mv0_of hAG fun j hj => p4 541 j (by omega) (by omega), fun j hj e => ?_, p1, fun q hq => (p2 q hq).trans (row15 q hq), fun i q hq hi => ?_, fun j j1 j2 => ?_⟩⟩
    · rw [p4 k j (by omega) (by omega)]
      exact fr k j (by omega) (by omega)
    · rw [p4 540 6 (by omega) (by omega), aa_w_ne _ _ (by omega), G1 _ _ (by omega), hf _ _ (by omega), aa_w_at]
    · rw [p4 541 j (by omega) (by omega)]
      exact fr 541 j (by omega) (by omega)
    · rw [p3 i q hq hi]
      refine fr 541 _ ?_ (by omega)
      split <;> omega
    · rw [p4 541 j (by omega) (by omega)]
      exact fr 541 j (by omega) (by omega)
