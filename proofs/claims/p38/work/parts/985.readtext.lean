/-! A TEXT: the class reads it whole -/
theorem sp_item_le {b : Nat → Int32} {n p q : Nat} {A A' : sp_A} (h : sp_item b n p A = .inr (q, A')) (hp : p ≤ n) : p ≤ q := by
  have key : ∀ {neg : Bool} {lo hi : Int32} {p0 : Nat} {k : Nat → Int32 → Nat ⊕ (Nat × sp_A)}, p0 ≤ n → sp_then (sp_num b n neg lo hi p0) k = .inr (q, A') → ∃ q1 z, p0 < q1 ∧ q1 ≤ n ∧ k q1 z = .inr (q, A') := fun {neg lo hi p0 k} h0 e => by
    cases hs : sp_num b n neg lo hi p0 with
    | inl f => rw [hs] at e; cases e
    | inr r =>
      obtain ⟨q1, z⟩ := r
      rw [hs] at e
      have := sp_num_n hs h0
      exact ⟨q1, z, this.2, this.1, e⟩
  have pas : ∀ {c : Int32} {p0 : Nat} {k : Nat → Nat ⊕ (Nat × sp_A)}, c ≠ -1 → sp_pass b n c p0 k = .inr (q, A') → p0 < n ∧ k (p0 + 1) = .inr (q, A') := fun {c p0 k} hc e => by
    unfold sp_pass at e
    split at e
    · rename_i hh
      exact ⟨hb_lt hh hc, e⟩
    · cases e
  have inj : ∀ {q1 : Nat} {A1 : sp_A}, (Sum.inr (q1, A1) : Nat ⊕ (Nat × sp_A)) = .inr (q, A') → q1 = q := fun e => congrArg Prod.fst (Sum.inr.inj e)
  unfold sp_item at h
  split at h
  · rename_i hh
    have hlt := hb_lt hh (by decide)
    unfold sp_rtown at h
    split at h
    · cases h
    · obtain ⟨q1, z, e1, e2, e3⟩ := key hlt h
      have := inj e3
      omega
  · split at h
    · rename_i hh
      have hlt : p < n := hh.1.elim (fun e => hb_lt e (by decide)) (fun e => hb_lt e (by decide))
      obtain ⟨q1, y, e1, e2, e3⟩ := key hlt h
      obtain ⟨e4, e5⟩ := pas (by decide) e3
      split at e5
      · obtain ⟨q2, d, f1, f2, f3⟩ := key e4 e5
        obtain ⟨f4, f5⟩ := pas (by decide) f3
        obtain ⟨q3, k, j1, j2, j3⟩ := key f4 f5
        have := inj j3
        omega
      · obtain ⟨q2, z, f1, f2, f3⟩ := key e4 e5
        have := inj f3
        omega
    · cases h
/-- items, one behind another -/
def sp_items (b : Nat → Int32) (n : Nat) : Nat → Nat → Nat → sp_A → Nat ⊕ (Nat × sp_A)
  | 0, _, c, A => .inr (c, A)
  | k + 1, p, c, A => if p < n then (match sp_item b n p A with
    | .inl f => .inl f
    | .inr (q, A') => if sp_hb b n q = 59 then sp_items b n k (q + 1) (c + 1) A' else .inl q) else .inr (c, A)
theorem ct_fr.at {g : aa_G} {b : Nat → Int32} {n p : Nat} : ct_fr g (tc_at g b n p) := fun k j _ h => by
  unfold tc_at
  rw [aa_w_ne _ _ (by omega), aa_w_ne _ _ (by omega)]
def ct_all (g : aa_G) (r : Nat ⊕ (Nat × sp_A)) (v : Option Value) (h : zz_H) : Prop := (∃ f, r = .inl f ∧ v = some (.int (-1)) ∧ ∃ g', h = aa_H g' ∧ ct_bad g f g') ∨ (∃ c A', r = .inr (c, A') ∧ c ≤ 500 ∧ v = some (.int (Int32.ofNat c)) ∧ ∃ g', h = aa_H g' ∧ ct_fr g g' ∧ cvs g' 34 A')
theorem ct_all_fr {g g1 : aa_G} {r : Nat ⊕ (Nat × sp_A)} {v : Option Value} {h : zz_H} (hf : ct_fr g g1) (k : ct_all g1 r v h) : ct_all g r v h := by
  rcases k with ⟨f, k1, k2, g', k3, k4⟩ | ⟨q, A', k1, k2, k3, g', k4, k5, k6⟩
  · exact .inl ⟨f, k1, k2, g', k3, hf.bad2 k4⟩
  · exact .inr ⟨q, A', k1, k2, k3, g', k4, hf.tr k5, k6⟩
theorem tc_more {g : aa_G} {b : Nat → Int32} {n p : Nat} (h : tc_ok g b n) (hp : p ≤ 500) : zz_fin none 22 (0, zz_in [.ref 454] (zz_nl 22), [], aa_H (tc_at g b n p)) (fun v h => ((v = some (.int 1) ∧ p < n) ∨ (v = some (.int 0) ∧ ¬ p < n)) ∧ h = aa_H (tc_at g b n p)) := by
  have hn := h.2.1
  have h0' : tc_at g b n p 454 0 = Int32.ofNat n := h.1
  refine zz_fin.steps (n := 4) (s' := (8, [some (.ref 454)], [.int ((tc_at g b n p) 454 0), .int (Int32.ofNat p)], aa_H (tc_at g b n p))) rfl ?_
  rw [h0']
  refine zz_fin.ic rfl (fun c1 => ?_) (fun c1 => ?_)
  · have c1 : (Int32.ofNat n).toInt ≤ (Int32.ofNat p).toInt := aa_le32.mp (of_decide_eq_true c1)
    rw [zz_ofN (by omega), zz_ofN (by omega)] at c1
    refine zz_fin.steps (n := 1) (s' := (16, [some (.ref 454)], [.int 0], aa_H (tc_at g b n p))) rfl ?_
    exact zz_fin.at (n := 1) rfl ⟨.inr ⟨rfl, by omega⟩, rfl⟩
  · have c1 : ¬ (Int32.ofNat n).toInt ≤ (Int32.ofNat p).toInt := fun z => c1 (decide_eq_true (aa_le32.mpr z))
    rw [zz_ofN (by omega), zz_ofN (by omega)] at c1
    refine zz_fin.steps (n := 2) (s' := (16, [some (.ref 454)], [.int 1], aa_H (tc_at g b n p))) rfl ?_
    exact zz_fin.at (n := 1) rfl ⟨.inl ⟨rfl, by omega⟩, rfl⟩
theorem tc_step0 {g : aa_G} {b : Nat → Int32} {n : Nat} (h : tc_ok g b n) : zz_fin none 21 (0, zz_in [.ref 454] (zz_nl 21), [], aa_H (zz_w g 454 1 (-1))) (fun v h => v = none ∧ h = aa_H (tc_at g b n 0)) := by
  obtain ⟨h0, hn, hb⟩ := h
  have done : ∀ s : Int32, s = sp_hb b n 0 → zz_w (zz_w (zz_w g 454 1 (-1)) 454 1 (Int32.ofNat 0)) 454 2 s = tc_at g b n 0 := fun s hs => by
    rw [hs, zz_w_ww]
    rfl
  refine zz_fin.steps (n := 5) (s' := (7, [some (.ref 454)], [.int ((-1) + 1), .ref 454], aa_H (zz_w g 454 1 (-1)))) rfl ?_
  rw [show (-1 : Int32) + 1 = Int32.ofNat 0 from rfl]
  refine zz_fin.steps (n := 4) (s' := (15, [some (.ref 454)], [.int (Int32.ofNat 0), .ref 454], aa_H (zz_w (zz_w g 454 1 (-1)) 454 1 (Int32.ofNat 0)))) rfl ?_
  refine zz_fin.if rfl (fun cz => absurd cz (by decide)) (fun cz => ?_)
  refine zz_fin.steps (n := 4) (s' := (26, [some (.ref 454)], [.int ((zz_w (zz_w g 454 1 (-1)) 454 1 (Int32.ofNat 0)) 454 0), .int (Int32.ofNat 0), .ref 454], aa_H (zz_w (zz_w g 454 1 (-1)) 454 1 (Int32.ofNat 0)))) rfl ?_
  have h0' : (zz_w (zz_w g 454 1 (-1)) 454 1 (Int32.ofNat 0)) 454 0 = Int32.ofNat n := h0
  rw [h0']
  refine zz_fin.ic rfl (fun c2 => ?_) (fun c2 => ?_)
  · have c2 : (Int32.ofNat n).toInt ≤ (Int32.ofNat 0).toInt := aa_le32.mp (of_decide_eq_true c2)
    rw [zz_ofN (by omega), zz_ofN (by omega)] at c2
    refine zz_fin.steps (n := 2) (s' := (55, [some (.ref 454)], [], aa_H (zz_w (zz_w (zz_w g 454 1 (-1)) 454 1 (Int32.ofNat 0)) 454 2 (-1)))) rfl ?_
    exact zz_fin.at (n := 1) rfl ⟨rfl, by rw [done _ (if_neg (by omega)).symm]⟩
  · have c2 : ¬ (Int32.ofNat n).toInt ≤ (Int32.ofNat 0).toInt := fun z => c2 (decide_eq_true (aa_le32.mpr z))
    rw [zz_ofN (by omega), zz_ofN (by omega)] at c2
    refine zz_fin.steps (n := 3) (s' := (36, [some (.ref 454)], [.int 500, .int (Int32.ofNat 0), .ref 454], aa_H (zz_w (zz_w g 454 1 (-1)) 454 1 (Int32.ofNat 0)))) rfl ?_
    refine zz_fin.ic rfl (fun cz => absurd cz (by decide)) (fun cz => ?_)
    refine zz_fin.steps (n := 4) (s' := (47, [some (.ref 454)], [.int (Int32.ofNat 0), .ref 455, .ref 454], aa_H (zz_w (zz_w g 454 1 (-1)) 454 1 (Int32.ofNat 0)))) rfl ?_
    refine zz_fin.ial (n := 500) rfl rfl (zz_inbN (by omega) (by omega)) ?_
    rw [zz_toN (by omega)]
    have hb1 : (zz_w (zz_w g 454 1 (-1)) 454 1 (Int32.ofNat 0)) 455 0 = b 0 := hb 0 (by omega)
    have hb2 : sp_hb b n 0 = b 0 := if_pos (by omega)
    refine zz_fin.steps (n := 2) (s' := (55, [some (.ref 454)], [], aa_H (zz_w (zz_w (zz_w g 454 1 (-1)) 454 1 (Int32.ofNat 0)) 454 2 ((zz_w (zz_w g 454 1 (-1)) 454 1 (Int32.ofNat 0)) 455 0)))) rfl ?_
    exact zz_fin.at (n := 1) rfl ⟨rfl, by rw [done _ (hb1.trans hb2.symm)]⟩
theorem tc_rew {g : aa_G} {b : Nat → Int32} {n : Nat} (h : tc_ok g b n) : zz_fin none 20 (0, zz_in [.ref 454] (zz_nl 20), [], aa_H g) (fun v h => v = none ∧ h = aa_H (tc_at (zz_w g 454 4 (-1)) b n 0)) := by
  refine zz_fin.steps (n := 7) (s' := (11, [some (.ref 454)], [.ref 454], aa_H (zz_w (zz_w g 454 4 (-1)) 454 1 (-1)))) rfl ?_
  refine zz_fin.call rfl rfl (Nat.le_of_ble_eq_true rfl) (tc_step0 (g := zz_w g 454 4 (-1)) h) ?_
  rintro v h ⟨rfl, rfl⟩
  exact zz_fin.at (n := 1) rfl ⟨rfl, rfl⟩
theorem ct_loop {b : Nat → Int32} {n : Nat} : ∀ (k p c : Nat) (A : sp_A) (g : aa_G), n < k + p → c ≤ p → p ≤ n → tc_ok g b n → cvs g 34 A → zz_fin none 19 (6, [some (.ref 454), some (.ref 34), some (.int (Int32.ofNat c))], [], aa_H (tc_at g b n p)) (ct_all g (sp_items b n k p c A)) := by
  intro k
  induction k with
  | zero => intro p c A g hk hc hp h hA; omega
  | succ k ih =>
    intro p c A g hk hc hp h hA
    have hn := h.2.1
    have stop : ¬ p < n → ct_all g (sp_items b n (k + 1) p c A) (some (.int (Int32.ofNat c))) (aa_H (tc_at g b n p)) := fun e => .inr ⟨c, A, if_neg e, by omega, rfl, _, rfl, ct_fr.at, cvs_at hA⟩
    refine zz_fin.steps (n := 2) (s' := (10, [some (.ref 454), some (.ref 34), some (.int (Int32.ofNat c))], [.int 500, .int (Int32.ofNat c)], aa_H (tc_at g b n p))) rfl ?_
    refine zz_fin.ic rfl (fun c1 => ?_) (fun c1 => ?_)
    · have c1 : (500 : Int32).toInt ≤ (Int32.ofNat c).toInt := aa_le32.mp (of_decide_eq_true c1)
      rw [zz_ofN (by omega), show (500 : Int32).toInt = 500 from rfl] at c1
      refine zz_fin.steps (n := 1) (s' := (46, [some (.ref 454), some (.ref 34), some (.int (Int32.ofNat c))], [.int (Int32.ofNat c)], aa_H (tc_at g b n p))) rfl ?_
      exact zz_fin.at (n := 1) rfl (stop (by omega))
    · refine zz_fin.steps (n := 1) (s' := (14, [some (.ref 454), some (.ref 34), some (.int (Int32.ofNat c))], [.ref 454], aa_H (tc_at g b n p))) rfl ?_
      refine zz_fin.call rfl rfl (Nat.le_of_ble_eq_true rfl) (tc_more h (by omega)) ?_
      rintro v h ⟨⟨rfl, hm⟩ | ⟨rfl, hm⟩, rfl⟩
      · refine zz_fin.if rfl (fun cz => zc_no1 cz) (fun cz => ?_)
        rw [show sp_items b n (k + 1) p c A = _ from if_pos hm]
        refine zz_fin.steps (n := 2) (s' := (22, [some (.ref 454), some (.ref 34), some (.int (Int32.ofNat c))], [.ref 34, .ref 454], aa_H (tc_at g b n p))) rfl ?_
        refine zz_fin.call rfl rfl (Nat.le_of_ble_eq_true rfl) (ct_item h hA hp) ?_
        rintro v h (⟨f, hf, rfl, g', rfl, hg⟩ | ⟨q, A', hf, hqn, rfl, g', rfl, hfr, hA'⟩)
        · rw [hf]
          refine zz_fin.if rfl (fun cz => ?_) (fun cz => zc_no0 cz)
          refine zz_fin.steps (n := 1) (s' := (38, [some (.ref 454), some (.ref 34), some (.int (Int32.ofNat c))], [.int (-1)], aa_H (g'))) rfl ?_
          exact zz_fin.at (n := 1) rfl (.inl ⟨f, rfl, rfl, g', rfl, hg⟩)
        · rw [hf]
          have hle := sp_item_le hf hp
          dsimp only
          refine zz_fin.if rfl (fun cz => zc_no1 cz) (fun cz => ?_)
          refine zz_fin.steps (n := 2) (s' := (31, [some (.ref 454), some (.ref 34), some (.int (Int32.ofNat c))], [.int 59, .ref 454], aa_H (tc_at g' b n q))) rfl ?_
          refine zz_fin.call rfl rfl (Nat.le_of_ble_eq_true rfl) (tc_pass (ct_ok h hfr) (by decide)) ?_
          rintro v h (⟨rfl, hs, hqn2, rfl⟩ | ⟨rfl, hs, g2, rfl, hg⟩)
          · rw [if_pos hs]
            refine zz_fin.if rfl (fun cz => ?_) (fun cz => absurd rfl cz)
            refine zz_fin.steps (n := 2) (s' := (6, [some (.ref 454), some (.ref 34), some (.int ((Int32.ofNat c) + 1))], [], aa_H (tc_at g' b n (q + 1)))) rfl ?_
            rw [aa_succ]
            refine (ih (q + 1) (c + 1) A' g' (by omega) (by omega) hqn2 (ct_ok h hfr) hA').mono ?_
            rintro v h hres
            exact ct_all_fr hfr hres
          · rw [if_neg hs]
            refine zz_fin.if rfl (fun cz => absurd cz (by decide)) (fun cz => ?_)
            refine zz_fin.steps (n := 1) (s' := (38, [some (.ref 454), some (.ref 34), some (.int (Int32.ofNat c))], [.int (-1)], aa_H g2)) rfl ?_
            exact zz_fin.at (n := 1) rfl (.inl ⟨q, rfl, rfl, g2, rfl, hfr.bad hg⟩)
      · refine zz_fin.if rfl (fun cz => ?_) (fun cz => zc_no0 cz)
        refine zz_fin.steps (n := 1) (s' := (46, [some (.ref 454), some (.ref 34), some (.int (Int32.ofNat c))], [.int (Int32.ofNat c)], aa_H (tc_at g b n p))) rfl ?_
        exact zz_fin.at (n := 1) rfl (stop hm)
theorem ct_fr.fault {g : aa_G} {f : Nat} {r : Nat ⊕ (Nat × sp_A)} {v : Option Value} {h : zz_H} (k : ct_all (zz_w g 454 4 (-1)) r v h) : (∃ f, r = .inl f ∧ v = some (.int (-1)) ∧ ∃ g', h = aa_H g' ∧ ct_bad g f g') ∨ (∃ c A', r = .inr (c, A') ∧ c ≤ 500 ∧ v = some (.int (Int32.ofNat c)) ∧ ∃ g', h = aa_H g' ∧ ct_fr (zz_w g 454 4 (-1)) g' ∧ cvs g' 34 A') := by
  rcases k with ⟨f, k1, k2, g', k3, k4⟩ | k
  · exact .inl ⟨f, k1, k2, g', k3, fun k j e1 e2 => (k4.1 k j e1 e2).trans (aa_w_ne _ _ (by omega)), k4.2⟩
  · exact .inr k
/-- the whole text -/
theorem ct_read {g : aa_G} {b : Nat → Int32} {n : Nat} {A : sp_A} (h : tc_ok g b n) (hA : cvs g 34 A) : zz_fin none 19 (0, zz_in [.ref 454, .ref 34] (zz_nl 19), [], aa_H g) (ct_all (zz_w g 454 4 (-1)) (sp_items b n (n + 1) 0 0 A)) := by
  refine zz_fin.steps (n := 1) (s' := (1, [some (.ref 454), some (.ref 34), none], [.ref 454], aa_H g)) rfl ?_
  refine zz_fin.call rfl rfl (Nat.le_of_ble_eq_true rfl) (tc_rew h) ?_
  rintro v h ⟨rfl, rfl⟩
  refine zz_fin.steps (n := 2) (s' := (6, [some (.ref 454), some (.ref 34), some (.int (Int32.ofNat 0))], [], aa_H (tc_at (zz_w g 454 4 (-1)) b n 0))) rfl ?_
  exact ct_loop (n + 1) 0 0 A (zz_w g 454 4 (-1)) (by omega) (by omega) (by omega) h (cvs_of hA fun k j _ _ => aa_w_ne _ _ (by omega))
