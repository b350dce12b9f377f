/-! BELLS: bells() of the class, with what it leaves -/
/-- what the class's bells() leaves -/
def xb_c (r : Nat ⊕ Nat) (e c : Nat) (g g' : aa_G) : Prop := g' 454 0 = 0 ∧ g' 1 13 = bl_flt r ∧ ct_keep g g' e ∧ (match r with
  | .inl _ => ∀ k j, ¬ (34 ≤ k ∧ k ≤ 65) → k ≠ 454 → ¬ (k = 1 ∧ j = 13) → g' k j = g k j
  | .inr N => (g' 2 0 = g 2 0 ∧ g' 2 1 = g 2 1 ∧ (∀ t, t < 4 → cp_tw g g' (5 * t + 14) (5 * t + 14)) ∧ g' 4 0 = Int32.ofNat N) ∧ cp_st g g' (32 * e + 68) 2 ∧ g' 66 0 = Int32.ofNat (min (c + 1) 12) ∧ g' 66 1 = Int32.ofNat ((e + 1) % 12))
def cb_al2 (g : aa_G) (r : Nat ⊕ Nat) (v : Option Value) (h : zz_H) : Prop := (∃ f, r = .inl f ∧ v = some (.int (-1)) ∧ ∃ g', h = aa_H g' ∧ cb_bad g f g') ∨ (∃ N, r = .inr N ∧ N ≤ 8 ∧ v = some (.int (Int32.ofNat N)) ∧ ∃ g', h = aa_H g' ∧ cb_rest g g' ∧ g' 36 0 = Int32.ofNat N)
theorem cb_rest.al2 {g g1 : aa_G} {r : Nat ⊕ Nat} {v : Option Value} {h : zz_H} (hf : cb_rest g g1) (k : cb_al2 g1 r v h) : cb_al2 g r v h := by
  rcases k with ⟨f, k1, k2, g', k3, k4⟩ | ⟨N, k1, k0, k2, g', k3, k4⟩
  · exact .inl ⟨f, k1, k2, g', k3, fun a j e1 e2 => (k4.1 a j e1 e2).trans (hf a j e1 (by omega)), k4.2⟩
  · exact .inr ⟨N, k1, k0, k2, g', k3, fun a j e1 e2 => (k4.1 a j e1 e2).trans (hf a j e1 e2), k4.2⟩
theorem cb_loop2 {b : Nat → Int32} {n : Nat} : ∀ (k p i N T : Nat) (g : aa_G), n < k + p → i ≤ p → p ≤ n → N ≤ 8 → T ≤ 40 → tc_ok g b n → g 36 0 = Int32.ofNat N → g 36 1 = Int32.ofNat T → zz_fin none 42 (10, [some (.ref 454), some (.ref 36), some (.int (Int32.ofNat i))], [], aa_H (tc_at g b n p)) (cb_al2 g (cl_loop b n k p N T)) := by
  intro k
  induction k with
  | zero => intro p i N T g hk hi hp; omega
  | succ k ih =>
    intro p i N T g hk hi hp hN hT h h0 h1
    have hn := h.2.1
    have k0 : tc_at g b n p 36 0 = Int32.ofNat N := (tc_at_ne _ _ _ _ (by omega)).trans h0
    refine zz_fin.steps (n := 2) (s' := (14, [some (.ref 454), some (.ref 36), some (.int (Int32.ofNat i))], [.int 500, .int (Int32.ofNat i)], aa_H (tc_at g b n p))) rfl ?_
    refine zz_fin.ic rfl (fun c1 => ?_) (fun c1 => ?_)
    · have c1 : (500 : Int32).toInt ≤ (Int32.ofNat i).toInt := aa_le32.mp (of_decide_eq_true c1)
      rw [zz_ofN (by omega), show (500 : Int32).toInt = 500 from rfl] at c1
      have hno : ¬ p < n := by omega
      refine zz_fin.steps (n := 2) (s' := (53, [some (.ref 454), some (.ref 36), some (.int (Int32.ofNat i))], [.int ((tc_at g b n p) 36 0)], aa_H (tc_at g b n p))) rfl ?_
      rw [k0, cl_no hno]
      exact zz_fin.at (n := 1) rfl (.inr ⟨N, rfl, hN, rfl, _, rfl, fun k j e1 e2 => tc_at_ne _ _ _ _ (by omega), k0⟩)
    · refine zz_fin.steps (n := 1) (s' := (18, [some (.ref 454), some (.ref 36), some (.int (Int32.ofNat i))], [.ref 454], aa_H (tc_at g b n p))) rfl ?_
      refine zz_fin.call rfl rfl (Nat.le_of_ble_eq_true rfl) (tc_more h (by omega)) ?_
      rintro v h ⟨⟨rfl, hno⟩ | ⟨rfl, hno⟩, rfl⟩
      · refine zz_fin.if rfl (fun cz => zc_no1 cz) (fun cz => ?_)
        refine zz_fin.steps (n := 2) (s' := (26, [some (.ref 454), some (.ref 36), some (.int (Int32.ofNat i))], [.ref 36, .ref 454], aa_H (tc_at g b n p))) rfl ?_
        refine zz_fin.call rfl rfl (Nat.le_of_ble_eq_true rfl) (cb_bell h hN hT hp h0 h1) ?_
        rintro v h' (⟨f, e, rfl, g', rfl, hb⟩ | ⟨q, F, ts, e, hq, rfl, g1, rfl, hs⟩)
        · rw [cl_inl hno (show cb_q b n (cb_bellf b n p N T) = .inl f by rw [e]; rfl)]
          refine zz_fin.if rfl (fun cz => ?_) (fun cz => zc_no0 cz)
          exact zz_fin.at (n := 2) rfl (.inl ⟨f, rfl, rfl, g', rfl, hb⟩)
        · refine zz_fin.if rfl (fun cz => zc_no1 cz) (fun cz => ?_)
          have h2 : tc_ok g1 b n := ⟨(hs.1 454 0 (by omega) (by omega) (by omega) (by omega)).trans h.1, h.2.1, fun j hj => (hs.1 455 j (by omega) (by omega) (by omega) (by omega)).trans (h.2.2 j hj)⟩
          have hr : cb_rest g g1 := fun k j e1 e2 => hs.1 k j (by omega) (by omega) (by omega) (by omega)
          refine zz_fin.steps (n := 2) (s' := (35, [some (.ref 454), some (.ref 36), some (.int (Int32.ofNat i))], [.int 59, .ref 454], aa_H (tc_at g1 b n q))) rfl ?_
          refine zz_fin.call rfl rfl (Nat.le_of_ble_eq_true rfl) (tc_pass h2 (c := 59) (by decide)) ?_
          rintro v h' (⟨rfl, k1, k2, rfl⟩ | ⟨rfl, k1, g', rfl, k2⟩)
          · have e2 : cb_q b n (cb_bellf b n p N T) = .inr (q + 1, (F, ts)) := by
              rw [e]
              exact if_pos k1
            rw [cl_inr hno e2]
            refine zz_fin.if rfl (fun cz => ?_) (fun cz => absurd rfl cz)
            refine zz_fin.steps (n := 2) (s' := (10, [some (.ref 454), some (.ref 36), some (.int (Int32.ofNat i + 1))], [], aa_H (tc_at g1 b n (q + 1)))) rfl ?_
            rw [aa_succ]
            obtain ⟨i1, i2⟩ := cb_pb (b := b) (n := n) (p := p) (N := N) hT
            have hall : p < q + 1 ∧ T + ts.length ≤ 40 ∧ N ≠ 8 := by
              cases hb : pb_bell b n p N T with
              | inl f =>
                have := i1 f hb
                rw [e2] at this
                cases this
              | inr r =>
                obtain ⟨q5, F5, T5, cs5⟩ := r
                obtain ⟨a1, a2, a3, a4, a5, a6, ts5, f1, f2⟩ := i2 q5 F5 T5 cs5 hb
                rw [e2] at f2
                cases f2
                exact ⟨a1, by omega, a6⟩
            exact (ih (q + 1) (i + 1) (N + 1) (T + ts.length) g1 (by omega) (by omega) k2 (by omega) hall.2.1 h2 hs.2.1 hs.2.2.1).mono fun v h' k => hr.al2 k
          · have e2 : cb_q b n (cb_bellf b n p N T) = .inl q := by
              rw [e]
              exact if_neg k1
            rw [cl_inl hno e2]
            refine zz_fin.if rfl (fun cz => absurd cz (by decide)) (fun cz => ?_)
            exact zz_fin.at (n := 2) rfl (.inl ⟨q, rfl, rfl, g', rfl, fun k j e1 e3 => (k2.1 k j e3).trans (hr k j e1 (by omega)), k2.2⟩)
      · refine zz_fin.if rfl (fun cz => ?_) (fun cz => zc_no0 cz)
        refine zz_fin.steps (n := 2) (s' := (53, [some (.ref 454), some (.ref 36), some (.int (Int32.ofNat i))], [.int ((tc_at g b n p) 36 0)], aa_H (tc_at g b n p))) rfl ?_
        rw [k0, cl_no hno]
        exact zz_fin.at (n := 1) rfl (.inr ⟨N, rfl, hN, rfl, _, rfl, fun k j e1 e2 => tc_at_ne _ _ _ _ (by omega), k0⟩)
theorem cb_read2 {g : aa_G} {b : Nat → Int32} {n : Nat} (h : tc_ok g b n) : zz_fin none 42 (0, zz_in [.ref 454, .ref 36] (zz_nl 42), [], aa_H g) (cb_al2 (zz_w (zz_w (zz_w g 454 4 (-1)) 36 0 0) 36 1 0) (cl_loop b n (n + 1) 0 0 0)) := by
  have hn := h.2.1
  refine zz_fin.steps (n := 1) (s' := (1, [some (.ref 454), some (.ref 36), none], [.ref 454], aa_H g)) rfl ?_
  refine zz_fin.call rfl rfl (Nat.le_of_ble_eq_true rfl) (tc_rew h) ?_
  rintro v h ⟨rfl, rfl⟩
  refine zz_fin.steps (n := 1) (s' := (5, [some (.ref 454), some (.ref 36), none], [.ref 36], aa_H (tc_at (zz_w g 454 4 (-1)) b n 0))) rfl ?_
  refine zz_fin.call (ψ := fun v h' => v = none ∧ h' = aa_H (zz_w (zz_w (tc_at (zz_w g 454 4 (-1)) b n 0) 36 0 0) 36 1 0)) rfl rfl (Nat.le_of_ble_eq_true rfl) (zz_fin.at (n := 7) rfl ⟨rfl, rfl⟩) ?_
  rintro v h' ⟨rfl, rfl⟩
  rw [tc_comm _ _ _ _ (by decide), tc_comm _ _ _ _ (by decide)]
  refine zz_fin.steps (n := 2) (s' := (10, [some (.ref 454), some (.ref 36), some (.int (Int32.ofNat 0))], [], aa_H (tc_at (zz_w (zz_w (zz_w g 454 4 (-1)) 36 0 0) 36 1 0) b n 0))) rfl ?_
  exact cb_loop2 (n + 1) 0 0 0 0 _ (by omega) (Nat.le_refl _) (Nat.zero_le _) (by omega) (by omega) ⟨(aa_w_ne _ _ (by omega)).trans ((aa_w_ne _ _ (by omega)).trans ((aa_w_ne _ _ (by omega)).trans h.1)), h.2.1, fun j hj => (aa_w_ne _ _ (by omega)).trans ((aa_w_ne _ _ (by omega)).trans ((aa_w_ne _ _ (by omega)).trans (h.2.2 j hj)))⟩ ((aa_w_ne _ _ (by omega)).trans (aa_w_at _ _ _ _)) (aa_w_at _ _ _ _)
theorem cb_bells2 {g : aa_G} {b : Nat → Int32} {n e c : Nat} (h : tc_ok g b n) (he : e < 12) (hc : c ≤ 12) (h0 : g 66 0 = Int32.ofNat c) (h1 : g 66 1 = Int32.ofNat e) : zz_fin none 41 (0, zz_in [.ref 1] (zz_nl 41), [], aa_H g) (fun v h => ∃ g', h = aa_H g' ∧ v = some (.int (bl_ans (cl_loop b n (n + 1) 0 0 0))) ∧ xb_c (cl_loop b n (n + 1) 0 0 0) e c g g') := by
  refine zz_fin.steps (n := 4) (s' := (8, [some (.ref 1), none], [.ref 2, .ref 34], aa_H g)) rfl ?_
  refine zz_fin.call rfl rfl (Nat.le_of_ble_eq_true rfl) (cp_state cs_ok_34 cs_ok_2 (show 34 + 32 ≤ 2 ∨ 2 + 32 ≤ 34 by omega)) ?_
  rintro v h' ⟨rfl, g1, rfl, k1, k2⟩
  have k2 : cp_fr g g1 34 65 := k2
  have ht1 : tc_ok g1 b n := ⟨(k2 454 0 (by omega)).trans h.1, h.2.1, fun j hj => (k2 455 j (by omega)).trans (h.2.2 j hj)⟩
  refine zz_fin.steps (n := 5) (s' := (22, [some (.ref 1), none], [.ref 36, .ref 454], aa_H g1)) rfl ?_
  refine zz_fin.call rfl rfl (Nat.le_of_ble_eq_true rfl) (cb_read2 ht1) ?_
  rintro v h' (⟨f, hs, rfl, g2, rfl, b1, b2⟩ | ⟨N, hs, hN, rfl, g2, rfl, hr, hr0⟩)
  · refine zz_fin.steps (n := 2) (s' := (27, [some (.ref 1), some (.int (-1))], [.ref 1], aa_H g2)) rfl ?_
    refine zz_fin.call rfl rfl (Nat.le_of_ble_eq_true rfl) (ct_eor) ?_
    rintro v h ⟨rfl, rfl⟩
    refine zz_fin.steps (n := 2) (s' := (32, [some (.ref 1), some (.int (-1))], [.int (-1), .int (-1)], aa_H (zz_w (zz_w g2 1 13 (g2 454 4)) 454 0 0))) rfl ?_
    refine zz_fin.ic rfl (fun cz => ?_) (fun cz => absurd rfl cz)
    rw [hs]
    have fr : ∀ k j, ¬ ((34 ≤ k ∧ k ≤ 65)) → k ≠ 454 → ¬ (k = 1 ∧ j = 13) → (zz_w (zz_w g2 1 13 (g2 454 4)) 454 0 0) k j = g k j := fun k j e1 e2 e3 => by
      rw [aa_w_ne _ _ (by omega), aa_w_ne _ _ (by omega), b1 k j (by omega) (by omega), aa_w_ne _ _ (by omega), aa_w_ne _ _ (by omega), aa_w_ne _ _ (by omega)]
      exact k2 k j (by omega)
    exact zz_fin.at (n := 2) rfl ⟨_, rfl, rfl, aa_w_at _ _ _ _, (aa_w_ne _ _ (by omega)).trans ((aa_w_at _ _ _ _).trans b2), fun k j z1 z2 z3 z4 z5 => fr k j (by omega) z4 z5, fr⟩
  · refine zz_fin.steps (n := 2) (s' := (27, [some (.ref 1), some (.int (Int32.ofNat N))], [.ref 1], aa_H g2)) rfl ?_
    refine zz_fin.call rfl rfl (Nat.le_of_ble_eq_true rfl) (ct_eor) ?_
    rintro v h ⟨rfl, rfl⟩
    refine zz_fin.steps (n := 2) (s' := (32, [some (.ref 1), some (.int (Int32.ofNat N))], [.int (-1), .int (Int32.ofNat N)], aa_H (zz_w (zz_w g2 1 13 (g2 454 4)) 454 0 0))) rfl ?_
    have hne : Int32.ofNat N ≠ -1 := fun z => by
      have e := zz_ofN (n := N) (by omega)
      rw [z, show (-1 : Int32).toInt = -1 from rfl] at e
      omega
    refine zz_fin.ic rfl (fun cz => absurd (of_decide_eq_true cz) hne) (fun cz => ?_)
    have fr : ∀ k j, ¬ ((34 ≤ k ∧ k ≤ 65)) → k ≠ 454 → ¬ (k = 1 ∧ j = 13) → (zz_w (zz_w g2 1 13 (g2 454 4)) 454 0 0) k j = g k j := fun k j e1 e2 e3 => by
      rw [aa_w_ne _ _ (by omega), aa_w_ne _ _ (by omega), hr k j (by omega) (by omega), aa_w_ne _ _ (by omega), aa_w_ne _ _ (by omega), aa_w_ne _ _ (by omega)]
      exact k2 k j (by omega)
    refine zz_fin.steps (n := 3) (s' := (40, [some (.ref 1), some (.int (Int32.ofNat N))], [.ref 34, .ref 1], aa_H (zz_w (zz_w g2 1 13 (g2 454 4)) 454 0 0))) rfl ?_
    have hG13 : (zz_w (zz_w g2 1 13 (g2 454 4)) 454 0 0) 1 13 = -1 := by
      rw [aa_w_ne _ _ (by omega), aa_w_at, hr 454 4 (by omega) (by omega), aa_w_ne _ _ (by omega), aa_w_ne _ _ (by omega), aa_w_at]
    have hG0 : (zz_w (zz_w g2 1 13 (g2 454 4)) 454 0 0) 454 0 = 0 := aa_w_at _ _ _ _
    generalize hG : zz_w (zz_w g2 1 13 (g2 454 4)) 454 0 0 = G3 at fr hG13 hG0 ⊢
    refine zz_fin.call rfl rfl (Nat.le_of_ble_eq_true rfl) (cd_adopt cs_ok_34 (by omega) he hc ((fr 66 0 (by omega) (by omega) (by omega)).trans h0) ((fr 66 1 (by omega) (by omega) (by omega)).trans h1)) ?_
    rintro v h' ⟨rfl, g4, g5, rfl, ⟨p1, p2, p3, p4⟩, q1, q2⟩
    have s4 : ∀ k j, ¬ (32 * e + 68 ≤ k ∧ k ≤ 32 * e + 99) → ¬ (k = 66 ∧ j ≤ 1) → g4 k j = G3 k j := p4
    rw [hs]
    have q2' : ∀ k j, ¬ (2 ≤ k ∧ k ≤ 33) → g5 k j = g4 k j := q2
    have dr : ∀ k j, 34 ≤ k → k ≤ 65 → G3 k j = g2 k j := fun k j z1 z2 => by rw [← hG, aa_w_ne _ _ (by omega), aa_w_ne _ _ (by omega)]
    have dr2 : ∀ k j, 34 ≤ k → k ≤ 65 → ¬ (36 ≤ k ∧ k ≤ 45) → G3 k j = g1 k j := fun k j z1 z2 z3 => by rw [dr k j z1 z2, hr k j z3 (by omega), aa_w_ne _ _ (by omega), aa_w_ne _ _ (by omega), aa_w_ne _ _ (by omega)]
    have d4 : ∀ k j, 34 ≤ k → k ≤ 65 → g4 k j = G3 k j := fun k j z1 z2 => s4 k j (by omega) (by omega)
    refine zz_fin.at (n := 2) rfl ⟨g5, rfl, rfl, (q2 454 0 (by omega)).trans ((s4 454 0 (by omega) (by omega)).trans hG0), (q2 1 13 (by omega)).trans ((s4 1 13 (by omega) (by omega)).trans hG13), fun k j z1 z2 z3 z4 z5 => (q2' k j (by omega)).trans ((s4 k j z2 z3).trans (fr k j (by omega) z4 z5)), ⟨?_, ?_, fun t ht => ⟨fun j hj => ?_, fun o j o1 o2 hj => ?_⟩, ?_⟩, cp_via (cp_src p1 fun k j z1 z2 => fr k j (by omega) (by omega) (by omega)) (fun k j z1 z2 => q2' k j (by omega)), (q2' 66 0 (by omega)).trans p2, (q2' 66 1 (by omega)).trans p3⟩
    · rw [q1.1 0 (by omega), d4 34 0 (by omega) (by omega), dr2 34 0 (by omega) (by omega) (by omega)]
      exact k1.1 0 (by omega)
    · rw [q1.1 1 (by omega), d4 34 1 (by omega) (by omega), dr2 34 1 (by omega) (by omega) (by omega)]
      exact k1.1 1 (by omega)
    · have a := (q1.2.2 t ht).1 j hj
      have a2 := (k1.2.2 t ht).1 j hj
      rw [show 5 * t + (2 + 12) = 5 * t + 14 by omega] at a a2
      rw [a, d4 _ j (by omega) (by omega), dr2 _ j (by omega) (by omega) (by omega)]
      exact a2
    · have a := (q1.2.2 t ht).2 o j o1 o2 hj
      have a2 := (k1.2.2 t ht).2 o j o1 o2 hj
      rw [show 5 * t + (2 + 12) = 5 * t + 14 by omega] at a a2
      rw [a, d4 _ j (by omega) (by omega), dr2 _ j (by omega) (by omega) (by omega)]
      exact a2
    · rw [q1.2.1.1 0 (by omega), d4 _ 0 (by omega) (by omega), dr _ 0 (by omega) (by omega)]
      exact hr0
