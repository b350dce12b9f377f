/-! BELLS: the runs of bells(), with the BELLS that they leave -/
/-- cells of BELLS ahead of N, of THINGS ahead of T are as they were -/
def cb_keep (g g' : aa_G) (N T : Nat) : Prop := ∀ k j, ((37 ≤ k ∧ k ≤ 42 ∧ j < N) ∨ (43 ≤ k ∧ k ≤ 45 ∧ j < T)) → g' k j = g k j
theorem cb_keep.rf {g : aa_G} {N T : Nat} : cb_keep g g N T := fun _ _ _ => rfl
theorem cb_keep.c {g g' : aa_G} {N T k T0 : Nat} {F : pb_F} {ts : List fl_T} (h : cb_keep g g' N T) (hk : k < N) (ht : T0 + ts.length ≤ T) (b : brk_c g 34 k F T0 ts) : brk_c g' 34 k F T0 ts := by
  obtain ⟨⟨a1, a2, a3, a4, a5, a6⟩, a7, a8⟩ := b
  refine ⟨⟨(h 37 k (by omega)).trans a1, (h 38 k (by omega)).trans a2, (h 39 k (by omega)).trans a3, (h 40 k (by omega)).trans a4, (h 41 k (by omega)).trans a5, (h 42 k (by omega)).trans a6⟩, a7, fun i t e => ?_⟩
  have hi := br_get e
  obtain ⟨b1, b2, b3⟩ := a8 i t e
  exact ⟨(h 43 _ (by omega)).trans b1, (h 44 _ (by omega)).trans b2, (h 45 _ (by omega)).trans b3⟩
def cb_al3 (g : aa_G) (L : List pl_E) (N T : Nat) (r : Nat ⊕ Nat) (v : Option Value) (h : zz_H) : Prop := (∃ f, r = .inl f ∧ v = some (.int (-1)) ∧ ∃ g', h = aa_H g' ∧ cb_bad g f g') ∨ (∃ N2, r = .inr N2 ∧ N2 ≤ 8 ∧ v = some (.int (Int32.ofNat N2)) ∧ ∃ g', h = aa_H g' ∧ cb_rest g g' ∧ g' 36 0 = Int32.ofNat N2 ∧ cb_keep g g' N T ∧ N2 = N + L.length ∧ ∀ i e, L[i]? = some e → ∃ T0, brk_c g' 34 (N + i) e.1 T0 e.2.1)
theorem cb_loop3 {b : Nat → Int32} {n : Nat} : ∀ (k p i N T : Nat) (g : aa_G), n < k + p → i ≤ p → p ≤ n → N ≤ 8 → T ≤ 40 → tc_ok g b n → g 36 0 = Int32.ofNat N → g 36 1 = Int32.ofNat T → zz_fin none 42 (10, [some (.ref 454), some (.ref 36), some (.int (Int32.ofNat i))], [], aa_H (tc_at g b n p)) (cb_al3 g (pl b n k p N T) N T (cl_loop b n k p N T)) := by
  intro k
  induction k with
  | zero => intro p i N T g hk hi hp; omega
  | succ k ih =>
    intro p i N T g hk hi hp hN hT h h0 h1
    have hn := h.2.1
    have k0 : tc_at g b n p 36 0 = Int32.ofNat N := (tc_at_ne _ _ _ _ (by omega)).trans h0
    have last : ¬ p < n → cb_al3 g (pl b n (k + 1) p N T) N T (cl_loop b n (k + 1) p N T) (some (.int (Int32.ofNat N))) (aa_H (tc_at g b n p)) := fun hno => by
      rw [cl_no hno, pl_no hno]
      exact .inr ⟨N, rfl, hN, rfl, _, rfl, fun k j e1 e2 => tc_at_ne _ _ _ _ (by omega), k0, fun k j z => tc_at_ne _ _ _ _ (by omega), rfl, fun i e he => by cases he⟩
    refine zz_fin.steps (n := 2) (s' := (14, [some (.ref 454), some (.ref 36), some (.int (Int32.ofNat i))], [.int 500, .int (Int32.ofNat i)], aa_H (tc_at g b n p))) rfl ?_
    refine zz_fin.ic rfl (fun c1 => ?_) (fun c1 => ?_)
    · have c1 : (500 : Int32).toInt ≤ (Int32.ofNat i).toInt := aa_le32.mp (of_decide_eq_true c1)
      rw [zz_ofN (by omega), show (500 : Int32).toInt = 500 from rfl] at c1
      have hno : ¬ p < n := by omega
      have last := last hno
      refine zz_fin.steps (n := 2) (s' := (53, [some (.ref 454), some (.ref 36), some (.int (Int32.ofNat i))], [.int ((tc_at g b n p) 36 0)], aa_H (tc_at g b n p))) rfl ?_
      rw [k0]
      exact zz_fin.at (n := 1) rfl last
    · refine zz_fin.steps (n := 1) (s' := (18, [some (.ref 454), some (.ref 36), some (.int (Int32.ofNat i))], [.ref 454], aa_H (tc_at g b n p))) rfl ?_
      refine zz_fin.call rfl rfl (Nat.le_of_ble_eq_true rfl) (tc_more h (by omega)) ?_
      rintro v h ⟨⟨rfl, hno⟩ | ⟨rfl, hno⟩, rfl⟩
      · refine zz_fin.if rfl (fun cz => zc_no1 cz) (fun cz => ?_)
        refine zz_fin.steps (n := 2) (s' := (26, [some (.ref 454), some (.ref 36), some (.int (Int32.ofNat i))], [.ref 36, .ref 454], aa_H (tc_at g b n p))) rfl ?_
        refine zz_fin.call rfl rfl (Nat.le_of_ble_eq_true rfl) (cb_bell h hN hT hp h0 h1) ?_
        rintro v h' (⟨f, e, rfl, g', rfl, hb⟩ | ⟨q, F, ts, e, hq, rfl, g1, rfl, hs⟩)
        · rw [cl_inl hno (show cb_q b n (cb_bellf b n p N T) = .inl f by rw [e]; rfl)]
          refine zz_fin.if rfl (fun cz => ?_) (fun cz => zc_no0 cz)
          exact zz_fin.at (n := 2) rfl (.inl ⟨f, rfl, rfl, g', rfl, hb⟩)
        · refine zz_fin.if rfl (fun cz => zc_no1 cz) (fun cz => ?_)
          have h2 : tc_ok g1 b n := ⟨(hs.1 454 0 (by omega) (by omega) (by omega) (by omega)).trans h.1, h.2.1, fun j hj => (hs.1 455 j (by omega) (by omega) (by omega) (by omega)).trans (h.2.2 j hj)⟩
          have hr : cb_rest g g1 := fun k j e1 e2 => hs.1 k j (by omega) (by omega) (by omega) (by omega)
          refine zz_fin.steps (n := 2) (s' := (35, [some (.ref 454), some (.ref 36), some (.int (Int32.ofNat i))], [.int 59, .ref 454], aa_H (tc_at g1 b n q))) rfl ?_
          refine zz_fin.call rfl rfl (Nat.le_of_ble_eq_true rfl) (tc_pass h2 (c := 59) (by decide)) ?_
          rintro v h' (⟨rfl, k1, k2, rfl⟩ | ⟨rfl, k1, g', rfl, k2⟩)
          · have e2 : cb_q b n (cb_bellf b n p N T) = .inr (q + 1, (F, ts)) := by
              rw [e]
              exact if_pos k1
            rw [cl_inr hno e2]
            refine zz_fin.if rfl (fun cz => ?_) (fun cz => absurd rfl cz)
            refine zz_fin.steps (n := 2) (s' := (10, [some (.ref 454), some (.ref 36), some (.int (Int32.ofNat i + 1))], [], aa_H (tc_at g1 b n (q + 1)))) rfl ?_
            rw [aa_succ]
            obtain ⟨i1, i2⟩ := cb_pb (b := b) (n := n) (p := p) (N := N) hT
            have hall : p < q + 1 ∧ T + ts.length ≤ 40 ∧ N ≠ 8 ∧ pl b n (k + 1) p N T = (F, (ts, (match pb_bell b n p N T with | .inl _ => [] | .inr r => r.2.2.2))) :: pl b n k (q + 1) (N + 1) (T + ts.length) := by
              cases hb : pb_bell b n p N T with
              | inl f =>
                have := i1 f hb
                rw [e2] at this
                cases this
              | inr r =>
                obtain ⟨q5, F5, T5, cs5⟩ := r
                obtain ⟨a1, a2, a3, a4, a5, a6, ts5, f1, f2⟩ := i2 q5 F5 T5 cs5 hb
                have hp1 := pl_in (k := k) hno hb e2
                rw [e2] at f2
                cases f2
                refine ⟨a1, by omega, a6, ?_⟩
                rw [hp1, ← f1]
            obtain ⟨w1, w2, w3, w4⟩ := hall
            refine (ih (q + 1) (i + 1) (N + 1) (T + ts.length) g1 (by omega) (by omega) k2 (by omega) w2 h2 hs.2.1 hs.2.2.1).mono fun v h' kk => ?_
            have b0 : brk_c g1 34 N F T ts := ⟨⟨hs.2.2.2.2.1, hs.2.2.2.2.2.1, hs.2.2.2.2.2.2.1, hs.2.2.2.2.2.2.2.1, hs.2.2.2.2.2.2.2.2.1, hs.2.2.2.2.2.2.2.2.2⟩, w2, hs.2.2.2.1⟩
            have kp : cb_keep g g1 N T := fun k j z => hs.1 k j (by omega) (by omega) (by omega) (by omega)
            rcases kk with ⟨f, k3, k4, g', k5, k6⟩ | ⟨N2, k3, k4, k5, g', k6, k7, k8, k9, k10, k11⟩
            · exact .inl ⟨f, k3, k4, g', k5, fun a j e1 e2 => (k6.1 a j e1 e2).trans (hr a j e1 (by omega)), k6.2⟩
            · refine .inr ⟨N2, k3, k4, k5, g', k6, fun a j e1 e2 => (k7 a j e1 e2).trans (hr a j e1 e2), k8, fun a j z => (k9 a j (by omega)).trans (kp a j z), ?_, fun i e he => ?_⟩
              · rw [w4, List.length_cons, k10]
                omega
              · rw [w4] at he
                cases i with
                | zero =>
                  cases he
                  exact ⟨T, k9.c (by omega) (Nat.le_refl _) b0⟩
                | succ i =>
                  obtain ⟨T0, u⟩ := k11 i e he
                  exact ⟨T0, by rw [show N + (i + 1) = N + 1 + i by omega]; exact u⟩
          · have e2 : cb_q b n (cb_bellf b n p N T) = .inl q := by
              rw [e]
              exact if_neg k1
            rw [cl_inl hno e2]
            refine zz_fin.if rfl (fun cz => absurd cz (by decide)) (fun cz => ?_)
            exact zz_fin.at (n := 2) rfl (.inl ⟨q, rfl, rfl, g', rfl, fun k j e1 e3 => (k2.1 k j e3).trans (hr k j e1 (by omega)), k2.2⟩)
      · refine zz_fin.if rfl (fun cz => ?_) (fun cz => zc_no0 cz)
        have last := last hno
        refine zz_fin.steps (n := 2) (s' := (53, [some (.ref 454), some (.ref 36), some (.int (Int32.ofNat i))], [.int ((tc_at g b n p) 36 0)], aa_H (tc_at g b n p))) rfl ?_
        rw [k0]
        exact zz_fin.at (n := 1) rfl last
theorem cb_read3 {g : aa_G} {b : Nat → Int32} {n : Nat} (h : tc_ok g b n) : zz_fin none 42 (0, zz_in [.ref 454, .ref 36] (zz_nl 42), [], aa_H g) (cb_al3 (zz_w (zz_w (zz_w g 454 4 (-1)) 36 0 0) 36 1 0) (pl b n (n + 1) 0 0 0) 0 0 (cl_loop b n (n + 1) 0 0 0)) := by
  have hn := h.2.1
  refine zz_fin.steps (n := 1) (s' := (1, [some (.ref 454), some (.ref 36), none], [.ref 454], aa_H g)) rfl ?_
  refine zz_fin.call rfl rfl (Nat.le_of_ble_eq_true rfl) (tc_rew h) ?_
  rintro v h ⟨rfl, rfl⟩
  refine zz_fin.steps (n := 1) (s' := (5, [some (.ref 454), some (.ref 36), none], [.ref 36], aa_H (tc_at (zz_w g 454 4 (-1)) b n 0))) rfl ?_
  refine zz_fin.call (ψ := fun v h' => v = none ∧ h' = aa_H (zz_w (zz_w (tc_at (zz_w g 454 4 (-1)) b n 0) 36 0 0) 36 1 0)) rfl rfl (Nat.le_of_ble_eq_true rfl) (zz_fin.at (n := 7) rfl ⟨rfl, rfl⟩) ?_
  rintro v h' ⟨rfl, rfl⟩
  rw [tc_comm _ _ _ _ (by decide), tc_comm _ _ _ _ (by decide)]
  refine zz_fin.steps (n := 2) (s' := (10, [some (.ref 454), some (.ref 36), some (.int (Int32.ofNat 0))], [], aa_H (tc_at (zz_w (zz_w (zz_w g 454 4 (-1)) 36 0 0) 36 1 0) b n 0))) rfl ?_
  exact cb_loop3 (n + 1) 0 0 0 0 _ (by omega) (Nat.le_refl _) (Nat.zero_le _) (by omega) (by omega) ⟨(aa_w_ne _ _ (by omega)).trans ((aa_w_ne _ _ (by omega)).trans ((aa_w_ne _ _ (by omega)).trans h.1)), h.2.1, fun j hj => (aa_w_ne _ _ (by omega)).trans ((aa_w_ne _ _ (by omega)).trans ((aa_w_ne _ _ (by omega)).trans (h.2.2 j hj)))⟩ ((aa_w_ne _ _ (by omega)).trans (aa_w_at _ _ _ _)) (aa_w_at _ _ _ _)
/-- the BELLS in state 2 -/
def xb_l (L : List pl_E) (r : Nat ⊕ Nat) (g' : aa_G) : Prop := ∀ N, r = .inr N → N = L.length ∧ ∀ i e, L[i]? = some e → ∃ T0, brk_c g' 2 i e.1 T0 e.2.1
theorem cb_bells3 {g : aa_G} {b : Nat → Int32} {n e c : Nat} (h : tc_ok g b n) (he : e < 12) (hc : c ≤ 12) (h0 : g 66 0 = Int32.ofNat c) (h1 : g 66 1 = Int32.ofNat e) : zz_fin none 41 (0, zz_in [.ref 1] (zz_nl 41), [], aa_H g) (fun v h => ∃ g', h = aa_H g' ∧ v = some (.int (bl_ans (cl_loop b n (n + 1) 0 0 0))) ∧ xb_c (cl_loop b n (n + 1) 0 0 0) e c g g' ∧ xb_l (pl b n (n + 1) 0 0 0) (cl_loop b n (n + 1) 0 0 0) g') := by
  refine zz_fin.steps (n := 4) (s' := (8, [some (.ref 1), none], [.ref 2, .ref 34], aa_H g)) rfl ?_
  refine zz_fin.call rfl rfl (Nat.le_of_ble_eq_true rfl) (cp_state cs_ok_34 cs_ok_2 (show 34 + 32 ≤ 2 ∨ 2 + 32 ≤ 34 by omega)) ?_
  rintro v h' ⟨rfl, g1, rfl, k1, k2⟩
  have k2 : cp_fr g g1 34 65 := k2
  have ht1 : tc_ok g1 b n := ⟨(k2 454 0 (by omega)).trans h.1, h.2.1, fun j hj => (k2 455 j (by omega)).trans (h.2.2 j hj)⟩
  refine zz_fin.steps (n := 5) (s' := (22, [some (.ref 1), none], [.ref 36, .ref 454], aa_H g1)) rfl ?_
  refine zz_fin.call rfl rfl (Nat.le_of_ble_eq_true rfl) (cb_read3 ht1) ?_
  rintro v h' (⟨f, hs, rfl, g2, rfl, b1, b2⟩ | ⟨N, hs, hN, rfl, g2, rfl, hr, hr0, -, hNL, hL⟩)
  · refine zz_fin.steps (n := 2) (s' := (27, [some (.ref 1), some (.int (-1))], [.ref 1], aa_H g2)) rfl ?_
    refine zz_fin.call rfl rfl (Nat.le_of_ble_eq_true rfl) (ct_eor) ?_
    rintro v h ⟨rfl, rfl⟩
    refine zz_fin.steps (n := 2) (s' := (32, [some (.ref 1), some (.int (-1))], [.int (-1), .int (-1)], aa_H (zz_w (zz_w g2 1 13 (g2 454 4)) 454 0 0))) rfl ?_
    refine zz_fin.ic rfl (fun cz => ?_) (fun cz => absurd rfl cz)
    rw [hs]
    have fr : ∀ k j, ¬ ((34 ≤ k ∧ k ≤ 65)) → k ≠ 454 → ¬ (k = 1 ∧ j = 13) → (zz_w (zz_w g2 1 13 (g2 454 4)) 454 0 0) k j = g k j := fun k j e1 e2 e3 => by
      rw [aa_w_ne _ _ (by omega), aa_w_ne _ _ (by omega), b1 k j (by omega) (by omega), aa_w_ne _ _ (by omega), aa_w_ne _ _ (by omega), aa_w_ne _ _ (by omega)]
      exact k2 k j (by omega)
    exact zz_fin.at (n := 2) rfl ⟨_, rfl, rfl, ⟨aa_w_at _ _ _ _, (aa_w_ne _ _ (by omega)).trans ((aa_w_at _ _ _ _).trans b2), fun k j z1 z2 z3 z4 z5 => fr k j (by omega) z4 z5, fr⟩, fun N hN => by cases hN⟩
  · refine zz_fin.steps (n := 2) (s' := (27, [some (.ref 1), some (.int (Int32.ofNat N))], [.ref 1], aa_H g2)) rfl ?_
    refine zz_fin.call rfl rfl (Nat.le_of_ble_eq_true rfl) (ct_eor) ?_
    rintro v h ⟨rfl, rfl⟩
    refine zz_fin.steps (n := 2) (s' := (32, [some (.ref 1), some (.int (Int32.ofNat N))], [.int (-1), .int (Int32.ofNat N)], aa_H (zz_w (zz_w g2 1 13 (g2 454 4)) 454 0 0))) rfl ?_
    have hne : Int32.ofNat N ≠ -1 := fun z => by
      have e := zz_ofN (n := N) (by omega)
      rw [z, show (-1 : Int32).toInt = -1 from rfl] at e
      omega
    refine zz_fin.ic rfl (fun cz => absurd (of_decide_eq_true cz) hne) (fun cz => ?_)
    have fr : ∀ k j, ¬ ((34 ≤ k ∧ k ≤ 65)) → k ≠ 454 → ¬ (k = 1 ∧ j = 13) → (zz_w (zz_w g2 1 13 (g2 454 4)) 454 0 0) k j = g k j := fun k j e1 e2 e3 => by
      rw [aa_w_ne _ _ (by omega), aa_w_ne _ _ (by omega), hr k j (by omega) (by omega), aa_w_ne _ _ (by omega), aa_w_ne _ _ (by omega), aa_w_ne _ _ (by omega)]
      exact k2 k j (by omega)
    refine zz_fin.steps (n := 3) (s' := (40, [some (.ref 1), some (.int (Int32.ofNat N))], [.ref 34, .ref 1], aa_H (zz_w (zz_w g2 1 13 (g2 454 4)) 454 0 0))) rfl ?_
    have hG13 : (zz_w (zz_w g2 1 13 (g2 454 4)) 454 0 0) 1 13 = -1 := by
      rw [aa_w_ne _ _ (by omega), aa_w_at, hr 454 4 (by omega) (by omega), aa_w_ne _ _ (by omega), aa_w_ne _ _ (by omega), aa_w_at]
    have hG0 : (zz_w (zz_w g2 1 13 (g2 454 4)) 454 0 0) 454 0 = 0 := aa_w_at _ _ _ _
    generalize hG : zz_w (zz_w g2 1 13 (g2 454 4)) 454 0 0 = G3 at fr hG13 hG0 ⊢
    refine zz_fin.call rfl rfl (Nat.le_of_ble_eq_true rfl) (cd_adopt cs_ok_34 (by omega) he hc ((fr 66 0 (by omega) (by omega) (by omega)).trans h0) ((fr 66 1 (by omega) (by omega) (by omega)).trans h1)) ?_
    rintro v h' ⟨rfl, g4, g5, rfl, ⟨p1, p2, p3, p4⟩, q1, q2⟩
    have s4 : ∀ k j, ¬ (32 * e + 68 ≤ k ∧ k ≤ 32 * e + 99) → ¬ (k = 66 ∧ j ≤ 1) → g4 k j = G3 k j := p4
    rw [hs]
    have q2' : ∀ k j, ¬ (2 ≤ k ∧ k ≤ 33) → g5 k j = g4 k j := q2
    have dr : ∀ k j, 34 ≤ k → k ≤ 65 → G3 k j = g2 k j := fun k j z1 z2 => by rw [← hG, aa_w_ne _ _ (by omega), aa_w_ne _ _ (by omega)]
    have dr2 : ∀ k j, 34 ≤ k → k ≤ 65 → ¬ (36 ≤ k ∧ k ≤ 45) → G3 k j = g1 k j := fun k j z1 z2 z3 => by rw [dr k j z1 z2, hr k j z3 (by omega), aa_w_ne _ _ (by omega), aa_w_ne _ _ (by omega), aa_w_ne _ _ (by omega)]
    have d4 : ∀ k j, 34 ≤ k → k ≤ 65 → g4 k j = G3 k j := fun k j z1 z2 => s4 k j (by omega) (by omega)
    refine zz_fin.at (n := 2) rfl ⟨g5, rfl, rfl, ⟨(q2 454 0 (by omega)).trans ((s4 454 0 (by omega) (by omega)).trans hG0), (q2 1 13 (by omega)).trans ((s4 1 13 (by omega) (by omega)).trans hG13), fun k j z1 z2 z3 z4 z5 => (q2' k j (by omega)).trans ((s4 k j z2 z3).trans (fr k j (by omega) z4 z5)), ⟨?_, ?_, fun t ht => ⟨fun j hj => ?_, fun o j o1 o2 hj => ?_⟩, ?_⟩, cp_via (cp_src p1 fun k j z1 z2 => fr k j (by omega) (by omega) (by omega)) (fun k j z1 z2 => q2' k j (by omega)), (q2' 66 0 (by omega)).trans p2, (q2' 66 1 (by omega)).trans p3⟩, fun N' hN' => ?_⟩
    · rw [q1.1 0 (by omega), d4 34 0 (by omega) (by omega), dr2 34 0 (by omega) (by omega) (by omega)]
      exact k1.1 0 (by omega)
    · rw [q1.1 1 (by omega), d4 34 1 (by omega) (by omega), dr2 34 1 (by omega) (by omega) (by omega)]
      exact k1.1 1 (by omega)
    · have a := (q1.2.2 t ht).1 j hj
      have a2 := (k1.2.2 t ht).1 j hj
      rw [show 5 * t + (2 + 12) = 5 * t + 14 by omega] at a a2
      rw [a, d4 _ j (by omega) (by omega), dr2 _ j (by omega) (by omega) (by omega)]
      exact a2
    · have a := (q1.2.2 t ht).2 o j o1 o2 hj
      have a2 := (k1.2.2 t ht).2 o j o1 o2 hj
      rw [show 5 * t + (2 + 12) = 5 * t + 14 by omega] at a a2
      rw [a, d4 _ j (by omega) (by omega), dr2 _ j (by omega) (by omega) (by omega)]
      exact a2
    · rw [q1.2.1.1 0 (by omega), d4 _ 0 (by omega) (by omega), dr _ 0 (by omega) (by omega)]
      exact hr0
    · cases hN'
      refine ⟨by omega, fun i e he => ?_⟩
      obtain ⟨T0, u⟩ := hL i e he
      rw [Nat.zero_add] at u
      have hi := br_get he
      refine ⟨T0, br_ce (g := g4) (S := 34) (S' := 2) (by omega) q1.2.1.2 ?_⟩
      exact br_ce (g := g2) (S := 34) (S' := 34) (by omega) (fun o j o1 o2 _ => by rw [d4 _ j (by omega) (by omega), dr _ j (by omega) (by omega)]) u
/-- numbers of BELLS ahead of N, codes ahead of c are as they were -/
def mb_keep (g g' : aa_G) (N c : Nat) : Prop := ∀ j, (j < 7 * N → g' 544 j = g 544 j) ∧ (j < c → g' 545 j = g 545 j)
theorem bm_loop3 {b : Nat → Int32} {n : Nat} {g0 : aa_G} : ∀ (k p N T c : Nat) (g : aa_G) (z : Int32), n < k + p → p ≤ n → N ≤ 8 → T ≤ 40 → c ≤ 2 * T → bg_fr g0 g → tm_ok g b n → g 540 10 = Int32.ofNat N → g 540 11 = Int32.ofNat c → g 540 12 = Int32.ofNat T →
    (∃ f g', ml_loop b n k p N T = .inl f ∧ g' 540 6 = Int32.ofNat f ∧ (∀ k j, ¬ (k = 540 ∧ ((5 ≤ j ∧ j ≤ 7) ∨ (10 ≤ j ∧ j ≤ 12))) → k ≠ 544 → k ≠ 545 → g' k j = g0 k j) ∧ fn_178_21 (tm_at g p z) 1 = fn_178_44 g' 0) ∨
    (∃ N2 c2 g' q z2, ml_loop b n k p N T = .inr N2 ∧ N2 ≤ 8 ∧ c2 ≤ 80 ∧ bg_fr g0 g' ∧ g' 540 10 = Int32.ofNat N2 ∧ g' 540 11 = Int32.ofNat c2 ∧ fn_178_21 (tm_at g p z) 1 = fn_178_44 (tm_at g' q z2) 1 ∧ mb_keep g g' N c ∧ c ≤ c2 ∧ N2 = N + (pl b n k p N T).length ∧ ∀ i e, (pl b n k p N T)[i]? = some e → ∃ c0, c0 + e.2.2.length ≤ c2 ∧ br_m (fun q => g' 544 q) (fun q => g' 545 q) (N + i) e.1 e.2.1.length c0 e.2.2) := by
  intro k
  induction k with
  | zero => intro p N T c g z hk hp; omega
  | succ k ih =>
    intro p N T c g z hk hp hN hT hc hf h h10 h11 h12
    have hn := h.2.1
    have e5 : tm_at g p z 540 5 = Int32.ofNat p := by
      unfold tm_at
      rw [aa_w_ne _ _ (by omega), aa_w_at]
    have e4 : tm_at g p z 540 4 = Int32.ofNat n := (tz_m _ _ _ (by omega)).trans h.1
    by_cases hm : p < n
    · have hb : fn_178_21b (tm_at g p z) 1 = .inl ((fn_179 (tm_at g p z)).2, (fn_179 (tm_at g p z)).1) := by
        unfold fn_178_21b fn_178_40
        rw [if_neg (by decide), e4, e5, if_neg (fun z => by
          have := (i_le (by omega) (by omega)).mp z
          omega)]
      have hs : fn_178_21 (tm_at g p z) 1 = fn_178_21 (fn_179 (tm_at g p z)).2 (fn_179 (tm_at g p z)).1 := by
        unfold fn_178_21
        exact lp_l hb
      rcases bm_bell (z := z) h hN hT (by omega) hp h10 h11 h12 with ⟨f, g', b1, b2, b3⟩ | ⟨q, F, T2, cs, g', z', b1, b2, b3, b4⟩
      · left
        refine ⟨f, g', ml_inl hm b1, b3.2, fun a j z1 z2 z3 => (b3.1 a j z1 (by omega) (by omega)).trans (hf a j (by omega) z2 z3), ?_⟩
        rw [hs, b2]
        unfold fn_178_21
        refine lp_r ?_
        show fn_178_21b g' 0 = _
        unfold fn_178_21b
        rw [if_pos rfl]
      · obtain ⟨a1, a2, a3, a4, a5, a6, -⟩ := (cb_pb (b := b) (n := n) (p := p) (N := N) hT).2 q F T2 cs b1
        obtain ⟨s1, s2, s3, s4, s5, s6⟩ := b4
        rw [ml_inr hm b1, hs, b3]
        obtain ⟨-, -, -, -, -, -, ts, f1, f2⟩ := (cb_pb (b := b) (n := n) (p := p) (N := N) hT).2 q F T2 cs b1
        have hpl := pl_in (k := k) hm b1 f2
        have kp : mb_keep g g' N c := fun j => ⟨fun hj => s1 544 j (by omega) (by omega) (by omega), fun hj => s1 545 j (by omega) (by omega) (by omega)⟩
        have b0 : br_m (fun q => g' 544 q) (fun q => g' 545 q) N F ts.length c cs := by
          obtain ⟨u1, u2, u3, u4, u5, u6, u7⟩ := s6
          exact ⟨⟨u1, u2, u3, u4, by rw [show ts.length = T2 - T by omega]; exact u5, u6, u7⟩, by omega, s5⟩
        rcases ih q (N + 1) T2 (c + cs.length) g' z' (by omega) a2 (by omega) a3 (by omega) (fun a j z1 z2 z3 => (s1 a j z1 (fun e => z3 e.1) (fun e => z2 e.1)).trans (hf a j z1 z2 z3)) (s1.ok h) s2 s3 s4 with kk | ⟨N2, c2, g5, q5, z5, k1, k2, k3, k4, k5, k6, k7, k8, k12, k9, k10⟩
        · exact .inl kk
        · refine .inr ⟨N2, c2, g5, q5, z5, k1, k2, k3, k4, k5, k6, k7, fun j => ⟨fun hj => ((k8 j).1 (by omega)).trans ((kp j).1 hj), fun hj => ((k8 j).2 (by omega)).trans ((kp j).2 hj)⟩, by omega, ?_, fun i e he => ?_⟩
          · rw [hpl, List.length_cons, k9]
            omega
          · rw [hpl] at he
            cases i with
            | zero =>
              cases he
              obtain ⟨v1, v2, v3⟩ := b0
              have kb : ∀ j, j < c + cs.length → g5 545 j = g' 545 j := fun j hj => (k8 j).2 hj
              have kf : ∀ j, j < 7 * (N + 1) → g5 544 j = g' 544 j := fun j hj => (k8 j).1 hj
              refine ⟨c, k12, ⟨(kf _ (by omega)).trans v1.1, (kf _ (by omega)).trans v1.2.1, (kf _ (by omega)).trans v1.2.2.1, (kf _ (by omega)).trans v1.2.2.2.1, (kf _ (by omega)).trans v1.2.2.2.2.1, (kf _ (by omega)).trans v1.2.2.2.2.2.1, (kf _ (by omega)).trans v1.2.2.2.2.2.2⟩, v2, fun i v hv => ?_⟩
              have hi : i < cs.length := br_get hv
              exact (kb _ (by omega)).trans (v3 i v hv)
            | succ i =>
              obtain ⟨c0, u1, u2⟩ := k10 i e he
              exact ⟨c0, u1, by rw [show N + (i + 1) = N + 1 + i by omega]; exact u2⟩
    · right
      refine ⟨N, c, g, p, z, ml_no hm, hN, by omega, hf, h10, h11, ?_, fun j => ⟨fun _ => rfl, fun _ => rfl⟩, Nat.le_refl _, by rw [pl_no hm]; rfl, fun i e he => by rw [pl_no hm] at he; cases he⟩
      unfold fn_178_21
      refine lp_r ?_
      show fn_178_21b (tm_at g p z) 1 = _
      unfold fn_178_21b
      rw [if_neg (by decide), e4, e5, if_pos ((i_le (by omega) (by omega)).mpr (by omega))]
/-- the BELLS in row 0 -/
def xm_l (L : List pl_E) (r : Nat ⊕ Nat) (g' : aa_G) : Prop := ∀ N, r = .inr N → N = L.length ∧ ∀ i e, L[i]? = some e → ∃ c0, br_m (fun q => g' 541 (203 + q)) (fun q => g' 541 (259 + q)) i e.1 e.2.1.length c0 e.2.2
theorem bm_all3 {g : aa_G} {b : Nat → Int32} {n c : Nat} (h : tm_ok g b n) (hc : g 540 1 = Int32.ofNat c) (h12 : c ≤ 12) : (fn_178 g).1 = bl_ans (ml_loop b n (n + 1) 0 0 0) ∧ xb_m (ml_loop b n (n + 1) 0 0 0) c g (fn_178 g).2 ∧ xm_l (pl b n (n + 1) 0 0 0) (ml_loop b n (n + 1) 0 0 0) (fn_178 g).2 := by
  have hn := h.2.1
  have em : fn_178 g = fn_178_21 (tm_at (zz_w (zz_w (zz_w (zz_w g 540 6 (-1)) 540 10 0) 540 11 0) 540 12 0) 0 (g 540 7)) 1 := by
    unfold fn_178 fn_178_4 fn_165 tm_at
    have e : zz_w (zz_w (zz_w (zz_w (zz_w g 540 5 0) 540 6 (-1)) 540 10 0) 540 11 0) 540 12 0 = zz_w (zz_w (zz_w (zz_w (zz_w (zz_w g 540 6 (-1)) 540 10 0) 540 11 0) 540 12 0) 540 5 (Int32.ofNat 0)) 540 7 (g 540 7) := by
      rw [zz_id (g := zz_w (zz_w (zz_w (zz_w (zz_w g 540 6 (-1)) 540 10 0) 540 11 0) 540 12 0) 540 5 (Int32.ofNat 0)) (by rw [aa_w_ne _ _ (by omega), aa_w_ne _ _ (by omega), aa_w_ne _ _ (by omega), aa_w_ne _ _ (by omega), aa_w_ne _ _ (by omega)]), zz_w_comm (zz_w (zz_w (zz_w g 540 6 (-1)) 540 10 0) 540 11 0) (k := 540) (j := 12) (a := 540) (b := 5) _ _ (by omega), zz_w_comm (zz_w (zz_w g 540 6 (-1)) 540 10 0) (k := 540) (j := 11) (a := 540) (b := 5) _ _ (by omega), zz_w_comm (zz_w g 540 6 (-1)) (k := 540) (j := 10) (a := 540) (b := 5) _ _ (by omega), zz_w_comm g (k := 540) (j := 6) (a := 540) (b := 5) _ _ (by omega)]
      rfl
    rw [e]
  generalize hG : zz_w (zz_w (zz_w (zz_w g 540 6 (-1)) 540 10 0) 540 11 0) 540 12 0 = G at em
  have G4 : ∀ k j, ¬ (k = 540 ∧ (j = 6 ∨ (10 ≤ j ∧ j ≤ 12))) → G k j = g k j := fun k j e => by
    rw [← hG, aa_w_ne _ _ (by omega), aa_w_ne _ _ (by omega), aa_w_ne _ _ (by omega), aa_w_ne _ _ (by omega)]
  have hok : tm_ok G b n := ⟨(G4 540 4 (by omega)).trans h.1, h.2.1, fun j hj => by rw [G4 543 j (by omega)]; exact h.2.2 j hj⟩
  have g12 : G 540 12 = 0 := by rw [← hG, aa_w_at]
  have g11 : G 540 11 = 0 := by rw [← hG, aa_w_ne _ _ (by omega), aa_w_at]
  have g10 : G 540 10 = 0 := by rw [← hG, aa_w_ne _ _ (by omega), aa_w_ne _ _ (by omega), aa_w_at]
  have g6 : G 540 6 = -1 := by rw [← hG, aa_w_ne _ _ (by omega), aa_w_ne _ _ (by omega), aa_w_ne _ _ (by omega), aa_w_at]
  rw [em]
  rcases bm_loop3 (g0 := G) (n + 1) 0 0 0 0 G (g 540 7) (by omega) (Nat.zero_le _) (by omega) (by omega) (Nat.le_refl _) (fun _ _ _ _ _ => rfl) hok g10 g11 g12 with ⟨f, g', k1, k2, k3, k4⟩ | ⟨N2, c2, g', q, z2, k1, k2, k3, k4, k5, k6, k7, -, -, kN, kL⟩
  · rw [k1, k4]
    unfold fn_178_44
    rw [if_neg (fun z => z rfl)]
    refine ⟨rfl, ⟨?_, ?_, fun k j z1 z2 z3 z4 => ?_, fun j => ?_, ?_⟩, fun N hN => by cases hN⟩
    · show zz_w g' 540 4 0 540 4 = 0
      rw [aa_w_at]
    · show zz_w g' 540 4 0 540 6 = Int32.ofNat f
      rw [aa_w_ne _ _ (by omega)]; exact k2
    · show zz_w g' 540 4 0 k j = g k j
      rw [aa_w_ne _ _ (by omega), k3 k j (by omega) z3 z4, G4 k j (by omega)]
    · show zz_w g' 540 4 0 541 j = g 541 j
      rw [aa_w_ne _ _ (by omega), k3 541 j (by omega) (by omega) (by omega), G4 541 j (by omega)]
    · show zz_w g' 540 4 0 540 1 = g 540 1
      rw [aa_w_ne _ _ (by omega), k3 540 1 (by omega) (by omega) (by omega), G4 540 1 (by omega)]
  · rw [k1, k7]
    unfold fn_178_44
    rw [if_pos (by decide)]
    generalize hK : zz_w (tm_at g' q z2) 540 4 0 = K
    have K1 : ∀ k j, ¬ (k = 540 ∧ (j = 4 ∨ j = 5 ∨ j = 7)) → K k j = g' k j := fun k j e => by
      rw [← hK, aa_w_ne _ _ (by omega), tz_m _ _ _ (by omega)]
    have hK4 : K 540 4 = 0 := by rw [← hK, aa_w_at]
    have Kg : ∀ k j, ¬ (k = 540 ∧ ((4 ≤ j ∧ j ≤ 7) ∨ (10 ≤ j ∧ j ≤ 12))) → k ≠ 544 → k ≠ 545 → K k j = g k j := fun k j z1 z2 z3 => (K1 k j (by omega)).trans ((k4 k j (by omega) z2 z3).trans (G4 k j (by omega)))
    have pm := dm_deed (g := K) ((Kg 540 1 (by omega) (by omega) (by omega)).trans hc) h12
    have K6 : K 540 6 = -1 := (K1 540 6 (by omega)).trans ((k4 540 6 (by omega) (by omega) (by omega)).trans g6)
    generalize fn_156 K = M at pm ⊢
    obtain ⟨m1, m2, m3, m4⟩ := pm
    unfold fn_178_59
    rw [show (2 : Int32).toNatClampNeg = 2 from rfl]
    have M10 : M 540 10 = Int32.ofNat N2 := (m4 540 10 (by omega) (by omega)).trans ((K1 540 10 (by omega)).trans k5)
    have M11 : M 540 11 = Int32.ofNat c2 := (m4 540 11 (by omega) (by omega)).trans ((K1 540 11 (by omega)).trans k6)
    obtain ⟨P, p1, p2, p3⟩ := bc_1 k2 (7 * N2) 0 (zz_w M 541 2 (M 540 10)) (by omega) ((aa_w_ne _ _ (by omega)).trans M10)
    obtain ⟨R, r1, r2, r3⟩ := bc_2 k3 c2 0 P (by omega) ((p3 540 11 (by omega)).trans ((aa_w_ne _ _ (by omega)).trans M11))
    rw [show (Int32.ofNat 0 : Int32) = 0 from rfl] at p1 r1
    rw [p1, r1]
    have fr : ∀ k j, ¬ (k = 541 ∧ (j = 2 ∨ (203 ≤ j ∧ j < 399))) → R k j = M k j := fun k j z => (r3 k j (by omega)).trans ((p3 k j (by omega)).trans (aa_w_ne _ _ (by omega)))
    refine ⟨?_, ⟨(fr 540 4 (by omega)).trans ((m4 540 4 (by omega) (by omega)).trans hK4), (fr 540 6 (by omega)).trans ((m4 540 6 (by omega) (by omega)).trans K6), fun k j z1 z2 z3 z4 => ?_, ?_, fun j z1 z2 => ?_, fun j z1 z2 => ?_, ?_, fun q hq => ?_, fun i q hq hi => ?_⟩, fun N' hN' => ?_⟩
    · show P 540 10 = Int32.ofNat N2
      rw [p3 540 10 (by omega), aa_w_ne _ _ (by omega), M10]
    · show R k j = g k j
      rw [fr k j (by omega), m4 k j (by omega) (by omega), Kg k j (by omega) z3 z4]
    · show R 541 2 = Int32.ofNat N2
      rw [r3 541 2 (by omega), p3 541 2 (by omega), aa_w_at, M10]
    · show R 541 j = g 541 j
      rw [fr 541 j (by omega), m4 541 j (by omega) (by omega), Kg 541 j (by omega) (by omega) (by omega)]
    · show R 541 j = g 541 j
      rw [fr 541 j (by omega), m4 541 j (by omega) (by omega), Kg 541 j (by omega) (by omega) (by omega)]
    · exact (fr 540 1 (by omega)).trans m1
    · show R 541 (399 * (3 + min c 11) + q) = g 541 (399 * 0 + q)
      rw [fr 541 _ (by omega), m2 q hq, Kg 541 _ (by omega) (by omega) (by omega)]
    · show R 541 (399 * (3 + i) + q) = g 541 (399 * (3 + i + (if c = 12 then 1 else 0)) + q)
      rw [fr 541 _ (by omega), m3 i q hq hi, Kg 541 _ (by omega) (by omega) (by omega)]
    · cases hN'
      refine ⟨by omega, fun i e he => ?_⟩
      obtain ⟨c0, u1, u2⟩ := kL i e he
      rw [Nat.zero_add] at u2
      have hi := br_get he
      obtain ⟨v1, v2, v3⟩ := u2
      have k544 : ∀ j, M 544 j = g' 544 j := fun j => (m4 544 j (by omega) (by omega)).trans (K1 544 j (by omega))
      have k545 : ∀ j, M 545 j = g' 545 j := fun j => (m4 545 j (by omega) (by omega)).trans (K1 545 j (by omega))
      have kf : ∀ j, j < 7 * N2 → R 541 (203 + j) = g' 544 j := fun j hj => by
        rw [r3 541 (203 + j) (by omega), p2 (203 + j) (by omega) (by omega), show 203 + j - 203 = j by omega, aa_w_ne _ _ (by omega), k544]
      have kc : ∀ j, j < c2 → R 541 (259 + j) = g' 545 j := fun j hj => by
        rw [r2 (259 + j) (by omega) (by omega), show 259 + j - 259 = j by omega, p3 545 j (by omega), aa_w_ne _ _ (by omega), k545]
      refine ⟨c0, ⟨?_, ?_, ?_, ?_, ?_, ?_, ?_⟩, v2, fun a v hv => ?_⟩
      · exact (kf _ (by omega)).trans v1.1
      · exact (kf _ (by omega)).trans v1.2.1
      · exact (kf _ (by omega)).trans v1.2.2.1
      · exact (kf _ (by omega)).trans v1.2.2.2.1
      · exact (kf _ (by omega)).trans v1.2.2.2.2.1
      · exact (kf _ (by omega)).trans v1.2.2.2.2.2.1
      · exact (kf _ (by omega)).trans v1.2.2.2.2.2.2
      · have ha := br_get hv
        exact (kc _ (by omega)).trans (v3 a v hv)
/-- both sides' BELLS behind bells() -/
theorem br_of {b : Nat → Int32} {n : Nat} : ∀ (k p N T : Nat), T ≤ 40 → ∀ (i : Nat) (e : pl_E), (pl b n k p N T)[i]? = some e → cd_rel e.2.1 e.2.2 ∧ br_F e.1 := by
  intro k
  induction k with
  | zero => intro p N T hT i e he; cases he
  | succ k ih =>
    intro p N T hT i e he
    by_cases hp : p < n
    · rw [pl, if_pos hp] at he
      cases hb : pb_bell b n p N T with
      | inl f =>
        rw [hb] at he
        cases he
      | inr r =>
        obtain ⟨q, F, T2, cs⟩ := r
        cases hc : cb_q b n (cb_bellf b n p N T) with
        | inl f =>
          rw [hb, hc] at he
          cases he
        | inr r =>
          obtain ⟨q', F', ts⟩ := r
          rw [hb, hc] at he
          obtain ⟨o1, o2, o3, o4, o5⟩ := pl_one hT hb hc
          cases i with
          | zero =>
            cases he
            exact ⟨o4, o5⟩
          | succ i =>
            have t2 := ((cb_pb (b := b) (n := n) (p := p) (N := N) hT).2 q F T2 cs hb).2.2.1
            exact ih q (N + 1) T2 t2 i e he
    · rw [pl_no hp] at he
      cases he
theorem br_new {b : Nat → Int32} {n N : Nat} {gc gm : aa_G} (hN : N ≤ 8) (hc : xb_l (pl b n (n + 1) 0 0 0) (cl_loop b n (n + 1) 0 0 0) gc) (hm : xm_l (pl b n (n + 1) 0 0 0) (ml_loop b n (n + 1) 0 0 0) gm) (e : ml_loop b n (n + 1) 0 0 0 = .inr N) (h0 : gc 4 0 = Int32.ofNat N) : br_B gc gm 2 0 := by
  obtain ⟨a1, a2⟩ := hc N ((cl_ml (n + 1) 0 0 0 (by omega)).trans e)
  obtain ⟨b1, b2⟩ := hm N e
  refine ⟨N, hN, h0, fun k hk => ?_⟩
  have hk2 : k < (pl b n (n + 1) 0 0 0).length := by omega
  have he := List.getElem?_eq_getElem hk2
  obtain ⟨T0, u⟩ := a2 k _ he
  obtain ⟨c0, w⟩ := b2 k _ he
  obtain ⟨o1, o2⟩ := br_of (n + 1) 0 0 0 (by omega) k _ he
  refine ⟨_, T0, _, c0, _, u, ?_, o1, o2⟩
  exact br_me (by omega) (fun q _ => by rw [show 399 * 0 + (203 + q) = 203 + q by omega]) (fun q _ => by rw [show 399 * 0 + (259 + q) = 259 + q by omega]) w
/-- no more than eight BELLS -/
theorem ml_le {b : Nat → Int32} {n : Nat} : ∀ (k p N T N2 : Nat), T ≤ 40 → N ≤ 8 → ml_loop b n k p N T = .inr N2 → N2 ≤ 8 := by
  intro k
  induction k with
  | zero =>
    intro p N T N2 _ _ e
    cases e
  | succ k ih =>
    intro p N T N2 hT hN e
    by_cases hp : p < n
    · cases h : pb_bell b n p N T with
      | inl f =>
        rw [ml_inl hp h] at e
        cases e
      | inr r =>
        obtain ⟨q, F, T2, cs⟩ := r
        rw [ml_inr hp h] at e
        obtain ⟨-, -, w1, -, -, w2, -⟩ := (cb_pb (b := b) (n := n) (p := p) (N := N) hT).2 q F T2 cs h
        exact ih q (N + 1) T2 N2 w1 (by omega) e
    · rw [ml_no hp] at e
      have e2 := Sum.inr.inj e
      omega
theorem xb_4 {r : Nat ⊕ Nat} {e c N : Nat} {g g' : aa_G} (h : xb_c r e c g g') (hr : r = .inr N) : g' 4 0 = Int32.ofNat N := by
  rw [hr] at h
  exact h.2.2.2.1.2.2.2
