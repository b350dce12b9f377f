/-! BELLS: both sides read alike; the loops -/
theorem pb_head_lt {b : Nat → Int32} {n p N q : Nat} {F : pb_F} (h : pb_head b n p N = .inr (q, F)) : p < q ∧ q ≤ n ∧ N ≠ 8 := by
  by_cases h0 : ¬ (sp_hb b n p = 100 ∨ sp_hb b n p = 110) ∨ N = 8
  · rw [show pb_head b n p N = .inl p from if_pos h0] at h
    cases h
  · have hN : N ≠ 8 := fun e => h0 (.inr e)
    have hl : sp_hb b n p = 100 ∨ sp_hb b n p = 110 := Decidable.byContradiction fun e => h0 (.inl e)
    have hp : p < n := pd_in fun e => by
      rw [e] at hl
      exact absurd hl (by decide)
    have e0 : pb_head b n p N = pb_then (sp_num b n false 0 11 (p + 1)) fun q1 y => pb_then (pb_part b n q1) fun q2 z => pb_end b n q2 (pb_half (sp_hb b n p)) y z := if_neg h0
    rw [e0] at h
    cases h1 : sp_num b n false 0 11 (p + 1) with
    | inl f =>
      rw [pb_then_inl h1] at h
      cases h
    | inr r =>
      obtain ⟨q1, y⟩ := r
      rw [pb_then_inr h1] at h
      have b1 := sp_num_n h1 hp
      cases h2 : pb_part b n q1 with
      | inl f =>
        rw [pb_then_inl h2] at h
        cases h
      | inr r =>
        obtain ⟨q2, z⟩ := r
        rw [pb_then_inr h2] at h
        have b2 : q1 ≤ q2 ∧ q2 ≤ n := by
          by_cases hd : sp_hb b n q1 = 46
          · rw [show pb_part b n q1 = _ from if_pos hd] at h2
            have hq1 : q1 < n := pd_in fun e => by
              rw [e] at hd
              exact absurd hd (by decide)
            have := sp_num_n h2 hq1
            omega
          · rw [show pb_part b n q1 = _ from if_neg hd] at h2
            cases h2
            exact ⟨Nat.le_refl _, b1.1⟩
        by_cases hs : sp_hb b n q2 = 42
        · rw [show pb_end b n q2 (pb_half (sp_hb b n p)) y z = _ from if_pos hs] at h
          have hq2 : q2 < n := pd_in fun e => by
            rw [e] at hs
            exact absurd hs (by decide)
          cases h3 : sp_num b n false 1 24 (q2 + 1) with
          | inl f =>
            rw [pb_then_inl h3] at h
            cases h
          | inr r =>
            obtain ⟨q3, w⟩ := r
            rw [pb_then_inr h3] at h
            have b3 := sp_num_n h3 hq2
            cases h
            exact ⟨by omega, by omega, hN⟩
        · rw [show pb_end b n q2 (pb_half (sp_hb b n p)) y z = _ from if_neg hs] at h
          cases h
/-- a BELL of the class and its end -/
def cb_q (b : Nat → Int32) (n : Nat) (r : cb_R) : cb_R := match r with
  | .inl f => .inl f
  | .inr (q, (F, ts)) => if sp_hb b n q = 59 then .inr (q + 1, (F, ts)) else .inl q
theorem cb_pb {b : Nat → Int32} {n p N T : Nat} (hT : T ≤ 40) : (∀ f, pb_bell b n p N T = .inl f → cb_q b n (cb_bellf b n p N T) = .inl f) ∧ (∀ q F T2 cs, pb_bell b n p N T = .inr (q, (F, (T2, cs))) → p < q ∧ q ≤ n ∧ T2 ≤ 40 ∧ T ≤ T2 ∧ cs.length ≤ 2 * (T2 - T) ∧ N ≠ 8 ∧ ∃ ts, T + ts.length = T2 ∧ cb_q b n (cb_bellf b n p N T) = .inr (q, (F, ts))) := by
  cases hh : pb_head b n p N with
  | inl f =>
    rw [pb_bell_inl hh, cb_bellf_inl hh]
    exact ⟨fun f2 h => by cases h; rfl, fun q F T2 cs h => by cases h⟩
  | inr r =>
    obtain ⟨q, F⟩ := r
    obtain ⟨l1, l2, l3⟩ := pb_head_lt hh
    rw [pb_bell_inr hh, cb_bellf_inr hh]
    by_cases hc : sp_hb b n q = 63
    · have hqn : q < n := pd_in fun e => by
        rw [e] at hc
        exact absurd hc (by decide)
      rw [show pb_cond b n q T = pd_cond b n (q + 1) T from if_pos hc, show cb_condf b n q T = fl_cond b n (n + 1) (q + 1) T 0 false [] from if_pos hc]
      obtain ⟨i1, i2⟩ := fl_cond_pd (b := b) (n := n) (p := q + 1) (T := T) (k := n + 1) (s := 0) (l := []) hqn hT (by omega)
      cases hp : pd_cond b n (q + 1) T with
      | inl f =>
        rw [i1 f hp]
        exact ⟨fun f2 h => by cases h; rfl, fun q F T2 cs h => by cases h⟩
      | inr r =>
        obtain ⟨q2, T2, cs⟩ := r
        obtain ⟨a1, a2, a3, a4, a5⟩ := pd_cond_gd b n (q + 1) T q2 T2 cs hqn hT hp
        obtain ⟨j1, j2⟩ := i2 q2 T2 cs hp
        cases ho : pd_ot (sp_hb b n q2) with
        | true =>
          have hne : ¬ sp_hb b n q2 = 59 := fun e => by
            rw [e] at ho
            exact absurd ho (by decide)
          rw [j1 ho, show pb_tail b n F (.inr (q2, (T2, cs))) = .inl q2 from if_neg hne]
          exact ⟨fun f2 h => by cases h; rfl, fun q F T2 cs h => by cases h⟩
        | false =>
          obtain ⟨ts, e1, e2⟩ := j2 ho
          have e1 : ts.length + T = 0 + T2 := e1
          rw [e2]
          by_cases hs : sp_hb b n q2 = 59
          · rw [show pb_tail b n F (.inr (q2, (T2, cs))) = .inr (q2 + 1, (F, (T2, cs))) from if_pos hs, show cb_q b n (cb_tailf F (.inr (q2, ts))) = .inr (q2 + 1, (F, ts)) from if_pos hs]
            have hq2 : q2 < n := pd_in fun e => by
              rw [e] at hs
              exact absurd hs (by decide)
            refine ⟨fun f h => (by cases h), fun q F T2 cs h => ?_⟩
            cases h
            exact ⟨by omega, hq2, a4, by omega, by omega, l3, ts, by omega, rfl⟩
          · rw [show pb_tail b n F (.inr (q2, (T2, cs))) = .inl q2 from if_neg hs, show cb_q b n (cb_tailf F (.inr (q2, ts))) = .inl q2 from if_neg hs]
            exact ⟨fun f2 h => by cases h; rfl, fun q F T2 cs h => by cases h⟩
    · rw [show pb_cond b n q T = .inr (q, (T, [])) from if_neg hc, show cb_condf b n q T = .inr (q, []) from if_neg hc]
      by_cases hs : sp_hb b n q = 59
      · rw [show pb_tail b n F (.inr (q, (T, []))) = .inr (q + 1, (F, (T, []))) from if_pos hs, show cb_q b n (cb_tailf F (.inr (q, []))) = .inr (q + 1, (F, [])) from if_pos hs]
        have hq2 : q < n := pd_in fun e => by
          rw [e] at hs
          exact absurd hs (by decide)
        refine ⟨fun f h => (by cases h), fun q F T2 cs h => ?_⟩
        cases h
        exact ⟨by omega, hq2, hT, Nat.le_refl _, Nat.zero_le _, l3, [], rfl, rfl⟩
      · rw [show pb_tail b n F (.inr (q, (T, []))) = .inl q from if_neg hs, show cb_q b n (cb_tailf F (.inr (q, []))) = .inl q from if_neg hs]
        exact ⟨fun f2 h => by cases h; rfl, fun q F T2 cs h => by cases h⟩
/-- all BELLS: how many -/
def ml_loop (b : Nat → Int32) (n : Nat) : Nat → Nat → Nat → Nat → Nat ⊕ Nat
  | 0, p, _, _ => .inl p
  | k + 1, p, N, T => if p < n then (match pb_bell b n p N T with
    | .inl f => .inl f
    | .inr (q, (_, (T2, _))) => ml_loop b n k q (N + 1) T2) else .inr N
def cl_loop (b : Nat → Int32) (n : Nat) : Nat → Nat → Nat → Nat → Nat ⊕ Nat
  | 0, p, _, _ => .inl p
  | k + 1, p, N, T => if p < n then (match cb_q b n (cb_bellf b n p N T) with
    | .inl f => .inl f
    | .inr (q, (_, ts)) => cl_loop b n k q (N + 1) (T + ts.length)) else .inr N
theorem ml_no {b : Nat → Int32} {n k p N T : Nat} (h : ¬ p < n) : ml_loop b n (k + 1) p N T = .inr N := if_neg h
theorem ml_inl {b : Nat → Int32} {n k p N T f : Nat} (h : p < n) (e : pb_bell b n p N T = .inl f) : ml_loop b n (k + 1) p N T = .inl f := by
  rw [ml_loop, if_pos h, e]
theorem ml_inr {b : Nat → Int32} {n k p N T q T2 : Nat} {F : pb_F} {cs : List Int32} (h : p < n) (e : pb_bell b n p N T = .inr (q, (F, (T2, cs)))) : ml_loop b n (k + 1) p N T = ml_loop b n k q (N + 1) T2 := by
  rw [ml_loop, if_pos h, e]
theorem cl_no {b : Nat → Int32} {n k p N T : Nat} (h : ¬ p < n) : cl_loop b n (k + 1) p N T = .inr N := if_neg h
theorem cl_inl {b : Nat → Int32} {n k p N T f : Nat} (h : p < n) (e : cb_q b n (cb_bellf b n p N T) = .inl f) : cl_loop b n (k + 1) p N T = .inl f := by
  rw [cl_loop, if_pos h, e]
theorem cl_inr {b : Nat → Int32} {n k p N T q : Nat} {F : pb_F} {ts : List fl_T} (h : p < n) (e : cb_q b n (cb_bellf b n p N T) = .inr (q, (F, ts))) : cl_loop b n (k + 1) p N T = cl_loop b n k q (N + 1) (T + ts.length) := by
  rw [cl_loop, if_pos h, e]
theorem cl_ml {b : Nat → Int32} {n : Nat} : ∀ k p N T, T ≤ 40 → cl_loop b n k p N T = ml_loop b n k p N T := by
  intro k
  induction k with
  | zero => intro p N T _; rfl
  | succ k ih =>
    intro p N T hT
    by_cases hp : p < n
    · obtain ⟨i1, i2⟩ := cb_pb (b := b) (n := n) (p := p) (N := N) hT
      cases hb : pb_bell b n p N T with
      | inl f => rw [ml_inl hp hb, cl_inl hp (i1 f hb)]
      | inr r =>
        obtain ⟨q, F, T2, cs⟩ := r
        obtain ⟨a1, a2, a3, a4, a5, a6, ts, e1, e2⟩ := i2 q F T2 cs hb
        rw [ml_inr hp hb, cl_inr hp e2, e1]
        exact ih q (N + 1) T2 a3
    · rw [ml_no hp, cl_no hp]
def cb_rest (g g' : aa_G) : Prop := ∀ k j, ¬ (36 ≤ k ∧ k ≤ 45) → ¬ (k = 454 ∧ 1 ≤ j ∧ j ≤ 3) → g' k j = g k j
def cb_all (g : aa_G) (r : Nat ⊕ Nat) (v : Option Value) (h : zz_H) : Prop := (∃ f, r = .inl f ∧ v = some (.int (-1)) ∧ ∃ g', h = aa_H g' ∧ cb_bad g f g') ∨ (∃ N, r = .inr N ∧ N ≤ 8 ∧ v = some (.int (Int32.ofNat N)) ∧ ∃ g', h = aa_H g' ∧ cb_rest g g')
theorem cb_rest.rf {g : aa_G} : cb_rest g g := fun _ _ _ _ => rfl
theorem cb_rest.all {g g1 : aa_G} {r : Nat ⊕ Nat} {v : Option Value} {h : zz_H} (hf : cb_rest g g1) (k : cb_all g1 r v h) : cb_all g r v h := by
  rcases k with ⟨f, k1, k2, g', k3, k4⟩ | ⟨N, k1, k0, k2, g', k3, k4⟩
  · exact .inl ⟨f, k1, k2, g', k3, fun a j e1 e2 => (k4.1 a j e1 e2).trans (hf a j e1 (by omega)), k4.2⟩
  · exact .inr ⟨N, k1, k0, k2, g', k3, fun a j e1 e2 => (k4 a j e1 e2).trans (hf a j e1 e2)⟩
theorem cb_loop {b : Nat → Int32} {n : Nat} : ∀ (k p i N T : Nat) (g : aa_G), n < k + p → i ≤ p → p ≤ n → N ≤ 8 → T ≤ 40 → tc_ok g b n → g 36 0 = Int32.ofNat N → g 36 1 = Int32.ofNat T → zz_fin none 42 (10, [some (.ref 454), some (.ref 36), some (.int (Int32.ofNat i))], [], aa_H (tc_at g b n p)) (cb_all g (cl_loop b n k p N T)) := by
  intro k
  induction k with
  | zero => intro p i N T g hk hi hp; omega
  | succ k ih =>
    intro p i N T g hk hi hp hN hT h h0 h1
    have hn := h.2.1
    have k0 : tc_at g b n p 36 0 = Int32.ofNat N := (tc_at_ne _ _ _ _ (by omega)).trans h0
    refine zz_fin.steps (n := 2) (s' := (14, [some (.ref 454), some (.ref 36), some (.int (Int32.ofNat i))], [.int 500, .int (Int32.ofNat i)], aa_H (tc_at g b n p))) rfl ?_
    refine zz_fin.ic rfl (fun c1 => ?_) (fun c1 => ?_)
    · have c1 : (500 : Int32).toInt ≤ (Int32.ofNat i).toInt := aa_le32.mp (of_decide_eq_true c1)
      rw [zz_ofN (by omega), show (500 : Int32).toInt = 500 from rfl] at c1
      have hno : ¬ p < n := by omega
      refine zz_fin.steps (n := 2) (s' := (53, [some (.ref 454), some (.ref 36), some (.int (Int32.ofNat i))], [.int ((tc_at g b n p) 36 0)], aa_H (tc_at g b n p))) rfl ?_
      rw [k0, cl_no hno]
      exact zz_fin.at (n := 1) rfl (.inr ⟨N, rfl, hN, rfl, _, rfl, fun k j e1 e2 => tc_at_ne _ _ _ _ (by omega)⟩)
    · refine zz_fin.steps (n := 1) (s' := (18, [some (.ref 454), some (.ref 36), some (.int (Int32.ofNat i))], [.ref 454], aa_H (tc_at g b n p))) rfl ?_
      refine zz_fin.call rfl rfl (Nat.le_of_ble_eq_true rfl) (tc_more h (by omega)) ?_
      rintro v h ⟨⟨rfl, hno⟩ | ⟨rfl, hno⟩, rfl⟩
      · refine zz_fin.if rfl (fun cz => zc_no1 cz) (fun cz => ?_)
        refine zz_fin.steps (n := 2) (s' := (26, [some (.ref 454), some (.ref 36), some (.int (Int32.ofNat i))], [.ref 36, .ref 454], aa_H (tc_at g b n p))) rfl ?_
        refine zz_fin.call rfl rfl (Nat.le_of_ble_eq_true rfl) (cb_bell h hN hT hp h0 h1) ?_
        rintro v h' (⟨f, e, rfl, g', rfl, hb⟩ | ⟨q, F, ts, e, hq, rfl, g1, rfl, hs⟩)
        · rw [cl_inl hno (show cb_q b n (cb_bellf b n p N T) = .inl f by rw [e]; rfl)]
          refine zz_fin.if rfl (fun cz => ?_) (fun cz => zc_no0 cz)
          exact zz_fin.at (n := 2) rfl (.inl ⟨f, rfl, rfl, g', rfl, hb⟩)
        · refine zz_fin.if rfl (fun cz => zc_no1 cz) (fun cz => ?_)
          have h2 : tc_ok g1 b n := ⟨(hs.1 454 0 (by omega) (by omega) (by omega) (by omega)).trans h.1, h.2.1, fun j hj => (hs.1 455 j (by omega) (by omega) (by omega) (by omega)).trans (h.2.2 j hj)⟩
          have hr : cb_rest g g1 := fun k j e1 e2 => hs.1 k j (by omega) (by omega) (by omega) (by omega)
          refine zz_fin.steps (n := 2) (s' := (35, [some (.ref 454), some (.ref 36), some (.int (Int32.ofNat i))], [.int 59, .ref 454], aa_H (tc_at g1 b n q))) rfl ?_
          refine zz_fin.call rfl rfl (Nat.le_of_ble_eq_true rfl) (tc_pass h2 (c := 59) (by decide)) ?_
          rintro v h' (⟨rfl, k1, k2, rfl⟩ | ⟨rfl, k1, g', rfl, k2⟩)
          · have e2 : cb_q b n (cb_bellf b n p N T) = .inr (q + 1, (F, ts)) := by
              rw [e]
              exact if_pos k1
            rw [cl_inr hno e2]
            refine zz_fin.if rfl (fun cz => ?_) (fun cz => absurd rfl cz)
            refine zz_fin.steps (n := 2) (s' := (10, [some (.ref 454), some (.ref 36), some (.int (Int32.ofNat i + 1))], [], aa_H (tc_at g1 b n (q + 1)))) rfl ?_
            rw [aa_succ]
            obtain ⟨i1, i2⟩ := cb_pb (b := b) (n := n) (p := p) (N := N) hT
            have hall : p < q + 1 ∧ T + ts.length ≤ 40 ∧ N ≠ 8 := by
              cases hb : pb_bell b n p N T with
              | inl f =>
                have := i1 f hb
                rw [e2] at this
                cases this
              | inr r =>
                obtain ⟨q5, F5, T5, cs5⟩ := r
                obtain ⟨a1, a2, a3, a4, a5, a6, ts5, f1, f2⟩ := i2 q5 F5 T5 cs5 hb
                rw [e2] at f2
                cases f2
                exact ⟨a1, by omega, a6⟩
            exact (ih (q + 1) (i + 1) (N + 1) (T + ts.length) g1 (by omega) (by omega) k2 (by omega) hall.2.1 h2 hs.2.1 hs.2.2.1).mono fun v h' k => hr.all k
          · have e2 : cb_q b n (cb_bellf b n p N T) = .inl q := by
              rw [e]
              exact if_neg k1
            rw [cl_inl hno e2]
            refine zz_fin.if rfl (fun cz => absurd cz (by decide)) (fun cz => ?_)
            exact zz_fin.at (n := 2) rfl (.inl ⟨q, rfl, rfl, g', rfl, fun k j e1 e3 => (k2.1 k j e3).trans (hr k j e1 (by omega)), k2.2⟩)
      · refine zz_fin.if rfl (fun cz => ?_) (fun cz => zc_no0 cz)
        refine zz_fin.steps (n := 2) (s' := (53, [some (.ref 454), some (.ref 36), some (.int (Int32.ofNat i))], [.int ((tc_at g b n p) 36 0)], aa_H (tc_at g b n p))) rfl ?_
        rw [k0, cl_no hno]
        exact zz_fin.at (n := 1) rfl (.inr ⟨N, rfl, hN, rfl, _, rfl, fun k j e1 e2 => tc_at_ne _ _ _ _ (by omega)⟩)
