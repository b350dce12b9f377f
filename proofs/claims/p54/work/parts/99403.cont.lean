/-! BELLS: what bells() of both sides leaves of the BELLS themselves -/
/-- a BELL of a state of the class; of a row of the model -/
def brk_c (g : aa_G) (S k : Nat) (F : pb_F) (T0 : Nat) (ts : List fl_T) : Prop := (g (S + 3) k = F.1 ∧ g (S + 4) k = F.2.1 ∧ g (S + 5) k = F.2.2.1 ∧ g (S + 6) k = F.2.2.2 ∧ g (S + 7) k = Int32.ofNat T0 ∧ g (S + 8) k = Int32.ofNat ts.length) ∧ T0 + ts.length ≤ 40 ∧ ∀ i t, ts[i]? = some t → g (S + 9) (T0 + i) = t.1 ∧ g (S + 10) (T0 + i) = t.2.1 ∧ g (S + 11) (T0 + i) = t.2.2
def br_m (fld cod : Nat → Int32) (k : Nat) (F : pb_F) (th c0 : Nat) (cs : List Int32) : Prop := (fld (7 * k) = F.1 ∧ fld (7 * k + 1) = F.2.1 ∧ fld (7 * k + 2) = F.2.2.1 ∧ fld (7 * k + 3) = F.2.2.2 ∧ fld (7 * k + 4) = Int32.ofNat th ∧ fld (7 * k + 5) = Int32.ofNat c0 ∧ fld (7 * k + 6) = Int32.ofNat (c0 + cs.length)) ∧ c0 + cs.length ≤ 80 ∧ ∀ i v, cs[i]? = some v → cod (c0 + i) = v
def br_F (F : pb_F) : Prop := (F.1 = 0 ∨ F.1 = 1) ∧ (0 ≤ F.2.1.toInt ∧ F.2.1.toInt ≤ 11) ∧ (0 ≤ F.2.2.1.toInt ∧ F.2.2.1.toInt ≤ 3599) ∧ (1 ≤ F.2.2.2.toInt ∧ F.2.2.2.toInt ≤ 24)
def br_1 (gc : aa_G) (fld cod : Nat → Int32) (S k : Nat) : Prop := ∃ F T0 ts c0 cs, brk_c gc S k F T0 ts ∧ br_m fld cod k F ts.length c0 cs ∧ cd_rel ts cs ∧ br_F F
/-- the BELLS of a state and of a row are alike -/
def br_B : rq_Q := fun gc gm S r => ∃ N, N ≤ 8 ∧ gc (S + 2) 0 = Int32.ofNat N ∧ ∀ k, k < N → br_1 gc (fun q => gm 541 (399 * r + (203 + q))) (fun q => gm 541 (399 * r + (259 + q))) S k
theorem br_get {α : Type} {l : List α} {i : Nat} {t : α} (h : l[i]? = some t) : i < l.length := by
  rcases Nat.lt_or_ge i l.length with z | z
  · exact z
  · rw [List.getElem?_eq_none z] at h
    cases h
theorem br_ce {g g' : aa_G} {S S' k : Nat} {F : pb_F} {T0 : Nat} {ts : List fl_T} (hk : k < 8) (e : ∀ o j, 1 ≤ o → o ≤ 9 → j < (if o ≤ 6 then 8 else 40) → g' (S' + 2 + o) j = g (S + 2 + o) j) (h : brk_c g S k F T0 ts) : brk_c g' S' k F T0 ts := by
  obtain ⟨⟨a1, a2, a3, a4, a5, a6⟩, a7, a8⟩ := h
  have f : ∀ o, 1 ≤ o → o ≤ 6 → g' (S' + 2 + o) k = g (S + 2 + o) k := fun o o1 o2 => e o k o1 (by omega) (by rw [if_pos o2]; exact hk)
  refine ⟨⟨(f 1 (by omega) (by omega)).trans a1, (f 2 (by omega) (by omega)).trans a2, (f 3 (by omega) (by omega)).trans a3, (f 4 (by omega) (by omega)).trans a4, (f 5 (by omega) (by omega)).trans a5, (f 6 (by omega) (by omega)).trans a6⟩, a7, fun i t ht => ?_⟩
  have hi := br_get ht
  obtain ⟨b1, b2, b3⟩ := a8 i t ht
  exact ⟨(e 7 _ (by omega) (by omega) (by rw [if_neg (by omega)]; omega)).trans b1, (e 8 _ (by omega) (by omega) (by rw [if_neg (by omega)]; omega)).trans b2, (e 9 _ (by omega) (by omega) (by rw [if_neg (by omega)]; omega)).trans b3⟩
theorem br_me {fld cod fld' cod' : Nat → Int32} {k : Nat} {F : pb_F} {th c0 : Nat} {cs : List Int32} (hk : k < 8) (e1 : ∀ q, q < 56 → fld' q = fld q) (e2 : ∀ q, q < 140 → cod' q = cod q) (h : br_m fld cod k F th c0 cs) : br_m fld' cod' k F th c0 cs := by
  obtain ⟨⟨a1, a2, a3, a4, a5, a6, a7⟩, a8, a9⟩ := h
  refine ⟨⟨(e1 _ (by omega)).trans a1, (e1 _ (by omega)).trans a2, (e1 _ (by omega)).trans a3, (e1 _ (by omega)).trans a4, (e1 _ (by omega)).trans a5, (e1 _ (by omega)).trans a6, (e1 _ (by omega)).trans a7⟩, a8, fun i v hv => ?_⟩
  have hi := br_get hv
  exact (e2 _ (by omega)).trans (a9 i v hv)
theorem br_go {gc gc' gm gm' : aa_G} {S S' r r' : Nat} (c0 : gc' (S' + 2) 0 = gc (S + 2) 0) (e : ∀ o j, 1 ≤ o → o ≤ 9 → j < (if o ≤ 6 then 8 else 40) → gc' (S' + 2 + o) j = gc (S + 2 + o) j) (hm : ∀ q, 203 ≤ q → q < 399 → gm' 541 (399 * r' + q) = gm 541 (399 * r + q)) (h : br_B gc gm S r) : br_B gc' gm' S' r' := by
  obtain ⟨N, hN, h0, k⟩ := h
  refine ⟨N, hN, c0.trans h0, fun i hi => ?_⟩
  obtain ⟨F, T0, ts, c0, cs, b1, b2, b3, b4⟩ := k i hi
  exact ⟨F, T0, ts, c0, cs, br_ce (by omega) e b1, br_me (by omega) (fun q hq => hm _ (by omega) (by omega)) (fun q hq => hm _ (by omega) (by omega)) b2, b3, b4⟩
theorem br_cp : rq_cp br_B := fun _ _ _ _ _ _ _ _ _ _ hc hm h => br_go (hc.2.1.1 0 (by omega)) hc.2.1.2 (fun q _ q2 => hm q q2) h
theorem br_bf : rq_bf br_B := fun _ _ _ _ S _ hc hm h => br_go (hc (S + 2) 0 (by omega) (by omega)) (fun o j o1 o2 _ => hc (S + 2 + o) j (by omega) (by omega)) (fun q q1 q2 => hm q q2 (.inr q1)) h
theorem br_bf2 : ∀ (gc gc' gm gm' : aa_G), cp_bl gc gc' 4 4 → (∀ q, q < 399 → (q = 2 ∨ 203 ≤ q) → gm' 541 q = gm 541 q) → br_B gc gm 2 0 → br_B gc' gm' 2 0 := fun _ _ _ _ hc hm h => br_go (hc.1 0 (by omega)) hc.2 (fun q q1 q2 => by rw [show 399 * 0 + q = q by omega]; exact hm q q2 (.inr q1)) h
/-! what is read: of each BELL its numbers, its THINGS, its codes -/
abbrev pl_E : Type := pb_F × (List fl_T × List Int32)
def pl (b : Nat → Int32) (n : Nat) : Nat → Nat → Nat → Nat → List pl_E
  | 0, _, _, _ => []
  | k + 1, p, N, T => if p < n then (match pb_bell b n p N T, cb_q b n (cb_bellf b n p N T) with
    | .inr (q, (F, (T2, cs))), .inr (_, (_, ts)) => (F, (ts, cs)) :: pl b n k q (N + 1) T2
    | _, _ => []) else []
theorem pl_no {b : Nat → Int32} {n k p N T : Nat} (h : ¬ p < n) : pl b n (k + 1) p N T = [] := if_neg h
theorem pl_in {b : Nat → Int32} {n k p N T q q' T2 : Nat} {F F' : pb_F} {cs : List Int32} {ts : List fl_T} (h : p < n) (e : pb_bell b n p N T = .inr (q, (F, (T2, cs)))) (e' : cb_q b n (cb_bellf b n p N T) = .inr (q', (F', ts))) : pl b n (k + 1) p N T = (F, (ts, cs)) :: pl b n k q (N + 1) T2 := by
  rw [pl, if_pos h, e, e']
theorem sp_num_r {b : Nat → Int32} {n p q : Nat} {lo hi z : Int32} (h : sp_num b n false lo hi p = .inr (q, z)) : lo ≤ z ∧ z ≤ hi := by
  unfold sp_num at h
  dsimp only at h
  generalize (if sp_neg b n p false = true then p + 1 else p) = a at h
  generalize (if sp_neg b n p false = true then -(sp_run b n 5 a 0).2 else (sp_run b n 5 a 0).2) = v at h
  by_cases c1 : (sp_run b n 5 a 0).1 = a ∨ sp_dg (sp_hb b n (sp_run b n 5 a 0).1) = true
  · rw [if_pos c1] at h
    cases h
  · rw [if_neg c1] at h
    by_cases c2 : v < lo ∨ hi < v
    · rw [if_pos c2] at h
      cases h
    · rw [if_neg c2] at h
      have e : v = z := congrArg (fun z => z.2) (Sum.inr.inj h)
      rw [← e]
      exact ⟨Int32.not_lt.mp fun k => c2 (.inl k), Int32.not_lt.mp fun k => c2 (.inr k)⟩
theorem pb_F_ok {b : Nat → Int32} {n p N q : Nat} {F : pb_F} (h : pb_head b n p N = .inr (q, F)) : br_F F := by
  unfold pb_head at h
  by_cases z : ¬ (sp_hb b n p = 100 ∨ sp_hb b n p = 110) ∨ N = 8
  · rw [if_pos z] at h
    cases h
  · rw [if_neg z] at h
    cases h1 : sp_num b n false 0 11 (p + 1) with
    | inl f =>
      rw [h1] at h
      cases h
    | inr r =>
      obtain ⟨q1, y⟩ := r
      rw [h1] at h
      have h : pb_then (pb_part b n q1) (fun q2 z => pb_end b n q2 (pb_half (sp_hb b n p)) y z) = .inr (q, F) := h
      cases h2 : pb_part b n q1 with
      | inl f =>
        rw [h2] at h
        cases h
      | inr r =>
        obtain ⟨q2, w⟩ := r
        rw [h2] at h
        have h : pb_end b n q2 (pb_half (sp_hb b n p)) y w = .inr (q, F) := h
        unfold pb_end at h
        by_cases z2 : sp_hb b n q2 = 42
        · rw [if_pos z2] at h
          cases h3 : sp_num b n false 1 24 (q2 + 1) with
          | inl f =>
            rw [h3] at h
            cases h
          | inr r =>
            obtain ⟨q3, s⟩ := r
            rw [h3] at h
            cases h
            have r1 := sp_num_r h1
            have r3 := sp_num_r h3
            have r2 : 0 ≤ w.toInt ∧ w.toInt ≤ 3599 := by
              unfold pb_part at h2
              by_cases z3 : sp_hb b n q1 = 46
              · rw [if_pos z3] at h2
                have r2 := sp_num_r h2
                exact ⟨aa_le32.mp r2.1, aa_le32.mp r2.2⟩
              · rw [if_neg z3] at h2
                cases h2
                exact ⟨by decide, by decide⟩
            refine ⟨?_, ⟨aa_le32.mp r1.1, aa_le32.mp r1.2⟩, r2, ⟨aa_le32.mp r3.1, aa_le32.mp r3.2⟩⟩
            show pb_half (sp_hb b n p) = 0 ∨ pb_half (sp_hb b n p) = 1
            unfold pb_half
            by_cases z4 : sp_hb b n p = 100
            · rw [if_pos z4]
              exact .inl rfl
            · rw [if_neg z4]
              exact .inr rfl
        · rw [if_neg z2] at h
          cases h
/-- a BELL read both ways -/
theorem pl_one {b : Nat → Int32} {n p N T q q' T2 : Nat} {F F' : pb_F} {cs : List Int32} {ts : List fl_T} (hT : T ≤ 40) (e : pb_bell b n p N T = .inr (q, (F, (T2, cs)))) (e' : cb_q b n (cb_bellf b n p N T) = .inr (q', (F', ts))) : F' = F ∧ q' = q ∧ T + ts.length = T2 ∧ cd_rel ts cs ∧ br_F F := by
  obtain ⟨-, -, -, -, -, -, ts1, g1, g2⟩ := (cb_pb (b := b) (n := n) (p := p) (N := N) hT).2 q F T2 cs e
  rw [e'] at g2
  have G := Sum.inr.inj g2
  have G1 : q' = q := congrArg (fun z => z.1) G
  have G2 : F' = F := congrArg (fun z => z.2.1) G
  have G3 : ts = ts1 := congrArg (fun z => z.2.2) G
  rw [← G3] at g1
  refine ⟨G2, G1, g1, ?_⟩
  cases hh : pb_head b n p N with
  | inl f =>
    rw [pb_bell_inl hh] at e
    cases e
  | inr r =>
    obtain ⟨q0, F0⟩ := r
    obtain ⟨l1, l2, l3⟩ := pb_head_lt hh
    have hF := pb_F_ok hh
    rw [pb_bell_inr hh] at e
    rw [cb_bellf_inr hh] at e'
    by_cases hc : sp_hb b n q0 = 63
    · have hqn : q0 < n := pd_in fun e => by
        rw [e] at hc
        exact absurd hc (by decide)
      rw [show pb_cond b n q0 T = pd_cond b n (q0 + 1) T from if_pos hc] at e
      rw [show cb_condf b n q0 T = fl_cond b n (n + 1) (q0 + 1) T 0 false [] from if_pos hc] at e'
      cases hp : pd_cond b n (q0 + 1) T with
      | inl f =>
        rw [hp] at e
        cases e
      | inr r =>
        obtain ⟨q2, T3, cs2⟩ := r
        rw [hp] at e
        by_cases hs : sp_hb b n q2 = 59
        · rw [show pb_tail b n F0 (.inr (q2, (T3, cs2))) = .inr (q2 + 1, (F0, (T3, cs2))) from if_pos hs] at e
          have E := Sum.inr.inj e
          have E2 : F0 = F := congrArg (fun z => z.2.1) E
          have E3 : T3 = T2 := congrArg (fun z => z.2.2.1) E
          have E4 : cs2 = cs := congrArg (fun z => z.2.2.2) E
          rw [← E2, ← E4]
          refine ⟨?_, hF⟩
          cases hf : fl_cond b n (n + 1) (q0 + 1) T 0 false [] with
          | inl f =>
            rw [hf] at e'
            cases e'
          | inr r =>
            obtain ⟨q5, ts5⟩ := r
            rw [hf] at e'
            have ets : ts5 = ts := by
              have e' : (if sp_hb b n q5 = 59 then (Sum.inr (q5 + 1, (F0, ts5)) : cb_R) else .inl q5) = .inr (q', (F', ts)) := e'
              by_cases z : sp_hb b n q5 = 59
              · rw [if_pos z] at e'
                exact congrArg (fun z => z.2.2) (Sum.inr.inj e')
              · rw [if_neg z] at e'
                cases e'
            rw [ets] at hf
            exact cd_cond hqn hT (by omega) hp (by rw [hs]; decide) hf
        · rw [show pb_tail b n F0 (.inr (q2, (T3, cs2))) = .inl q2 from if_neg hs] at e
          cases e
    · rw [show pb_cond b n q0 T = .inr (q0, (T, [])) from if_neg hc] at e
      rw [show cb_condf b n q0 T = .inr (q0, []) from if_neg hc] at e'
      by_cases hs : sp_hb b n q0 = 59
      · rw [show pb_tail b n F0 (.inr (q0, (T, []))) = .inr (q0 + 1, (F0, (T, []))) from if_pos hs] at e
        rw [show cb_q b n (cb_tailf F0 (.inr (q0, []))) = .inr (q0 + 1, (F0, [])) from if_pos hs] at e'
        cases e
        cases e'
        exact ⟨.inl ⟨rfl, rfl⟩, hF⟩
      · rw [show pb_tail b n F0 (.inr (q0, (T, []))) = .inl q0 from if_neg hs] at e
        cases e
