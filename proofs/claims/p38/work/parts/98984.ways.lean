/-! BELLS: a COND as the class reads it; the two ways are one -/
/-- the sign ahead, the kind, the value -/
abbrev fl_T : Type := Int32 × (Int32 × Int32)
abbrev fl_R : Type := Nat ⊕ (Nat × List fl_T)
def fl_thing (b : Nat → Int32) (n p T : Nat) : Nat ⊕ (Nat × (Int32 × Int32)) :=
  if (sp_dg (sp_hb b n p) = false ∧ sp_nm (sp_hb b n p) = -1) ∨ T = 40 then .inl p else
  if sp_dg (sp_hb b n p) = true then (match sp_num b n false 0 99999 p with
    | .inl f => .inl f
    | .inr (q, z) => .inr (q, (0, z)))
  else .inr (p + 1, (sp_hb b n p, 0))
def fl_j (c : Int32) : Bool := pd_o3 c || pd_o4 c
def fl_h (c : Int32) : Bool := pd_o1 c || pd_o2 c
/-- behind a THING -/
def fl_aft (go : Nat → Nat → Int32 → Bool → List fl_T → fl_R) (b : Nat → Int32) (n q T : Nat) (td : Bool) (l : List fl_T) : fl_R :=
  if pd_ot (sp_hb b n q) = false ∧ fl_j (sp_hb b n q) = false ∧ fl_h (sp_hb b n q) = false then (if td = true then .inr (q, l) else .inl q)
  else if (pd_ot (sp_hb b n q) = true ∧ td = true) ∨ (fl_j (sp_hb b n q) = true ∧ td = false) then .inl q
  else go (q + 1) T (sp_hb b n q) (pd_ot (sp_hb b n q) || (td && !fl_j (sp_hb b n q))) l
def fl_cond (b : Nat → Int32) (n : Nat) : Nat → Nat → Nat → Int32 → Bool → List fl_T → fl_R
  | 0, p, _, _, _, _ => .inl p
  | k + 1, p, T, s, td, l => match fl_thing b n p T with
    | .inl f => .inl f
    | .inr (q, kv) => fl_aft (fl_cond b n k) b n q (T + 1) td (l ++ [(s, kv)])
theorem sp_run_rng (b : Nat → Int32) (n : Nat) : ∀ (k p : Nat) (z : Int32) (M : Nat), 0 ≤ z.toInt → z.toInt < M → M * 10 ^ k ≤ 100000 → 0 ≤ (sp_run b n k p z).2.toInt ∧ (sp_run b n k p z).2.toInt < 100000 := by
  intro k
  induction k with
  | zero =>
    intro p z M h1 h2 h3
    have h3 : M * 1 ≤ 100000 := h3
    exact ⟨h1, show z.toInt < 100000 by omega⟩
  | succ k ih =>
    intro p z M h1 h2 h3
    have hM : M * 10 * 10 ^ k ≤ 100000 := by
      rw [Nat.mul_assoc, Nat.mul_comm 10, ← Nat.pow_succ]
      exact h3
    have hp : 0 < 10 ^ k := Nat.pow_pos (by decide)
    have hM2 : M * 10 ≤ 100000 := Nat.le_trans (Nat.le_mul_of_pos_right _ hp) hM
    rw [sp_run]
    split
    · rename_i hd
      unfold sp_dg at hd
      rw [Bool.and_eq_true, decide_eq_true_eq, decide_eq_true_eq] at hd
      have d1 : (48 : Int32).toInt ≤ (sp_hb b n p).toInt := aa_le32.mp hd.1
      have d2 : (sp_hb b n p).toInt ≤ (57 : Int32).toInt := aa_le32.mp hd.2
      have e48 : (48 : Int32).toInt = 48 := rfl
      rw [e48] at d1
      rw [show (57 : Int32).toInt = 57 from rfl] at d2
      have e1 : (z * 10).toInt = z.toInt * 10 := by
        rw [Int32.toInt_mul, show (10 : Int32).toInt = 10 from rfl, aa_bm (by omega) (by omega)]
      have e2 : (z * 10 + sp_hb b n p).toInt = z.toInt * 10 + (sp_hb b n p).toInt := by
        rw [aa_add32 (by rw [e1]; omega) (by rw [e1]; omega), e1]
      have e3 : (z * 10 + sp_hb b n p - 48).toInt = z.toInt * 10 + (sp_hb b n p).toInt - 48 := by
        rw [aa_sub32 (by rw [e2, e48]; omega) (by rw [e2, e48]; omega), e2, e48]
      exact ih (p + 1) _ (M * 10) (by rw [e3]; omega) (by rw [e3]; omega) hM
    · exact ⟨h1, show z.toInt < 100000 by omega⟩
theorem sp_num_any (b : Nat → Int32) (n p : Nat) : sp_num b n false 0 99999 p = if (sp_run b n 5 p 0).1 = p ∨ sp_dg (sp_hb b n (sp_run b n 5 p 0).1) = true then .inl (sp_run b n 5 p 0).1 else .inr ((sp_run b n 5 p 0).1, (sp_run b n 5 p 0).2) := by
  have hr := sp_run_rng b n 5 p 0 1 (by decide) (by decide) (by decide)
  have e : ¬ ((sp_run b n 5 p 0).2 < 0 ∨ 99999 < (sp_run b n 5 p 0).2) := fun z => by
    rcases z with z | z
    · have z : (sp_run b n 5 p 0).2.toInt < (0 : Int32).toInt := aa_lt32.mp z
      rw [show (0 : Int32).toInt = 0 from rfl] at z
      omega
    · have z : (99999 : Int32).toInt < (sp_run b n 5 p 0).2.toInt := aa_lt32.mp z
      rw [show (99999 : Int32).toInt = 99999 from rfl] at z
      omega
  show (if (sp_run b n 5 p 0).1 = p ∨ sp_dg (sp_hb b n (sp_run b n 5 p 0).1) = true then (.inl (sp_run b n 5 p 0).1 : Nat ⊕ (Nat × Int32)) else if (sp_run b n 5 p 0).2 < 0 ∨ 99999 < (sp_run b n 5 p 0).2 then .inl p else .inr ((sp_run b n 5 p 0).1, (sp_run b n 5 p 0).2)) = _
  rw [if_neg e]
/-- a THING, both ways -/
theorem fl_pd {b : Nat → Int32} {n p T : Nat} : (∀ f, pd_thing b n p T = .inl f → fl_thing b n p T = .inl f) ∧ (∀ q T2 cs, pd_thing b n p T = .inr (q, (T2, cs)) → T2 = T + 1 ∧ ∃ kv, fl_thing b n p T = .inr (q, kv)) := by
  by_cases h0 : (sp_dg (sp_hb b n p) = false ∧ sp_nm (sp_hb b n p) = -1) ∨ T = 40
  · have e1 : pd_thing b n p T = .inl p := if_pos h0
    have e2 : fl_thing b n p T = .inl p := if_pos h0
    rw [e1, e2]
    exact ⟨fun f h => by cases h; rfl, fun q T2 cs h => by cases h⟩
  · by_cases hd : sp_dg (sp_hb b n p) = true
    · by_cases hr : (sp_run b n 5 p 0).1 = p ∨ sp_dg (sp_hb b n (sp_run b n 5 p 0).1) = true
      · have e1 : pd_thing b n p T = .inl (sp_run b n 5 p 0).1 := (if_neg h0).trans ((if_pos hd).trans (if_pos hr))
        have e2 : fl_thing b n p T = .inl (sp_run b n 5 p 0).1 := (if_neg h0).trans ((if_pos hd).trans (by simp only [sp_num_any, if_pos hr]))
        rw [e1, e2]
        exact ⟨fun f h => by cases h; rfl, fun q T2 cs h => by cases h⟩
      · have e1 : pd_thing b n p T = .inr ((sp_run b n 5 p 0).1, (T + 1, [(sp_run b n 5 p 0).2])) := (if_neg h0).trans ((if_pos hd).trans (if_neg hr))
        have e2 : fl_thing b n p T = .inr ((sp_run b n 5 p 0).1, (0, (sp_run b n 5 p 0).2)) := (if_neg h0).trans ((if_pos hd).trans (by simp only [sp_num_any, if_neg hr]))
        rw [e1, e2]
        exact ⟨fun f h => (by cases h), fun q T2 cs h => by cases h; exact ⟨rfl, _, rfl⟩⟩
    · have e1 : pd_thing b n p T = .inr (p + 1, (T + 1, [100000 + sp_nm (sp_hb b n p)])) := (if_neg h0).trans (if_neg hd)
      have e2 : fl_thing b n p T = .inr (p + 1, (sp_hb b n p, 0)) := (if_neg h0).trans (if_neg hd)
      rw [e1, e2]
      exact ⟨fun f h => (by cases h), fun q T2 cs h => by cases h; exact ⟨rfl, _, rfl⟩⟩
/-- the class's way goes through a piece -/
def lv (b : Nat → Int32) (n : Nat) (D : Bool → Bool → Prop) (f : Nat → Nat → pd_R) (stop : Int32 → Bool) : Prop := ∀ p T, p ≤ n → T ≤ 40 → ∀ td te, D td te → (∀ x, f p T = .inl x → ∀ k s l, n < k + p → fl_cond b n k p T s td l = .inl x) ∧ (∀ q T2 cs, f p T = .inr (q, (T2, cs)) → stop (sp_hb b n q) = true ∧ ∀ k s l, n < k + p → ∃ k2 l2, n ≤ k2 + q ∧ l2.length + T = l.length + T2 ∧ fl_cond b n k p T s td l = fl_aft (fl_cond b n k2) b n q T2 te l2)
theorem lv_thing (b : Nat → Int32) (n : Nat) : lv b n (fun x y => x = y) (pd_thing b n) (fun _ => true) := by
  intro p T hp hT td te hD
  subst hD
  refine ⟨fun x h k s l hk => ?_, fun q T2 cs h => ⟨rfl, fun k s l hk => ?_⟩⟩
  · cases k with
    | zero => omega
    | succ k => rw [fl_cond, fl_pd.1 x h]
  · cases k with
    | zero => omega
    | succ k =>
      have hg := (pd_thing_gd b n p T q T2 cs hp hT h).1
      obtain ⟨rfl, kv, e⟩ := fl_pd.2 q T2 cs h
      have e1 : (l ++ [(s, kv)]).length = l.length + 1 := List.length_append
      refine ⟨k, l ++ [(s, kv)], by omega, by omega, ?_⟩
      rw [fl_cond, e]
/-- a sign between pieces -/
def lv_ops (b : Nat → Int32) (n : Nat) (D : Bool → Bool → Prop) (ops : Int32 → Bool) : Prop := ∀ q td te, ops (sp_hb b n q) = true → D td te → ∃ tf, D tf te ∧ ∀ (go : Nat → Nat → Int32 → Bool → List fl_T → fl_R) T l, fl_aft go b n q T te l = go (q + 1) T (sp_hb b n q) tf l
theorem lv_loop {b : Nat → Int32} {n : Nat} {D : Bool → Bool → Prop} {inner : Nat → Nat → pd_R} {stop ops : Int32 → Bool} (hi : lv b n D inner stop) (ho : lv_ops b n D ops) (hm : ops (-1) = false) (hg : pd_gd n inner) {td te : Bool} (hD : D td te) : ∀ (kk p T : Nat) (cs : List Int32), n < kk + p → p ≤ n → T ≤ 40 → stop (sp_hb b n p) = true → (∀ x, pd_loop ops inner b n kk p T cs = .inl x → ∀ k l, n ≤ k + p → fl_aft (fl_cond b n k) b n p T te l = .inl x) ∧ (∀ q T2 ds, pd_loop ops inner b n kk p T cs = .inr (q, (T2, ds)) → (stop (sp_hb b n q) && !ops (sp_hb b n q)) = true ∧ ∀ k l, n ≤ k + p → ∃ k2 l2, n ≤ k2 + q ∧ l2.length + T = l.length + T2 ∧ fl_aft (fl_cond b n k) b n p T te l = fl_aft (fl_cond b n k2) b n q T2 te l2) := by
  intro kk
  induction kk with
  | zero => intro p T cs h1 h2; omega
  | succ kk ih =>
    intro p T cs h1 h2 h3 h4
    cases hop : ops (sp_hb b n p) with
    | false =>
      rw [pd_loop_no (kk + 1) hop]
      refine ⟨fun x h => (by cases h), fun q T2 ds h => ?_⟩
      cases h
      refine ⟨by rw [h4, hop]; rfl, fun k l hk => ⟨k, l, hk, rfl, rfl⟩⟩
    | true =>
      have hpn : p < n := pd_in fun e => by
        rw [e, hm] at hop
        cases hop
      obtain ⟨tf, hf, hgo⟩ := ho p td te hop hD
      obtain ⟨i1, i2⟩ := hi (p + 1) T hpn h3 tf te hf
      cases hin : inner (p + 1) T with
      | inl f =>
        rw [pd_loop_inl hop hin]
        refine ⟨fun x h k l hk => ?_, fun q T2 ds h => by cases h⟩
        cases h
        rw [hgo]
        exact i1 f hin k _ l (by omega)
      | inr r =>
        obtain ⟨q1, T1, es⟩ := r
        rw [pd_loop_inr hop hin]
        obtain ⟨a1, a2, a3, a4, a5⟩ := hg (p + 1) T q1 T1 es hpn h3 hin
        obtain ⟨j1, j2⟩ := i2 q1 T1 es hin
        obtain ⟨m1, m2⟩ := ih q1 T1 (cs ++ es ++ [200000 + sp_hb b n p]) (by omega) a2 a4 j1
        refine ⟨fun x h k l hk => ?_, fun q T2 ds h => ⟨(m2 q T2 ds h).1, fun k l hk => ?_⟩⟩
        · obtain ⟨k2, l2, e1, -, e2⟩ := j2 k (sp_hb b n p) l (by omega)
          rw [hgo, e2]
          exact m1 x h k2 l2 e1
        · obtain ⟨k2, l2, e1, f1, e2⟩ := j2 k (sp_hb b n p) l (by omega)
          obtain ⟨k3, l3, e3, f3, e4⟩ := (m2 q T2 ds h).2 k2 l2 e1
          exact ⟨k3, l3, e3, by omega, by rw [hgo, e2, e4]⟩
theorem lv_lvl {b : Nat → Int32} {n : Nat} {D : Bool → Bool → Prop} {inner : Nat → Nat → pd_R} {stop ops : Int32 → Bool} (hi : lv b n D inner stop) (ho : lv_ops b n D ops) (hm : ops (-1) = false) (hg : pd_gd n inner) : lv b n D (pd_lvl ops inner b n) (fun c => stop c && !ops c) := by
  intro p T hp hT td te hD
  obtain ⟨i1, i2⟩ := hi p T hp hT td te hD
  cases hin : inner p T with
  | inl f =>
    rw [pd_lvl_inl hin]
    refine ⟨fun x h k s l hk => ?_, fun q T2 cs h => by cases h⟩
    cases h
    exact i1 f hin k s l hk
  | inr r =>
    obtain ⟨q1, T1, es⟩ := r
    rw [pd_lvl_inr hin]
    obtain ⟨a1, a2, a3, a4, a5⟩ := hg p T q1 T1 es hp hT hin
    obtain ⟨j1, j2⟩ := i2 q1 T1 es hin
    obtain ⟨m1, m2⟩ := lv_loop hi ho hm hg hD (n + 1) q1 T1 es (by omega) a2 a4 j1
    refine ⟨fun x h k s l hk => ?_, fun q T2 ds h => ⟨(m2 q T2 ds h).1, fun k s l hk => ?_⟩⟩
    · obtain ⟨k2, l2, e1, -, e2⟩ := j2 k s l hk
      rw [e2]
      exact m1 x h k2 l2 e1
    · obtain ⟨k2, l2, e1, f1, e2⟩ := j2 k s l hk
      obtain ⟨k3, l3, e3, f3, e4⟩ := (m2 q T2 ds h).2 k2 l2 e1
      exact ⟨k3, l3, e3, by omega, by rw [e2, e4]⟩
/-- signs of products and sums -/
theorem lv_ops12 {b : Nat → Int32} {n : Nat} {ops : Int32 → Bool} (h : ∀ c, ops c = true → pd_ot c = false ∧ fl_j c = false ∧ fl_h c = true) : lv_ops b n (fun x y => x = y) ops := by
  intro q td te hop hD
  obtain ⟨h1, h2, h3⟩ := h _ hop
  refine ⟨te, rfl, fun go T l => ?_⟩
  unfold fl_aft
  rw [h1, h2, h3, if_neg (fun e => by cases e.2.2), if_neg (fun e => e.elim (fun e => by cases e.1) (fun e => by cases e.1))]
  cases te <;> rfl
/-- signs of tests -/
theorem lv_ops34 {b : Nat → Int32} {n : Nat} {ops : Int32 → Bool} (h : ∀ c, ops c = true → pd_ot c = false ∧ fl_j c = true) : lv_ops b n (fun x y => x = false ∧ y = true) ops := by
  intro q td te hop hD
  obtain ⟨h1, h2⟩ := h _ hop
  obtain ⟨-, rfl⟩ := hD
  refine ⟨false, ⟨rfl, rfl⟩, fun go T l => ?_⟩
  unfold fl_aft
  rw [h1, h2, if_neg (fun e => by cases e.2.1), if_neg (fun e => e.elim (fun e => by cases e.1) (fun e => by cases e.2))]
  rfl
theorem pd_o1_c {c : Int32} (h : pd_o1 c = true) : c = 42 ∨ c = 47 := by
  unfold pd_o1 at h
  rw [Bool.or_eq_true, decide_eq_true_eq, decide_eq_true_eq] at h
  exact h
theorem pd_o2_c {c : Int32} (h : pd_o2 c = true) : c = 43 ∨ c = 45 := by
  unfold pd_o2 at h
  rw [Bool.or_eq_true, decide_eq_true_eq, decide_eq_true_eq] at h
  exact h
theorem pd_ot_c {c : Int32} (h : pd_ot c = true) : c = 60 ∨ c = 62 ∨ c = 61 := by
  unfold pd_ot at h
  rw [Bool.or_eq_true, Bool.or_eq_true, decide_eq_true_eq, decide_eq_true_eq, decide_eq_true_eq] at h
  exact h
theorem fl_at1 : ∀ c, pd_o1 c = true → pd_ot c = false ∧ fl_j c = false ∧ fl_h c = true := fun c h => by
  rcases pd_o1_c h with rfl | rfl <;> decide
theorem fl_at2 : ∀ c, pd_o2 c = true → pd_ot c = false ∧ fl_j c = false ∧ fl_h c = true := fun c h => by
  rcases pd_o2_c h with rfl | rfl <;> decide
theorem fl_at3 : ∀ c, pd_o3 c = true → pd_ot c = false ∧ fl_j c = true := fun c h => by
  have h : c = 38 := of_decide_eq_true h
  subst h
  decide
theorem fl_at4 : ∀ c, pd_o4 c = true → pd_ot c = false ∧ fl_j c = true := fun c h => by
  have h : c = 124 := of_decide_eq_true h
  subst h
  decide
theorem fl_att : ∀ c, pd_ot c = true → fl_j c = false := fun c h => by
  rcases pd_ot_c h with rfl | rfl | rfl <;> decide
theorem lv_prod (b : Nat → Int32) (n : Nat) : lv b n (fun x y => x = y) (pd_prod b n) (fun c => (fun _ => true) c && !pd_o1 c) := lv_lvl (lv_thing b n) (lv_ops12 fl_at1) (by decide) (pd_thing_gd b n)
theorem lv_sum (b : Nat → Int32) (n : Nat) : lv b n (fun x y => x = y) (pd_sum b n) (fun c => (true && !pd_o1 c) && !pd_o2 c) := lv_lvl (lv_prod b n) (lv_ops12 fl_at2) (by decide) (pd_prod_gd b n)
theorem lv_test (b : Nat → Int32) (n : Nat) : lv b n (fun x y => x = false ∧ y = true) (pd_test b n) (fun c => (true && !pd_o1 c) && !pd_o2 c) := by
  intro p T hp hT td te hD
  obtain ⟨rfl, rfl⟩ := hD
  obtain ⟨i1, i2⟩ := lv_sum b n p T hp hT false false rfl
  cases hin : pd_sum b n p T with
  | inl f =>
    rw [pd_test_inl hin]
    refine ⟨fun x h k s l hk => ?_, fun q T2 cs h => by cases h⟩
    cases h
    exact i1 f hin k s l hk
  | inr r =>
    obtain ⟨q1, T1, es⟩ := r
    rw [pd_test_inr hin]
    obtain ⟨a1, a2, a3, a4, a5⟩ := pd_sum_gd b n p T q1 T1 es hp hT hin
    obtain ⟨j1, j2⟩ := i2 q1 T1 es hin
    cases hop : pd_ot (sp_hb b n q1) with
    | false =>
      rw [pd_test2_no hop]
      refine ⟨fun x h k s l hk => ?_, fun q T2 cs h => by cases h⟩
      cases h
      obtain ⟨k2, l2, e1, -, e2⟩ := j2 k s l hk
      rw [e2]
      unfold fl_aft
      rw [hop]
      have hh : fl_h (sp_hb b n q1) = false := by
        unfold fl_h
        have j1 : ((true && !pd_o1 (sp_hb b n q1)) && !pd_o2 (sp_hb b n q1)) = true := j1
        cases h1 : pd_o1 (sp_hb b n q1) with
        | true =>
          rw [h1] at j1
          cases j1
        | false =>
          cases h2 : pd_o2 (sp_hb b n q1) with
          | true =>
            rw [h1, h2] at j1
            cases j1
          | false => rfl
      cases hj : fl_j (sp_hb b n q1) with
      | false => rw [if_pos ⟨rfl, rfl, hh⟩, if_neg (by decide)]
      | true => rw [if_neg (fun e => by cases e.2.1), if_pos (.inr ⟨rfl, rfl⟩)]
    | true =>
      have hpn : q1 < n := pd_in fun e => by
        rw [e] at hop
        exact absurd hop (by decide)
      obtain ⟨u1, u2⟩ := lv_sum b n (q1 + 1) T1 hpn a4 true true rfl
      have hgo : ∀ k l, fl_aft (fl_cond b n k) b n q1 T1 false l = fl_cond b n k (q1 + 1) T1 (sp_hb b n q1) true l := fun k l => by
        unfold fl_aft
        rw [hop, fl_att _ hop, if_neg (fun e => by cases e.1), if_neg (fun e => e.elim (fun e => by cases e.2) (fun e => by cases e.1))]
        rfl
      cases hin2 : pd_sum b n (q1 + 1) T1 with
      | inl f =>
        rw [pd_test2_inl hop hin2]
        refine ⟨fun x h k s l hk => ?_, fun q T2 cs h => by cases h⟩
        cases h
        obtain ⟨k2, l2, e1, -, e2⟩ := j2 k s l hk
        rw [e2, hgo]
        exact u1 f hin2 k2 _ l2 (by omega)
      | inr r =>
        obtain ⟨q3, T3, fs⟩ := r
        rw [pd_test2_inr hop hin2]
        refine ⟨fun x h => (by cases h), fun q T2 cs h => ?_⟩
        cases h
        obtain ⟨v1, v2⟩ := u2 q3 T3 fs hin2
        refine ⟨v1, fun k s l hk => ?_⟩
        obtain ⟨k2, l2, e1, f1, e2⟩ := j2 k s l hk
        obtain ⟨k3, l3, e3, f3, e4⟩ := v2 k2 (sp_hb b n q1) l2 (by omega)
        exact ⟨k3, l3, e3, by omega, by rw [e2, hgo, e4]⟩
theorem lv_both (b : Nat → Int32) (n : Nat) : lv b n (fun x y => x = false ∧ y = true) (pd_both b n) (fun c => ((true && !pd_o1 c) && !pd_o2 c) && !pd_o3 c) := lv_lvl (lv_test b n) (lv_ops34 fl_at3) (by decide) (pd_test_gd b n)
theorem lv_cond (b : Nat → Int32) (n : Nat) : lv b n (fun x y => x = false ∧ y = true) (pd_cond b n) (fun c => (((true && !pd_o1 c) && !pd_o2 c) && !pd_o3 c) && !pd_o4 c) := lv_lvl (lv_both b n) (lv_ops34 fl_at4) (by decide) (pd_both_gd b n)
/-- COND, both ways -/
theorem fl_cond_pd {b : Nat → Int32} {n p T k : Nat} {s : Int32} {l : List fl_T} (hp : p ≤ n) (hT : T ≤ 40) (hk : n < k + p) : (∀ x, pd_cond b n p T = .inl x → fl_cond b n k p T s false l = .inl x) ∧ (∀ q T2 cs, pd_cond b n p T = .inr (q, (T2, cs)) → (pd_ot (sp_hb b n q) = true → fl_cond b n k p T s false l = .inl q) ∧ (pd_ot (sp_hb b n q) = false → ∃ l2, l2.length + T = l.length + T2 ∧ fl_cond b n k p T s false l = .inr (q, l2))) := by
  obtain ⟨i1, i2⟩ := lv_cond b n p T hp hT false true ⟨rfl, rfl⟩
  refine ⟨fun x h => i1 x h k s l hk, fun q T2 cs h => ?_⟩
  obtain ⟨j1, j2⟩ := i2 q T2 cs h
  obtain ⟨k2, l2, e1, f1, e2⟩ := j2 k s l hk
  rw [e2]
  refine ⟨fun ho => ?_, fun ho => ⟨l2, f1, ?_⟩⟩
  · unfold fl_aft
    rw [ho, if_neg (fun e => by cases e.1), if_pos (.inl ⟨rfl, rfl⟩)]
  · have j1 : ((((true && !pd_o1 (sp_hb b n q)) && !pd_o2 (sp_hb b n q)) && !pd_o3 (sp_hb b n q)) && !pd_o4 (sp_hb b n q)) = true := j1
    have hjh : fl_j (sp_hb b n q) = false ∧ fl_h (sp_hb b n q) = false := by
      unfold fl_j fl_h
      revert j1
      cases pd_o1 (sp_hb b n q) <;> cases pd_o2 (sp_hb b n q) <;> cases pd_o3 (sp_hb b n q) <;> cases pd_o4 (sp_hb b n q) <;> decide
    unfold fl_aft
    rw [ho, hjh.1, hjh.2, if_pos ⟨rfl, rfl, rfl⟩, if_pos rfl]
