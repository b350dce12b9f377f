/-! BELLS: a COND as the model reads it -/
def sp_nm (c : Int32) : Int32 := if c = 119 then 0 else if c = 121 then 1 else if c = 108 then 2 else if c = 116 then 3 else if c = 122 then 4 else -1
/-- where the fault is, or where it ends, how many THINGS there are then, what is to be done -/
abbrev pd_R : Type := Nat ⊕ (Nat × (Nat × List Int32))
def pd_thing (b : Nat → Int32) (n p T : Nat) : pd_R :=
  if (sp_dg (sp_hb b n p) = false ∧ sp_nm (sp_hb b n p) = -1) ∨ T = 40 then .inl p else
  if sp_dg (sp_hb b n p) = true then (if (sp_run b n 5 p 0).1 = p ∨ sp_dg (sp_hb b n (sp_run b n 5 p 0).1) = true then .inl (sp_run b n 5 p 0).1 else .inr ((sp_run b n 5 p 0).1, (T + 1, [(sp_run b n 5 p 0).2])))
  else .inr (p + 1, (T + 1, [100000 + sp_nm (sp_hb b n p)]))
def pd_loop (ops : Int32 → Bool) (inner : Nat → Nat → pd_R) (b : Nat → Int32) (n : Nat) : Nat → Nat → Nat → List Int32 → pd_R
  | 0, p, T, cs => .inr (p, (T, cs))
  | k + 1, p, T, cs => if ops (sp_hb b n p) = true then (match inner (p + 1) T with
    | .inl f => .inl f
    | .inr (q, (T2, ds)) => pd_loop ops inner b n k q T2 (cs ++ ds ++ [200000 + sp_hb b n p])) else .inr (p, (T, cs))
def pd_lvl (ops : Int32 → Bool) (inner : Nat → Nat → pd_R) (b : Nat → Int32) (n p T : Nat) : pd_R := match inner p T with
  | .inl f => .inl f
  | .inr (q, (T2, cs)) => pd_loop ops inner b n (n + 1) q T2 cs
def pd_o1 (c : Int32) : Bool := decide (c = 42) || decide (c = 47)
def pd_o2 (c : Int32) : Bool := decide (c = 43) || decide (c = 45)
def pd_o3 (c : Int32) : Bool := decide (c = 38)
def pd_o4 (c : Int32) : Bool := decide (c = 124)
def pd_ot (c : Int32) : Bool := decide (c = 60) || (decide (c = 62) || decide (c = 61))
def pd_prod (b : Nat → Int32) (n p T : Nat) : pd_R := pd_lvl pd_o1 (pd_thing b n) b n p T
def pd_sum (b : Nat → Int32) (n p T : Nat) : pd_R := pd_lvl pd_o2 (pd_prod b n) b n p T
def pd_test2 (b : Nat → Int32) (n q T : Nat) (cs : List Int32) : pd_R := if pd_ot (sp_hb b n q) = true then (match pd_sum b n (q + 1) T with
    | .inl f => .inl f
    | .inr (q2, (T2, ds)) => .inr (q2, (T2, cs ++ ds ++ [200000 + sp_hb b n q]))) else .inl q
def pd_test (b : Nat → Int32) (n p T : Nat) : pd_R := match pd_sum b n p T with
  | .inl f => .inl f
  | .inr (q, (T2, cs)) => pd_test2 b n q T2 cs
def pd_both (b : Nat → Int32) (n p T : Nat) : pd_R := pd_lvl pd_o3 (pd_test b n) b n p T
def pd_cond (b : Nat → Int32) (n p T : Nat) : pd_R := pd_lvl pd_o4 (pd_both b n) b n p T
theorem pd_lvl_inl {ops : Int32 → Bool} {inner : Nat → Nat → pd_R} {b : Nat → Int32} {n p T f : Nat} (h : inner p T = .inl f) : pd_lvl ops inner b n p T = .inl f := by
  unfold pd_lvl
  rw [h]
theorem pd_lvl_inr {ops : Int32 → Bool} {inner : Nat → Nat → pd_R} {b : Nat → Int32} {n p T q T2 : Nat} {cs : List Int32} (h : inner p T = .inr (q, (T2, cs))) : pd_lvl ops inner b n p T = pd_loop ops inner b n (n + 1) q T2 cs := by
  unfold pd_lvl
  rw [h]
theorem pd_loop_no {ops : Int32 → Bool} {inner : Nat → Nat → pd_R} {b : Nat → Int32} {n p T : Nat} {cs : List Int32} (k : Nat) (h : ops (sp_hb b n p) = false) : pd_loop ops inner b n k p T cs = .inr (p, (T, cs)) := by
  cases k with
  | zero => rfl
  | succ k => exact if_neg (by rw [h]; decide)
theorem pd_loop_inl {ops : Int32 → Bool} {inner : Nat → Nat → pd_R} {b : Nat → Int32} {n p T k f : Nat} {cs : List Int32} (h : ops (sp_hb b n p) = true) (e : inner (p + 1) T = .inl f) : pd_loop ops inner b n (k + 1) p T cs = .inl f := by
  rw [pd_loop, if_pos h, e]
theorem pd_loop_inr {ops : Int32 → Bool} {inner : Nat → Nat → pd_R} {b : Nat → Int32} {n p T k q T2 : Nat} {cs ds : List Int32} (h : ops (sp_hb b n p) = true) (e : inner (p + 1) T = .inr (q, (T2, ds))) : pd_loop ops inner b n (k + 1) p T cs = pd_loop ops inner b n k q T2 (cs ++ ds ++ [200000 + sp_hb b n p]) := by
  rw [pd_loop, if_pos h, e]
/-- it gets on, and there is so much to do -/
def pd_gd (n : Nat) (f : Nat → Nat → pd_R) : Prop := ∀ p T q T2 cs, p ≤ n → T ≤ 40 → f p T = .inr (q, (T2, cs)) → p < q ∧ q ≤ n ∧ T < T2 ∧ T2 ≤ 40 ∧ cs.length + 1 = 2 * (T2 - T)
theorem pd_in {b : Nat → Int32} {n p : Nat} (h : sp_hb b n p ≠ -1) : p < n := Decidable.byContradiction fun z => h (if_neg z)
theorem pd_thing_gd (b : Nat → Int32) (n : Nat) : pd_gd n (pd_thing b n) := by
  intro p T q T2 cs hp hT h
  unfold pd_thing at h
  split at h
  · cases h
  · rename_i h0
    split at h
    · rename_i hd
      split at h
      · cases h
      · rename_i hr
        have h := Sum.inr.inj h
        have h1 : (sp_run b n 5 p 0).1 = q := congrArg Prod.fst h
        have h2 : T + 1 = T2 := congrArg (fun x => x.2.1) h
        have h3 : [(sp_run b n 5 p 0).2] = cs := congrArg (fun x => x.2.2) h
        have r1 := sp_run_le b n 5 p 0
        have r2 := sp_run_n b n 5 p 0 hp
        have r3 : ¬ (sp_run b n 5 p 0).1 = p := fun e => hr (.inl e)
        have r4 : ¬ T = 40 := fun e => h0 (.inr e)
        subst h3
        exact ⟨by omega, by omega, by omega, by omega, by rw [← h2]; show 1 + 1 = 2 * (T + 1 - T); omega⟩
    · rename_i hd
      have h := Sum.inr.inj h
      have h1 : p + 1 = q := congrArg Prod.fst h
      have h2 : T + 1 = T2 := congrArg (fun x => x.2.1) h
      have h3 : [100000 + sp_nm (sp_hb b n p)] = cs := congrArg (fun x => x.2.2) h
      have r4 : ¬ T = 40 := fun e => h0 (.inr e)
      have r5 : p < n := pd_in fun e => h0 (.inl ⟨(Bool.not_eq_true _).mp hd, by rw [e]; decide⟩)
      subst h3
      exact ⟨by omega, by omega, by omega, by omega, by rw [← h2]; show 1 + 1 = 2 * (T + 1 - T); omega⟩
theorem pd_loop_gd {ops : Int32 → Bool} {inner : Nat → Nat → pd_R} {b : Nat → Int32} {n : Nat} (ho : ops (-1) = false) (hi : pd_gd n inner) {T0 : Nat} : ∀ (k p T : Nat) (cs : List Int32) (q T2 : Nat) (ds : List Int32), p ≤ n → T ≤ 40 → T0 < T → cs.length + 1 = 2 * (T - T0) → pd_loop ops inner b n k p T cs = .inr (q, (T2, ds)) → p ≤ q ∧ q ≤ n ∧ T ≤ T2 ∧ T2 ≤ 40 ∧ ds.length + 1 = 2 * (T2 - T0) := by
  intro k
  induction k with
  | zero =>
    intro p T cs q T2 ds hp hT h0 hl h
    have h : (Sum.inr (p, (T, cs)) : pd_R) = .inr (q, (T2, ds)) := h
    cases h
    exact ⟨Nat.le_refl _, hp, Nat.le_refl _, hT, hl⟩
  | succ k ih =>
    intro p T cs q T2 ds hp hT h0 hl h
    cases hop : ops (sp_hb b n p) with
    | false =>
      rw [pd_loop_no (k + 1) hop] at h
      cases h
      exact ⟨Nat.le_refl _, hp, Nat.le_refl _, hT, hl⟩
    | true =>
      have hpn : p < n := pd_in fun e => by
        rw [e, ho] at hop
        cases hop
      cases hin : inner (p + 1) T with
      | inl f =>
        rw [pd_loop_inl hop hin] at h
        cases h
      | inr r =>
        obtain ⟨q1, T1, es⟩ := r
        rw [pd_loop_inr hop hin] at h
        obtain ⟨a1, a2, a3, a4, a5⟩ := hi (p + 1) T q1 T1 es hpn hT hin
        obtain ⟨c1, c2, c3, c4, c5⟩ := ih q1 T1 _ q T2 ds a2 a4 (by omega) (by rw [List.length_append, List.length_append, List.length_singleton]; omega) h
        exact ⟨by omega, c2, by omega, c4, c5⟩
theorem pd_lvl_gd {ops : Int32 → Bool} {inner : Nat → Nat → pd_R} {b : Nat → Int32} {n : Nat} (ho : ops (-1) = false) (hi : pd_gd n inner) : pd_gd n (pd_lvl ops inner b n) := by
  intro p T q T2 cs hp hT h
  cases hin : inner p T with
  | inl f =>
    rw [pd_lvl_inl hin] at h
    cases h
  | inr r =>
    obtain ⟨q1, T1, es⟩ := r
    rw [pd_lvl_inr hin] at h
    obtain ⟨a1, a2, a3, a4, a5⟩ := hi p T q1 T1 es hp hT hin
    obtain ⟨c1, c2, c3, c4, c5⟩ := pd_loop_gd ho hi (n + 1) q1 T1 es q T2 cs a2 a4 a3 a5 h
    exact ⟨by omega, c2, by omega, c4, c5⟩
theorem pd_prod_gd (b : Nat → Int32) (n : Nat) : pd_gd n (pd_prod b n) := pd_lvl_gd (by decide) (pd_thing_gd b n)
theorem pd_sum_gd (b : Nat → Int32) (n : Nat) : pd_gd n (pd_sum b n) := pd_lvl_gd (by decide) (pd_prod_gd b n)
theorem pd_test_inl {b : Nat → Int32} {n p T f : Nat} (h : pd_sum b n p T = .inl f) : pd_test b n p T = .inl f := by
  unfold pd_test
  rw [h]
theorem pd_test_inr {b : Nat → Int32} {n p T q T2 : Nat} {cs : List Int32} (h : pd_sum b n p T = .inr (q, (T2, cs))) : pd_test b n p T = pd_test2 b n q T2 cs := by
  unfold pd_test
  rw [h]
theorem pd_test2_inl {b : Nat → Int32} {n q T f : Nat} {cs : List Int32} (h : pd_ot (sp_hb b n q) = true) (e : pd_sum b n (q + 1) T = .inl f) : pd_test2 b n q T cs = .inl f := by
  unfold pd_test2
  rw [if_pos h, e]
theorem pd_test2_inr {b : Nat → Int32} {n q T q2 T2 : Nat} {cs ds : List Int32} (h : pd_ot (sp_hb b n q) = true) (e : pd_sum b n (q + 1) T = .inr (q2, (T2, ds))) : pd_test2 b n q T cs = .inr (q2, (T2, cs ++ ds ++ [200000 + sp_hb b n q])) := by
  unfold pd_test2
  rw [if_pos h, e]
theorem pd_test2_no {b : Nat → Int32} {n q T : Nat} {cs : List Int32} (h : pd_ot (sp_hb b n q) = false) : pd_test2 b n q T cs = .inl q := if_neg (by rw [h]; decide)
theorem pd_test_gd (b : Nat → Int32) (n : Nat) : pd_gd n (pd_test b n) := by
  intro p T q T2 cs hp hT h
  cases hin : pd_sum b n p T with
  | inl f =>
    rw [pd_test_inl hin] at h
    cases h
  | inr r =>
    obtain ⟨q1, T1, es⟩ := r
    rw [pd_test_inr hin] at h
    obtain ⟨a1, a2, a3, a4, a5⟩ := pd_sum_gd b n p T q1 T1 es hp hT hin
    cases hop : pd_ot (sp_hb b n q1) with
    | false =>
      rw [pd_test2_no hop] at h
      cases h
    | true =>
      have hpn : q1 < n := pd_in fun e => by
        rw [e] at hop
        exact absurd hop (by decide)
      cases hin2 : pd_sum b n (q1 + 1) T1 with
      | inl f =>
        rw [pd_test2_inl hop hin2] at h
        cases h
      | inr r =>
        obtain ⟨q3, T3, fs⟩ := r
        rw [pd_test2_inr hop hin2] at h
        obtain ⟨c1, c2, c3, c4, c5⟩ := pd_sum_gd b n (q1 + 1) T1 q3 T3 fs hpn a4 hin2
        cases h
        refine ⟨by omega, c2, by omega, c4, ?_⟩
        rw [List.length_append, List.length_append, List.length_singleton]
        omega
theorem pd_both_gd (b : Nat → Int32) (n : Nat) : pd_gd n (pd_both b n) := pd_lvl_gd (by decide) (pd_test_gd b n)
theorem pd_cond_gd (b : Nat → Int32) (n : Nat) : pd_gd n (pd_cond b n) := pd_lvl_gd (by decide) (pd_both_gd b n)
