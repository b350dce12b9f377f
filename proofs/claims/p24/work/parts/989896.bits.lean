section
/-! A TEXT: the class's text, whole -/
theorem cvs_cp {g g' : aa_G} {S F : Nat} {A : sp_A} (h : cvs g F A) (hc : cp_st g g' S F) : cvs g' S A := by
  obtain ⟨h1, h2, h3⟩ := h
  obtain ⟨c1, -, c2⟩ := hc
  refine ⟨(c1 0 (by omega)).trans h1, h2, fun t ht => ?_⟩
  obtain ⟨k1, k2, k3, k4⟩ := h3 t ht
  obtain ⟨d1, d2⟩ := c2 t (by omega)
  refine ⟨(d1 0 (by omega)).trans k1, (d1 1 (by omega)).trans k2, k3, fun i hi => ?_⟩
  obtain ⟨m1, m2, m3, m4⟩ := k4 i hi
  exact ⟨(d2 1 i (by omega) (by omega) (by omega)).trans m1, (d2 2 i (by omega) (by omega) (by omega)).trans m2, (d2 3 i (by omega) (by omega) (by omega)).trans m3, (d2 4 i (by omega) (by omega) (by omega)).trans m4⟩
/-- bells and parts of a state stay -/
def cp_rest (g g' : aa_G) (S F : Nat) : Prop := g' S 1 = g F 1 ∧ cp_bl g g' (S + 2) (F + 2)
/-- what text leaves alone -/
def ct_keep (g g' : aa_G) (e : Nat) : Prop := ∀ k j, ¬ (2 ≤ k ∧ k ≤ 65) → ¬ (32 * e + 68 ≤ k ∧ k ≤ 32 * e + 99) → ¬ (k = 66 ∧ j ≤ 1) → k ≠ 454 → ¬ (k = 1 ∧ j = 13) → g' k j = g k j
theorem ct_text {g : aa_G} {b : Nat → Int32} {n e c : Nat} {A : sp_A} (h : tc_ok g b n) (hA : cvs g 2 A) (he : e < 12) (hc : c ≤ 12) (h0 : g 66 0 = Int32.ofNat c) (h1 : g 66 1 = Int32.ofNat e) : zz_fin none 15 (0, zz_in [.ref 1] (zz_nl 15), [], aa_H g) (fun v h => ∃ g', h = aa_H g' ∧ g' 454 0 = 0 ∧ ct_keep g g' e ∧ ((∃ f, sp_items b n (n + 1) 0 0 A = .inl f ∧ v = some (.int (-1)) ∧ g' 1 13 = Int32.ofNat f ∧ (∀ k j, ¬ (34 ≤ k ∧ k ≤ 65) → k ≠ 454 → ¬ (k = 1 ∧ j = 13) → g' k j = g k j)) ∨ (∃ c' A', sp_items b n (n + 1) 0 0 A = .inr (c', A') ∧ v = some (.int (Int32.ofNat c')) ∧ g' 1 13 = -1 ∧ cvs g' 2 A' ∧ cp_rest g g' 2 2 ∧ cp_st g g' (32 * e + 68) 2 ∧ g' 66 0 = Int32.ofNat (min (c + 1) 12) ∧ g' 66 1 = Int32.ofNat ((e + 1) % 12)))) := by
  refine zz_fin.steps (n := 4) (s' := (8, [some (.ref 1), none], [.ref 2, .ref 34], aa_H g)) rfl ?_
  refine zz_fin.call rfl rfl (Nat.le_of_ble_eq_true rfl) (cp_state cs_ok_34 cs_ok_2 (show 34 + 32 ≤ 2 ∨ 2 + 32 ≤ 34 by omega)) ?_
  rintro v h' ⟨rfl, g1, rfl, k1, k2⟩
  have k1 : cp_st g g1 34 2 := k1
  have k2 : cp_fr g g1 34 65 := k2
  have hA1 : cvs g1 34 A := cvs_cp hA k1
  have ht1 : tc_ok g1 b n := ⟨(k2 454 0 (by omega)).trans h.1, h.2.1, fun j hj => (k2 455 j (by omega)).trans (h.2.2 j hj)⟩
  refine zz_fin.steps (n := 4) (s' := (19, [some (.ref 1), none], [.ref 34, .ref 454], aa_H g1)) rfl ?_
  refine zz_fin.call rfl rfl (Nat.le_of_ble_eq_true rfl) (ct_read ht1 hA1) ?_
  rintro v h' hres
  rcases hres with ⟨f, hs, rfl, g2, rfl, b1, b2⟩ | ⟨c', A', hs, hc5, rfl, g2, rfl, hf, hA2⟩
  · refine zz_fin.steps (n := 2) (s' := (24, [some (.ref 1), some (.int (-1))], [.ref 1], aa_H g2)) rfl ?_
    refine zz_fin.call rfl rfl (Nat.le_of_ble_eq_true rfl) (ct_eor) ?_
    rintro v h ⟨rfl, rfl⟩
    refine zz_fin.steps (n := 2) (s' := (29, [some (.ref 1), some (.int (-1))], [.int (-1), .int (-1)], aa_H (zz_w (zz_w g2 1 13 (g2 454 4)) 454 0 0))) rfl ?_
    refine zz_fin.ic rfl (fun cz => ?_) (fun cz => absurd rfl cz)
    refine zz_fin.steps (n := 1) (s' := (41, [some (.ref 1), some (.int (-1))], [.int (-1)], aa_H (zz_w (zz_w g2 1 13 (g2 454 4)) 454 0 0))) rfl ?_
    refine zz_fin.at (n := 1) rfl ⟨_, rfl, aa_w_at _ _ _ _, fun k j e1 e2 e3 e4 e5 => ?_, .inl ⟨f, hs, rfl, ?_, fun k j e1 e2 e3 => ?_⟩⟩
    · rw [aa_w_ne _ _ (by omega), aa_w_ne _ _ (by omega), b1 k j (by omega) (by omega), aa_w_ne _ _ (by omega)]
      exact k2 k j (by omega)
    · rw [aa_w_ne _ _ (by omega), aa_w_at]
      exact b2
    · rw [aa_w_ne _ _ (by omega), aa_w_ne _ _ (by omega), b1 k j (by omega) (by omega), aa_w_ne _ _ (by omega)]
      exact k2 k j (by omega)
  · refine zz_fin.steps (n := 2) (s' := (24, [some (.ref 1), some (.int (Int32.ofNat c'))], [.ref 1], aa_H g2)) rfl ?_
    refine zz_fin.call rfl rfl (Nat.le_of_ble_eq_true rfl) (ct_eor) ?_
    rintro v h ⟨rfl, rfl⟩
    refine zz_fin.steps (n := 2) (s' := (29, [some (.ref 1), some (.int (Int32.ofNat c'))], [.int (-1), .int (Int32.ofNat c')], aa_H (zz_w (zz_w g2 1 13 (g2 454 4)) 454 0 0))) rfl ?_
    have hne : Int32.ofNat c' ≠ -1 := fun z => by
      have e := zz_ofN (n := c') (by omega)
      rw [z, show (-1 : Int32).toInt = -1 from rfl] at e
      omega
    refine zz_fin.ic rfl (fun cz => absurd (of_decide_eq_true cz) hne) (fun cz => ?_)
    have fr : ∀ k j, ¬ ((34 ≤ k ∧ k ≤ 65)) → k ≠ 454 → ¬ (k = 1 ∧ j = 13) → (zz_w (zz_w g2 1 13 (g2 454 4)) 454 0 0) k j = g k j := fun k j e1 e2 e3 => by
      rw [aa_w_ne _ _ (by omega), aa_w_ne _ _ (by omega), hf k j (by omega) (by omega), aa_w_ne _ _ (by omega)]
      exact k2 k j (by omega)
    have hA3 : cvs (zz_w (zz_w g2 1 13 (g2 454 4)) 454 0 0) 34 A' := cvs_of hA2 fun k j a1 a2 => (aa_w_ne _ _ (by omega)).trans (aa_w_ne _ _ (by omega))
    have df : ∀ k j, 34 ≤ k → k < 46 → ¬ (k = 34 ∧ j = 0) → (zz_w (zz_w g2 1 13 (g2 454 4)) 454 0 0) k j = g1 k j := fun k j a1 a2 a3 => by
      rw [aa_w_ne _ _ (by omega), aa_w_ne _ _ (by omega), hf k j (by omega) (by omega), aa_w_ne _ _ (by omega)]
    refine zz_fin.steps (n := 3) (s' := (37, [some (.ref 1), some (.int (Int32.ofNat c'))], [.ref 34, .ref 1], aa_H (zz_w (zz_w g2 1 13 (g2 454 4)) 454 0 0))) rfl ?_
    generalize hG : zz_w (zz_w g2 1 13 (g2 454 4)) 454 0 0 = G3 at fr hA3 df ⊢
    have hG13 : G3 1 13 = -1 := by
      rw [← hG, aa_w_ne _ _ (by omega), aa_w_at, hf 454 4 (by omega) (by omega), aa_w_at]
    have hG0 : G3 454 0 = 0 := by rw [← hG, aa_w_at]
    refine zz_fin.call rfl rfl (Nat.le_of_ble_eq_true rfl) (cd_adopt cs_ok_34 (by omega) he hc ((fr 66 0 (by omega) (by omega) (by omega)).trans h0) ((fr 66 1 (by omega) (by omega) (by omega)).trans h1)) ?_
    rintro v h' ⟨rfl, g4, g5, rfl, ⟨p1, p2, p3, p4⟩, q1, q2⟩
    have s4 : ∀ k j, ¬ (32 * e + 68 ≤ k ∧ k ≤ 32 * e + 99) → ¬ (k = 66 ∧ j ≤ 1) → g4 k j = G3 k j := p4
    have hA4 : cvs g4 34 A' := cvs_of hA3 fun k j a1 a2 => s4 k j (by omega) (by omega)
    refine zz_fin.steps (n := 1) (s' := (41, [some (.ref 1), some (.int (Int32.ofNat c'))], [.int (Int32.ofNat c')], aa_H g5)) rfl ?_
    refine zz_fin.at (n := 1) rfl ⟨g5, rfl, (q2 454 0 (by omega)).trans ((s4 454 0 (by omega) (by omega)).trans hG0), fun k j e1 e2 e3 e4 e5 => ?_, .inr ⟨c', A', hs, rfl, ?_, cvs_cp hA4 q1, ⟨?_, ⟨fun j hj => ?_, fun o j o1 o2 hj => ?_⟩⟩, ⟨fun j hj => ?_, ⟨fun j hj => ?_, fun o j o1 o2 hj => ?_⟩, fun t ht => ⟨fun j hj => ?_, fun o j o1 o2 hj => ?_⟩⟩, ?_, ?_⟩⟩
    · rw [q2 k j (by omega), s4 k j (by omega) (by omega)]
      exact fr k j (by omega) e4 e5
    · rw [q2 1 13 (by omega), s4 1 13 (by omega) (by omega)]
      exact hG13
    · rw [q1.1 1 (by omega), s4 34 1 (by omega) (by omega), df 34 1 (by omega) (by omega) (by omega)]
      exact k1.1 1 (by omega)
    · rw [q1.2.1.1 j hj, s4 36 j (by omega) (by omega), df 36 j (by omega) (by omega) (by omega)]
      exact k1.2.1.1 j hj
    · rw [q1.2.1.2 o j o1 o2 hj, s4 _ j (by omega) (by omega), df _ j (by omega) (by omega) (by omega)]
      exact k1.2.1.2 o j o1 o2 hj
    · rw [q2 _ j (by omega), p1.1 j hj]
      exact fr 2 j (by omega) (by omega) (by omega)
    · rw [q2 _ j (by omega), p1.2.1.1 j hj]
      exact fr 4 j (by omega) (by omega) (by omega)
    · rw [q2 _ j (by omega), p1.2.1.2 o j o1 o2 hj]
      exact fr _ j (by omega) (by omega) (by omega)
    · rw [q2 _ j (by omega), (p1.2.2 t ht).1 j hj]
      exact fr _ j (by omega) (by omega) (by omega)
    · rw [q2 _ j (by omega), (p1.2.2 t ht).2 o j o1 o2 hj]
      exact fr _ j (by omega) (by omega) (by omega)
    · rw [q2 66 0 (by omega)]
      exact p2
    · rw [q2 66 1 (by omega)]
      exact p3
end
section
/-! BELLS: a COND as the model reads it -/
def sp_nm (c : Int32) : Int32 := if c = 119 then 0 else if c = 121 then 1 else if c = 108 then 2 else if c = 116 then 3 else if c = 122 then 4 else -1
/-- where the fault is, or where it ends, how many THINGS there are then, what is to be done -/
abbrev pd_R : Type := Nat ⊕ (Nat × (Nat × List Int32))
def pd_thing (b : Nat → Int32) (n p T : Nat) : pd_R :=
  if (sp_dg (sp_hb b n p) = false ∧ sp_nm (sp_hb b n p) = -1) ∨ T = 40 then .inl p else
  if sp_dg (sp_hb b n p) = true then (if (sp_run b n 5 p 0).1 = p ∨ sp_dg (sp_hb b n (sp_run b n 5 p 0).1) = true then .inl (sp_run b n 5 p 0).1 else .inr ((sp_run b n 5 p 0).1, (T + 1, [(sp_run b n 5 p 0).2])))
  else .inr (p + 1, (T + 1, [100000 + sp_nm (sp_hb b n p)]))
def pd_loop (ops : Int32 → Bool) (inner : Nat → Nat → pd_R) (b : Nat → Int32) (n : Nat) : Nat → Nat → Nat → List Int32 → pd_R
  | 0, p, T, cs => .inr (p, (T, cs))
  | k + 1, p, T, cs => if ops (sp_hb b n p) = true then (match inner (p + 1) T with
    | .inl f => .inl f
    | .inr (q, (T2, ds)) => pd_loop ops inner b n k q T2 (cs ++ ds ++ [200000 + sp_hb b n p])) else .inr (p, (T, cs))
def pd_lvl (ops : Int32 → Bool) (inner : Nat → Nat → pd_R) (b : Nat → Int32) (n p T : Nat) : pd_R := match inner p T with
  | .inl f => .inl f
  | .inr (q, (T2, cs)) => pd_loop ops inner b n (n + 1) q T2 cs
def pd_o1 (c : Int32) : Bool := decide (c = 42) || decide (c = 47)
def pd_o2 (c : Int32) : Bool := decide (c = 43) || decide (c = 45)
def pd_o3 (c : Int32) : Bool := decide (c = 38)
def pd_o4 (c : Int32) : Bool := decide (c = 124)
def pd_ot (c : Int32) : Bool := decide (c = 60) || (decide (c = 62) || decide (c = 61))
def pd_prod (b : Nat → Int32) (n p T : Nat) : pd_R := pd_lvl pd_o1 (pd_thing b n) b n p T
def pd_sum (b : Nat → Int32) (n p T : Nat) : pd_R := pd_lvl pd_o2 (pd_prod b n) b n p T
def pd_test2 (b : Nat → Int32) (n q T : Nat) (cs : List Int32) : pd_R := if pd_ot (sp_hb b n q) = true then (match pd_sum b n (q + 1) T with
    | .inl f => .inl f
    | .inr (q2, (T2, ds)) => .inr (q2, (T2, cs ++ ds ++ [200000 + sp_hb b n q]))) else .inl q
def pd_test (b : Nat → Int32) (n p T : Nat) : pd_R := match pd_sum b n p T with
  | .inl f => .inl f
  | .inr (q, (T2, cs)) => pd_test2 b n q T2 cs
def pd_both (b : Nat → Int32) (n p T : Nat) : pd_R := pd_lvl pd_o3 (pd_test b n) b n p T
def pd_cond (b : Nat → Int32) (n p T : Nat) : pd_R := pd_lvl pd_o4 (pd_both b n) b n p T
theorem pd_lvl_inl {ops : Int32 → Bool} {inner : Nat → Nat → pd_R} {b : Nat → Int32} {n p T f : Nat} (h : inner p T = .inl f) : pd_lvl ops inner b n p T = .inl f := by
  unfold pd_lvl
  rw [h]
theorem pd_lvl_inr {ops : Int32 → Bool} {inner : Nat → Nat → pd_R} {b : Nat → Int32} {n p T q T2 : Nat} {cs : List Int32} (h : inner p T = .inr (q, (T2, cs))) : pd_lvl ops inner b n p T = pd_loop ops inner b n (n + 1) q T2 cs := by
  unfold pd_lvl
  rw [h]
theorem pd_loop_no {ops : Int32 → Bool} {inner : Nat → Nat → pd_R} {b : Nat → Int32} {n p T : Nat} {cs : List Int32} (k : Nat) (h : ops (sp_hb b n p) = false) : pd_loop ops inner b n k p T cs = .inr (p, (T, cs)) := by
  cases k with
  | zero => rfl
  | succ k => exact if_neg (by rw [h]; decide)
theorem pd_loop_inl {ops : Int32 → Bool} {inner : Nat → Nat → pd_R} {b : Nat → Int32} {n p T k f : Nat} {cs : List Int32} (h : ops (sp_hb b n p) = true) (e : inner (p + 1) T = .inl f) : pd_loop ops inner b n (k + 1) p T cs = .inl f := by
  rw [pd_loop, if_pos h, e]
theorem pd_loop_inr {ops : Int32 → Bool} {inner : Nat → Nat → pd_R} {b : Nat → Int32} {n p T k q T2 : Nat} {cs ds : List Int32} (h : ops (sp_hb b n p) = true) (e : inner (p + 1) T = .inr (q, (T2, ds))) : pd_loop ops inner b n (k + 1) p T cs = pd_loop ops inner b n k q T2 (cs ++ ds ++ [200000 + sp_hb b n p]) := by
  rw [pd_loop, if_pos h, e]
/-- it gets on, and there is so much to do -/
def pd_gd (n : Nat) (f : Nat → Nat → pd_R) : Prop := ∀ p T q T2 cs, p ≤ n → T ≤ 40 → f p T = .inr (q, (T2, cs)) → p < q ∧ q ≤ n ∧ T < T2 ∧ T2 ≤ 40 ∧ cs.length + 1 = 2 * (T2 - T)
theorem pd_in {b : Nat → Int32} {n p : Nat} (h : sp_hb b n p ≠ -1) : p < n := Decidable.byContradiction fun z => h (if_neg z)
theorem pd_thing_gd (b : Nat → Int32) (n : Nat) : pd_gd n (pd_thing b n) := by
  intro p T q T2 cs hp hT h
  unfold pd_thing at h
  split at h
  · cases h
  · rename_i h0
    split at h
    · rename_i hd
      split at h
      · cases h
      · rename_i hr
        have h := Sum.inr.inj h
        have h1 : (sp_run b n 5 p 0).1 = q := congrArg Prod.fst h
        have h2 : T + 1 = T2 := congrArg (fun x => x.2.1) h
        have h3 : [(sp_run b n 5 p 0).2] = cs := congrArg (fun x => x.2.2) h
        have r1 := sp_run_le b n 5 p 0
        have r2 := sp_run_n b n 5 p 0 hp
        have r3 : ¬ (sp_run b n 5 p 0).1 = p := fun e => hr (.inl e)
        have r4 : ¬ T = 40 := fun e => h0 (.inr e)
        subst h3
        exact ⟨by omega, by omega, by omega, by omega, by rw [← h2]; show 1 + 1 = 2 * (T + 1 - T); omega⟩
    · rename_i hd
      have h := Sum.inr.inj h
      have h1 : p + 1 = q := congrArg Prod.fst h
      have h2 : T + 1 = T2 := congrArg (fun x => x.2.1) h
      have h3 : [100000 + sp_nm (sp_hb b n p)] = cs := congrArg (fun x => x.2.2) h
      have r4 : ¬ T = 40 := fun e => h0 (.inr e)
      have r5 : p < n := pd_in fun e => h0 (.inl ⟨(Bool.not_eq_true _).mp hd, by rw [e]; decide⟩)
      subst h3
      exact ⟨by omega, by omega, by omega, by omega, by rw [← h2]; show 1 + 1 = 2 * (T + 1 - T); omega⟩
theorem pd_loop_gd {ops : Int32 → Bool} {inner : Nat → Nat → pd_R} {b : Nat → Int32} {n : Nat} (ho : ops (-1) = false) (hi : pd_gd n inner) {T0 : Nat} : ∀ (k p T : Nat) (cs : List Int32) (q T2 : Nat) (ds : List Int32), p ≤ n → T ≤ 40 → T0 < T → cs.length + 1 = 2 * (T - T0) → pd_loop ops inner b n k p T cs = .inr (q, (T2, ds)) → p ≤ q ∧ q ≤ n ∧ T ≤ T2 ∧ T2 ≤ 40 ∧ ds.length + 1 = 2 * (T2 - T0) := by
  intro k
  induction k with
  | zero =>
    intro p T cs q T2 ds hp hT h0 hl h
    have h : (Sum.inr (p, (T, cs)) : pd_R) = .inr (q, (T2, ds)) := h
    cases h
    exact ⟨Nat.le_refl _, hp, Nat.le_refl _, hT, hl⟩
  | succ k ih =>
    intro p T cs q T2 ds hp hT h0 hl h
    cases hop : ops (sp_hb b n p) with
    | false =>
      rw [pd_loop_no (k + 1) hop] at h
      cases h
      exact ⟨Nat.le_refl _, hp, Nat.le_refl _, hT, hl⟩
    | true =>
      have hpn : p < n := pd_in fun e => by
        rw [e, ho] at hop
        cases hop
      cases hin : inner (p + 1) T with
      | inl f =>
        rw [pd_loop_inl hop hin] at h
        cases h
      | inr r =>
        obtain ⟨q1, T1, es⟩ := r
        rw [pd_loop_inr hop hin] at h
        obtain ⟨a1, a2, a3, a4, a5⟩ := hi (p + 1) T q1 T1 es hpn hT hin
        obtain ⟨c1, c2, c3, c4, c5⟩ := ih q1 T1 _ q T2 ds a2 a4 (by omega) (by rw [List.length_append, List.length_append, List.length_singleton]; omega) h
        exact ⟨by omega, c2, by omega, c4, c5⟩
theorem pd_lvl_gd {ops : Int32 → Bool} {inner : Nat → Nat → pd_R} {b : Nat → Int32} {n : Nat} (ho : ops (-1) = false) (hi : pd_gd n inner) : pd_gd n (pd_lvl ops inner b n) := by
  intro p T q T2 cs hp hT h
  cases hin : inner p T with
  | inl f =>
    rw [pd_lvl_inl hin] at h
    cases h
  | inr r =>
    obtain ⟨q1, T1, es⟩ := r
    rw [pd_lvl_inr hin] at h
    obtain ⟨a1, a2, a3, a4, a5⟩ := hi p T q1 T1 es hp hT hin
    obtain ⟨c1, c2, c3, c4, c5⟩ := pd_loop_gd ho hi (n + 1) q1 T1 es q T2 cs a2 a4 a3 a5 h
    exact ⟨by omega, c2, by omega, c4, c5⟩
theorem pd_prod_gd (b : Nat → Int32) (n : Nat) : pd_gd n (pd_prod b n) := pd_lvl_gd (by decide) (pd_thing_gd b n)
theorem pd_sum_gd (b : Nat → Int32) (n : Nat) : pd_gd n (pd_sum b n) := pd_lvl_gd (by decide) (pd_prod_gd b n)
theorem pd_test_inl {b : Nat → Int32} {n p T f : Nat} (h : pd_sum b n p T = .inl f) : pd_test b n p T = .inl f := by
  unfold pd_test
  rw [h]
theorem pd_test_inr {b : Nat → Int32} {n p T q T2 : Nat} {cs : List Int32} (h : pd_sum b n p T = .inr (q, (T2, cs))) : pd_test b n p T = pd_test2 b n q T2 cs := by
  unfold pd_test
  rw [h]
theorem pd_test2_inl {b : Nat → Int32} {n q T f : Nat} {cs : List Int32} (h : pd_ot (sp_hb b n q) = true) (e : pd_sum b n (q + 1) T = .inl f) : pd_test2 b n q T cs = .inl f := by
  unfold pd_test2
  rw [if_pos h, e]
theorem pd_test2_inr {b : Nat → Int32} {n q T q2 T2 : Nat} {cs ds : List Int32} (h : pd_ot (sp_hb b n q) = true) (e : pd_sum b n (q + 1) T = .inr (q2, (T2, ds))) : pd_test2 b n q T cs = .inr (q2, (T2, cs ++ ds ++ [200000 + sp_hb b n q])) := by
  unfold pd_test2
  rw [if_pos h, e]
theorem pd_test2_no {b : Nat → Int32} {n q T : Nat} {cs : List Int32} (h : pd_ot (sp_hb b n q) = false) : pd_test2 b n q T cs = .inl q := if_neg (by rw [h]; decide)
theorem pd_test_gd (b : Nat → Int32) (n : Nat) : pd_gd n (pd_test b n) := by
  intro p T q T2 cs hp hT h
  cases hin : pd_sum b n p T with
  | inl f =>
    rw [pd_test_inl hin] at h
    cases h
  | inr r =>
    obtain ⟨q1, T1, es⟩ := r
    rw [pd_test_inr hin] at h
    obtain ⟨a1, a2, a3, a4, a5⟩ := pd_sum_gd b n p T q1 T1 es hp hT hin
    cases hop : pd_ot (sp_hb b n q1) with
    | false =>
      rw [pd_test2_no hop] at h
      cases h
    | true =>
      have hpn : q1 < n := pd_in fun e => by
        rw [e] at hop
        exact absurd hop (by decide)
      cases hin2 : pd_sum b n (q1 + 1) T1 with
      | inl f =>
        rw [pd_test2_inl hop hin2] at h
        cases h
      | inr r =>
        obtain ⟨q3, T3, fs⟩ := r
        rw [pd_test2_inr hop hin2] at h
        obtain ⟨c1, c2, c3, c4, c5⟩ := pd_sum_gd b n (q1 + 1) T1 q3 T3 fs hpn a4 hin2
        cases h
        refine ⟨by omega, c2, by omega, c4, ?_⟩
        rw [List.length_append, List.length_append, List.length_singleton]
        omega
theorem pd_both_gd (b : Nat → Int32) (n : Nat) : pd_gd n (pd_both b n) := pd_lvl_gd (by decide) (pd_test_gd b n)
theorem pd_cond_gd (b : Nat → Int32) (n : Nat) : pd_gd n (pd_cond b n) := pd_lvl_gd (by decide) (pd_both_gd b n)
end
section
/-! BELLS: the model reads a COND -/
theorem tm_commj (g : aa_G) (p : Nat) (z : Int32) {j : Nat} {v : Int32} (h5 : j ≠ 5) (h7 : j ≠ 7) : zz_w (tm_at g p z) 540 j v = tm_at (zz_w g 540 j v) p z := by
  unfold tm_at
  rw [zz_w_comm _ (k := 540) (j := 7) (a := 540) (b := j) _ _ (fun e => h7 e.2), zz_w_comm g (k := 540) (j := 5) (a := 540) (b := j) _ _ (fun e => h5 e.2)]
theorem tm_at_ne (g : aa_G) (p : Nat) (z : Int32) {k j : Nat} (h : ¬ (k = 540 ∧ (j = 5 ∨ j = 7))) : tm_at g p z k j = g k j := by
  unfold tm_at
  rw [aa_w_ne _ _ (by omega), aa_w_ne _ _ (by omega)]
/-- one thing more to do -/
def mb_one (g : aa_G) (c : Nat) (v : Int32) : aa_G := zz_w (zz_w g 545 c v) 540 11 (Int32.ofNat (c + 1))
/-- of what is being read alone has anything changed -/
def mb_fr (g g' : aa_G) (c : Nat) : Prop := ∀ k j, ¬ (k = 540 ∧ (j = 11 ∨ j = 12)) → ¬ (k = 545 ∧ c ≤ j) → g' k j = g k j
def mb_st (g g' : aa_G) (c : Nat) (cs : List Int32) (T : Nat) : Prop := mb_fr g g' c ∧ g' 540 11 = Int32.ofNat (c + cs.length) ∧ g' 540 12 = Int32.ofNat T ∧ ∀ i v, cs[i]? = some v → g' 545 (c + i) = v
def mb_bad (g : aa_G) (f c : Nat) (g' : aa_G) : Prop := (∀ k j, ¬ (k = 540 ∧ ((5 ≤ j ∧ j ≤ 7) ∨ j = 11 ∨ j = 12)) → ¬ (k = 545 ∧ c ≤ j) → g' k j = g k j) ∧ g' 540 6 = Int32.ofNat f
theorem mb_st.nil {g : aa_G} {c T : Nat} (h1 : g 540 11 = Int32.ofNat c) (h2 : g 540 12 = Int32.ofNat T) : mb_st g g c [] T := ⟨fun _ _ _ _ => rfl, h1, h2, fun i v h => by cases h⟩
theorem mb_st.tr {g g1 g2 : aa_G} {c T1 T2 : Nat} {cs ds : List Int32} (h1 : mb_st g g1 c cs T1) (h2 : mb_st g1 g2 (c + cs.length) ds T2) : mb_st g g2 c (cs ++ ds) T2 := by
  refine ⟨fun k j a e => (h2.1 k j a (by omega)).trans (h1.1 k j a e), ?_, h2.2.2.1, fun i v hi => ?_⟩
  · rw [h2.2.1, List.length_append, Nat.add_assoc]
  · by_cases hl : i < cs.length
    · rw [List.getElem?_append_left hl] at hi
      rw [h2.1 545 (c + i) (by omega) (by omega)]
      exact h1.2.2.2 i v hi
    · rw [List.getElem?_append_right (by omega)] at hi
      have := h2.2.2.2 _ v hi
      rw [show c + cs.length + (i - cs.length) = c + i by omega] at this
      exact this
theorem mb_st.one {g : aa_G} {c T : Nat} (v : Int32) (h : g 540 12 = Int32.ofNat T) : mb_st g (mb_one g c v) c [v] T := by
  refine ⟨fun k j a e => ?_, ?_, ?_, fun i w hi => ?_⟩
  · unfold mb_one
    rw [aa_w_ne _ _ (by omega), aa_w_ne _ _ (by omega)]
  · unfold mb_one
    rw [aa_w_at]
    rfl
  · unfold mb_one
    rw [aa_w_ne _ _ (by omega), aa_w_ne _ _ (by omega)]
    exact h
  · have hi0 : i = 0 := by
      have := (List.getElem?_eq_some_iff.mp hi).1
      rw [List.length_singleton] at this
      omega
    subst hi0
    cases hi
    unfold mb_one
    rw [aa_w_ne _ _ (by omega), Nat.add_zero, aa_w_at]
theorem mb_ok {g g' : aa_G} {b : Nat → Int32} {n c : Nat} (h : tm_ok g b n) (hf : mb_fr g g' c) : tm_ok g' b n := ⟨(hf 540 4 (by omega) (by omega)).trans h.1, h.2.1, fun j hj => by rw [hf 543 j (by omega) (by omega)]; exact h.2.2 j hj⟩
theorem mb_bad.of {g g1 g2 : aa_G} {f c : Nat} (h1 : mb_fr g g1 c) (h2 : tm_bad g1 f g2) : mb_bad g f c g2 := ⟨fun k j a e => (h2.1 k j (by omega)).trans (h1 k j (by omega) e), h2.2⟩
theorem mb_bad.tr {g g1 g2 : aa_G} {f c d : Nat} (h1 : mb_fr g g1 c) (h2 : mb_bad g1 f d g2) (hd : c ≤ d) : mb_bad g f c g2 := ⟨fun k j a e => (h2.1 k j a (by omega)).trans (h1 k j (by omega) e), h2.2⟩
theorem mb_fr.rf {g : aa_G} {c : Nat} : mb_fr g g c := fun _ _ _ _ => rfl
def mb_res (g : aa_G) (c : Nat) (r : pd_R) (v : Option Value) (h : zz_H) : Prop := (∃ f, r = .inl f ∧ v = some (.int 0) ∧ ∃ g', h = aa_H g' ∧ mb_bad g f c g') ∨ (∃ q T cs, r = .inr (q, (T, cs)) ∧ v = some (.int 1) ∧ ∃ g' z, h = aa_H (tm_at g' q z) ∧ mb_st g g' c cs T)
/-- a method reads a piece -/
def mb_does (b : Nat → Int32) (n m : Nat) (f : Nat → Nat → pd_R) : Prop := ∀ (g : aa_G) (p T c : Nat) (z : Int32), tm_ok g b n → p ≤ n → T ≤ 40 → c ≤ 60 + 2 * T → g 540 11 = Int32.ofNat c → g 540 12 = Int32.ofNat T → zz_fin none m (0, zz_in [.ref 540] (zz_nl m), [], aa_H (tm_at g p z)) (mb_res g c (f p T))
theorem mb_push {g : aa_G} {c q : Nat} {z v : Int32} (hc : g 540 11 = Int32.ofNat c) (h : c < 140) : zz_fin none 188 (0, zz_in [.ref 540, .int v] (zz_nl 188), [], aa_H (tm_at g q z)) (fun r h' => r = none ∧ h' = aa_H (tm_at (mb_one g c v) q z)) := by
  have h0 : tm_at g q z 540 11 = Int32.ofNat c := hc
  refine zz_fin.steps (n := 5) (s' := (9, [some (.ref 540), some (.int v)], [.int v, .int ((tm_at g q z) 540 11), .ref 545], aa_H (tm_at g q z))) rfl ?_
  rw [h0]
  refine zz_fin.ias (n := 140) rfl rfl (zz_inbN (by omega) (by omega)) ?_
  rw [zz_toN (by omega)]
  refine zz_fin.steps (n := 0) (s' := (10, [some (.ref 540), some (.int v)], [], aa_H (zz_w (tm_at g q z) 545 c v))) rfl ?_
  rw [tm_comm _ _ _ (by decide)]
  have h1 : tm_at (zz_w g 545 c v) q z 540 11 = Int32.ofNat c := (tm_at_ne _ _ _ (by omega)).trans ((aa_w_ne _ _ (by omega)).trans hc)
  refine zz_fin.steps (n := 5) (s' := (17, [some (.ref 540), some (.int v)], [.int (((tm_at (zz_w g 545 c v) q z) 540 11) + 1), .ref 540], aa_H (tm_at (zz_w g 545 c v) q z))) rfl ?_
  rw [h1, aa_succ]
  refine zz_fin.at (n := 2) rfl ⟨rfl, ?_⟩
  exact congrArg aa_H (tm_commj _ _ _ (by decide) (by decide))
theorem mb_name (c : Int32) {g : aa_G} : zz_fin none 187 (0, zz_in [.int c] (zz_nl 187), [], aa_H g) (fun v h => v = some (.int (sp_nm c)) ∧ h = aa_H g) := by
  unfold sp_nm
  refine zz_fin.steps (n := 2) (s' := (3, [some (.int c)], [.int 119, .int c], aa_H g)) rfl ?_
  refine zz_fin.ic rfl (fun c1 => ?_) (fun c1 => ?_)
  · have c1 : ¬ c = 119 := of_decide_eq_true c1
    rw [if_neg c1]
    refine zz_fin.steps (n := 2) (s' := (13, [some (.int c)], [.int 121, .int c], aa_H g)) rfl ?_
    refine zz_fin.ic rfl (fun c2 => ?_) (fun c2 => ?_)
    · have c2 : ¬ c = 121 := of_decide_eq_true c2
      rw [if_neg c2]
      refine zz_fin.steps (n := 2) (s' := (23, [some (.int c)], [.int 108, .int c], aa_H g)) rfl ?_
      refine zz_fin.ic rfl (fun c3 => ?_) (fun c3 => ?_)
      · have c3 : ¬ c = 108 := of_decide_eq_true c3
        rw [if_neg c3]
        refine zz_fin.steps (n := 2) (s' := (33, [some (.int c)], [.int 116, .int c], aa_H g)) rfl ?_
        refine zz_fin.ic rfl (fun c4 => ?_) (fun c4 => ?_)
        · have c4 : ¬ c = 116 := of_decide_eq_true c4
          rw [if_neg c4]
          refine zz_fin.steps (n := 2) (s' := (43, [some (.int c)], [.int 122, .int c], aa_H g)) rfl ?_
          refine zz_fin.ic rfl (fun c5 => ?_) (fun c5 => ?_)
          · have c5 : ¬ c = 122 := of_decide_eq_true c5
            rw [if_neg c5]
            refine zz_fin.steps (n := 1) (s' := (51, [some (.int c)], [.int (-1)], aa_H g)) rfl ?_
            exact zz_fin.at (n := 1) rfl ⟨rfl, rfl⟩
          · have c5 : c = 122 := Decidable.byContradiction fun z => c5 (decide_eq_true z)
            rw [if_pos c5]
            refine zz_fin.steps (n := 2) (s' := (51, [some (.int c)], [.int 4], aa_H g)) rfl ?_
            exact zz_fin.at (n := 1) rfl ⟨rfl, rfl⟩
        · have c4 : c = 116 := Decidable.byContradiction fun z => c4 (decide_eq_true z)
          rw [if_pos c4]
          refine zz_fin.steps (n := 2) (s' := (51, [some (.int c)], [.int 3], aa_H g)) rfl ?_
          exact zz_fin.at (n := 1) rfl ⟨rfl, rfl⟩
      · have c3 : c = 108 := Decidable.byContradiction fun z => c3 (decide_eq_true z)
        rw [if_pos c3]
        refine zz_fin.steps (n := 2) (s' := (51, [some (.int c)], [.int 2], aa_H g)) rfl ?_
        exact zz_fin.at (n := 1) rfl ⟨rfl, rfl⟩
    · have c2 : c = 121 := Decidable.byContradiction fun z => c2 (decide_eq_true z)
      rw [if_pos c2]
      refine zz_fin.steps (n := 2) (s' := (51, [some (.int c)], [.int 1], aa_H g)) rfl ?_
      exact zz_fin.at (n := 1) rfl ⟨rfl, rfl⟩
  · have c1 : c = 119 := Decidable.byContradiction fun z => c1 (decide_eq_true z)
    rw [if_pos c1]
    refine zz_fin.steps (n := 2) (s' := (51, [some (.int c)], [.int 0], aa_H g)) rfl ?_
    exact zz_fin.at (n := 1) rfl ⟨rfl, rfl⟩
theorem mb_st.set {g g1 : aa_G} {c c0 T : Nat} (_ : g 540 11 = Int32.ofNat c0) (hf : mb_fr g g1 c) (h1 : g1 540 11 = Int32.ofNat c) (h2 : g1 540 12 = Int32.ofNat T) : mb_st g g1 c [] T := ⟨hf, h1, h2, fun i v h => by cases h⟩
theorem mb_thing (b : Nat → Int32) (n : Nat) : mb_does b n 186 (pd_thing b n) := by
  intro g p T c z h hp hT hc h11 h12
  have hn := h.2.1
  have h0 : tm_at g p z 540 12 = Int32.ofNat T := h12
  refine zz_fin.steps (n := 1) (s' := (1, [some (.ref 540), none], [.ref 540], aa_H (tm_at g p z))) rfl ?_
  refine zz_fin.call rfl rfl (Nat.le_of_ble_eq_true rfl) (tm_here h (by omega)) ?_
  rintro v h ⟨rfl, rfl⟩
  refine zz_fin.steps (n := 2) (s' := (6, [some (.ref 540), some (.int (sp_hb b n p))], [.int (sp_hb b n p)], aa_H (tm_at g p z))) rfl ?_
  refine zz_fin.call rfl rfl (Nat.le_of_ble_eq_true rfl) (tm_fig _) ?_
  rintro v h ⟨⟨rfl, hd⟩ | ⟨rfl, hd⟩, rfl⟩
  · refine zz_fin.if rfl (fun cz => ?_) (fun cz => absurd rfl cz)
    refine zz_fin.steps (n := 3) (s' := (26, [some (.ref 540), some (.int (sp_hb b n p))], [.int 40, .int ((tm_at g p z) 540 12)], aa_H (tm_at g p z))) rfl ?_
    rw [h0]
    refine zz_fin.ic rfl (fun c1 => ?_) (fun c1 => ?_)
    · have c1 : Int32.ofNat T ≠ 40 := of_decide_eq_true c1
      have hT4 : T < 40 := Decidable.byContradiction fun z => c1 (by rw [show T = 40 by omega]; rfl)
      have hx : ¬ ((sp_dg (sp_hb b n p) = false ∧ sp_nm (sp_hb b n p) = -1) ∨ T = 40) := fun z => z.elim (fun z => by rw [hd] at z; cases z.1) (fun z => by omega)
      refine zz_fin.steps (n := 5) (s' := (45, [some (.ref 540), some (.int (sp_hb b n p))], [.int (((tm_at g p z) 540 12) + 1), .ref 540], aa_H (tm_at g p z))) rfl ?_
      rw [h0, aa_succ]
      refine zz_fin.steps (n := 1) (s' := (48, [some (.ref 540), some (.int (sp_hb b n p))], [], aa_H (zz_w (tm_at g p z) 540 12 (Int32.ofNat (T + 1))))) rfl ?_
      rw [tm_commj _ _ _ (by decide) (by decide)]
      have h1 : tm_ok (zz_w g 540 12 (Int32.ofNat (T + 1))) b n := h
      have hf1 : mb_fr g (zz_w g 540 12 (Int32.ofNat (T + 1))) c := fun k j a e => aa_w_ne _ _ (by omega)
      have k11 : (zz_w g 540 12 (Int32.ofNat (T + 1))) 540 11 = Int32.ofNat c := (aa_w_ne _ _ (by omega)).trans h11
      have k12 : (zz_w g 540 12 (Int32.ofNat (T + 1))) 540 12 = Int32.ofNat (T + 1) := aa_w_at _ _ _ _
      refine zz_fin.steps (n := 1) (s' := (49, [some (.ref 540), some (.int (sp_hb b n p))], [.int (sp_hb b n p)], aa_H (tm_at (zz_w g 540 12 (Int32.ofNat (T + 1))) p z))) rfl ?_
      refine zz_fin.call rfl rfl (Nat.le_of_ble_eq_true rfl) (tm_fig _) ?_
      rintro v h ⟨⟨rfl, hd2⟩ | ⟨rfl, hd2⟩, rfl⟩
      · refine zz_fin.if rfl (fun cz => zc_no1 cz) (fun cz => ?_)
        refine zz_fin.steps (n := 1) (s' := (56, [some (.ref 540), some (.int (sp_hb b n p))], [.ref 540], aa_H (tm_at (zz_w g 540 12 (Int32.ofNat (T + 1))) p z))) rfl ?_
        refine zz_fin.call rfl rfl (Nat.le_of_ble_eq_true rfl) (tm_digits h1 hp) ?_
        rintro v h (⟨rfl, hr, g', rfl, hg⟩ | ⟨rfl, hr, rfl⟩)
        · refine zz_fin.if rfl (fun cz => absurd cz (by decide)) (fun cz => ?_)
          refine zz_fin.steps (n := 1) (s' := (63, [some (.ref 540), some (.int (sp_hb b n p))], [.int 0], aa_H (g'))) rfl ?_
          exact zz_fin.at (n := 1) rfl (.inl ⟨_, (if_neg hx).trans ((if_pos hd).trans (if_pos hr)), rfl, g', rfl, mb_bad.of hf1 hg⟩)
        · refine zz_fin.if rfl (fun cz => ?_) (fun cz => absurd rfl cz)
          refine zz_fin.steps (n := 3) (s' := (69, [some (.ref 540), some (.int (sp_hb b n p))], [.int ((sp_run b n 5 p 0).2), .ref 540], aa_H (tm_at (zz_w g 540 12 (Int32.ofNat (T + 1))) (sp_run b n 5 p 0).1 (sp_run b n 5 p 0).2))) rfl ?_
          refine zz_fin.call rfl rfl (Nat.le_of_ble_eq_true rfl) (mb_push k11 (by omega)) ?_
          rintro v h ⟨rfl, rfl⟩
          exact zz_fin.at (n := 2) rfl (.inr ⟨_, T + 1, [(sp_run b n 5 p 0).2], (if_neg hx).trans ((if_pos hd).trans (if_neg hr)), rfl, _, _, rfl, mb_st.tr (mb_st.set h11 hf1 k11 k12) (mb_st.one _ k12)⟩)
      · exact absurd hd2 (by rw [hd]; decide)
    · have c1 : Int32.ofNat T = 40 := Decidable.byContradiction fun z => c1 (decide_eq_true z)
      have c1 : T = 40 := by have e := zz_ofN (n := T) (by omega); rw [c1, show (40 : Int32).toInt = 40 from rfl] at e; omega
      have e0 : pd_thing b n p T = .inl p := if_pos (.inr c1)
      refine zz_fin.steps (n := 3) (s' := (34, [some (.ref 540), some (.int (sp_hb b n p))], [.int (Int32.ofNat p), .ref 540], aa_H (tm_at g p z))) rfl ?_
      refine zz_fin.call rfl rfl (Nat.le_of_ble_eq_true rfl) (tm_fails _) ?_
      rintro v h ⟨rfl, rfl⟩
      exact zz_fin.at (n := 1) rfl (.inl ⟨p, e0, rfl, _, rfl, mb_bad.of mb_fr.rf (tm_bad_of g p z p)⟩)
  · refine zz_fin.if rfl (fun cz => absurd cz (by decide)) (fun cz => ?_)
    refine zz_fin.steps (n := 1) (s' := (13, [some (.ref 540), some (.int (sp_hb b n p))], [.int (sp_hb b n p)], aa_H (tm_at g p z))) rfl ?_
    refine zz_fin.call rfl rfl (Nat.le_of_ble_eq_true rfl) (mb_name _) ?_
    rintro v h ⟨rfl, rfl⟩
    refine zz_fin.steps (n := 1) (s' := (17, [some (.ref 540), some (.int (sp_hb b n p))], [.int (-1), .int (sp_nm (sp_hb b n p))], aa_H (tm_at g p z))) rfl ?_
    refine zz_fin.ic rfl (fun c2 => ?_) (fun c2 => ?_)
    · have e0 : pd_thing b n p T = .inl p := if_pos (.inl ⟨hd, of_decide_eq_true c2⟩)
      refine zz_fin.steps (n := 3) (s' := (34, [some (.ref 540), some (.int (sp_hb b n p))], [.int (Int32.ofNat p), .ref 540], aa_H (tm_at g p z))) rfl ?_
      refine zz_fin.call rfl rfl (Nat.le_of_ble_eq_true rfl) (tm_fails _) ?_
      rintro v h ⟨rfl, rfl⟩
      exact zz_fin.at (n := 1) rfl (.inl ⟨p, e0, rfl, _, rfl, mb_bad.of mb_fr.rf (tm_bad_of g p z p)⟩)
    · have hm : ¬ sp_nm (sp_hb b n p) = -1 := fun z => c2 (decide_eq_true z)
      refine zz_fin.steps (n := 3) (s' := (26, [some (.ref 540), some (.int (sp_hb b n p))], [.int 40, .int ((tm_at g p z) 540 12)], aa_H (tm_at g p z))) rfl ?_
      rw [h0]
      refine zz_fin.ic rfl (fun c3 => ?_) (fun c3 => ?_)
      · have c3 : Int32.ofNat T ≠ 40 := of_decide_eq_true c3
        have hT4 : T < 40 := Decidable.byContradiction fun z => c3 (by rw [show T = 40 by omega]; rfl)
        have hx : ¬ ((sp_dg (sp_hb b n p) = false ∧ sp_nm (sp_hb b n p) = -1) ∨ T = 40) := fun z => z.elim (fun z => hm z.2) (fun z => by omega)
        refine zz_fin.steps (n := 5) (s' := (45, [some (.ref 540), some (.int (sp_hb b n p))], [.int (((tm_at g p z) 540 12) + 1), .ref 540], aa_H (tm_at g p z))) rfl ?_
        rw [h0, aa_succ]
        refine zz_fin.steps (n := 1) (s' := (48, [some (.ref 540), some (.int (sp_hb b n p))], [], aa_H (zz_w (tm_at g p z) 540 12 (Int32.ofNat (T + 1))))) rfl ?_
        rw [tm_commj _ _ _ (by decide) (by decide)]
        have h1 : tm_ok (zz_w g 540 12 (Int32.ofNat (T + 1))) b n := h
        have hf1 : mb_fr g (zz_w g 540 12 (Int32.ofNat (T + 1))) c := fun k j a e => aa_w_ne _ _ (by omega)
        have k11 : (zz_w g 540 12 (Int32.ofNat (T + 1))) 540 11 = Int32.ofNat c := (aa_w_ne _ _ (by omega)).trans h11
        have k12 : (zz_w g 540 12 (Int32.ofNat (T + 1))) 540 12 = Int32.ofNat (T + 1) := aa_w_at _ _ _ _
        refine zz_fin.steps (n := 1) (s' := (49, [some (.ref 540), some (.int (sp_hb b n p))], [.int (sp_hb b n p)], aa_H (tm_at (zz_w g 540 12 (Int32.ofNat (T + 1))) p z))) rfl ?_
        refine zz_fin.call rfl rfl (Nat.le_of_ble_eq_true rfl) (tm_fig _) ?_
        rintro v h ⟨⟨rfl, hd2⟩ | ⟨rfl, hd2⟩, rfl⟩
        · exact absurd hd2 (by rw [hd]; decide)
        · refine zz_fin.if rfl (fun cz => ?_) (fun cz => zc_no0 cz)
          refine zz_fin.steps (n := 3) (s' := (78, [some (.ref 540), some (.int (sp_hb b n p))], [.int (sp_hb b n p), .int 100000, .ref 540], aa_H (tm_at (zz_w g 540 12 (Int32.ofNat (T + 1))) p z))) rfl ?_
          refine zz_fin.call rfl rfl (Nat.le_of_ble_eq_true rfl) (mb_name _) ?_
          rintro v h ⟨rfl, rfl⟩
          refine zz_fin.steps (n := 1) (s' := (82, [some (.ref 540), some (.int (sp_hb b n p))], [.int (100000 + (sp_nm (sp_hb b n p))), .ref 540], aa_H (tm_at (zz_w g 540 12 (Int32.ofNat (T + 1))) p z))) rfl ?_
          refine zz_fin.call rfl rfl (Nat.le_of_ble_eq_true rfl) (mb_push k11 (by omega)) ?_
          rintro v h ⟨rfl, rfl⟩
          refine zz_fin.steps (n := 5) (s' := (92, [some (.ref 540), some (.int (sp_hb b n p))], [.int ((Int32.ofNat p) + 1), .ref 540], aa_H (tm_at (mb_one (zz_w g 540 12 (Int32.ofNat (T + 1))) c (100000 + sp_nm (sp_hb b n p))) p z))) rfl ?_
          rw [aa_succ]
          refine zz_fin.steps (n := 1) (s' := (95, [some (.ref 540), some (.int (sp_hb b n p))], [], aa_H (zz_w (tm_at (mb_one (zz_w g 540 12 (Int32.ofNat (T + 1))) c (100000 + sp_nm (sp_hb b n p))) p z) 540 5 (Int32.ofNat (p + 1))))) rfl ?_
          rw [tm_inc]
          exact zz_fin.at (n := 2) rfl (.inr ⟨p + 1, T + 1, [100000 + sp_nm (sp_hb b n p)], (if_neg hx).trans (if_neg (by rw [hd]; decide)), rfl, _, z, rfl, mb_st.tr (mb_st.set h11 hf1 k11 k12) (mb_st.one _ k12)⟩)
      · have c3 : Int32.ofNat T = 40 := Decidable.byContradiction fun z => c3 (decide_eq_true z)
        have c3 : T = 40 := by have e := zz_ofN (n := T) (by omega); rw [c3, show (40 : Int32).toInt = 40 from rfl] at e; omega
        have e0 : pd_thing b n p T = .inl p := if_pos (.inr c3)
        refine zz_fin.steps (n := 3) (s' := (34, [some (.ref 540), some (.int (sp_hb b n p))], [.int (Int32.ofNat p), .ref 540], aa_H (tm_at g p z))) rfl ?_
        refine zz_fin.call rfl rfl (Nat.le_of_ble_eq_true rfl) (tm_fails _) ?_
        rintro v h ⟨rfl, rfl⟩
        exact zz_fin.at (n := 1) rfl (.inl ⟨p, e0, rfl, _, rfl, mb_bad.of mb_fr.rf (tm_bad_of g p z p)⟩)
end
section
/-! BELLS: the model reads products, sums, tests -/
theorem mb_prodl {b : Nat → Int32} {n c : Nat} {g : aa_G} (h : tm_ok g b n) (hi : mb_does b n 186 (pd_thing b n)) : ∀ (k p T : Nat) (cs : List Int32) (g1 : aa_G) (z : Int32) (x : Option Value), n < k + p → p ≤ n → T ≤ 40 → c + cs.length + 1 ≤ 60 + 2 * T → mb_st g g1 c cs T → zz_fin none 185 (9, [some (.ref 540), x], [], aa_H (tm_at g1 p z)) (mb_res g c (pd_loop pd_o1 (pd_thing b n) b n k p T cs)) := by
  have hn := h.2.1
  intro k
  induction k with
  | zero => intro p T cs g1 z x hk hp; omega
  | succ k ih =>
    intro p T cs g1 z x hk hp hT hc hs
    have h1 := mb_ok h hs.1
    refine zz_fin.steps (n := 1) (s' := (10, [some (.ref 540), x], [.ref 540], aa_H (tm_at g1 p z))) rfl ?_
    refine zz_fin.call rfl rfl (Nat.le_of_ble_eq_true rfl) (tm_here h1 (by omega)) ?_
    rintro v h ⟨rfl, rfl⟩
    refine zz_fin.steps (n := 1) (s' := (15, [some (.ref 540), x], [.int 42, .int (sp_hb b n p)], aa_H (tm_at g1 p z))) rfl ?_
    refine zz_fin.ic rfl (fun c1 => ?_) (fun c1 => ?_)
    · have c0 : sp_hb b n p = 42 := of_decide_eq_true c1
      have hop : pd_o1 (sp_hb b n p) = true := by rw [c0]; decide
      have hpn : p < n := pd_in fun e => by rw [e] at hop; exact absurd hop (by decide)
      refine zz_fin.steps (n := 1) (s' := (28, [some (.ref 540), x], [.ref 540], aa_H (tm_at g1 p z))) rfl ?_
      refine zz_fin.call rfl rfl (Nat.le_of_ble_eq_true rfl) (tm_here h1 (by omega)) ?_
      rintro v h ⟨rfl, rfl⟩
      refine zz_fin.steps (n := 6) (s' := (39, [some (.ref 540), some (.int (sp_hb b n p))], [.int ((Int32.ofNat p) + 1), .ref 540], aa_H (tm_at g1 p z))) rfl ?_
      rw [aa_succ]
      refine zz_fin.steps (n := 1) (s' := (42, [some (.ref 540), some (.int (sp_hb b n p))], [], aa_H (zz_w (tm_at g1 p z) 540 5 (Int32.ofNat (p + 1))))) rfl ?_
      rw [tm_inc]
      refine zz_fin.steps (n := 1) (s' := (43, [some (.ref 540), some (.int (sp_hb b n p))], [.ref 540], aa_H (tm_at g1 (p + 1) z))) rfl ?_
      refine zz_fin.call rfl rfl (Nat.le_of_ble_eq_true rfl) (hi g1 (p + 1) T (c + cs.length) z h1 hpn hT (by omega) hs.2.1 hs.2.2.1) ?_
      rintro v h' (⟨f, e, rfl, g', rfl, hb⟩ | ⟨q, T2, ds, e, rfl, g2, z2, rfl, hs2⟩)
      · refine zz_fin.if rfl (fun cz => absurd cz (by decide)) (fun cz => ?_)
        refine zz_fin.steps (n := 1) (s' := (50, [some (.ref 540), some (.int (sp_hb b n p))], [.int 0], aa_H (g'))) rfl ?_
        exact zz_fin.at (n := 1) rfl (.inl ⟨f, pd_loop_inl hop e, rfl, g', rfl, mb_bad.tr hs.1 hb (by omega)⟩)
      · refine zz_fin.if rfl (fun cz => ?_) (fun cz => absurd rfl cz)
        obtain ⟨a1, a2, a3, a4, a5⟩ := pd_thing_gd b n (p + 1) T q T2 ds hpn hT e
        have hs3 := hs.tr hs2
        refine zz_fin.steps (n := 4) (s' := (56, [some (.ref 540), some (.int (sp_hb b n p))], [.int (200000 + (sp_hb b n p)), .ref 540], aa_H (tm_at g2 q z2))) rfl ?_
        refine zz_fin.call rfl rfl (Nat.le_of_ble_eq_true rfl) (mb_push (c := c + (cs ++ ds).length) hs3.2.1 (by rw [List.length_append]; omega)) ?_
        rintro v h' ⟨rfl, rfl⟩
        rw [pd_loop_inr hop e]
        refine zz_fin.steps (n := 1) (s' := (9, [some (.ref 540), some (.int (sp_hb b n p))], [], aa_H (tm_at (mb_one g2 (c + (cs ++ ds).length) (200000 + sp_hb b n p)) q z2))) rfl ?_
        exact ih q T2 _ _ z2 _ (by omega) a2 a4 (by rw [List.length_append, List.length_append, List.length_singleton]; omega) (hs3.tr (mb_st.one _ hs3.2.2.1))
    · refine zz_fin.steps (n := 1) (s' := (19, [some (.ref 540), x], [.ref 540], aa_H (tm_at g1 p z))) rfl ?_
      refine zz_fin.call rfl rfl (Nat.le_of_ble_eq_true rfl) (tm_here h1 (by omega)) ?_
      rintro v h ⟨rfl, rfl⟩
      refine zz_fin.steps (n := 1) (s' := (24, [some (.ref 540), x], [.int 47, .int (sp_hb b n p)], aa_H (tm_at g1 p z))) rfl ?_
      refine zz_fin.ic rfl (fun c2 => ?_) (fun c2 => ?_)
      · have n1 : ¬ sp_hb b n p = 42 := fun z => c1 (decide_eq_true z)
        have n2 : ¬ sp_hb b n p = 47 := of_decide_eq_true c2
        have hop : pd_o1 (sp_hb b n p) = false := by unfold pd_o1; rw [decide_eq_false n1, decide_eq_false n2, Bool.or_false]
        refine zz_fin.steps (n := 1) (s' := (63, [some (.ref 540), x], [.int 1], aa_H (tm_at g1 p z))) rfl ?_
        exact zz_fin.at (n := 1) rfl (.inr ⟨p, T, cs, pd_loop_no (k + 1) hop, rfl, g1, z, rfl, hs⟩)
      · have c0 : sp_hb b n p = 47 := Decidable.byContradiction fun z => c2 (decide_eq_true z)
        have hop : pd_o1 (sp_hb b n p) = true := by rw [c0]; decide
        have hpn : p < n := pd_in fun e => by rw [e] at hop; exact absurd hop (by decide)
        refine zz_fin.steps (n := 1) (s' := (28, [some (.ref 540), x], [.ref 540], aa_H (tm_at g1 p z))) rfl ?_
        refine zz_fin.call rfl rfl (Nat.le_of_ble_eq_true rfl) (tm_here h1 (by omega)) ?_
        rintro v h ⟨rfl, rfl⟩
        refine zz_fin.steps (n := 6) (s' := (39, [some (.ref 540), some (.int (sp_hb b n p))], [.int ((Int32.ofNat p) + 1), .ref 540], aa_H (tm_at g1 p z))) rfl ?_
        rw [aa_succ]
        refine zz_fin.steps (n := 1) (s' := (42, [some (.ref 540), some (.int (sp_hb b n p))], [], aa_H (zz_w (tm_at g1 p z) 540 5 (Int32.ofNat (p + 1))))) rfl ?_
        rw [tm_inc]
        refine zz_fin.steps (n := 1) (s' := (43, [some (.ref 540), some (.int (sp_hb b n p))], [.ref 540], aa_H (tm_at g1 (p + 1) z))) rfl ?_
        refine zz_fin.call rfl rfl (Nat.le_of_ble_eq_true rfl) (hi g1 (p + 1) T (c + cs.length) z h1 hpn hT (by omega) hs.2.1 hs.2.2.1) ?_
        rintro v h' (⟨f, e, rfl, g', rfl, hb⟩ | ⟨q, T2, ds, e, rfl, g2, z2, rfl, hs2⟩)
        · refine zz_fin.if rfl (fun cz => absurd cz (by decide)) (fun cz => ?_)
          refine zz_fin.steps (n := 1) (s' := (50, [some (.ref 540), some (.int (sp_hb b n p))], [.int 0], aa_H (g'))) rfl ?_
          exact zz_fin.at (n := 1) rfl (.inl ⟨f, pd_loop_inl hop e, rfl, g', rfl, mb_bad.tr hs.1 hb (by omega)⟩)
        · refine zz_fin.if rfl (fun cz => ?_) (fun cz => absurd rfl cz)
          obtain ⟨a1, a2, a3, a4, a5⟩ := pd_thing_gd b n (p + 1) T q T2 ds hpn hT e
          have hs3 := hs.tr hs2
          refine zz_fin.steps (n := 4) (s' := (56, [some (.ref 540), some (.int (sp_hb b n p))], [.int (200000 + (sp_hb b n p)), .ref 540], aa_H (tm_at g2 q z2))) rfl ?_
          refine zz_fin.call rfl rfl (Nat.le_of_ble_eq_true rfl) (mb_push (c := c + (cs ++ ds).length) hs3.2.1 (by rw [List.length_append]; omega)) ?_
          rintro v h' ⟨rfl, rfl⟩
          rw [pd_loop_inr hop e]
          refine zz_fin.steps (n := 1) (s' := (9, [some (.ref 540), some (.int (sp_hb b n p))], [], aa_H (tm_at (mb_one g2 (c + (cs ++ ds).length) (200000 + sp_hb b n p)) q z2))) rfl ?_
          exact ih q T2 _ _ z2 _ (by omega) a2 a4 (by rw [List.length_append, List.length_append, List.length_singleton]; omega) (hs3.tr (mb_st.one _ hs3.2.2.1))
theorem mb_prod {b : Nat → Int32} {n : Nat} (hi : mb_does b n 186 (pd_thing b n)) : mb_does b n 185 (pd_prod b n) := by
  intro g p T c z h hp hT hc h11 h12
  refine zz_fin.steps (n := 1) (s' := (1, [some (.ref 540), none], [.ref 540], aa_H (tm_at g p z))) rfl ?_
  refine zz_fin.call rfl rfl (Nat.le_of_ble_eq_true rfl) (hi g p T c z h hp hT hc h11 h12) ?_
  rintro v h' (⟨f, e, rfl, g', rfl, hb⟩ | ⟨q, T2, cs, e, rfl, g1, z1, rfl, hs⟩)
  · refine zz_fin.if rfl (fun cz => absurd cz (by decide)) (fun cz => ?_)
    exact zz_fin.at (n := 2) rfl (.inl ⟨f, pd_lvl_inl e, rfl, g', rfl, hb⟩)
  · refine zz_fin.if rfl (fun cz => ?_) (fun cz => absurd rfl cz)
    obtain ⟨a1, a2, a3, a4, a5⟩ := pd_thing_gd b n p T q T2 cs hp hT e
    rw [show pd_prod b n p T = _ from pd_lvl_inr e]
    exact mb_prodl h hi (n + 1) q T2 cs g1 z1 none (by omega) a2 a4 (by omega) hs
theorem mb_suml {b : Nat → Int32} {n c : Nat} {g : aa_G} (h : tm_ok g b n) (hi : mb_does b n 185 (pd_prod b n)) : ∀ (k p T : Nat) (cs : List Int32) (g1 : aa_G) (z : Int32) (x : Option Value), n < k + p → p ≤ n → T ≤ 40 → c + cs.length + 1 ≤ 60 + 2 * T → mb_st g g1 c cs T → zz_fin none 184 (9, [some (.ref 540), x], [], aa_H (tm_at g1 p z)) (mb_res g c (pd_loop pd_o2 (pd_prod b n) b n k p T cs)) := by
  have hn := h.2.1
  intro k
  induction k with
  | zero => intro p T cs g1 z x hk hp; omega
  | succ k ih =>
    intro p T cs g1 z x hk hp hT hc hs
    have h1 := mb_ok h hs.1
    refine zz_fin.steps (n := 1) (s' := (10, [some (.ref 540), x], [.ref 540], aa_H (tm_at g1 p z))) rfl ?_
    refine zz_fin.call rfl rfl (Nat.le_of_ble_eq_true rfl) (tm_here h1 (by omega)) ?_
    rintro v h ⟨rfl, rfl⟩
    refine zz_fin.steps (n := 1) (s' := (15, [some (.ref 540), x], [.int 43, .int (sp_hb b n p)], aa_H (tm_at g1 p z))) rfl ?_
    refine zz_fin.ic rfl (fun c1 => ?_) (fun c1 => ?_)
    · have c0 : sp_hb b n p = 43 := of_decide_eq_true c1
      have hop : pd_o2 (sp_hb b n p) = true := by rw [c0]; decide
      have hpn : p < n := pd_in fun e => by rw [e] at hop; exact absurd hop (by decide)
      refine zz_fin.steps (n := 1) (s' := (28, [some (.ref 540), x], [.ref 540], aa_H (tm_at g1 p z))) rfl ?_
      refine zz_fin.call rfl rfl (Nat.le_of_ble_eq_true rfl) (tm_here h1 (by omega)) ?_
      rintro v h ⟨rfl, rfl⟩
      refine zz_fin.steps (n := 6) (s' := (39, [some (.ref 540), some (.int (sp_hb b n p))], [.int ((Int32.ofNat p) + 1), .ref 540], aa_H (tm_at g1 p z))) rfl ?_
      rw [aa_succ]
      refine zz_fin.steps (n := 1) (s' := (42, [some (.ref 540), some (.int (sp_hb b n p))], [], aa_H (zz_w (tm_at g1 p z) 540 5 (Int32.ofNat (p + 1))))) rfl ?_
      rw [tm_inc]
      refine zz_fin.steps (n := 1) (s' := (43, [some (.ref 540), some (.int (sp_hb b n p))], [.ref 540], aa_H (tm_at g1 (p + 1) z))) rfl ?_
      refine zz_fin.call rfl rfl (Nat.le_of_ble_eq_true rfl) (hi g1 (p + 1) T (c + cs.length) z h1 hpn hT (by omega) hs.2.1 hs.2.2.1) ?_
      rintro v h' (⟨f, e, rfl, g', rfl, hb⟩ | ⟨q, T2, ds, e, rfl, g2, z2, rfl, hs2⟩)
      · refine zz_fin.if rfl (fun cz => absurd cz (by decide)) (fun cz => ?_)
        refine zz_fin.steps (n := 1) (s' := (50, [some (.ref 540), some (.int (sp_hb b n p))], [.int 0], aa_H (g'))) rfl ?_
        exact zz_fin.at (n := 1) rfl (.inl ⟨f, pd_loop_inl hop e, rfl, g', rfl, mb_bad.tr hs.1 hb (by omega)⟩)
      · refine zz_fin.if rfl (fun cz => ?_) (fun cz => absurd rfl cz)
        obtain ⟨a1, a2, a3, a4, a5⟩ := pd_prod_gd b n (p + 1) T q T2 ds hpn hT e
        have hs3 := hs.tr hs2
        refine zz_fin.steps (n := 4) (s' := (56, [some (.ref 540), some (.int (sp_hb b n p))], [.int (200000 + (sp_hb b n p)), .ref 540], aa_H (tm_at g2 q z2))) rfl ?_
        refine zz_fin.call rfl rfl (Nat.le_of_ble_eq_true rfl) (mb_push (c := c + (cs ++ ds).length) hs3.2.1 (by rw [List.length_append]; omega)) ?_
        rintro v h' ⟨rfl, rfl⟩
        rw [pd_loop_inr hop e]
        refine zz_fin.steps (n := 1) (s' := (9, [some (.ref 540), some (.int (sp_hb b n p))], [], aa_H (tm_at (mb_one g2 (c + (cs ++ ds).length) (200000 + sp_hb b n p)) q z2))) rfl ?_
        exact ih q T2 _ _ z2 _ (by omega) a2 a4 (by rw [List.length_append, List.length_append, List.length_singleton]; omega) (hs3.tr (mb_st.one _ hs3.2.2.1))
    · refine zz_fin.steps (n := 1) (s' := (19, [some (.ref 540), x], [.ref 540], aa_H (tm_at g1 p z))) rfl ?_
      refine zz_fin.call rfl rfl (Nat.le_of_ble_eq_true rfl) (tm_here h1 (by omega)) ?_
      rintro v h ⟨rfl, rfl⟩
      refine zz_fin.steps (n := 1) (s' := (24, [some (.ref 540), x], [.int 45, .int (sp_hb b n p)], aa_H (tm_at g1 p z))) rfl ?_
      refine zz_fin.ic rfl (fun c2 => ?_) (fun c2 => ?_)
      · have n1 : ¬ sp_hb b n p = 43 := fun z => c1 (decide_eq_true z)
        have n2 : ¬ sp_hb b n p = 45 := of_decide_eq_true c2
        have hop : pd_o2 (sp_hb b n p) = false := by unfold pd_o2; rw [decide_eq_false n1, decide_eq_false n2, Bool.or_false]
        refine zz_fin.steps (n := 1) (s' := (63, [some (.ref 540), x], [.int 1], aa_H (tm_at g1 p z))) rfl ?_
        exact zz_fin.at (n := 1) rfl (.inr ⟨p, T, cs, pd_loop_no (k + 1) hop, rfl, g1, z, rfl, hs⟩)
      · have c0 : sp_hb b n p = 45 := Decidable.byContradiction fun z => c2 (decide_eq_true z)
        have hop : pd_o2 (sp_hb b n p) = true := by rw [c0]; decide
        have hpn : p < n := pd_in fun e => by rw [e] at hop; exact absurd hop (by decide)
        refine zz_fin.steps (n := 1) (s' := (28, [some (.ref 540), x], [.ref 540], aa_H (tm_at g1 p z))) rfl ?_
        refine zz_fin.call rfl rfl (Nat.le_of_ble_eq_true rfl) (tm_here h1 (by omega)) ?_
        rintro v h ⟨rfl, rfl⟩
        refine zz_fin.steps (n := 6) (s' := (39, [some (.ref 540), some (.int (sp_hb b n p))], [.int ((Int32.ofNat p) + 1), .ref 540], aa_H (tm_at g1 p z))) rfl ?_
        rw [aa_succ]
        refine zz_fin.steps (n := 1) (s' := (42, [some (.ref 540), some (.int (sp_hb b n p))], [], aa_H (zz_w (tm_at g1 p z) 540 5 (Int32.ofNat (p + 1))))) rfl ?_
        rw [tm_inc]
        refine zz_fin.steps (n := 1) (s' := (43, [some (.ref 540), some (.int (sp_hb b n p))], [.ref 540], aa_H (tm_at g1 (p + 1) z))) rfl ?_
        refine zz_fin.call rfl rfl (Nat.le_of_ble_eq_true rfl) (hi g1 (p + 1) T (c + cs.length) z h1 hpn hT (by omega) hs.2.1 hs.2.2.1) ?_
        rintro v h' (⟨f, e, rfl, g', rfl, hb⟩ | ⟨q, T2, ds, e, rfl, g2, z2, rfl, hs2⟩)
        · refine zz_fin.if rfl (fun cz => absurd cz (by decide)) (fun cz => ?_)
          refine zz_fin.steps (n := 1) (s' := (50, [some (.ref 540), some (.int (sp_hb b n p))], [.int 0], aa_H (g'))) rfl ?_
          exact zz_fin.at (n := 1) rfl (.inl ⟨f, pd_loop_inl hop e, rfl, g', rfl, mb_bad.tr hs.1 hb (by omega)⟩)
        · refine zz_fin.if rfl (fun cz => ?_) (fun cz => absurd rfl cz)
          obtain ⟨a1, a2, a3, a4, a5⟩ := pd_prod_gd b n (p + 1) T q T2 ds hpn hT e
          have hs3 := hs.tr hs2
          refine zz_fin.steps (n := 4) (s' := (56, [some (.ref 540), some (.int (sp_hb b n p))], [.int (200000 + (sp_hb b n p)), .ref 540], aa_H (tm_at g2 q z2))) rfl ?_
          refine zz_fin.call rfl rfl (Nat.le_of_ble_eq_true rfl) (mb_push (c := c + (cs ++ ds).length) hs3.2.1 (by rw [List.length_append]; omega)) ?_
          rintro v h' ⟨rfl, rfl⟩
          rw [pd_loop_inr hop e]
          refine zz_fin.steps (n := 1) (s' := (9, [some (.ref 540), some (.int (sp_hb b n p))], [], aa_H (tm_at (mb_one g2 (c + (cs ++ ds).length) (200000 + sp_hb b n p)) q z2))) rfl ?_
          exact ih q T2 _ _ z2 _ (by omega) a2 a4 (by rw [List.length_append, List.length_append, List.length_singleton]; omega) (hs3.tr (mb_st.one _ hs3.2.2.1))
theorem mb_sum {b : Nat → Int32} {n : Nat} (hi : mb_does b n 185 (pd_prod b n)) : mb_does b n 184 (pd_sum b n) := by
  intro g p T c z h hp hT hc h11 h12
  refine zz_fin.steps (n := 1) (s' := (1, [some (.ref 540), none], [.ref 540], aa_H (tm_at g p z))) rfl ?_
  refine zz_fin.call rfl rfl (Nat.le_of_ble_eq_true rfl) (hi g p T c z h hp hT hc h11 h12) ?_
  rintro v h' (⟨f, e, rfl, g', rfl, hb⟩ | ⟨q, T2, cs, e, rfl, g1, z1, rfl, hs⟩)
  · refine zz_fin.if rfl (fun cz => absurd cz (by decide)) (fun cz => ?_)
    exact zz_fin.at (n := 2) rfl (.inl ⟨f, pd_lvl_inl e, rfl, g', rfl, hb⟩)
  · refine zz_fin.if rfl (fun cz => ?_) (fun cz => absurd rfl cz)
    obtain ⟨a1, a2, a3, a4, a5⟩ := pd_prod_gd b n p T q T2 cs hp hT e
    rw [show pd_sum b n p T = _ from pd_lvl_inr e]
    exact mb_suml h hi (n + 1) q T2 cs g1 z1 none (by omega) a2 a4 (by omega) hs
theorem mb_test {b : Nat → Int32} {n : Nat} (hi : mb_does b n 184 (pd_sum b n)) : mb_does b n 183 (pd_test b n) := by
  intro g p T c z h hp hT hc h11 h12
  have hn := h.2.1
  refine zz_fin.steps (n := 1) (s' := (1, [some (.ref 540), none], [.ref 540], aa_H (tm_at g p z))) rfl ?_
  refine zz_fin.call rfl rfl (Nat.le_of_ble_eq_true rfl) (hi g p T c z h hp hT hc h11 h12) ?_
  rintro v h' (⟨f, e, rfl, g', rfl, hb⟩ | ⟨q, T2, cs, e, rfl, g1, z1, rfl, hs⟩)
  · refine zz_fin.if rfl (fun cz => absurd cz (by decide)) (fun cz => ?_)
    exact zz_fin.at (n := 2) rfl (.inl ⟨f, pd_test_inl e, rfl, g', rfl, hb⟩)
  · refine zz_fin.if rfl (fun cz => ?_) (fun cz => absurd rfl cz)
    obtain ⟨a1, a2, a3, a4, a5⟩ := pd_sum_gd b n p T q T2 cs hp hT e
    rw [pd_test_inr e]
    have h1 := mb_ok h hs.1
    refine zz_fin.steps (n := 1) (s' := (10, [some (.ref 540), none], [.ref 540], aa_H (tm_at g1 q z1))) rfl ?_
    refine zz_fin.call rfl rfl (Nat.le_of_ble_eq_true rfl) (tm_here h1 (by omega)) ?_
    rintro v h ⟨rfl, rfl⟩
    refine zz_fin.steps (n := 3) (s' := (17, [some (.ref 540), some (.int (sp_hb b n q))], [.int 60, .int (sp_hb b n q)], aa_H (tm_at g1 q z1))) rfl ?_
    refine zz_fin.ic rfl (fun c1 => ?_) (fun c1 => ?_)
    · have c0 : sp_hb b n q = 60 := of_decide_eq_true c1
      have hop : pd_ot (sp_hb b n q) = true := by rw [c0]; decide
      have hpn : q < n := pd_in fun e => by rw [e] at hop; exact absurd hop (by decide)
      refine zz_fin.steps (n := 5) (s' := (48, [some (.ref 540), some (.int (sp_hb b n q))], [.int ((Int32.ofNat q) + 1), .ref 540], aa_H (tm_at g1 q z1))) rfl ?_
      rw [aa_succ]
      refine zz_fin.steps (n := 1) (s' := (51, [some (.ref 540), some (.int (sp_hb b n q))], [], aa_H (zz_w (tm_at g1 q z1) 540 5 (Int32.ofNat (q + 1))))) rfl ?_
      rw [tm_inc]
      refine zz_fin.steps (n := 1) (s' := (52, [some (.ref 540), some (.int (sp_hb b n q))], [.ref 540], aa_H (tm_at g1 (q + 1) z1))) rfl ?_
      refine zz_fin.call rfl rfl (Nat.le_of_ble_eq_true rfl) (hi g1 (q + 1) T2 (c + cs.length) z1 h1 hpn a4 (by omega) hs.2.1 hs.2.2.1) ?_
      rintro v h' (⟨f, e2, rfl, g', rfl, hb⟩ | ⟨q2, T3, ds, e2, rfl, g2, z2, rfl, hs2⟩)
      · refine zz_fin.if rfl (fun cz => absurd cz (by decide)) (fun cz => ?_)
        exact zz_fin.at (n := 2) rfl (.inl ⟨f, pd_test2_inl hop e2, rfl, g', rfl, mb_bad.tr hs.1 hb (by omega)⟩)
      · refine zz_fin.if rfl (fun cz => ?_) (fun cz => absurd rfl cz)
        obtain ⟨d1, d2, d3, d4, d5⟩ := pd_sum_gd b n (q + 1) T2 q2 T3 ds hpn a4 e2
        have hs3 := hs.tr hs2
        refine zz_fin.steps (n := 4) (s' := (65, [some (.ref 540), some (.int (sp_hb b n q))], [.int (200000 + (sp_hb b n q)), .ref 540], aa_H (tm_at g2 q2 z2))) rfl ?_
        refine zz_fin.call rfl rfl (Nat.le_of_ble_eq_true rfl) (mb_push (c := c + (cs ++ ds).length) hs3.2.1 (by rw [List.length_append]; omega)) ?_
        rintro v h' ⟨rfl, rfl⟩
        exact zz_fin.at (n := 2) rfl (.inr ⟨q2, T3, cs ++ ds ++ [200000 + sp_hb b n q], pd_test2_inr hop e2, rfl, _, z2, rfl, hs3.tr (mb_st.one _ hs3.2.2.1)⟩)
    · refine zz_fin.steps (n := 2) (s' := (23, [some (.ref 540), some (.int (sp_hb b n q))], [.int 62, .int (sp_hb b n q)], aa_H (tm_at g1 q z1))) rfl ?_
      refine zz_fin.ic rfl (fun c2 => ?_) (fun c2 => ?_)
      · have c0 : sp_hb b n q = 62 := of_decide_eq_true c2
        have hop : pd_ot (sp_hb b n q) = true := by rw [c0]; decide
        have hpn : q < n := pd_in fun e => by rw [e] at hop; exact absurd hop (by decide)
        refine zz_fin.steps (n := 5) (s' := (48, [some (.ref 540), some (.int (sp_hb b n q))], [.int ((Int32.ofNat q) + 1), .ref 540], aa_H (tm_at g1 q z1))) rfl ?_
        rw [aa_succ]
        refine zz_fin.steps (n := 1) (s' := (51, [some (.ref 540), some (.int (sp_hb b n q))], [], aa_H (zz_w (tm_at g1 q z1) 540 5 (Int32.ofNat (q + 1))))) rfl ?_
        rw [tm_inc]
        refine zz_fin.steps (n := 1) (s' := (52, [some (.ref 540), some (.int (sp_hb b n q))], [.ref 540], aa_H (tm_at g1 (q + 1) z1))) rfl ?_
        refine zz_fin.call rfl rfl (Nat.le_of_ble_eq_true rfl) (hi g1 (q + 1) T2 (c + cs.length) z1 h1 hpn a4 (by omega) hs.2.1 hs.2.2.1) ?_
        rintro v h' (⟨f, e2, rfl, g', rfl, hb⟩ | ⟨q2, T3, ds, e2, rfl, g2, z2, rfl, hs2⟩)
        · refine zz_fin.if rfl (fun cz => absurd cz (by decide)) (fun cz => ?_)
          exact zz_fin.at (n := 2) rfl (.inl ⟨f, pd_test2_inl hop e2, rfl, g', rfl, mb_bad.tr hs.1 hb (by omega)⟩)
        · refine zz_fin.if rfl (fun cz => ?_) (fun cz => absurd rfl cz)
          obtain ⟨d1, d2, d3, d4, d5⟩ := pd_sum_gd b n (q + 1) T2 q2 T3 ds hpn a4 e2
          have hs3 := hs.tr hs2
          refine zz_fin.steps (n := 4) (s' := (65, [some (.ref 540), some (.int (sp_hb b n q))], [.int (200000 + (sp_hb b n q)), .ref 540], aa_H (tm_at g2 q2 z2))) rfl ?_
          refine zz_fin.call rfl rfl (Nat.le_of_ble_eq_true rfl) (mb_push (c := c + (cs ++ ds).length) hs3.2.1 (by rw [List.length_append]; omega)) ?_
          rintro v h' ⟨rfl, rfl⟩
          exact zz_fin.at (n := 2) rfl (.inr ⟨q2, T3, cs ++ ds ++ [200000 + sp_hb b n q], pd_test2_inr hop e2, rfl, _, z2, rfl, hs3.tr (mb_st.one _ hs3.2.2.1)⟩)
      · refine zz_fin.steps (n := 2) (s' := (29, [some (.ref 540), some (.int (sp_hb b n q))], [.int 61, .int (sp_hb b n q)], aa_H (tm_at g1 q z1))) rfl ?_
        refine zz_fin.ic rfl (fun c3 => ?_) (fun c3 => ?_)
        · have c0 : sp_hb b n q = 61 := of_decide_eq_true c3
          have hop : pd_ot (sp_hb b n q) = true := by rw [c0]; decide
          have hpn : q < n := pd_in fun e => by rw [e] at hop; exact absurd hop (by decide)
          refine zz_fin.steps (n := 5) (s' := (48, [some (.ref 540), some (.int (sp_hb b n q))], [.int ((Int32.ofNat q) + 1), .ref 540], aa_H (tm_at g1 q z1))) rfl ?_
          rw [aa_succ]
          refine zz_fin.steps (n := 1) (s' := (51, [some (.ref 540), some (.int (sp_hb b n q))], [], aa_H (zz_w (tm_at g1 q z1) 540 5 (Int32.ofNat (q + 1))))) rfl ?_
          rw [tm_inc]
          refine zz_fin.steps (n := 1) (s' := (52, [some (.ref 540), some (.int (sp_hb b n q))], [.ref 540], aa_H (tm_at g1 (q + 1) z1))) rfl ?_
          refine zz_fin.call rfl rfl (Nat.le_of_ble_eq_true rfl) (hi g1 (q + 1) T2 (c + cs.length) z1 h1 hpn a4 (by omega) hs.2.1 hs.2.2.1) ?_
          rintro v h' (⟨f, e2, rfl, g', rfl, hb⟩ | ⟨q2, T3, ds, e2, rfl, g2, z2, rfl, hs2⟩)
          · refine zz_fin.if rfl (fun cz => absurd cz (by decide)) (fun cz => ?_)
            exact zz_fin.at (n := 2) rfl (.inl ⟨f, pd_test2_inl hop e2, rfl, g', rfl, mb_bad.tr hs.1 hb (by omega)⟩)
          · refine zz_fin.if rfl (fun cz => ?_) (fun cz => absurd rfl cz)
            obtain ⟨d1, d2, d3, d4, d5⟩ := pd_sum_gd b n (q + 1) T2 q2 T3 ds hpn a4 e2
            have hs3 := hs.tr hs2
            refine zz_fin.steps (n := 4) (s' := (65, [some (.ref 540), some (.int (sp_hb b n q))], [.int (200000 + (sp_hb b n q)), .ref 540], aa_H (tm_at g2 q2 z2))) rfl ?_
            refine zz_fin.call rfl rfl (Nat.le_of_ble_eq_true rfl) (mb_push (c := c + (cs ++ ds).length) hs3.2.1 (by rw [List.length_append]; omega)) ?_
            rintro v h' ⟨rfl, rfl⟩
            exact zz_fin.at (n := 2) rfl (.inr ⟨q2, T3, cs ++ ds ++ [200000 + sp_hb b n q], pd_test2_inr hop e2, rfl, _, z2, rfl, hs3.tr (mb_st.one _ hs3.2.2.1)⟩)
        · have n1 : ¬ sp_hb b n q = 60 := fun z => c1 (decide_eq_true z)
          have n2 : ¬ sp_hb b n q = 62 := fun z => c2 (decide_eq_true z)
          have n3 : ¬ sp_hb b n q = 61 := fun z => c3 (decide_eq_true z)
          have hop : pd_ot (sp_hb b n q) = false := by unfold pd_ot; rw [decide_eq_false n1, decide_eq_false n2, decide_eq_false n3, Bool.or_false, Bool.or_false]
          refine zz_fin.steps (n := 3) (s' := (37, [some (.ref 540), some (.int (sp_hb b n q))], [.int (Int32.ofNat q), .ref 540], aa_H (tm_at g1 q z1))) rfl ?_
          refine zz_fin.call rfl rfl (Nat.le_of_ble_eq_true rfl) (tm_fails _) ?_
          rintro v h' ⟨rfl, rfl⟩
          exact zz_fin.at (n := 1) rfl (.inl ⟨q, pd_test2_no hop, rfl, _, rfl, mb_bad.of hs.1 (tm_bad_of g1 q z1 q)⟩)
theorem mb_bothl {b : Nat → Int32} {n c : Nat} {g : aa_G} (h : tm_ok g b n) (hi : mb_does b n 183 (pd_test b n)) : ∀ (k p T : Nat) (cs : List Int32) (g1 : aa_G) (z : Int32) , n < k + p → p ≤ n → T ≤ 40 → c + cs.length + 1 ≤ 60 + 2 * T → mb_st g g1 c cs T → zz_fin none 182 (9, [some (.ref 540)], [], aa_H (tm_at g1 p z)) (mb_res g c (pd_loop pd_o3 (pd_test b n) b n k p T cs)) := by
  have hn := h.2.1
  intro k
  induction k with
  | zero => intro p T cs g1 z  hk hp; omega
  | succ k ih =>
    intro p T cs g1 z  hk hp hT hc hs
    have h1 := mb_ok h hs.1
    refine zz_fin.steps (n := 1) (s' := (10, [some (.ref 540)], [.ref 540], aa_H (tm_at g1 p z))) rfl ?_
    refine zz_fin.call rfl rfl (Nat.le_of_ble_eq_true rfl) (tm_here h1 (by omega)) ?_
    rintro v h ⟨rfl, rfl⟩
    refine zz_fin.steps (n := 1) (s' := (15, [some (.ref 540)], [.int 38, .int (sp_hb b n p)], aa_H (tm_at g1 p z))) rfl ?_
    refine zz_fin.ic rfl (fun c1 => ?_) (fun c1 => ?_)
    · have n1 : ¬ sp_hb b n p = 38 := of_decide_eq_true c1
      have hop : pd_o3 (sp_hb b n p) = false := decide_eq_false n1
      refine zz_fin.steps (n := 1) (s' := (47, [some (.ref 540)], [.int 1], aa_H (tm_at g1 p z))) rfl ?_
      exact zz_fin.at (n := 1) rfl (.inr ⟨p, T, cs, pd_loop_no (k + 1) hop, rfl, g1, z, rfl, hs⟩)
    · have c0 : sp_hb b n p = 38 := Decidable.byContradiction fun z => c1 (decide_eq_true z)
      have hop : pd_o3 (sp_hb b n p) = true := by rw [c0]; decide
      have hpn : p < n := pd_in fun e => by rw [e] at hop; exact absurd hop (by decide)
      refine zz_fin.steps (n := 5) (s' := (25, [some (.ref 540)], [.int ((Int32.ofNat p) + 1), .ref 540], aa_H (tm_at g1 p z))) rfl ?_
      rw [aa_succ]
      refine zz_fin.steps (n := 1) (s' := (28, [some (.ref 540)], [], aa_H (zz_w (tm_at g1 p z) 540 5 (Int32.ofNat (p + 1))))) rfl ?_
      rw [tm_inc]
      refine zz_fin.steps (n := 1) (s' := (29, [some (.ref 540)], [.ref 540], aa_H (tm_at g1 (p + 1) z))) rfl ?_
      refine zz_fin.call rfl rfl (Nat.le_of_ble_eq_true rfl) (hi g1 (p + 1) T (c + cs.length) z h1 hpn hT (by omega) hs.2.1 hs.2.2.1) ?_
      rintro v h' (⟨f, e, rfl, g', rfl, hb⟩ | ⟨q, T2, ds, e, rfl, g2, z2, rfl, hs2⟩)
      · refine zz_fin.if rfl (fun cz => absurd cz (by decide)) (fun cz => ?_)
        refine zz_fin.steps (n := 1) (s' := (36, [some (.ref 540)], [.int 0], aa_H (g'))) rfl ?_
        exact zz_fin.at (n := 1) rfl (.inl ⟨f, pd_loop_inl hop e, rfl, g', rfl, mb_bad.tr hs.1 hb (by omega)⟩)
      · refine zz_fin.if rfl (fun cz => ?_) (fun cz => absurd rfl cz)
        obtain ⟨a1, a2, a3, a4, a5⟩ := pd_test_gd b n (p + 1) T q T2 ds hpn hT e
        have hs3 := hs.tr hs2
        refine zz_fin.steps (n := 2) (s' := (40, [some (.ref 540)], [.int 200038, .ref 540], aa_H (tm_at g2 q z2))) rfl ?_
        rw [show (200038 : Int32) = 200000 + sp_hb b n p from (show (200038 : Int32) = 200000 + 38 by decide).trans (congrArg (fun x => 200000 + x) c0.symm)]
        refine zz_fin.call rfl rfl (Nat.le_of_ble_eq_true rfl) (mb_push (c := c + (cs ++ ds).length) hs3.2.1 (by rw [List.length_append]; omega)) ?_
        rintro v h' ⟨rfl, rfl⟩
        rw [pd_loop_inr hop e]
        refine zz_fin.steps (n := 1) (s' := (9, [some (.ref 540)], [], aa_H (tm_at (mb_one g2 (c + (cs ++ ds).length) (200000 + sp_hb b n p)) q z2))) rfl ?_
        exact ih q T2 _ _ z2 (by omega) a2 a4 (by rw [List.length_append, List.length_append, List.length_singleton]; omega) (hs3.tr (mb_st.one _ hs3.2.2.1))
theorem mb_both {b : Nat → Int32} {n : Nat} (hi : mb_does b n 183 (pd_test b n)) : mb_does b n 182 (pd_both b n) := by
  intro g p T c z h hp hT hc h11 h12
  refine zz_fin.steps (n := 1) (s' := (1, [some (.ref 540)], [.ref 540], aa_H (tm_at g p z))) rfl ?_
  refine zz_fin.call rfl rfl (Nat.le_of_ble_eq_true rfl) (hi g p T c z h hp hT hc h11 h12) ?_
  rintro v h' (⟨f, e, rfl, g', rfl, hb⟩ | ⟨q, T2, cs, e, rfl, g1, z1, rfl, hs⟩)
  · refine zz_fin.if rfl (fun cz => absurd cz (by decide)) (fun cz => ?_)
    exact zz_fin.at (n := 2) rfl (.inl ⟨f, pd_lvl_inl e, rfl, g', rfl, hb⟩)
  · refine zz_fin.if rfl (fun cz => ?_) (fun cz => absurd rfl cz)
    obtain ⟨a1, a2, a3, a4, a5⟩ := pd_test_gd b n p T q T2 cs hp hT e
    rw [show pd_both b n p T = _ from pd_lvl_inr e]
    exact mb_bothl h hi (n + 1) q T2 cs g1 z1 (by omega) a2 a4 (by omega) hs
theorem mb_condl {b : Nat → Int32} {n c : Nat} {g : aa_G} (h : tm_ok g b n) (hi : mb_does b n 182 (pd_both b n)) : ∀ (k p T : Nat) (cs : List Int32) (g1 : aa_G) (z : Int32) , n < k + p → p ≤ n → T ≤ 40 → c + cs.length + 1 ≤ 60 + 2 * T → mb_st g g1 c cs T → zz_fin none 181 (9, [some (.ref 540)], [], aa_H (tm_at g1 p z)) (mb_res g c (pd_loop pd_o4 (pd_both b n) b n k p T cs)) := by
  have hn := h.2.1
  intro k
  induction k with
  | zero => intro p T cs g1 z  hk hp; omega
  | succ k ih =>
    intro p T cs g1 z  hk hp hT hc hs
    have h1 := mb_ok h hs.1
    refine zz_fin.steps (n := 1) (s' := (10, [some (.ref 540)], [.ref 540], aa_H (tm_at g1 p z))) rfl ?_
    refine zz_fin.call rfl rfl (Nat.le_of_ble_eq_true rfl) (tm_here h1 (by omega)) ?_
    rintro v h ⟨rfl, rfl⟩
    refine zz_fin.steps (n := 1) (s' := (15, [some (.ref 540)], [.int 124, .int (sp_hb b n p)], aa_H (tm_at g1 p z))) rfl ?_
    refine zz_fin.ic rfl (fun c1 => ?_) (fun c1 => ?_)
    · have n1 : ¬ sp_hb b n p = 124 := of_decide_eq_true c1
      have hop : pd_o4 (sp_hb b n p) = false := decide_eq_false n1
      refine zz_fin.steps (n := 1) (s' := (47, [some (.ref 540)], [.int 1], aa_H (tm_at g1 p z))) rfl ?_
      exact zz_fin.at (n := 1) rfl (.inr ⟨p, T, cs, pd_loop_no (k + 1) hop, rfl, g1, z, rfl, hs⟩)
    · have c0 : sp_hb b n p = 124 := Decidable.byContradiction fun z => c1 (decide_eq_true z)
      have hop : pd_o4 (sp_hb b n p) = true := by rw [c0]; decide
      have hpn : p < n := pd_in fun e => by rw [e] at hop; exact absurd hop (by decide)
      refine zz_fin.steps (n := 5) (s' := (25, [some (.ref 540)], [.int ((Int32.ofNat p) + 1), .ref 540], aa_H (tm_at g1 p z))) rfl ?_
      rw [aa_succ]
      refine zz_fin.steps (n := 1) (s' := (28, [some (.ref 540)], [], aa_H (zz_w (tm_at g1 p z) 540 5 (Int32.ofNat (p + 1))))) rfl ?_
      rw [tm_inc]
      refine zz_fin.steps (n := 1) (s' := (29, [some (.ref 540)], [.ref 540], aa_H (tm_at g1 (p + 1) z))) rfl ?_
      refine zz_fin.call rfl rfl (Nat.le_of_ble_eq_true rfl) (hi g1 (p + 1) T (c + cs.length) z h1 hpn hT (by omega) hs.2.1 hs.2.2.1) ?_
      rintro v h' (⟨f, e, rfl, g', rfl, hb⟩ | ⟨q, T2, ds, e, rfl, g2, z2, rfl, hs2⟩)
      · refine zz_fin.if rfl (fun cz => absurd cz (by decide)) (fun cz => ?_)
        refine zz_fin.steps (n := 1) (s' := (36, [some (.ref 540)], [.int 0], aa_H (g'))) rfl ?_
        exact zz_fin.at (n := 1) rfl (.inl ⟨f, pd_loop_inl hop e, rfl, g', rfl, mb_bad.tr hs.1 hb (by omega)⟩)
      · refine zz_fin.if rfl (fun cz => ?_) (fun cz => absurd rfl cz)
        obtain ⟨a1, a2, a3, a4, a5⟩ := pd_both_gd b n (p + 1) T q T2 ds hpn hT e
        have hs3 := hs.tr hs2
        refine zz_fin.steps (n := 2) (s' := (40, [some (.ref 540)], [.int 200124, .ref 540], aa_H (tm_at g2 q z2))) rfl ?_
        rw [show (200124 : Int32) = 200000 + sp_hb b n p from (show (200124 : Int32) = 200000 + 124 by decide).trans (congrArg (fun x => 200000 + x) c0.symm)]
        refine zz_fin.call rfl rfl (Nat.le_of_ble_eq_true rfl) (mb_push (c := c + (cs ++ ds).length) hs3.2.1 (by rw [List.length_append]; omega)) ?_
        rintro v h' ⟨rfl, rfl⟩
        rw [pd_loop_inr hop e]
        refine zz_fin.steps (n := 1) (s' := (9, [some (.ref 540)], [], aa_H (tm_at (mb_one g2 (c + (cs ++ ds).length) (200000 + sp_hb b n p)) q z2))) rfl ?_
        exact ih q T2 _ _ z2 (by omega) a2 a4 (by rw [List.length_append, List.length_append, List.length_singleton]; omega) (hs3.tr (mb_st.one _ hs3.2.2.1))
theorem mb_cond {b : Nat → Int32} {n : Nat} (hi : mb_does b n 182 (pd_both b n)) : mb_does b n 181 (pd_cond b n) := by
  intro g p T c z h hp hT hc h11 h12
  refine zz_fin.steps (n := 1) (s' := (1, [some (.ref 540)], [.ref 540], aa_H (tm_at g p z))) rfl ?_
  refine zz_fin.call rfl rfl (Nat.le_of_ble_eq_true rfl) (hi g p T c z h hp hT hc h11 h12) ?_
  rintro v h' (⟨f, e, rfl, g', rfl, hb⟩ | ⟨q, T2, cs, e, rfl, g1, z1, rfl, hs⟩)
  · refine zz_fin.if rfl (fun cz => absurd cz (by decide)) (fun cz => ?_)
    exact zz_fin.at (n := 2) rfl (.inl ⟨f, pd_lvl_inl e, rfl, g', rfl, hb⟩)
  · refine zz_fin.if rfl (fun cz => ?_) (fun cz => absurd rfl cz)
    obtain ⟨a1, a2, a3, a4, a5⟩ := pd_both_gd b n p T q T2 cs hp hT e
    rw [show pd_cond b n p T = _ from pd_lvl_inr e]
    exact mb_condl h hi (n + 1) q T2 cs g1 z1 (by omega) a2 a4 (by omega) hs
theorem mb_cond_all (b : Nat → Int32) (n : Nat) : mb_does b n 181 (pd_cond b n) := mb_cond (mb_both (mb_test (mb_sum (mb_prod (mb_thing b n)))))
end
section
/-! BELLS: a COND as the class reads it; the two ways are one -/
/-- the sign ahead, the kind, the value -/
abbrev fl_T : Type := Int32 × (Int32 × Int32)
abbrev fl_R : Type := Nat ⊕ (Nat × List fl_T)
def fl_thing (b : Nat → Int32) (n p T : Nat) : Nat ⊕ (Nat × (Int32 × Int32)) :=
  if (sp_dg (sp_hb b n p) = false ∧ sp_nm (sp_hb b n p) = -1) ∨ T = 40 then .inl p else
  if sp_dg (sp_hb b n p) = true then (match sp_num b n false 0 99999 p with
    | .inl f => .inl f
    | .inr (q, z) => .inr (q, (0, z)))
  else .inr (p + 1, (sp_hb b n p, 0))
def fl_j (c : Int32) : Bool := pd_o3 c || pd_o4 c
def fl_h (c : Int32) : Bool := pd_o1 c || pd_o2 c
/-- behind a THING -/
def fl_aft (go : Nat → Nat → Int32 → Bool → List fl_T → fl_R) (b : Nat → Int32) (n q T : Nat) (td : Bool) (l : List fl_T) : fl_R :=
  if pd_ot (sp_hb b n q) = false ∧ fl_j (sp_hb b n q) = false ∧ fl_h (sp_hb b n q) = false then (if td = true then .inr (q, l) else .inl q)
  else if (pd_ot (sp_hb b n q) = true ∧ td = true) ∨ (fl_j (sp_hb b n q) = true ∧ td = false) then .inl q
  else go (q + 1) T (sp_hb b n q) (pd_ot (sp_hb b n q) || (td && !fl_j (sp_hb b n q))) l
def fl_cond (b : Nat → Int32) (n : Nat) : Nat → Nat → Nat → Int32 → Bool → List fl_T → fl_R
  | 0, p, _, _, _, _ => .inl p
  | k + 1, p, T, s, td, l => match fl_thing b n p T with
    | .inl f => .inl f
    | .inr (q, kv) => fl_aft (fl_cond b n k) b n q (T + 1) td (l ++ [(s, kv)])
theorem sp_run_rng (b : Nat → Int32) (n : Nat) : ∀ (k p : Nat) (z : Int32) (M : Nat), 0 ≤ z.toInt → z.toInt < M → M * 10 ^ k ≤ 100000 → 0 ≤ (sp_run b n k p z).2.toInt ∧ (sp_run b n k p z).2.toInt < 100000 := by
  intro k
  induction k with
  | zero =>
    intro p z M h1 h2 h3
    have h3 : M * 1 ≤ 100000 := h3
    exact ⟨h1, show z.toInt < 100000 by omega⟩
  | succ k ih =>
    intro p z M h1 h2 h3
    have hM : M * 10 * 10 ^ k ≤ 100000 := by
      rw [Nat.mul_assoc, Nat.mul_comm 10, ← Nat.pow_succ]
      exact h3
    have hp : 0 < 10 ^ k := Nat.pow_pos (by decide)
    have hM2 : M * 10 ≤ 100000 := Nat.le_trans (Nat.le_mul_of_pos_right _ hp) hM
    rw [sp_run]
    split
    · rename_i hd
      unfold sp_dg at hd
      rw [Bool.and_eq_true, decide_eq_true_eq, decide_eq_true_eq] at hd
      have d1 : (48 : Int32).toInt ≤ (sp_hb b n p).toInt := aa_le32.mp hd.1
      have d2 : (sp_hb b n p).toInt ≤ (57 : Int32).toInt := aa_le32.mp hd.2
      have e48 : (48 : Int32).toInt = 48 := rfl
      rw [e48] at d1
      rw [show (57 : Int32).toInt = 57 from rfl] at d2
      have e1 : (z * 10).toInt = z.toInt * 10 := by
        rw [Int32.toInt_mul, show (10 : Int32).toInt = 10 from rfl, aa_bm (by omega) (by omega)]
      have e2 : (z * 10 + sp_hb b n p).toInt = z.toInt * 10 + (sp_hb b n p).toInt := by
        rw [aa_add32 (by rw [e1]; omega) (by rw [e1]; omega), e1]
      have e3 : (z * 10 + sp_hb b n p - 48).toInt = z.toInt * 10 + (sp_hb b n p).toInt - 48 := by
        rw [aa_sub32 (by rw [e2, e48]; omega) (by rw [e2, e48]; omega), e2, e48]
      exact ih (p + 1) _ (M * 10) (by rw [e3]; omega) (by rw [e3]; omega) hM
    · exact ⟨h1, show z.toInt < 100000 by omega⟩
theorem sp_num_any (b : Nat → Int32) (n p : Nat) : sp_num b n false 0 99999 p = if (sp_run b n 5 p 0).1 = p ∨ sp_dg (sp_hb b n (sp_run b n 5 p 0).1) = true then .inl (sp_run b n 5 p 0).1 else .inr ((sp_run b n 5 p 0).1, (sp_run b n 5 p 0).2) := by
  have hr := sp_run_rng b n 5 p 0 1 (by decide) (by decide) (by decide)
  have e : ¬ ((sp_run b n 5 p 0).2 < 0 ∨ 99999 < (sp_run b n 5 p 0).2) := fun z => by
    rcases z with z | z
    · have z : (sp_run b n 5 p 0).2.toInt < (0 : Int32).toInt := aa_lt32.mp z
      rw [show (0 : Int32).toInt = 0 from rfl] at z
      omega
    · have z : (99999 : Int32).toInt < (sp_run b n 5 p 0).2.toInt := aa_lt32.mp z
      rw [show (99999 : Int32).toInt = 99999 from rfl] at z
      omega
  show (if (sp_run b n 5 p 0).1 = p ∨ sp_dg (sp_hb b n (sp_run b n 5 p 0).1) = true then (.inl (sp_run b n 5 p 0).1 : Nat ⊕ (Nat × Int32)) else if (sp_run b n 5 p 0).2 < 0 ∨ 99999 < (sp_run b n 5 p 0).2 then .inl p else .inr ((sp_run b n 5 p 0).1, (sp_run b n 5 p 0).2)) = _
  rw [if_neg e]
/-- a THING, both ways -/
theorem fl_pd {b : Nat → Int32} {n p T : Nat} : (∀ f, pd_thing b n p T = .inl f → fl_thing b n p T = .inl f) ∧ (∀ q T2 cs, pd_thing b n p T = .inr (q, (T2, cs)) → T2 = T + 1 ∧ ∃ kv, fl_thing b n p T = .inr (q, kv)) := by
  by_cases h0 : (sp_dg (sp_hb b n p) = false ∧ sp_nm (sp_hb b n p) = -1) ∨ T = 40
  · have e1 : pd_thing b n p T = .inl p := if_pos h0
    have e2 : fl_thing b n p T = .inl p := if_pos h0
    rw [e1, e2]
    exact ⟨fun f h => by cases h; rfl, fun q T2 cs h => by cases h⟩
  · by_cases hd : sp_dg (sp_hb b n p) = true
    · by_cases hr : (sp_run b n 5 p 0).1 = p ∨ sp_dg (sp_hb b n (sp_run b n 5 p 0).1) = true
      · have e1 : pd_thing b n p T = .inl (sp_run b n 5 p 0).1 := (if_neg h0).trans ((if_pos hd).trans (if_pos hr))
        have e2 : fl_thing b n p T = .inl (sp_run b n 5 p 0).1 := (if_neg h0).trans ((if_pos hd).trans (by simp only [sp_num_any, if_pos hr]))
        rw [e1, e2]
        exact ⟨fun f h => by cases h; rfl, fun q T2 cs h => by cases h⟩
      · have e1 : pd_thing b n p T = .inr ((sp_run b n 5 p 0).1, (T + 1, [(sp_run b n 5 p 0).2])) := (if_neg h0).trans ((if_pos hd).trans (if_neg hr))
        have e2 : fl_thing b n p T = .inr ((sp_run b n 5 p 0).1, (0, (sp_run b n 5 p 0).2)) := (if_neg h0).trans ((if_pos hd).trans (by simp only [sp_num_any, if_neg hr]))
        rw [e1, e2]
        exact ⟨fun f h => (by cases h), fun q T2 cs h => by cases h; exact ⟨rfl, _, rfl⟩⟩
    · have e1 : pd_thing b n p T = .inr (p + 1, (T + 1, [100000 + sp_nm (sp_hb b n p)])) := (if_neg h0).trans (if_neg hd)
      have e2 : fl_thing b n p T = .inr (p + 1, (sp_hb b n p, 0)) := (if_neg h0).trans (if_neg hd)
      rw [e1, e2]
      exact ⟨fun f h => (by cases h), fun q T2 cs h => by cases h; exact ⟨rfl, _, rfl⟩⟩
/-- the class's way goes through a piece -/
def lv (b : Nat → Int32) (n : Nat) (D : Bool → Bool → Prop) (f : Nat → Nat → pd_R) (stop : Int32 → Bool) : Prop := ∀ p T, p ≤ n → T ≤ 40 → ∀ td te, D td te → (∀ x, f p T = .inl x → ∀ k s l, n < k + p → fl_cond b n k p T s td l = .inl x) ∧ (∀ q T2 cs, f p T = .inr (q, (T2, cs)) → stop (sp_hb b n q) = true ∧ ∀ k s l, n < k + p → ∃ k2 l2, n ≤ k2 + q ∧ l2.length + T = l.length + T2 ∧ fl_cond b n k p T s td l = fl_aft (fl_cond b n k2) b n q T2 te l2)
theorem lv_thing (b : Nat → Int32) (n : Nat) : lv b n (fun x y => x = y) (pd_thing b n) (fun _ => true) := by
  intro p T hp hT td te hD
  subst hD
  refine ⟨fun x h k s l hk => ?_, fun q T2 cs h => ⟨rfl, fun k s l hk => ?_⟩⟩
  · cases k with
    | zero => omega
    | succ k => rw [fl_cond, fl_pd.1 x h]
  · cases k with
    | zero => omega
    | succ k =>
      have hg := (pd_thing_gd b n p T q T2 cs hp hT h).1
      obtain ⟨rfl, kv, e⟩ := fl_pd.2 q T2 cs h
      have e1 : (l ++ [(s, kv)]).length = l.length + 1 := List.length_append
      refine ⟨k, l ++ [(s, kv)], by omega, by omega, ?_⟩
      rw [fl_cond, e]
/-- a sign between pieces -/
def lv_ops (b : Nat → Int32) (n : Nat) (D : Bool → Bool → Prop) (ops : Int32 → Bool) : Prop := ∀ q td te, ops (sp_hb b n q) = true → D td te → ∃ tf, D tf te ∧ ∀ (go : Nat → Nat → Int32 → Bool → List fl_T → fl_R) T l, fl_aft go b n q T te l = go (q + 1) T (sp_hb b n q) tf l
theorem lv_loop {b : Nat → Int32} {n : Nat} {D : Bool → Bool → Prop} {inner : Nat → Nat → pd_R} {stop ops : Int32 → Bool} (hi : lv b n D inner stop) (ho : lv_ops b n D ops) (hm : ops (-1) = false) (hg : pd_gd n inner) {td te : Bool} (hD : D td te) : ∀ (kk p T : Nat) (cs : List Int32), n < kk + p → p ≤ n → T ≤ 40 → stop (sp_hb b n p) = true → (∀ x, pd_loop ops inner b n kk p T cs = .inl x → ∀ k l, n ≤ k + p → fl_aft (fl_cond b n k) b n p T te l = .inl x) ∧ (∀ q T2 ds, pd_loop ops inner b n kk p T cs = .inr (q, (T2, ds)) → (stop (sp_hb b n q) && !ops (sp_hb b n q)) = true ∧ ∀ k l, n ≤ k + p → ∃ k2 l2, n ≤ k2 + q ∧ l2.length + T = l.length + T2 ∧ fl_aft (fl_cond b n k) b n p T te l = fl_aft (fl_cond b n k2) b n q T2 te l2) := by
  intro kk
  induction kk with
  | zero => intro p T cs h1 h2; omega
  | succ kk ih =>
    intro p T cs h1 h2 h3 h4
    cases hop : ops (sp_hb b n p) with
    | false =>
      rw [pd_loop_no (kk + 1) hop]
      refine ⟨fun x h => (by cases h), fun q T2 ds h => ?_⟩
      cases h
      refine ⟨by rw [h4, hop]; rfl, fun k l hk => ⟨k, l, hk, rfl, rfl⟩⟩
    | true =>
      have hpn : p < n := pd_in fun e => by
        rw [e, hm] at hop
        cases hop
      obtain ⟨tf, hf, hgo⟩ := ho p td te hop hD
      obtain ⟨i1, i2⟩ := hi (p + 1) T hpn h3 tf te hf
      cases hin : inner (p + 1) T with
      | inl f =>
        rw [pd_loop_inl hop hin]
        refine ⟨fun x h k l hk => ?_, fun q T2 ds h => by cases h⟩
        cases h
        rw [hgo]
        exact i1 f hin k _ l (by omega)
      | inr r =>
        obtain ⟨q1, T1, es⟩ := r
        rw [pd_loop_inr hop hin]
        obtain ⟨a1, a2, a3, a4, a5⟩ := hg (p + 1) T q1 T1 es hpn h3 hin
        obtain ⟨j1, j2⟩ := i2 q1 T1 es hin
        obtain ⟨m1, m2⟩ := ih q1 T1 (cs ++ es ++ [200000 + sp_hb b n p]) (by omega) a2 a4 j1
        refine ⟨fun x h k l hk => ?_, fun q T2 ds h => ⟨(m2 q T2 ds h).1, fun k l hk => ?_⟩⟩
        · obtain ⟨k2, l2, e1, -, e2⟩ := j2 k (sp_hb b n p) l (by omega)
          rw [hgo, e2]
          exact m1 x h k2 l2 e1
        · obtain ⟨k2, l2, e1, f1, e2⟩ := j2 k (sp_hb b n p) l (by omega)
          obtain ⟨k3, l3, e3, f3, e4⟩ := (m2 q T2 ds h).2 k2 l2 e1
          exact ⟨k3, l3, e3, by omega, by rw [hgo, e2, e4]⟩
theorem lv_lvl {b : Nat → Int32} {n : Nat} {D : Bool → Bool → Prop} {inner : Nat → Nat → pd_R} {stop ops : Int32 → Bool} (hi : lv b n D inner stop) (ho : lv_ops b n D ops) (hm : ops (-1) = false) (hg : pd_gd n inner) : lv b n D (pd_lvl ops inner b n) (fun c => stop c && !ops c) := by
  intro p T hp hT td te hD
  obtain ⟨i1, i2⟩ := hi p T hp hT td te hD
  cases hin : inner p T with
  | inl f =>
    rw [pd_lvl_inl hin]
    refine ⟨fun x h k s l hk => ?_, fun q T2 cs h => by cases h⟩
    cases h
    exact i1 f hin k s l hk
  | inr r =>
    obtain ⟨q1, T1, es⟩ := r
    rw [pd_lvl_inr hin]
    obtain ⟨a1, a2, a3, a4, a5⟩ := hg p T q1 T1 es hp hT hin
    obtain ⟨j1, j2⟩ := i2 q1 T1 es hin
    obtain ⟨m1, m2⟩ := lv_loop hi ho hm hg hD (n + 1) q1 T1 es (by omega) a2 a4 j1
    refine ⟨fun x h k s l hk => ?_, fun q T2 ds h => ⟨(m2 q T2 ds h).1, fun k s l hk => ?_⟩⟩
    · obtain ⟨k2, l2, e1, -, e2⟩ := j2 k s l hk
      rw [e2]
      exact m1 x h k2 l2 e1
    · obtain ⟨k2, l2, e1, f1, e2⟩ := j2 k s l hk
      obtain ⟨k3, l3, e3, f3, e4⟩ := (m2 q T2 ds h).2 k2 l2 e1
      exact ⟨k3, l3, e3, by omega, by rw [e2, e4]⟩
/-- signs of products and sums -/
theorem lv_ops12 {b : Nat → Int32} {n : Nat} {ops : Int32 → Bool} (h : ∀ c, ops c = true → pd_ot c = false ∧ fl_j c = false ∧ fl_h c = true) : lv_ops b n (fun x y => x = y) ops := by
  intro q td te hop hD
  obtain ⟨h1, h2, h3⟩ := h _ hop
  refine ⟨te, rfl, fun go T l => ?_⟩
  unfold fl_aft
  rw [h1, h2, h3, if_neg (fun e => by cases e.2.2), if_neg (fun e => e.elim (fun e => by cases e.1) (fun e => by cases e.1))]
  cases te <;> rfl
/-- signs of tests -/
theorem lv_ops34 {b : Nat → Int32} {n : Nat} {ops : Int32 → Bool} (h : ∀ c, ops c = true → pd_ot c = false ∧ fl_j c = true) : lv_ops b n (fun x y => x = false ∧ y = true) ops := by
  intro q td te hop hD
  obtain ⟨h1, h2⟩ := h _ hop
  obtain ⟨-, rfl⟩ := hD
  refine ⟨false, ⟨rfl, rfl⟩, fun go T l => ?_⟩
  unfold fl_aft
  rw [h1, h2, if_neg (fun e => by cases e.2.1), if_neg (fun e => e.elim (fun e => by cases e.1) (fun e => by cases e.2))]
  rfl
theorem pd_o1_c {c : Int32} (h : pd_o1 c = true) : c = 42 ∨ c = 47 := by
  unfold pd_o1 at h
  rw [Bool.or_eq_true, decide_eq_true_eq, decide_eq_true_eq] at h
  exact h
theorem pd_o2_c {c : Int32} (h : pd_o2 c = true) : c = 43 ∨ c = 45 := by
  unfold pd_o2 at h
  rw [Bool.or_eq_true, decide_eq_true_eq, decide_eq_true_eq] at h
  exact h
theorem pd_ot_c {c : Int32} (h : pd_ot c = true) : c = 60 ∨ c = 62 ∨ c = 61 := by
  unfold pd_ot at h
  rw [Bool.or_eq_true, Bool.or_eq_true, decide_eq_true_eq, decide_eq_true_eq, decide_eq_true_eq] at h
  exact h
theorem fl_at1 : ∀ c, pd_o1 c = true → pd_ot c = false ∧ fl_j c = false ∧ fl_h c = true := fun c h => by
  rcases pd_o1_c h with rfl | rfl <;> decide
theorem fl_at2 : ∀ c, pd_o2 c = true → pd_ot c = false ∧ fl_j c = false ∧ fl_h c = true := fun c h => by
  rcases pd_o2_c h with rfl | rfl <;> decide
theorem fl_at3 : ∀ c, pd_o3 c = true → pd_ot c = false ∧ fl_j c = true := fun c h => by
  have h : c = 38 := of_decide_eq_true h
  subst h
  decide
theorem fl_at4 : ∀ c, pd_o4 c = true → pd_ot c = false ∧ fl_j c = true := fun c h => by
  have h : c = 124 := of_decide_eq_true h
  subst h
  decide
theorem fl_att : ∀ c, pd_ot c = true → fl_j c = false := fun c h => by
  rcases pd_ot_c h with rfl | rfl | rfl <;> decide
theorem lv_prod (b : Nat → Int32) (n : Nat) : lv b n (fun x y => x = y) (pd_prod b n) (fun c => (fun _ => true) c && !pd_o1 c) := lv_lvl (lv_thing b n) (lv_ops12 fl_at1) (by decide) (pd_thing_gd b n)
theorem lv_sum (b : Nat → Int32) (n : Nat) : lv b n (fun x y => x = y) (pd_sum b n) (fun c => (true && !pd_o1 c) && !pd_o2 c) := lv_lvl (lv_prod b n) (lv_ops12 fl_at2) (by decide) (pd_prod_gd b n)
theorem lv_test (b : Nat → Int32) (n : Nat) : lv b n (fun x y => x = false ∧ y = true) (pd_test b n) (fun c => (true && !pd_o1 c) && !pd_o2 c) := by
  intro p T hp hT td te hD
  obtain ⟨rfl, rfl⟩ := hD
  obtain ⟨i1, i2⟩ := lv_sum b n p T hp hT false false rfl
  cases hin : pd_sum b n p T with
  | inl f =>
    rw [pd_test_inl hin]
    refine ⟨fun x h k s l hk => ?_, fun q T2 cs h => by cases h⟩
    cases h
    exact i1 f hin k s l hk
  | inr r =>
    obtain ⟨q1, T1, es⟩ := r
    rw [pd_test_inr hin]
    obtain ⟨a1, a2, a3, a4, a5⟩ := pd_sum_gd b n p T q1 T1 es hp hT hin
    obtain ⟨j1, j2⟩ := i2 q1 T1 es hin
    cases hop : pd_ot (sp_hb b n q1) with
    | false =>
      rw [pd_test2_no hop]
      refine ⟨fun x h k s l hk => ?_, fun q T2 cs h => by cases h⟩
      cases h
      obtain ⟨k2, l2, e1, -, e2⟩ := j2 k s l hk
      rw [e2]
      unfold fl_aft
      rw [hop]
      have hh : fl_h (sp_hb b n q1) = false := by
        unfold fl_h
        have j1 : ((true && !pd_o1 (sp_hb b n q1)) && !pd_o2 (sp_hb b n q1)) = true := j1
        cases h1 : pd_o1 (sp_hb b n q1) with
        | true =>
          rw [h1] at j1
          cases j1
        | false =>
          cases h2 : pd_o2 (sp_hb b n q1) with
          | true =>
            rw [h1, h2] at j1
            cases j1
          | false => rfl
      cases hj : fl_j (sp_hb b n q1) with
      | false => rw [if_pos ⟨rfl, rfl, hh⟩, if_neg (by decide)]
      | true => rw [if_neg (fun e => by cases e.2.1), if_pos (.inr ⟨rfl, rfl⟩)]
    | true =>
      have hpn : q1 < n := pd_in fun e => by
        rw [e] at hop
        exact absurd hop (by decide)
      obtain ⟨u1, u2⟩ := lv_sum b n (q1 + 1) T1 hpn a4 true true rfl
      have hgo : ∀ k l, fl_aft (fl_cond b n k) b n q1 T1 false l = fl_cond b n k (q1 + 1) T1 (sp_hb b n q1) true l := fun k l => by
        unfold fl_aft
        rw [hop, fl_att _ hop, if_neg (fun e => by cases e.1), if_neg (fun e => e.elim (fun e => by cases e.2) (fun e => by cases e.1))]
        rfl
      cases hin2 : pd_sum b n (q1 + 1) T1 with
      | inl f =>
        rw [pd_test2_inl hop hin2]
        refine ⟨fun x h k s l hk => ?_, fun q T2 cs h => by cases h⟩
        cases h
        obtain ⟨k2, l2, e1, -, e2⟩ := j2 k s l hk
        rw [e2, hgo]
        exact u1 f hin2 k2 _ l2 (by omega)
      | inr r =>
        obtain ⟨q3, T3, fs⟩ := r
        rw [pd_test2_inr hop hin2]
        refine ⟨fun x h => (by cases h), fun q T2 cs h => ?_⟩
        cases h
        obtain ⟨v1, v2⟩ := u2 q3 T3 fs hin2
        refine ⟨v1, fun k s l hk => ?_⟩
        obtain ⟨k2, l2, e1, f1, e2⟩ := j2 k s l hk
        obtain ⟨k3, l3, e3, f3, e4⟩ := v2 k2 (sp_hb b n q1) l2 (by omega)
        exact ⟨k3, l3, e3, by omega, by rw [e2, hgo, e4]⟩
theorem lv_both (b : Nat → Int32) (n : Nat) : lv b n (fun x y => x = false ∧ y = true) (pd_both b n) (fun c => ((true && !pd_o1 c) && !pd_o2 c) && !pd_o3 c) := lv_lvl (lv_test b n) (lv_ops34 fl_at3) (by decide) (pd_test_gd b n)
theorem lv_cond (b : Nat → Int32) (n : Nat) : lv b n (fun x y => x = false ∧ y = true) (pd_cond b n) (fun c => (((true && !pd_o1 c) && !pd_o2 c) && !pd_o3 c) && !pd_o4 c) := lv_lvl (lv_both b n) (lv_ops34 fl_at4) (by decide) (pd_both_gd b n)
/-- COND, both ways -/
theorem fl_cond_pd {b : Nat → Int32} {n p T k : Nat} {s : Int32} {l : List fl_T} (hp : p ≤ n) (hT : T ≤ 40) (hk : n < k + p) : (∀ x, pd_cond b n p T = .inl x → fl_cond b n k p T s false l = .inl x) ∧ (∀ q T2 cs, pd_cond b n p T = .inr (q, (T2, cs)) → (pd_ot (sp_hb b n q) = true → fl_cond b n k p T s false l = .inl q) ∧ (pd_ot (sp_hb b n q) = false → ∃ l2, l2.length + T = l.length + T2 ∧ fl_cond b n k p T s false l = .inr (q, l2))) := by
  obtain ⟨i1, i2⟩ := lv_cond b n p T hp hT false true ⟨rfl, rfl⟩
  refine ⟨fun x h => i1 x h k s l hk, fun q T2 cs h => ?_⟩
  obtain ⟨j1, j2⟩ := i2 q T2 cs h
  obtain ⟨k2, l2, e1, f1, e2⟩ := j2 k s l hk
  rw [e2]
  refine ⟨fun ho => ?_, fun ho => ⟨l2, f1, ?_⟩⟩
  · unfold fl_aft
    rw [ho, if_neg (fun e => by cases e.1), if_pos (.inl ⟨rfl, rfl⟩)]
  · have j1 : ((((true && !pd_o1 (sp_hb b n q)) && !pd_o2 (sp_hb b n q)) && !pd_o3 (sp_hb b n q)) && !pd_o4 (sp_hb b n q)) = true := j1
    have hjh : fl_j (sp_hb b n q) = false ∧ fl_h (sp_hb b n q) = false := by
      unfold fl_j fl_h
      revert j1
      cases pd_o1 (sp_hb b n q) <;> cases pd_o2 (sp_hb b n q) <;> cases pd_o3 (sp_hb b n q) <;> cases pd_o4 (sp_hb b n q) <;> decide
    unfold fl_aft
    rw [ho, hjh.1, hjh.2, if_pos ⟨rfl, rfl, rfl⟩, if_pos rfl]
end
section
/-! BELLS: the class reads a COND -/
theorem tc_at_ne (g : aa_G) (b : Nat → Int32) (n p : Nat) {k j : Nat} (h : ¬ (k = 454 ∧ (j = 1 ∨ j = 2))) : tc_at g b n p k j = g k j := by
  unfold tc_at
  rw [aa_w_ne _ _ (by omega), aa_w_ne _ _ (by omega)]
theorem cb_pred {N : Nat} (h : 1 ≤ N) (h2 : N ≤ 1000) : Int32.ofNat N - 1 = Int32.ofNat (N - 1) := by
  have e1 : (1 : Int32).toInt = 1 := rfl
  have e2 : (Int32.ofNat N).toInt = (N : Int) := zz_ofN (by omega)
  refine aa_eqN ?_ (by omega)
  rw [aa_sub32 (by rw [e1, e2]; omega) (by rw [e1, e2]; omega), e1, e2]
  omega
/-- a THING more -/
def cb_one (g : aa_G) (N T d : Nat) (s k v : Int32) : aa_G := zz_w (zz_w (zz_w (zz_w (zz_w g 43 T s) 44 T k) 45 T v) 36 1 (Int32.ofNat (T + 1))) 42 (N - 1) (Int32.ofNat (d + 1))
theorem cb_one_at {g : aa_G} {b : Nat → Int32} {n p N T d : Nat} {s k v : Int32} : cb_one (tc_at g b n p) N T d s k v = tc_at (cb_one g N T d s k v) b n p := by
  unfold cb_one
  rw [tc_comm _ _ _ _ (by decide), tc_comm _ _ _ _ (by decide), tc_comm _ _ _ _ (by decide), tc_comm _ _ _ _ (by decide), tc_comm _ _ _ _ (by decide)]
theorem cb_add {g : aa_G} {N T d : Nat} {s k v : Int32} (h0 : g 36 0 = Int32.ofNat N) (hN : 1 ≤ N ∧ N ≤ 8) (h1 : g 36 1 = Int32.ofNat T) (hT : T < 40) (hd : g 42 (N - 1) = Int32.ofNat d) : zz_fin none 48 (0, zz_in [.ref 36, .int s, .int k, .int v] (zz_nl 48), [], aa_H g) (fun r h => r = none ∧ h = aa_H (cb_one g N T d s k v)) := by
  refine zz_fin.steps (n := 3) (s' := (6, [some (.ref 36), some (.int s), some (.int k), some (.int v)], [.int 40, .int (g 36 1)], aa_H g)) rfl ?_
  rw [h1]
  refine zz_fin.ic rfl (fun c1 => ?_) (fun c1 => ?_)
  · have c1 : (40 : Int32).toInt ≤ (Int32.ofNat T).toInt := aa_le32.mp (of_decide_eq_true c1)
    rw [zz_ofN (by omega), show (40 : Int32).toInt = 40 from rfl] at c1
    omega
  · refine zz_fin.steps (n := 4) (s' := (16, [some (.ref 36), some (.int s), some (.int k), some (.int v)], [.int 8, .int 1, .int (g 36 0)], aa_H g)) rfl ?_
    rw [h0]
    have hin : (1 : Int32) ≤ Int32.ofNat N ∧ Int32.ofNat N ≤ 8 := ⟨aa_le32.mpr (by rw [zz_ofN (by omega), show (1 : Int32).toInt = 1 from rfl]; omega), aa_le32.mpr (by rw [zz_ofN (by omega), show (8 : Int32).toInt = 8 from rfl]; omega)⟩
    refine zz_fin.call rfl rfl (Nat.le_of_ble_eq_true rfl) (zz_within1 (.inl rfl) hin) ?_
    rintro v h ⟨rfl, rfl⟩
    refine zz_fin.if rfl (fun cz => ?_) (fun cz => absurd rfl cz)
    refine zz_fin.steps (n := 5) (s' := (32, [some (.ref 36), some (.int s), some (.int k), some (.int v)], [.int s, .int (g 36 1), .ref 43], aa_H g)) rfl ?_
    rw [show (g) 36 1 = Int32.ofNat T from h1]
    refine zz_fin.ias (n := 40) rfl rfl (zz_inbN (by omega) (by omega)) ?_
    rw [zz_toN (by omega)]
    refine zz_fin.steps (n := 5) (s' := (42, [some (.ref 36), some (.int s), some (.int k), some (.int v)], [.int k, .int ((zz_w g 43 T s) 36 1), .ref 44], aa_H (zz_w g 43 T s))) rfl ?_
    rw [show (zz_w g 43 T s) 36 1 = Int32.ofNat T from (aa_w_ne _ _ (by omega)).trans h1]
    refine zz_fin.ias (n := 40) rfl rfl (zz_inbN (by omega) (by omega)) ?_
    rw [zz_toN (by omega)]
    refine zz_fin.steps (n := 5) (s' := (52, [some (.ref 36), some (.int s), some (.int k), some (.int v)], [.int v, .int ((zz_w (zz_w g 43 T s) 44 T k) 36 1), .ref 45], aa_H (zz_w (zz_w g 43 T s) 44 T k))) rfl ?_
    rw [show (zz_w (zz_w g 43 T s) 44 T k) 36 1 = Int32.ofNat T from (aa_w_ne _ _ (by omega)).trans ((aa_w_ne _ _ (by omega)).trans h1)]
    refine zz_fin.ias (n := 40) rfl rfl (zz_inbN (by omega) (by omega)) ?_
    rw [zz_toN (by omega)]
    refine zz_fin.steps (n := 5) (s' := (60, [some (.ref 36), some (.int s), some (.int k), some (.int v)], [.int (((zz_w (zz_w (zz_w g 43 T s) 44 T k) 45 T v) 36 1) + 1), .ref 36], aa_H (zz_w (zz_w (zz_w g 43 T s) 44 T k) 45 T v))) rfl ?_
    rw [show (zz_w (zz_w (zz_w g 43 T s) 44 T k) 45 T v) 36 1 = Int32.ofNat T from (aa_w_ne _ _ (by omega)).trans ((aa_w_ne _ _ (by omega)).trans ((aa_w_ne _ _ (by omega)).trans h1)), aa_succ]
    refine zz_fin.steps (n := 7) (s' := (73, [some (.ref 36), some (.int s), some (.int k), some (.int v)], [.int (((zz_w (zz_w (zz_w (zz_w g 43 T s) 44 T k) 45 T v) 36 1 (Int32.ofNat (T + 1))) 36 0) - 1), .ref 42], aa_H (zz_w (zz_w (zz_w (zz_w g 43 T s) 44 T k) 45 T v) 36 1 (Int32.ofNat (T + 1))))) rfl ?_
    rw [show (zz_w (zz_w (zz_w (zz_w g 43 T s) 44 T k) 45 T v) 36 1 (Int32.ofNat (T + 1))) 36 0 = Int32.ofNat N from (aa_w_ne _ _ (by omega)).trans ((aa_w_ne _ _ (by omega)).trans ((aa_w_ne _ _ (by omega)).trans ((aa_w_ne _ _ (by omega)).trans h0))), cb_pred hN.1 (by omega)]
    refine zz_fin.steps (n := 1) (s' := (74, [some (.ref 36), some (.int s), some (.int k), some (.int v)], [.int (Int32.ofNat (N - 1)), .ref 42, .int (Int32.ofNat (N - 1)), .ref 42], aa_H (zz_w (zz_w (zz_w (zz_w g 43 T s) 44 T k) 45 T v) 36 1 (Int32.ofNat (T + 1))))) rfl ?_
    refine zz_fin.ial (n := 8) rfl rfl (zz_inbN (by omega) (by omega)) ?_
    rw [zz_toN (by omega)]
    refine zz_fin.steps (n := 2) (s' := (77, [some (.ref 36), some (.int s), some (.int k), some (.int v)], [.int (((zz_w (zz_w (zz_w (zz_w g 43 T s) 44 T k) 45 T v) 36 1 (Int32.ofNat (T + 1))) 42 (N - 1)) + 1), .int (Int32.ofNat (N - 1)), .ref 42], aa_H (zz_w (zz_w (zz_w (zz_w g 43 T s) 44 T k) 45 T v) 36 1 (Int32.ofNat (T + 1))))) rfl ?_
    rw [show (zz_w (zz_w (zz_w (zz_w g 43 T s) 44 T k) 45 T v) 36 1 (Int32.ofNat (T + 1))) 42 (N - 1) = Int32.ofNat d from (aa_w_ne _ _ (by omega)).trans ((aa_w_ne _ _ (by omega)).trans ((aa_w_ne _ _ (by omega)).trans ((aa_w_ne _ _ (by omega)).trans hd))), aa_succ]
    refine zz_fin.ias (n := 8) rfl rfl (zz_inbN (by omega) (by omega)) ?_
    rw [zz_toN (by omega)]
    exact zz_fin.at (n := 1) rfl ⟨rfl, rfl⟩
/-- the tape's number aside, the same -/
def cb_eq (g g' : aa_G) : Prop := ∀ k j, ¬ (k = 454 ∧ j = 3) → g' k j = g k j
def cb_tres (g : aa_G) (b : Nat → Int32) (n N T d : Nat) (s : Int32) (r : Nat ⊕ (Nat × (Int32 × Int32))) (v : Option Value) (h : zz_H) : Prop := (∃ f, r = .inl f ∧ v = some (.int 0) ∧ ∃ g', h = aa_H g' ∧ tc_bad g f g') ∨ (∃ q y z, r = .inr (q, (y, z)) ∧ q ≤ n ∧ v = some (.int 1) ∧ ∃ g1, h = aa_H (tc_at (cb_one g1 N T d s y z) b n q) ∧ cb_eq g g1)
theorem cb_tl {g : aa_G} {b : Nat → Int32} {n p N T d : Nat} {s : Int32} (h : tc_ok g b n) (hp : p ≤ n) (h0 : g 36 0 = Int32.ofNat N) (hN : 1 ≤ N ∧ N ≤ 8) (h1 : g 36 1 = Int32.ofNat T) (hT : T ≤ 40) (hd : g 42 (N - 1) = Int32.ofNat d) (hl : sp_dg (sp_hb b n p) = false) (hm : ¬ sp_nm (sp_hb b n p) = -1) : zz_fin none 47 (40, [some (.ref 454), some (.ref 36), some (.int s), some (.int (sp_hb b n p)), none], [.int 1], aa_H (tc_at g b n p)) (cb_tres g b n N T d s (fl_thing b n p T)) := by
  have k1 : tc_at g b n p 36 1 = Int32.ofNat T := (tc_at_ne _ _ _ _ (by omega)).trans h1
  refine zz_fin.steps (n := 4) (s' := (48, [some (.ref 454), some (.ref 36), some (.int s), some (.int (sp_hb b n p)), some (.int 1)], [.int 40, .int ((tc_at g b n p) 36 1)], aa_H (tc_at g b n p))) rfl ?_
  rw [k1]
  refine zz_fin.ic rfl (fun c1 => ?_) (fun c1 => ?_)
  · have c1 : (40 : Int32).toInt ≤ (Int32.ofNat T).toInt := aa_le32.mp (of_decide_eq_true c1)
    rw [zz_ofN (by omega), show (40 : Int32).toInt = 40 from rfl] at c1
    have e0 : fl_thing b n p T = .inl p := if_pos (.inr (by omega))
    refine zz_fin.steps (n := 1) (s' := (64, [some (.ref 454), some (.ref 36), some (.int s), some (.int (sp_hb b n p)), some (.int 1)], [.ref 454], aa_H (tc_at g b n p))) rfl ?_
    refine zz_fin.call rfl rfl (Nat.le_of_ble_eq_true rfl) (tc_fail) ?_
    rintro v h' ⟨rfl, g', rfl, hg2⟩
    exact zz_fin.at (n := 1) rfl (.inl ⟨p, e0, rfl, g', rfl, hg2⟩)
  · have c1 : T < 40 := Decidable.byContradiction fun z => c1 (decide_eq_true (aa_le32.mpr (by rw [zz_ofN (by omega), show (40 : Int32).toInt = 40 from rfl]; omega)))
    refine zz_fin.steps (n := 1) (s' := (53, [some (.ref 454), some (.ref 36), some (.int s), some (.int (sp_hb b n p)), some (.int 1)], [.int 1], aa_H (tc_at g b n p))) rfl ?_
    refine zz_fin.if rfl (fun cz => ?_) (fun cz => absurd rfl cz)
    refine zz_fin.steps (n := 1) (s' := (70, [some (.ref 454), some (.ref 36), some (.int s), some (.int (sp_hb b n p)), some (.int 1)], [.int 1], aa_H (tc_at g b n p))) rfl ?_
    refine zz_fin.if rfl (fun cz => zc_no1 cz) (fun cz => ?_)
    refine zz_fin.steps (n := 1) (s' := (74, [some (.ref 454), some (.ref 36), some (.int s), some (.int (sp_hb b n p)), some (.int 1)], [.ref 454], aa_H (tc_at g b n p))) rfl ?_
    have hpn : p < n := pd_in fun e => hm (by rw [e]; decide)
    refine zz_fin.call rfl rfl (Nat.le_of_ble_eq_true rfl) (tc_step h hpn) ?_
    rintro v h ⟨rfl, rfl⟩
    refine zz_fin.steps (n := 4) (s' := (81, [some (.ref 454), some (.ref 36), some (.int s), some (.int (sp_hb b n p)), some (.int 1)], [.int 0, .int (sp_hb b n p), .int s, .ref 36], aa_H (tc_at g b n (p + 1)))) rfl ?_
    refine zz_fin.call rfl rfl (Nat.le_of_ble_eq_true rfl) (cb_add (N := N) (T := T) (d := d) ((tc_at_ne _ _ _ _ (by omega)).trans h0) hN ((tc_at_ne _ _ _ _ (by omega)).trans h1) c1 ((tc_at_ne _ _ _ _ (by omega)).trans hd)) ?_
    rintro v h' ⟨rfl, rfl⟩
    exact zz_fin.at (n := 2) rfl (.inr ⟨p + 1, _, _, (if_neg (fun z => z.elim (fun z => hm z.2) (fun z => by omega))).trans (if_neg (by rw [hl]; decide)), hpn, rfl, g, congrArg aa_H cb_one_at, fun k j _ => rfl⟩)
theorem cb_tn {g : aa_G} {b : Nat → Int32} {n p N T d : Nat} {s : Int32} (h : tc_ok g b n) (hp : p ≤ n) (h0 : g 36 0 = Int32.ofNat N) (hN : 1 ≤ N ∧ N ≤ 8) (h1 : g 36 1 = Int32.ofNat T) (hT : T ≤ 40) (hd : g 42 (N - 1) = Int32.ofNat d) (hm : sp_nm (sp_hb b n p) = -1) : zz_fin none 47 (40, [some (.ref 454), some (.ref 36), some (.int s), some (.int (sp_hb b n p)), none], [.int 0], aa_H (tc_at g b n p)) (cb_tres g b n N T d s (fl_thing b n p T)) := by
  have k1 : tc_at g b n p 36 1 = Int32.ofNat T := (tc_at_ne _ _ _ _ (by omega)).trans h1
  refine zz_fin.steps (n := 4) (s' := (48, [some (.ref 454), some (.ref 36), some (.int s), some (.int (sp_hb b n p)), some (.int 0)], [.int 40, .int ((tc_at g b n p) 36 1)], aa_H (tc_at g b n p))) rfl ?_
  rw [k1]
  refine zz_fin.ic rfl (fun c1 => ?_) (fun c1 => ?_)
  · have c1 : (40 : Int32).toInt ≤ (Int32.ofNat T).toInt := aa_le32.mp (of_decide_eq_true c1)
    rw [zz_ofN (by omega), show (40 : Int32).toInt = 40 from rfl] at c1
    have e0 : fl_thing b n p T = .inl p := if_pos (.inr (by omega))
    refine zz_fin.steps (n := 1) (s' := (64, [some (.ref 454), some (.ref 36), some (.int s), some (.int (sp_hb b n p)), some (.int 0)], [.ref 454], aa_H (tc_at g b n p))) rfl ?_
    refine zz_fin.call rfl rfl (Nat.le_of_ble_eq_true rfl) (tc_fail) ?_
    rintro v h' ⟨rfl, g', rfl, hg2⟩
    exact zz_fin.at (n := 1) rfl (.inl ⟨p, e0, rfl, g', rfl, hg2⟩)
  · have c1 : T < 40 := Decidable.byContradiction fun z => c1 (decide_eq_true (aa_le32.mpr (by rw [zz_ofN (by omega), show (40 : Int32).toInt = 40 from rfl]; omega)))
    refine zz_fin.steps (n := 1) (s' := (53, [some (.ref 454), some (.ref 36), some (.int s), some (.int (sp_hb b n p)), some (.int 0)], [.int 0], aa_H (tc_at g b n p))) rfl ?_
    refine zz_fin.if rfl (fun cz => absurd cz (by decide)) (fun cz => ?_)
    refine zz_fin.steps (n := 1) (s' := (57, [some (.ref 454), some (.ref 36), some (.int s), some (.int (sp_hb b n p)), some (.int 0)], [.ref 454], aa_H (tc_at g b n p))) rfl ?_
    refine zz_fin.call rfl rfl (Nat.le_of_ble_eq_true rfl) (tc_dig) ?_
    rintro v h ⟨⟨rfl, hg⟩ | ⟨rfl, hg⟩, rfl⟩
    · refine zz_fin.if rfl (fun cz => ?_) (fun cz => absurd rfl cz)
      refine zz_fin.steps (n := 1) (s' := (70, [some (.ref 454), some (.ref 36), some (.int s), some (.int (sp_hb b n p)), some (.int 0)], [.int 0], aa_H (tc_at g b n p))) rfl ?_
      refine zz_fin.if rfl (fun cz => ?_) (fun cz => zc_no0 cz)
      refine zz_fin.steps (n := 4) (s' := (91, [some (.ref 454), some (.ref 36), some (.int s), some (.int (sp_hb b n p)), some (.int 0)], [.int 99999, .int 0, .int 0, .ref 454], aa_H (tc_at g b n p))) rfl ?_
      refine zz_fin.call rfl rfl (Nat.le_of_ble_eq_true rfl) (tc_num (neg := false) h hp 0 99999) ?_
      rintro v h' (⟨f, hf, rfl, g', rfl, hg2⟩ | ⟨q, z, hq, rfl, rfl⟩)
      · refine zz_fin.if rfl (fun cz => absurd cz (by decide)) (fun cz => ?_)
        exact zz_fin.at (n := 2) rfl (.inl ⟨f, (if_neg (fun z => z.elim (fun z => by rw [hg] at z; cases z.1) (fun z => by omega))).trans ((if_pos hg).trans (by simp only [hf])), rfl, g', rfl, hg2⟩)
      · refine zz_fin.if rfl (fun cz => ?_) (fun cz => absurd rfl cz)
        have hqn := sp_num_n hq hp
        refine zz_fin.steps (n := 5) (s' := (106, [some (.ref 454), some (.ref 36), some (.int s), some (.int (sp_hb b n p)), some (.int 0)], [.int z, .int 0, .int s, .ref 36], aa_H (tc_at (zz_w g 454 3 z) b n q))) rfl ?_
        refine zz_fin.call rfl rfl (Nat.le_of_ble_eq_true rfl) (cb_add (N := N) (T := T) (d := d) ((tc_at_ne _ _ _ _ (by omega)).trans ((aa_w_ne _ _ (by omega)).trans h0)) hN ((tc_at_ne _ _ _ _ (by omega)).trans ((aa_w_ne _ _ (by omega)).trans h1)) c1 ((tc_at_ne _ _ _ _ (by omega)).trans ((aa_w_ne _ _ (by omega)).trans hd))) ?_
        rintro v h' ⟨rfl, rfl⟩
        exact zz_fin.at (n := 2) rfl (.inr ⟨q, 0, z, (if_neg (fun z => z.elim (fun z => by rw [hg] at z; cases z.1) (fun z => by omega))).trans ((if_pos hg).trans (by simp only [hq])), hqn.1, rfl, zz_w g 454 3 z, congrArg aa_H cb_one_at, fun k j e => aa_w_ne _ _ e⟩)
    · have e0 : fl_thing b n p T = .inl p := if_pos (.inl ⟨hg, hm⟩)
      refine zz_fin.if rfl (fun cz => absurd cz (by decide)) (fun cz => ?_)
      refine zz_fin.steps (n := 1) (s' := (64, [some (.ref 454), some (.ref 36), some (.int s), some (.int (sp_hb b n p)), some (.int 0)], [.ref 454], aa_H (tc_at g b n p))) rfl ?_
      refine zz_fin.call rfl rfl (Nat.le_of_ble_eq_true rfl) (tc_fail) ?_
      rintro v h' ⟨rfl, g', rfl, hg2⟩
      exact zz_fin.at (n := 1) rfl (.inl ⟨p, e0, rfl, g', rfl, hg2⟩)
theorem cb_thing {g : aa_G} {b : Nat → Int32} {n p N T d : Nat} {s : Int32} (h : tc_ok g b n) (hp : p ≤ n) (h0 : g 36 0 = Int32.ofNat N) (hN : 1 ≤ N ∧ N ≤ 8) (h1 : g 36 1 = Int32.ofNat T) (hT : T ≤ 40) (hd : g 42 (N - 1) = Int32.ofNat d) : zz_fin none 47 (0, zz_in [.ref 454, .ref 36, .int s] (zz_nl 47), [], aa_H (tc_at g b n p)) (cb_tres g b n N T d s (fl_thing b n p T)) := by
  refine zz_fin.steps (n := 5) (s' := (8, [some (.ref 454), some (.ref 36), some (.int s), some (.int (sp_hb b n p)), none], [.int 119, .int (sp_hb b n p)], aa_H (tc_at g b n p))) rfl ?_
  refine zz_fin.ic rfl (fun c1 => ?_) (fun c1 => ?_)
  · have c1 : sp_hb b n p = 119 := of_decide_eq_true c1
    refine zz_fin.steps (n := 2) (s' := (40, [some (.ref 454), some (.ref 36), some (.int s), some (.int (sp_hb b n p)), none], [.int 1], aa_H (tc_at g b n p))) rfl ?_
    exact cb_tl h hp h0 hN h1 hT hd (by rw [c1]; decide) (by rw [c1]; decide)
  · have c1 : ¬ sp_hb b n p = 119 := fun z => c1 (decide_eq_true z)
    refine zz_fin.steps (n := 2) (s' := (14, [some (.ref 454), some (.ref 36), some (.int s), some (.int (sp_hb b n p)), none], [.int 121, .int (sp_hb b n p)], aa_H (tc_at g b n p))) rfl ?_
    refine zz_fin.ic rfl (fun c2 => ?_) (fun c2 => ?_)
    · have c2 : sp_hb b n p = 121 := of_decide_eq_true c2
      refine zz_fin.steps (n := 2) (s' := (40, [some (.ref 454), some (.ref 36), some (.int s), some (.int (sp_hb b n p)), none], [.int 1], aa_H (tc_at g b n p))) rfl ?_
      exact cb_tl h hp h0 hN h1 hT hd (by rw [c2]; decide) (by rw [c2]; decide)
    · have c2 : ¬ sp_hb b n p = 121 := fun z => c2 (decide_eq_true z)
      refine zz_fin.steps (n := 2) (s' := (20, [some (.ref 454), some (.ref 36), some (.int s), some (.int (sp_hb b n p)), none], [.int 108, .int (sp_hb b n p)], aa_H (tc_at g b n p))) rfl ?_
      refine zz_fin.ic rfl (fun c3 => ?_) (fun c3 => ?_)
      · have c3 : sp_hb b n p = 108 := of_decide_eq_true c3
        refine zz_fin.steps (n := 2) (s' := (40, [some (.ref 454), some (.ref 36), some (.int s), some (.int (sp_hb b n p)), none], [.int 1], aa_H (tc_at g b n p))) rfl ?_
        exact cb_tl h hp h0 hN h1 hT hd (by rw [c3]; decide) (by rw [c3]; decide)
      · have c3 : ¬ sp_hb b n p = 108 := fun z => c3 (decide_eq_true z)
        refine zz_fin.steps (n := 2) (s' := (26, [some (.ref 454), some (.ref 36), some (.int s), some (.int (sp_hb b n p)), none], [.int 116, .int (sp_hb b n p)], aa_H (tc_at g b n p))) rfl ?_
        refine zz_fin.ic rfl (fun c4 => ?_) (fun c4 => ?_)
        · have c4 : sp_hb b n p = 116 := of_decide_eq_true c4
          refine zz_fin.steps (n := 2) (s' := (40, [some (.ref 454), some (.ref 36), some (.int s), some (.int (sp_hb b n p)), none], [.int 1], aa_H (tc_at g b n p))) rfl ?_
          exact cb_tl h hp h0 hN h1 hT hd (by rw [c4]; decide) (by rw [c4]; decide)
        · have c4 : ¬ sp_hb b n p = 116 := fun z => c4 (decide_eq_true z)
          refine zz_fin.steps (n := 2) (s' := (32, [some (.ref 454), some (.ref 36), some (.int s), some (.int (sp_hb b n p)), none], [.int 122, .int (sp_hb b n p)], aa_H (tc_at g b n p))) rfl ?_
          refine zz_fin.ic rfl (fun c5 => ?_) (fun c5 => ?_)
          · have c5 : ¬ sp_hb b n p = 122 := of_decide_eq_true c5
            refine zz_fin.steps (n := 1) (s' := (40, [some (.ref 454), some (.ref 36), some (.int s), some (.int (sp_hb b n p)), none], [.int 0], aa_H (tc_at g b n p))) rfl ?_
            exact cb_tn h hp h0 hN h1 hT hd (by unfold sp_nm; rw [if_neg c1, if_neg c2, if_neg c3, if_neg c4, if_neg c5])
          · have c5 : sp_hb b n p = 122 := Decidable.byContradiction fun z => c5 (decide_eq_true z)
            refine zz_fin.steps (n := 2) (s' := (40, [some (.ref 454), some (.ref 36), some (.int s), some (.int (sp_hb b n p)), none], [.int 1], aa_H (tc_at g b n p))) rfl ?_
            exact cb_tl h hp h0 hN h1 hT hd (by rw [c5]; decide) (by rw [c5]; decide)
theorem cb_ist (c : Int32) {g : aa_G} : zz_fin none 49 (0, zz_in [.int c] (zz_nl 49), [], aa_H g) (fun v h => ((v = some (.int 1) ∧ pd_ot c = true) ∨ (v = some (.int 0) ∧ pd_ot c = false)) ∧ h = aa_H g) := by
  refine zz_fin.steps (n := 2) (s' := (3, [some (.int c)], [.int 60, .int c], aa_H g)) rfl ?_
  refine zz_fin.ic rfl (fun c1 => ?_) (fun c1 => ?_)
  · have c1 : c = 60 := of_decide_eq_true c1
    refine zz_fin.steps (n := 2) (s' := (23, [some (.int c)], [.int 1], aa_H g)) rfl ?_
    exact zz_fin.at (n := 1) rfl ⟨.inl ⟨rfl, by rw [c1]; decide⟩, rfl⟩
  · have c1 : ¬ c = 60 := fun z => c1 (decide_eq_true z)
    refine zz_fin.steps (n := 2) (s' := (9, [some (.int c)], [.int 62, .int c], aa_H g)) rfl ?_
    refine zz_fin.ic rfl (fun c2 => ?_) (fun c2 => ?_)
    · have c2 : c = 62 := of_decide_eq_true c2
      refine zz_fin.steps (n := 2) (s' := (23, [some (.int c)], [.int 1], aa_H g)) rfl ?_
      exact zz_fin.at (n := 1) rfl ⟨.inl ⟨rfl, by rw [c2]; decide⟩, rfl⟩
    · have c2 : ¬ c = 62 := fun z => c2 (decide_eq_true z)
      refine zz_fin.steps (n := 2) (s' := (15, [some (.int c)], [.int 61, .int c], aa_H g)) rfl ?_
      refine zz_fin.ic rfl (fun c3 => ?_) (fun c3 => ?_)
      · have c3 : ¬ c = 61 := of_decide_eq_true c3
        refine zz_fin.steps (n := 1) (s' := (23, [some (.int c)], [.int 0], aa_H g)) rfl ?_
        exact zz_fin.at (n := 1) rfl ⟨.inr ⟨rfl, by unfold pd_ot; rw [decide_eq_false c1, decide_eq_false c2, decide_eq_false c3, Bool.or_false, Bool.or_false]⟩, rfl⟩
      · have c3 : c = 61 := Decidable.byContradiction fun z => c3 (decide_eq_true z)
        refine zz_fin.steps (n := 2) (s' := (23, [some (.int c)], [.int 1], aa_H g)) rfl ?_
        exact zz_fin.at (n := 1) rfl ⟨.inl ⟨rfl, by rw [c3]; decide⟩, rfl⟩
theorem cb_isj (c : Int32) {g : aa_G} : zz_fin none 50 (0, zz_in [.int c] (zz_nl 50), [], aa_H g) (fun v h => ((v = some (.int 1) ∧ fl_j c = true) ∨ (v = some (.int 0) ∧ fl_j c = false)) ∧ h = aa_H g) := by
  refine zz_fin.steps (n := 2) (s' := (3, [some (.int c)], [.int 38, .int c], aa_H g)) rfl ?_
  refine zz_fin.ic rfl (fun c1 => ?_) (fun c1 => ?_)
  · have c1 : c = 38 := of_decide_eq_true c1
    refine zz_fin.steps (n := 2) (s' := (17, [some (.int c)], [.int 1], aa_H g)) rfl ?_
    exact zz_fin.at (n := 1) rfl ⟨.inl ⟨rfl, by rw [c1]; decide⟩, rfl⟩
  · have c1 : ¬ c = 38 := fun z => c1 (decide_eq_true z)
    refine zz_fin.steps (n := 2) (s' := (9, [some (.int c)], [.int 124, .int c], aa_H g)) rfl ?_
    refine zz_fin.ic rfl (fun c2 => ?_) (fun c2 => ?_)
    · have c2 : ¬ c = 124 := of_decide_eq_true c2
      refine zz_fin.steps (n := 1) (s' := (17, [some (.int c)], [.int 0], aa_H g)) rfl ?_
      exact zz_fin.at (n := 1) rfl ⟨.inr ⟨rfl, by unfold fl_j pd_o3 pd_o4; rw [decide_eq_false c1, decide_eq_false c2, Bool.or_false]⟩, rfl⟩
    · have c2 : c = 124 := Decidable.byContradiction fun z => c2 (decide_eq_true z)
      refine zz_fin.steps (n := 2) (s' := (17, [some (.int c)], [.int 1], aa_H g)) rfl ?_
      exact zz_fin.at (n := 1) rfl ⟨.inl ⟨rfl, by rw [c2]; decide⟩, rfl⟩
theorem cb_isf (c : Int32) {g : aa_G} : zz_fin none 52 (0, zz_in [.int c] (zz_nl 52), [], aa_H g) (fun v h => ((v = some (.int 1) ∧ pd_o1 c = true) ∨ (v = some (.int 0) ∧ pd_o1 c = false)) ∧ h = aa_H g) := by
  refine zz_fin.steps (n := 2) (s' := (3, [some (.int c)], [.int 42, .int c], aa_H g)) rfl ?_
  refine zz_fin.ic rfl (fun c1 => ?_) (fun c1 => ?_)
  · have c1 : c = 42 := of_decide_eq_true c1
    refine zz_fin.steps (n := 2) (s' := (17, [some (.int c)], [.int 1], aa_H g)) rfl ?_
    exact zz_fin.at (n := 1) rfl ⟨.inl ⟨rfl, by rw [c1]; decide⟩, rfl⟩
  · have c1 : ¬ c = 42 := fun z => c1 (decide_eq_true z)
    refine zz_fin.steps (n := 2) (s' := (9, [some (.int c)], [.int 47, .int c], aa_H g)) rfl ?_
    refine zz_fin.ic rfl (fun c2 => ?_) (fun c2 => ?_)
    · have c2 : ¬ c = 47 := of_decide_eq_true c2
      refine zz_fin.steps (n := 1) (s' := (17, [some (.int c)], [.int 0], aa_H g)) rfl ?_
      exact zz_fin.at (n := 1) rfl ⟨.inr ⟨rfl, by unfold pd_o1; rw [decide_eq_false c1, decide_eq_false c2, Bool.or_false]⟩, rfl⟩
    · have c2 : c = 47 := Decidable.byContradiction fun z => c2 (decide_eq_true z)
      refine zz_fin.steps (n := 2) (s' := (17, [some (.int c)], [.int 1], aa_H g)) rfl ?_
      exact zz_fin.at (n := 1) rfl ⟨.inl ⟨rfl, by rw [c2]; decide⟩, rfl⟩
theorem cb_ish (c : Int32) {g : aa_G} : zz_fin none 51 (0, zz_in [.int c] (zz_nl 51), [], aa_H g) (fun v h => ((v = some (.int 1) ∧ fl_h c = true) ∨ (v = some (.int 0) ∧ fl_h c = false)) ∧ h = aa_H g) := by
  refine zz_fin.steps (n := 2) (s' := (3, [some (.int c)], [.int 43, .int c], aa_H g)) rfl ?_
  refine zz_fin.ic rfl (fun c1 => ?_) (fun c1 => ?_)
  · have c1 : c = 43 := of_decide_eq_true c1
    refine zz_fin.steps (n := 2) (s' := (24, [some (.int c)], [.int 1], aa_H g)) rfl ?_
    exact zz_fin.at (n := 1) rfl ⟨.inl ⟨rfl, by rw [c1]; decide⟩, rfl⟩
  · have c1 : ¬ c = 43 := fun z => c1 (decide_eq_true z)
    refine zz_fin.steps (n := 2) (s' := (9, [some (.int c)], [.int 45, .int c], aa_H g)) rfl ?_
    refine zz_fin.ic rfl (fun c2 => ?_) (fun c2 => ?_)
    · have c2 : c = 45 := of_decide_eq_true c2
      refine zz_fin.steps (n := 2) (s' := (24, [some (.int c)], [.int 1], aa_H g)) rfl ?_
      exact zz_fin.at (n := 1) rfl ⟨.inl ⟨rfl, by rw [c2]; decide⟩, rfl⟩
    · have c2 : ¬ c = 45 := fun z => c2 (decide_eq_true z)
      refine zz_fin.steps (n := 1) (s' := (13, [some (.int c)], [.int c], aa_H g)) rfl ?_
      refine zz_fin.call rfl rfl (Nat.le_of_ble_eq_true rfl) (cb_isf _) ?_
      rintro v h ⟨⟨rfl, hf⟩ | ⟨rfl, hf⟩, rfl⟩
      · refine zz_fin.if rfl (fun cz => zc_no1 cz) (fun cz => ?_)
        refine zz_fin.steps (n := 2) (s' := (24, [some (.int c)], [.int 1], aa_H g)) rfl ?_
        exact zz_fin.at (n := 1) rfl ⟨.inl ⟨rfl, by unfold fl_h; rw [hf]; rfl⟩, rfl⟩
      · refine zz_fin.if rfl (fun cz => ?_) (fun cz => zc_no0 cz)
        refine zz_fin.steps (n := 1) (s' := (24, [some (.int c)], [.int 0], aa_H g)) rfl ?_
        exact zz_fin.at (n := 1) rfl ⟨.inr ⟨rfl, by unfold fl_h pd_o2; rw [hf, decide_eq_false c1, decide_eq_false c2, Bool.or_false, Bool.or_false]⟩, rfl⟩
theorem fl_a1 {go : Nat → Nat → Int32 → Bool → List fl_T → fl_R} {b : Nat → Int32} {n q T : Nat} {l : List fl_T} (h1 : pd_ot (sp_hb b n q) = false) (h2 : fl_j (sp_hb b n q) = false) (h3 : fl_h (sp_hb b n q) = false) : fl_aft go b n q T true l = .inr (q, l) := by
  unfold fl_aft
  rw [h1, h2, h3, if_pos ⟨rfl, rfl, rfl⟩, if_pos rfl]
theorem fl_a2 {go : Nat → Nat → Int32 → Bool → List fl_T → fl_R} {b : Nat → Int32} {n q T : Nat} {l : List fl_T} (h1 : pd_ot (sp_hb b n q) = false) (h2 : fl_j (sp_hb b n q) = false) (h3 : fl_h (sp_hb b n q) = false) : fl_aft go b n q T false l = .inl q := by
  unfold fl_aft
  rw [h1, h2, h3, if_pos ⟨rfl, rfl, rfl⟩, if_neg (by decide)]
theorem fl_a3 {go : Nat → Nat → Int32 → Bool → List fl_T → fl_R} {b : Nat → Int32} {n q T : Nat} {l : List fl_T} (h1 : pd_ot (sp_hb b n q) = true) : fl_aft go b n q T true l = .inl q := by
  unfold fl_aft
  rw [h1, if_neg (fun e => by cases e.1), if_pos (.inl ⟨rfl, rfl⟩)]
theorem fl_a4 {go : Nat → Nat → Int32 → Bool → List fl_T → fl_R} {b : Nat → Int32} {n q T : Nat} {l : List fl_T} (h1 : pd_ot (sp_hb b n q) = true) (h2 : fl_j (sp_hb b n q) = false) : fl_aft go b n q T false l = go (q + 1) T (sp_hb b n q) true l := by
  unfold fl_aft
  rw [h1, h2, if_neg (fun e => by cases e.1), if_neg (fun e => e.elim (fun e => by cases e.2) (fun e => by cases e.1))]
  rfl
theorem fl_a5 {go : Nat → Nat → Int32 → Bool → List fl_T → fl_R} {b : Nat → Int32} {n q T : Nat} {l : List fl_T} (h2 : fl_j (sp_hb b n q) = true) : fl_aft go b n q T false l = .inl q := by
  unfold fl_aft
  rw [h2, if_neg (fun e => by cases e.2.1), if_pos (.inr ⟨rfl, rfl⟩)]
theorem fl_a6 {go : Nat → Nat → Int32 → Bool → List fl_T → fl_R} {b : Nat → Int32} {n q T : Nat} {l : List fl_T} (h1 : pd_ot (sp_hb b n q) = false) (h2 : fl_j (sp_hb b n q) = true) : fl_aft go b n q T true l = go (q + 1) T (sp_hb b n q) false l := by
  unfold fl_aft
  rw [h1, h2, if_neg (fun e => by cases e.2.1), if_neg (fun e => e.elim (fun e => by cases e.1) (fun e => by cases e.2))]
  rfl
theorem fl_a7 {go : Nat → Nat → Int32 → Bool → List fl_T → fl_R} {b : Nat → Int32} {n q T : Nat} {td : Bool} {l : List fl_T} (h1 : pd_ot (sp_hb b n q) = false) (h2 : fl_j (sp_hb b n q) = false) (h3 : fl_h (sp_hb b n q) = true) : fl_aft go b n q T td l = go (q + 1) T (sp_hb b n q) td l := by
  unfold fl_aft
  rw [h1, h2, h3, if_neg (fun e => by cases e.2.2), if_neg (fun e => e.elim (fun e => by cases e.1) (fun e => by cases e.1))]
  cases td <;> rfl
/-- of the draft's THINGS alone has anything changed -/
def cb_fr (g g' : aa_G) (N T : Nat) : Prop := ∀ k j, ¬ ((k = 43 ∨ k = 44 ∨ k = 45) ∧ T ≤ j) → ¬ (k = 36 ∧ j = 1) → ¬ (k = 42 ∧ j = N - 1) → ¬ (k = 454 ∧ j = 3) → g' k j = g k j
def cb_st (g g' : aa_G) (N T : Nat) (ts : List fl_T) : Prop := cb_fr g g' N T ∧ g' 36 1 = Int32.ofNat (T + ts.length) ∧ g' 42 (N - 1) = Int32.ofNat ts.length ∧ ∀ i t, ts[i]? = some t → g' 43 (T + i) = t.1 ∧ g' 44 (T + i) = t.2.1 ∧ g' 45 (T + i) = t.2.2
def cb_bad (g : aa_G) (f : Nat) (g' : aa_G) : Prop := (∀ k j, ¬ (36 ≤ k ∧ k ≤ 45) → ¬ (k = 454 ∧ 1 ≤ j ∧ j ≤ 4) → g' k j = g k j) ∧ g' 454 4 = Int32.ofNat f
def cb_res (g : aa_G) (b : Nat → Int32) (n N T : Nat) (r : fl_R) (v : Option Value) (h : zz_H) : Prop := (∃ f, r = .inl f ∧ v = some (.int 0) ∧ ∃ g', h = aa_H g' ∧ cb_bad g f g') ∨ (∃ q ts, r = .inr (q, ts) ∧ q ≤ n ∧ v = some (.int 1) ∧ ∃ g', h = aa_H (tc_at g' b n q) ∧ cb_st g g' N T ts)
theorem cb_fr.ok {g g' : aa_G} {b : Nat → Int32} {n N T : Nat} (hf : cb_fr g g' N T) (h : tc_ok g b n) : tc_ok g' b n := ⟨(hf 454 0 (by omega) (by omega) (by omega) (by omega)).trans h.1, h.2.1, fun j hj => (hf 455 j (by omega) (by omega) (by omega) (by omega)).trans (h.2.2 j hj)⟩
theorem cb_fr.bad {g g1 g2 : aa_G} {N T f : Nat} (hf : cb_fr g g1 N T) (h : tc_bad g1 f g2) : cb_bad g f g2 := ⟨fun k j a e => (h.1 k j e).trans (hf k j (by omega) (by omega) (by omega) (by omega)), h.2⟩
theorem cb_st.push {g g1 g2 : aa_G} {N T : Nat} {ts : List fl_T} (s k v : Int32) (h : cb_st g g1 N T ts) (he : cb_eq g1 g2) : cb_st g (cb_one g2 N (T + ts.length) ts.length s k v) N T (ts ++ [(s, (k, v))]) := by
  have hl : (ts ++ [(s, (k, v))]).length = ts.length + 1 := List.length_append
  unfold cb_one
  refine ⟨fun a j e1 e2 e3 e4 => ?_, ?_, ?_, fun i t hi => ?_⟩
  · rw [aa_w_ne _ _ (by omega), aa_w_ne _ _ (by omega), aa_w_ne _ _ (by omega), aa_w_ne _ _ (by omega), aa_w_ne _ _ (by omega), he a j e4]
    exact h.1 a j e1 e2 e3 e4
  · rw [aa_w_ne _ _ (by omega), aa_w_at, hl, Nat.add_assoc]
  · rw [aa_w_at, hl]
  · by_cases hlt : i < ts.length
    · rw [List.getElem?_append_left hlt] at hi
      obtain ⟨k1, k2, k3⟩ := h.2.2.2 i t hi
      refine ⟨?_, ?_, ?_⟩
      · rw [aa_w_ne _ _ (by omega), aa_w_ne _ _ (by omega), aa_w_ne _ _ (by omega), aa_w_ne _ _ (by omega), aa_w_ne _ _ (by omega), he _ _ (by omega)]
        exact k1
      · rw [aa_w_ne _ _ (by omega), aa_w_ne _ _ (by omega), aa_w_ne _ _ (by omega), aa_w_ne _ _ (by omega), aa_w_ne _ _ (by omega), he _ _ (by omega)]
        exact k2
      · rw [aa_w_ne _ _ (by omega), aa_w_ne _ _ (by omega), aa_w_ne _ _ (by omega), aa_w_ne _ _ (by omega), aa_w_ne _ _ (by omega), he _ _ (by omega)]
        exact k3
    · have hi2 : i < ts.length + 1 := by
        rw [← hl]
        exact (List.getElem?_eq_some_iff.mp hi).1
      have hi3 : i = ts.length := by omega
      subst hi3
      rw [List.getElem?_append_right (Nat.le_refl _), Nat.sub_self] at hi
      cases hi
      refine ⟨?_, ?_, ?_⟩
      · rw [aa_w_ne _ _ (by omega), aa_w_ne _ _ (by omega), aa_w_ne _ _ (by omega), aa_w_ne _ _ (by omega), aa_w_at]
      · rw [aa_w_ne _ _ (by omega), aa_w_ne _ _ (by omega), aa_w_ne _ _ (by omega), aa_w_at]
      · rw [aa_w_ne _ _ (by omega), aa_w_ne _ _ (by omega), aa_w_at]
theorem fl_thing_lt {b : Nat → Int32} {n p T q : Nat} {y z : Int32} (h : fl_thing b n p T = .inr (q, (y, z))) (hp : p ≤ n) : p < q := by
  unfold fl_thing at h
  split at h
  · cases h
  · rename_i h0
    split at h
    · split at h
      · cases h
      · rename_i q2 z2 hq
        have := sp_num_n hq hp
        cases h
        omega
    · cases h
      omega
theorem fl_thing_T {b : Nat → Int32} {n p T q : Nat} {y z : Int32} (h : fl_thing b n p T = .inr (q, (y, z))) : T ≠ 40 := fun e => by
  rw [show fl_thing b n p T = .inl p from if_pos (.inr e)] at h
  cases h
theorem cb_cond {g : aa_G} {b : Nat → Int32} {n N T : Nat} (h : tc_ok g b n) (h0 : g 36 0 = Int32.ofNat N) (hN : 1 ≤ N ∧ N ≤ 8) : ∀ (k p i : Nat) (ts : List fl_T) (s : Int32) (td : Bool) (x y : Option Value) (g1 : aa_G), n < k + p → i < p → p ≤ n → T + ts.length ≤ 40 → cb_st g g1 N T ts → zz_fin none 46 (7, [some (.ref 454), some (.ref 36), some (.int (if td = true then 1 else 0)), some (.int s), some (.int (Int32.ofNat i)), x, y], [], aa_H (tc_at g1 b n p)) (cb_res g b n N T (fl_cond b n k p (T + ts.length) s td ts)) := by
  have hn := h.2.1
  intro k
  induction k with
  | zero => intro p i ts s td x y g1 hk hi hp; omega
  | succ k ih =>
    intro p i ts s td x y g1 hk hi hp hT hs
    have h1 := hs.1.ok h
    have k0 : g1 36 0 = Int32.ofNat N := (hs.1 36 0 (by omega) (by omega) (by omega) (by omega)).trans h0
    cases td with
    | false =>
      refine zz_fin.steps (n := 2) (s' := (12, [some (.ref 454), some (.ref 36), some (.int 0), some (.int s), some (.int (Int32.ofNat i)), x, y], [.int 500, .int (Int32.ofNat i)], aa_H (tc_at g1 b n p))) rfl ?_
      refine zz_fin.ic rfl (fun c1 => ?_) (fun c1 => ?_)
      · have c1 : (500 : Int32).toInt ≤ (Int32.ofNat i).toInt := aa_le32.mp (of_decide_eq_true c1)
        rw [zz_ofN (by omega), show (500 : Int32).toInt = 500 from rfl] at c1
        omega
      · refine zz_fin.steps (n := 3) (s' := (18, [some (.ref 454), some (.ref 36), some (.int 0), some (.int s), some (.int (Int32.ofNat i)), x, y], [.int s, .ref 36, .ref 454], aa_H (tc_at g1 b n p))) rfl ?_
        refine zz_fin.call rfl rfl (Nat.le_of_ble_eq_true rfl) (cb_thing (N := N) (T := T + ts.length) (d := ts.length) h1 hp k0 hN hs.2.1 hT hs.2.2.1) ?_
        rintro v h' (⟨f, e, rfl, g', rfl, hb⟩ | ⟨q, kd, vl, e, hqn, rfl, g2, rfl, he⟩)
        · refine zz_fin.if rfl (fun cz => absurd cz (by decide)) (fun cz => ?_)
          exact zz_fin.at (n := 2) rfl (.inl ⟨f, by rw [fl_cond, e], rfl, g', rfl, hs.1.bad hb⟩)
        · refine zz_fin.if rfl (fun cz => ?_) (fun cz => absurd rfl cz)
          have hs2 := hs.push s kd vl he
          have hpq := fl_thing_lt e hp
          have hT4 := fl_thing_T e
          have hl : T + (ts ++ [(s, (kd, vl))]).length = T + ts.length + 1 := by
            have e1 : (ts ++ [(s, (kd, vl))]).length = ts.length + 1 := List.length_append
            omega
          rw [show fl_cond b n (k + 1) p (T + ts.length) s false ts = fl_aft (fl_cond b n k) b n q (T + ts.length + 1) false (ts ++ [(s, (kd, vl))]) by rw [fl_cond, e]]
          generalize cb_one g2 N (T + ts.length) ts.length s kd vl = g3 at hs2 ⊢
          refine zz_fin.steps (n := 4) (s' := (32, [some (.ref 454), some (.ref 36), some (.int 0), some (.int (sp_hb b n q)), some (.int (Int32.ofNat i)), x, y], [.int (sp_hb b n q)], aa_H (tc_at g3 b n q))) rfl ?_
          refine zz_fin.call rfl rfl (Nat.le_of_ble_eq_true rfl) (cb_ist _) ?_
          rintro v h ⟨⟨rfl, ho⟩ | ⟨rfl, ho⟩, rfl⟩
          · refine zz_fin.steps (n := 2) (s' := (38, [some (.ref 454), some (.ref 36), some (.int 0), some (.int (sp_hb b n q)), some (.int (Int32.ofNat i)), some (.int 1), y], [.int (sp_hb b n q)], aa_H (tc_at g3 b n q))) rfl ?_
            refine zz_fin.call rfl rfl (Nat.le_of_ble_eq_true rfl) (cb_isj _) ?_
            rintro v h ⟨⟨rfl, hj⟩ | ⟨rfl, hj⟩, rfl⟩
            · exact absurd hj (by rw [fl_att _ ho]; decide)
            · refine zz_fin.steps (n := 2) (s' := (45, [some (.ref 454), some (.ref 36), some (.int 0), some (.int (sp_hb b n q)), some (.int (Int32.ofNat i)), some (.int 1), some (.int 0)], [.int 1], aa_H (tc_at g3 b n q))) rfl ?_
              refine zz_fin.if rfl (fun cz => ?_) (fun cz => absurd rfl cz)
              refine zz_fin.steps (n := 1) (s' := (79, [some (.ref 454), some (.ref 36), some (.int 0), some (.int (sp_hb b n q)), some (.int (Int32.ofNat i)), some (.int 1), some (.int 0)], [.int 1], aa_H (tc_at g3 b n q))) rfl ?_
              refine zz_fin.if rfl (fun cz => zc_no1 cz) (fun cz => ?_)
              refine zz_fin.steps (n := 1) (s' := (83, [some (.ref 454), some (.ref 36), some (.int 0), some (.int (sp_hb b n q)), some (.int (Int32.ofNat i)), some (.int 1), some (.int 0)], [.int 0], aa_H (tc_at g3 b n q))) rfl ?_
              refine zz_fin.if rfl (fun cz => absurd cz (by decide)) (fun cz => ?_)
              refine zz_fin.steps (n := 1) (s' := (88, [some (.ref 454), some (.ref 36), some (.int 0), some (.int (sp_hb b n q)), some (.int (Int32.ofNat i)), some (.int 1), some (.int 0)], [.int 0], aa_H (tc_at g3 b n q))) rfl ?_
              refine zz_fin.if rfl (fun cz => ?_) (fun cz => zc_no0 cz)
              refine zz_fin.steps (n := 1) (s' := (102, [some (.ref 454), some (.ref 36), some (.int 0), some (.int (sp_hb b n q)), some (.int (Int32.ofNat i)), some (.int 1), some (.int 0)], [.int 1], aa_H (tc_at g3 b n q))) rfl ?_
              refine zz_fin.if rfl (fun cz => ?_) (fun cz => absurd rfl cz)
              refine zz_fin.steps (n := 4) (s' := (121, [some (.ref 454), some (.ref 36), some (.int 1), some (.int (sp_hb b n q)), some (.int (Int32.ofNat i)), some (.int 1), some (.int 0)], [.ref 454], aa_H (tc_at g3 b n q))) rfl ?_
              have hq : q < n := pd_in fun e => by rw [e] at ho; exact absurd ho (by decide)
              refine zz_fin.call rfl rfl (Nat.le_of_ble_eq_true rfl) (tc_step (hs2.1.ok h) hq) ?_
              rintro v h' ⟨rfl, rfl⟩
              rw [fl_a4 ho hj, ← hl]
              refine zz_fin.steps (n := 2) (s' := (7, [some (.ref 454), some (.ref 36), some (.int 1), some (.int (sp_hb b n q)), some (.int ((Int32.ofNat i) + 1)), some (.int 1), some (.int 0)], [], aa_H (tc_at g3 b n (q + 1)))) rfl ?_
              rw [aa_succ]
              exact ih (q + 1) (i + 1) _ _ true _ _ g3 (by omega) (by omega) hq (by omega) hs2
          · refine zz_fin.steps (n := 2) (s' := (38, [some (.ref 454), some (.ref 36), some (.int 0), some (.int (sp_hb b n q)), some (.int (Int32.ofNat i)), some (.int 0), y], [.int (sp_hb b n q)], aa_H (tc_at g3 b n q))) rfl ?_
            refine zz_fin.call rfl rfl (Nat.le_of_ble_eq_true rfl) (cb_isj _) ?_
            rintro v h ⟨⟨rfl, hj⟩ | ⟨rfl, hj⟩, rfl⟩
            · refine zz_fin.steps (n := 2) (s' := (45, [some (.ref 454), some (.ref 36), some (.int 0), some (.int (sp_hb b n q)), some (.int (Int32.ofNat i)), some (.int 0), some (.int 1)], [.int 0], aa_H (tc_at g3 b n q))) rfl ?_
              refine zz_fin.if rfl (fun cz => absurd cz (by decide)) (fun cz => ?_)
              refine zz_fin.steps (n := 1) (s' := (50, [some (.ref 454), some (.ref 36), some (.int 0), some (.int (sp_hb b n q)), some (.int (Int32.ofNat i)), some (.int 0), some (.int 1)], [.int 1], aa_H (tc_at g3 b n q))) rfl ?_
              refine zz_fin.if rfl (fun cz => ?_) (fun cz => absurd rfl cz)
              refine zz_fin.steps (n := 1) (s' := (79, [some (.ref 454), some (.ref 36), some (.int 0), some (.int (sp_hb b n q)), some (.int (Int32.ofNat i)), some (.int 0), some (.int 1)], [.int 0], aa_H (tc_at g3 b n q))) rfl ?_
              refine zz_fin.if rfl (fun cz => ?_) (fun cz => zc_no0 cz)
              refine zz_fin.steps (n := 1) (s' := (88, [some (.ref 454), some (.ref 36), some (.int 0), some (.int (sp_hb b n q)), some (.int (Int32.ofNat i)), some (.int 0), some (.int 1)], [.int 1], aa_H (tc_at g3 b n q))) rfl ?_
              refine zz_fin.if rfl (fun cz => zc_no1 cz) (fun cz => ?_)
              refine zz_fin.steps (n := 1) (s' := (92, [some (.ref 454), some (.ref 36), some (.int 0), some (.int (sp_hb b n q)), some (.int (Int32.ofNat i)), some (.int 0), some (.int 1)], [.int 0], aa_H (tc_at g3 b n q))) rfl ?_
              refine zz_fin.if rfl (fun cz => absurd cz (by decide)) (fun cz => ?_)
              refine zz_fin.steps (n := 1) (s' := (96, [some (.ref 454), some (.ref 36), some (.int 0), some (.int (sp_hb b n q)), some (.int (Int32.ofNat i)), some (.int 0), some (.int 1)], [.ref 454], aa_H (tc_at g3 b n q))) rfl ?_
              refine zz_fin.call rfl rfl (Nat.le_of_ble_eq_true rfl) (tc_fail) ?_
              rintro v h' ⟨rfl, g', rfl, hb⟩
              exact zz_fin.at (n := 1) rfl (.inl ⟨q, fl_a5 hj, rfl, g', rfl, hs2.1.bad hb⟩)
            · refine zz_fin.steps (n := 2) (s' := (45, [some (.ref 454), some (.ref 36), some (.int 0), some (.int (sp_hb b n q)), some (.int (Int32.ofNat i)), some (.int 0), some (.int 0)], [.int 0], aa_H (tc_at g3 b n q))) rfl ?_
              refine zz_fin.if rfl (fun cz => absurd cz (by decide)) (fun cz => ?_)
              refine zz_fin.steps (n := 1) (s' := (50, [some (.ref 454), some (.ref 36), some (.int 0), some (.int (sp_hb b n q)), some (.int (Int32.ofNat i)), some (.int 0), some (.int 0)], [.int 0], aa_H (tc_at g3 b n q))) rfl ?_
              refine zz_fin.if rfl (fun cz => absurd cz (by decide)) (fun cz => ?_)
              refine zz_fin.steps (n := 1) (s' := (54, [some (.ref 454), some (.ref 36), some (.int 0), some (.int (sp_hb b n q)), some (.int (Int32.ofNat i)), some (.int 0), some (.int 0)], [.int (sp_hb b n q)], aa_H (tc_at g3 b n q))) rfl ?_
              refine zz_fin.call rfl rfl (Nat.le_of_ble_eq_true rfl) (cb_ish _) ?_
              rintro v h ⟨⟨rfl, hh⟩ | ⟨rfl, hh⟩, rfl⟩
              · refine zz_fin.if rfl (fun cz => ?_) (fun cz => absurd rfl cz)
                refine zz_fin.steps (n := 1) (s' := (79, [some (.ref 454), some (.ref 36), some (.int 0), some (.int (sp_hb b n q)), some (.int (Int32.ofNat i)), some (.int 0), some (.int 0)], [.int 0], aa_H (tc_at g3 b n q))) rfl ?_
                refine zz_fin.if rfl (fun cz => ?_) (fun cz => zc_no0 cz)
                refine zz_fin.steps (n := 1) (s' := (88, [some (.ref 454), some (.ref 36), some (.int 0), some (.int (sp_hb b n q)), some (.int (Int32.ofNat i)), some (.int 0), some (.int 0)], [.int 0], aa_H (tc_at g3 b n q))) rfl ?_
                refine zz_fin.if rfl (fun cz => ?_) (fun cz => zc_no0 cz)
                refine zz_fin.steps (n := 1) (s' := (102, [some (.ref 454), some (.ref 36), some (.int 0), some (.int (sp_hb b n q)), some (.int (Int32.ofNat i)), some (.int 0), some (.int 0)], [.int 0], aa_H (tc_at g3 b n q))) rfl ?_
                refine zz_fin.if rfl (fun cz => absurd cz (by decide)) (fun cz => ?_)
                refine zz_fin.steps (n := 1) (s' := (106, [some (.ref 454), some (.ref 36), some (.int 0), some (.int (sp_hb b n q)), some (.int (Int32.ofNat i)), some (.int 0), some (.int 0)], [.int 0], aa_H (tc_at g3 b n q))) rfl ?_
                refine zz_fin.if rfl (fun cz => ?_) (fun cz => zc_no0 cz)
                refine zz_fin.steps (n := 3) (s' := (121, [some (.ref 454), some (.ref 36), some (.int 0), some (.int (sp_hb b n q)), some (.int (Int32.ofNat i)), some (.int 0), some (.int 0)], [.ref 454], aa_H (tc_at g3 b n q))) rfl ?_
                have hq : q < n := pd_in fun e => by rw [e] at hh; exact absurd hh (by decide)
                refine zz_fin.call rfl rfl (Nat.le_of_ble_eq_true rfl) (tc_step (hs2.1.ok h) hq) ?_
                rintro v h' ⟨rfl, rfl⟩
                rw [fl_a7 ho hj hh, ← hl]
                refine zz_fin.steps (n := 2) (s' := (7, [some (.ref 454), some (.ref 36), some (.int 0), some (.int (sp_hb b n q)), some (.int ((Int32.ofNat i) + 1)), some (.int 0), some (.int 0)], [], aa_H (tc_at g3 b n (q + 1)))) rfl ?_
                rw [aa_succ]
                exact ih (q + 1) (i + 1) _ _ false _ _ g3 (by omega) (by omega) hq (by omega) hs2
              · refine zz_fin.if rfl (fun cz => absurd cz (by decide)) (fun cz => ?_)
                refine zz_fin.steps (n := 1) (s' := (61, [some (.ref 454), some (.ref 36), some (.int 0), some (.int (sp_hb b n q)), some (.int (Int32.ofNat i)), some (.int 0), some (.int 0)], [.int 0], aa_H (tc_at g3 b n q))) rfl ?_
                refine zz_fin.if rfl (fun cz => absurd cz (by decide)) (fun cz => ?_)
                refine zz_fin.steps (n := 1) (s' := (65, [some (.ref 454), some (.ref 36), some (.int 0), some (.int (sp_hb b n q)), some (.int (Int32.ofNat i)), some (.int 0), some (.int 0)], [.ref 454], aa_H (tc_at g3 b n q))) rfl ?_
                refine zz_fin.call rfl rfl (Nat.le_of_ble_eq_true rfl) (tc_fail) ?_
                rintro v h' ⟨rfl, g', rfl, hb⟩
                refine zz_fin.if rfl (fun cz => ?_) (fun cz => zc_no0 cz)
                exact zz_fin.at (n := 2) rfl (.inl ⟨q, fl_a2 ho hj hh, rfl, g', rfl, hs2.1.bad hb⟩)
    | true =>
      refine zz_fin.steps (n := 2) (s' := (12, [some (.ref 454), some (.ref 36), some (.int 1), some (.int s), some (.int (Int32.ofNat i)), x, y], [.int 500, .int (Int32.ofNat i)], aa_H (tc_at g1 b n p))) rfl ?_
      refine zz_fin.ic rfl (fun c1 => ?_) (fun c1 => ?_)
      · have c1 : (500 : Int32).toInt ≤ (Int32.ofNat i).toInt := aa_le32.mp (of_decide_eq_true c1)
        rw [zz_ofN (by omega), show (500 : Int32).toInt = 500 from rfl] at c1
        omega
      · refine zz_fin.steps (n := 3) (s' := (18, [some (.ref 454), some (.ref 36), some (.int 1), some (.int s), some (.int (Int32.ofNat i)), x, y], [.int s, .ref 36, .ref 454], aa_H (tc_at g1 b n p))) rfl ?_
        refine zz_fin.call rfl rfl (Nat.le_of_ble_eq_true rfl) (cb_thing (N := N) (T := T + ts.length) (d := ts.length) h1 hp k0 hN hs.2.1 hT hs.2.2.1) ?_
        rintro v h' (⟨f, e, rfl, g', rfl, hb⟩ | ⟨q, kd, vl, e, hqn, rfl, g2, rfl, he⟩)
        · refine zz_fin.if rfl (fun cz => absurd cz (by decide)) (fun cz => ?_)
          exact zz_fin.at (n := 2) rfl (.inl ⟨f, by rw [fl_cond, e], rfl, g', rfl, hs.1.bad hb⟩)
        · refine zz_fin.if rfl (fun cz => ?_) (fun cz => absurd rfl cz)
          have hs2 := hs.push s kd vl he
          have hpq := fl_thing_lt e hp
          have hT4 := fl_thing_T e
          have hl : T + (ts ++ [(s, (kd, vl))]).length = T + ts.length + 1 := by
            have e1 : (ts ++ [(s, (kd, vl))]).length = ts.length + 1 := List.length_append
            omega
          rw [show fl_cond b n (k + 1) p (T + ts.length) s true ts = fl_aft (fl_cond b n k) b n q (T + ts.length + 1) true (ts ++ [(s, (kd, vl))]) by rw [fl_cond, e]]
          generalize cb_one g2 N (T + ts.length) ts.length s kd vl = g3 at hs2 ⊢
          refine zz_fin.steps (n := 4) (s' := (32, [some (.ref 454), some (.ref 36), some (.int 1), some (.int (sp_hb b n q)), some (.int (Int32.ofNat i)), x, y], [.int (sp_hb b n q)], aa_H (tc_at g3 b n q))) rfl ?_
          refine zz_fin.call rfl rfl (Nat.le_of_ble_eq_true rfl) (cb_ist _) ?_
          rintro v h ⟨⟨rfl, ho⟩ | ⟨rfl, ho⟩, rfl⟩
          · refine zz_fin.steps (n := 2) (s' := (38, [some (.ref 454), some (.ref 36), some (.int 1), some (.int (sp_hb b n q)), some (.int (Int32.ofNat i)), some (.int 1), y], [.int (sp_hb b n q)], aa_H (tc_at g3 b n q))) rfl ?_
            refine zz_fin.call rfl rfl (Nat.le_of_ble_eq_true rfl) (cb_isj _) ?_
            rintro v h ⟨⟨rfl, hj⟩ | ⟨rfl, hj⟩, rfl⟩
            · exact absurd hj (by rw [fl_att _ ho]; decide)
            · refine zz_fin.steps (n := 2) (s' := (45, [some (.ref 454), some (.ref 36), some (.int 1), some (.int (sp_hb b n q)), some (.int (Int32.ofNat i)), some (.int 1), some (.int 0)], [.int 1], aa_H (tc_at g3 b n q))) rfl ?_
              refine zz_fin.if rfl (fun cz => ?_) (fun cz => absurd rfl cz)
              refine zz_fin.steps (n := 1) (s' := (79, [some (.ref 454), some (.ref 36), some (.int 1), some (.int (sp_hb b n q)), some (.int (Int32.ofNat i)), some (.int 1), some (.int 0)], [.int 1], aa_H (tc_at g3 b n q))) rfl ?_
              refine zz_fin.if rfl (fun cz => zc_no1 cz) (fun cz => ?_)
              refine zz_fin.steps (n := 1) (s' := (83, [some (.ref 454), some (.ref 36), some (.int 1), some (.int (sp_hb b n q)), some (.int (Int32.ofNat i)), some (.int 1), some (.int 0)], [.int 1], aa_H (tc_at g3 b n q))) rfl ?_
              refine zz_fin.if rfl (fun cz => ?_) (fun cz => absurd rfl cz)
              refine zz_fin.steps (n := 1) (s' := (96, [some (.ref 454), some (.ref 36), some (.int 1), some (.int (sp_hb b n q)), some (.int (Int32.ofNat i)), some (.int 1), some (.int 0)], [.ref 454], aa_H (tc_at g3 b n q))) rfl ?_
              refine zz_fin.call rfl rfl (Nat.le_of_ble_eq_true rfl) (tc_fail) ?_
              rintro v h' ⟨rfl, g', rfl, hb⟩
              exact zz_fin.at (n := 1) rfl (.inl ⟨q, fl_a3 ho, rfl, g', rfl, hs2.1.bad hb⟩)
          · refine zz_fin.steps (n := 2) (s' := (38, [some (.ref 454), some (.ref 36), some (.int 1), some (.int (sp_hb b n q)), some (.int (Int32.ofNat i)), some (.int 0), y], [.int (sp_hb b n q)], aa_H (tc_at g3 b n q))) rfl ?_
            refine zz_fin.call rfl rfl (Nat.le_of_ble_eq_true rfl) (cb_isj _) ?_
            rintro v h ⟨⟨rfl, hj⟩ | ⟨rfl, hj⟩, rfl⟩
            · refine zz_fin.steps (n := 2) (s' := (45, [some (.ref 454), some (.ref 36), some (.int 1), some (.int (sp_hb b n q)), some (.int (Int32.ofNat i)), some (.int 0), some (.int 1)], [.int 0], aa_H (tc_at g3 b n q))) rfl ?_
              refine zz_fin.if rfl (fun cz => absurd cz (by decide)) (fun cz => ?_)
              refine zz_fin.steps (n := 1) (s' := (50, [some (.ref 454), some (.ref 36), some (.int 1), some (.int (sp_hb b n q)), some (.int (Int32.ofNat i)), some (.int 0), some (.int 1)], [.int 1], aa_H (tc_at g3 b n q))) rfl ?_
              refine zz_fin.if rfl (fun cz => ?_) (fun cz => absurd rfl cz)
              refine zz_fin.steps (n := 1) (s' := (79, [some (.ref 454), some (.ref 36), some (.int 1), some (.int (sp_hb b n q)), some (.int (Int32.ofNat i)), some (.int 0), some (.int 1)], [.int 0], aa_H (tc_at g3 b n q))) rfl ?_
              refine zz_fin.if rfl (fun cz => ?_) (fun cz => zc_no0 cz)
              refine zz_fin.steps (n := 1) (s' := (88, [some (.ref 454), some (.ref 36), some (.int 1), some (.int (sp_hb b n q)), some (.int (Int32.ofNat i)), some (.int 0), some (.int 1)], [.int 1], aa_H (tc_at g3 b n q))) rfl ?_
              refine zz_fin.if rfl (fun cz => zc_no1 cz) (fun cz => ?_)
              refine zz_fin.steps (n := 1) (s' := (92, [some (.ref 454), some (.ref 36), some (.int 1), some (.int (sp_hb b n q)), some (.int (Int32.ofNat i)), some (.int 0), some (.int 1)], [.int 1], aa_H (tc_at g3 b n q))) rfl ?_
              refine zz_fin.if rfl (fun cz => ?_) (fun cz => absurd rfl cz)
              refine zz_fin.steps (n := 1) (s' := (102, [some (.ref 454), some (.ref 36), some (.int 1), some (.int (sp_hb b n q)), some (.int (Int32.ofNat i)), some (.int 0), some (.int 1)], [.int 0], aa_H (tc_at g3 b n q))) rfl ?_
              refine zz_fin.if rfl (fun cz => absurd cz (by decide)) (fun cz => ?_)
              refine zz_fin.steps (n := 1) (s' := (106, [some (.ref 454), some (.ref 36), some (.int 1), some (.int (sp_hb b n q)), some (.int (Int32.ofNat i)), some (.int 0), some (.int 1)], [.int 1], aa_H (tc_at g3 b n q))) rfl ?_
              refine zz_fin.if rfl (fun cz => zc_no1 cz) (fun cz => ?_)
              refine zz_fin.steps (n := 1) (s' := (111, [some (.ref 454), some (.ref 36), some (.int 1), some (.int (sp_hb b n q)), some (.int (Int32.ofNat i)), some (.int 0), some (.int 1)], [.int 1], aa_H (tc_at g3 b n q))) rfl ?_
              refine zz_fin.if rfl (fun cz => ?_) (fun cz => absurd rfl cz)
              refine zz_fin.steps (n := 3) (s' := (121, [some (.ref 454), some (.ref 36), some (.int 0), some (.int (sp_hb b n q)), some (.int (Int32.ofNat i)), some (.int 0), some (.int 1)], [.ref 454], aa_H (tc_at g3 b n q))) rfl ?_
              have hq : q < n := pd_in fun e => by rw [e] at hj; exact absurd hj (by decide)
              refine zz_fin.call rfl rfl (Nat.le_of_ble_eq_true rfl) (tc_step (hs2.1.ok h) hq) ?_
              rintro v h' ⟨rfl, rfl⟩
              rw [fl_a6 ho hj, ← hl]
              refine zz_fin.steps (n := 2) (s' := (7, [some (.ref 454), some (.ref 36), some (.int 0), some (.int (sp_hb b n q)), some (.int ((Int32.ofNat i) + 1)), some (.int 0), some (.int 1)], [], aa_H (tc_at g3 b n (q + 1)))) rfl ?_
              rw [aa_succ]
              exact ih (q + 1) (i + 1) _ _ false _ _ g3 (by omega) (by omega) hq (by omega) hs2
            · refine zz_fin.steps (n := 2) (s' := (45, [some (.ref 454), some (.ref 36), some (.int 1), some (.int (sp_hb b n q)), some (.int (Int32.ofNat i)), some (.int 0), some (.int 0)], [.int 0], aa_H (tc_at g3 b n q))) rfl ?_
              refine zz_fin.if rfl (fun cz => absurd cz (by decide)) (fun cz => ?_)
              refine zz_fin.steps (n := 1) (s' := (50, [some (.ref 454), some (.ref 36), some (.int 1), some (.int (sp_hb b n q)), some (.int (Int32.ofNat i)), some (.int 0), some (.int 0)], [.int 0], aa_H (tc_at g3 b n q))) rfl ?_
              refine zz_fin.if rfl (fun cz => absurd cz (by decide)) (fun cz => ?_)
              refine zz_fin.steps (n := 1) (s' := (54, [some (.ref 454), some (.ref 36), some (.int 1), some (.int (sp_hb b n q)), some (.int (Int32.ofNat i)), some (.int 0), some (.int 0)], [.int (sp_hb b n q)], aa_H (tc_at g3 b n q))) rfl ?_
              refine zz_fin.call rfl rfl (Nat.le_of_ble_eq_true rfl) (cb_ish _) ?_
              rintro v h ⟨⟨rfl, hh⟩ | ⟨rfl, hh⟩, rfl⟩
              · refine zz_fin.if rfl (fun cz => ?_) (fun cz => absurd rfl cz)
                refine zz_fin.steps (n := 1) (s' := (79, [some (.ref 454), some (.ref 36), some (.int 1), some (.int (sp_hb b n q)), some (.int (Int32.ofNat i)), some (.int 0), some (.int 0)], [.int 0], aa_H (tc_at g3 b n q))) rfl ?_
                refine zz_fin.if rfl (fun cz => ?_) (fun cz => zc_no0 cz)
                refine zz_fin.steps (n := 1) (s' := (88, [some (.ref 454), some (.ref 36), some (.int 1), some (.int (sp_hb b n q)), some (.int (Int32.ofNat i)), some (.int 0), some (.int 0)], [.int 0], aa_H (tc_at g3 b n q))) rfl ?_
                refine zz_fin.if rfl (fun cz => ?_) (fun cz => zc_no0 cz)
                refine zz_fin.steps (n := 1) (s' := (102, [some (.ref 454), some (.ref 36), some (.int 1), some (.int (sp_hb b n q)), some (.int (Int32.ofNat i)), some (.int 0), some (.int 0)], [.int 0], aa_H (tc_at g3 b n q))) rfl ?_
                refine zz_fin.if rfl (fun cz => absurd cz (by decide)) (fun cz => ?_)
                refine zz_fin.steps (n := 1) (s' := (106, [some (.ref 454), some (.ref 36), some (.int 1), some (.int (sp_hb b n q)), some (.int (Int32.ofNat i)), some (.int 0), some (.int 0)], [.int 1], aa_H (tc_at g3 b n q))) rfl ?_
                refine zz_fin.if rfl (fun cz => zc_no1 cz) (fun cz => ?_)
                refine zz_fin.steps (n := 1) (s' := (111, [some (.ref 454), some (.ref 36), some (.int 1), some (.int (sp_hb b n q)), some (.int (Int32.ofNat i)), some (.int 0), some (.int 0)], [.int 0], aa_H (tc_at g3 b n q))) rfl ?_
                refine zz_fin.if rfl (fun cz => absurd cz (by decide)) (fun cz => ?_)
                refine zz_fin.steps (n := 4) (s' := (121, [some (.ref 454), some (.ref 36), some (.int 1), some (.int (sp_hb b n q)), some (.int (Int32.ofNat i)), some (.int 0), some (.int 0)], [.ref 454], aa_H (tc_at g3 b n q))) rfl ?_
                have hq : q < n := pd_in fun e => by rw [e] at hh; exact absurd hh (by decide)
                refine zz_fin.call rfl rfl (Nat.le_of_ble_eq_true rfl) (tc_step (hs2.1.ok h) hq) ?_
                rintro v h' ⟨rfl, rfl⟩
                rw [fl_a7 ho hj hh, ← hl]
                refine zz_fin.steps (n := 2) (s' := (7, [some (.ref 454), some (.ref 36), some (.int 1), some (.int (sp_hb b n q)), some (.int ((Int32.ofNat i) + 1)), some (.int 0), some (.int 0)], [], aa_H (tc_at g3 b n (q + 1)))) rfl ?_
                rw [aa_succ]
                exact ih (q + 1) (i + 1) _ _ true _ _ g3 (by omega) (by omega) hq (by omega) hs2
              · refine zz_fin.if rfl (fun cz => absurd cz (by decide)) (fun cz => ?_)
                refine zz_fin.steps (n := 1) (s' := (61, [some (.ref 454), some (.ref 36), some (.int 1), some (.int (sp_hb b n q)), some (.int (Int32.ofNat i)), some (.int 0), some (.int 0)], [.int 1], aa_H (tc_at g3 b n q))) rfl ?_
                refine zz_fin.if rfl (fun cz => ?_) (fun cz => absurd rfl cz)
                refine zz_fin.steps (n := 2) (s' := (76, [some (.ref 454), some (.ref 36), some (.int 1), some (.int (sp_hb b n q)), some (.int (Int32.ofNat i)), some (.int 0), some (.int 0)], [.int 1], aa_H (tc_at g3 b n q))) rfl ?_
                exact zz_fin.at (n := 1) rfl (.inr ⟨q, _, fl_a1 ho hj hh, hqn, rfl, g3, rfl, hs2⟩)
theorem cb_cond0 {g : aa_G} {b : Nat → Int32} {n N T p : Nat} (h : tc_ok g b n) (h0 : g 36 0 = Int32.ofNat N) (hN : 1 ≤ N ∧ N ≤ 8) (h1 : g 36 1 = Int32.ofNat T) (hT : T ≤ 40) (hd : g 42 (N - 1) = 0) (hp : 0 < p) (hpn : p ≤ n) : zz_fin none 46 (0, zz_in [.ref 454, .ref 36] (zz_nl 46), [], aa_H (tc_at g b n p)) (cb_res g b n N T (fl_cond b n (n + 1) p T 0 false [])) := by
  refine zz_fin.steps (n := 6) (s' := (7, [some (.ref 454), some (.ref 36), some (.int (if false = true then 1 else 0)), some (.int 0), some (.int (Int32.ofNat 0)), none, none], [], aa_H (tc_at g b n p))) rfl ?_
  exact cb_cond h h0 hN (n + 1) p 0 [] 0 false none none g (by omega) hp hpn hT ⟨fun _ _ _ _ _ _ => rfl, h1, hd, fun i t e => by cases e⟩
end
section
/-! BELLS: a BELL; the model reads it -/
def pb_then {α : Type} (r : Nat ⊕ (Nat × Int32)) (k : Nat → Int32 → Nat ⊕ α) : Nat ⊕ α := match r with
  | .inl f => .inl f
  | .inr (q, z) => k q z
/-- where it ends; half, hour, part, strokes -/
abbrev pb_F : Type := Int32 × (Int32 × (Int32 × Int32))
abbrev pb_H : Type := Nat ⊕ (Nat × pb_F)
def pb_half (c : Int32) : Int32 := if c = 100 then 0 else 1
def pb_part (b : Nat → Int32) (n q : Nat) : Nat ⊕ (Nat × Int32) := if sp_hb b n q = 46 then sp_num b n false 0 3599 (q + 1) else .inr (q, 0)
/-- behind hour and part -/
def pb_end (b : Nat → Int32) (n q : Nat) (f y z : Int32) : pb_H := if sp_hb b n q = 42 then pb_then (sp_num b n false 1 24 (q + 1)) fun r w => .inr (r, (f, (y, (z, w)))) else .inl q
def pb_head (b : Nat → Int32) (n p N : Nat) : pb_H :=
  if ¬ (sp_hb b n p = 100 ∨ sp_hb b n p = 110) ∨ N = 8 then .inl p else
  pb_then (sp_num b n false 0 11 (p + 1)) fun q1 y => pb_then (pb_part b n q1) fun q2 z => pb_end b n q2 (pb_half (sp_hb b n p)) y z
def pb_cond (b : Nat → Int32) (n q T : Nat) : pd_R := if sp_hb b n q = 63 then pd_cond b n (q + 1) T else .inr (q, (T, []))
/-- a whole BELL, its end with it -/
abbrev pb_R : Type := Nat ⊕ (Nat × (pb_F × (Nat × List Int32)))
def pb_tail (b : Nat → Int32) (n : Nat) (F : pb_F) (r : pd_R) : pb_R := match r with
  | .inl f => .inl f
  | .inr (q, (T, cs)) => if sp_hb b n q = 59 then .inr (q + 1, (F, (T, cs))) else .inl q
def pb_bell (b : Nat → Int32) (n p N T : Nat) : pb_R := match pb_head b n p N with
  | .inl f => .inl f
  | .inr (q, F) => pb_tail b n F (pb_cond b n q T)
theorem pb_bell_inl {b : Nat → Int32} {n p N T f : Nat} (h : pb_head b n p N = .inl f) : pb_bell b n p N T = .inl f := by
  unfold pb_bell
  rw [h]
theorem pb_bell_inr {b : Nat → Int32} {n p N T q : Nat} {F : pb_F} (h : pb_head b n p N = .inr (q, F)) : pb_bell b n p N T = pb_tail b n F (pb_cond b n q T) := by
  unfold pb_bell
  rw [h]
theorem pb_then_inl {α : Type} {r : Nat ⊕ (Nat × Int32)} {k : Nat → Int32 → Nat ⊕ α} {f : Nat} (h : r = .inl f) : pb_then r k = .inl f := by
  rw [h]
  rfl
theorem pb_then_inr {α : Type} {r : Nat ⊕ (Nat × Int32)} {k : Nat → Int32 → Nat ⊕ α} {q : Nat} {z : Int32} (h : r = .inr (q, z)) : pb_then r k = k q z := by
  rw [h]
  rfl
theorem mb_7 {N : Nat} (h : N ≤ 8) : 7 * Int32.ofNat N = Int32.ofNat (7 * N) := by
  have e1 : (7 : Int32).toInt = 7 := rfl
  have e2 : (Int32.ofNat N).toInt = (N : Int) := zz_ofN (by omega)
  refine aa_eqN ?_ (by omega)
  rw [Int32.toInt_mul, e1, e2, aa_bm (by omega) (by omega)]
  omega
theorem mb_add (a k : Nat) {v : Int32} (h : v = Int32.ofNat k) : Int32.ofNat a + v = Int32.ofNat (a + k) := by
  rw [h]
  exact (Int32.ofNat_add a k).symm
theorem mb_sub {a k : Nat} (h : k ≤ a) (ha : a ≤ 1000) : Int32.ofNat a - Int32.ofNat k = Int32.ofNat (a - k) := by
  have e1 : (Int32.ofNat k).toInt = (k : Int) := zz_ofN (by omega)
  have e2 : (Int32.ofNat a).toInt = (a : Int) := zz_ofN (by omega)
  refine aa_eqN ?_ (by omega)
  rw [aa_sub32 (by rw [e1, e2]; omega) (by rw [e1, e2]; omega), e1, e2]
  omega
/-- of a BELL's places, and of what is being read, alone has anything changed -/
def mb_bfr (g g' : aa_G) (N c : Nat) : Prop := ∀ k j, ¬ (k = 540 ∧ 10 ≤ j ∧ j ≤ 12) → ¬ (k = 545 ∧ c ≤ j) → ¬ (k = 544 ∧ 7 * N ≤ j ∧ j < 7 * N + 7) → g' k j = g k j
def mb_bbad (g : aa_G) (f N c : Nat) (g' : aa_G) : Prop := (∀ k j, ¬ (k = 540 ∧ ((5 ≤ j ∧ j ≤ 7) ∨ (10 ≤ j ∧ j ≤ 12))) → ¬ (k = 545 ∧ c ≤ j) → ¬ (k = 544 ∧ 7 * N ≤ j ∧ j < 7 * N + 7) → g' k j = g k j) ∧ g' 540 6 = Int32.ofNat f
def mb_at (g : aa_G) (N : Nat) (F : pb_F) (th c d : Nat) : Prop := g 544 (7 * N) = F.1 ∧ g 544 (7 * N + 1) = F.2.1 ∧ g 544 (7 * N + 2) = F.2.2.1 ∧ g 544 (7 * N + 3) = F.2.2.2 ∧ g 544 (7 * N + 4) = Int32.ofNat th ∧ g 544 (7 * N + 5) = Int32.ofNat c ∧ g 544 (7 * N + 6) = Int32.ofNat d
def mb_bst (g g' : aa_G) (N T c : Nat) (F : pb_F) (T2 : Nat) (cs : List Int32) : Prop := mb_bfr g g' N c ∧ g' 540 10 = Int32.ofNat (N + 1) ∧ g' 540 11 = Int32.ofNat (c + cs.length) ∧ g' 540 12 = Int32.ofNat T2 ∧ (∀ i v, cs[i]? = some v → g' 545 (c + i) = v) ∧ mb_at g' N F (T2 - T) c (c + cs.length)
def mb_bres (g : aa_G) (n N T c : Nat) (r : pb_R) (v : Option Value) (h : zz_H) : Prop := (∃ f, r = .inl f ∧ v = some (.int 0) ∧ ∃ g', h = aa_H g' ∧ mb_bbad g f N c g') ∨ (∃ q F T2 cs, r = .inr (q, (F, (T2, cs))) ∧ q ≤ n ∧ v = some (.int 1) ∧ ∃ g' z, h = aa_H (tm_at g' q z) ∧ mb_bst g g' N T c F T2 cs)
theorem mb_bfr.rf {g : aa_G} {N c : Nat} : mb_bfr g g N c := fun _ _ _ _ _ => rfl
theorem mb_bfr.ok {g g' : aa_G} {b : Nat → Int32} {n N c : Nat} (hf : mb_bfr g g' N c) (h : tm_ok g b n) : tm_ok g' b n := ⟨(hf 540 4 (by omega) (by omega) (by omega)).trans h.1, h.2.1, fun j hj => by rw [hf 543 j (by omega) (by omega) (by omega)]; exact h.2.2 j hj⟩
theorem mb_bfr.bad {g g1 g2 : aa_G} {f N c : Nat} (hf : mb_bfr g g1 N c) (h : tm_bad g1 f g2) : mb_bbad g f N c g2 := ⟨fun k j a e d => (h.1 k j (by omega)).trans (hf k j (by omega) e d), h.2⟩
theorem mb_bfr.bad2 {g g1 g2 : aa_G} {f N c : Nat} (hf : mb_bfr g g1 N c) (h : mb_bad g1 f c g2) : mb_bbad g f N c g2 := ⟨fun k j a e d => (h.1 k j (by omega) e).trans (hf k j (by omega) e d), h.2⟩
theorem mb_bfr.w {g g1 : aa_G} {N c j : Nat} {v : Int32} (hf : mb_bfr g g1 N c) (h : 7 * N ≤ j ∧ j < 7 * N + 7) : mb_bfr g (zz_w g1 544 j v) N c := fun k i a e d => (aa_w_ne _ _ (by omega)).trans (hf k i a e d)
theorem mb_b227 {g g1 : aa_G} {b : Nat → Int32} {n N T c q T2 : Nat} {F : pb_F} {cs : List Int32} {z x : Int32} (h : tm_ok g b n) (hN : N < 8) (hT : T ≤ T2 ∧ T2 ≤ 40) (hq : q ≤ n) (hf : mb_bfr g g1 N c) (h10 : g1 540 10 = Int32.ofNat N) (h11 : g1 540 11 = Int32.ofNat (c + cs.length)) (h12 : g1 540 12 = Int32.ofNat T2) (hcs : ∀ i v, cs[i]? = some v → g1 545 (c + i) = v) (hF : g1 544 (7 * N) = F.1 ∧ g1 544 (7 * N + 1) = F.2.1 ∧ g1 544 (7 * N + 2) = F.2.2.1 ∧ g1 544 (7 * N + 3) = F.2.2.2 ∧ g1 544 (7 * N + 5) = Int32.ofNat c) : zz_fin none 179 (227, [some (.ref 540), some (.int x), some (.int (Int32.ofNat (7 * N))), some (.int (Int32.ofNat T))], [], aa_H (tm_at g1 q z)) (mb_bres g n N T c (pb_tail b n F (.inr (q, (T2, cs))))) := by
  have k12 : tm_at g1 q z 540 12 = Int32.ofNat T2 := (tm_at_ne _ _ _ (by omega)).trans h12
  refine zz_fin.steps (n := 9) (s' := (240, [some (.ref 540), some (.int x), some (.int (Int32.ofNat (7 * N))), some (.int (Int32.ofNat T))], [.int (((tm_at g1 q z) 540 12) - (Int32.ofNat T)), .int ((Int32.ofNat (7 * N)) + 4), .ref 544], aa_H (tm_at g1 q z))) rfl ?_
  rw [k12, mb_sub hT.1 (by omega), mb_add (7 * N) 4 (v := 4) rfl]
  refine zz_fin.ias (n := 56) rfl rfl (zz_inbN (by omega) (by omega)) ?_
  rw [zz_toN (by omega)]
  refine zz_fin.steps (n := 0) (s' := (241, [some (.ref 540), some (.int x), some (.int (Int32.ofNat (7 * N))), some (.int (Int32.ofNat T))], [], aa_H (zz_w (tm_at g1 q z) 544 (7 * N + 4) (Int32.ofNat (T2 - T))))) rfl ?_
  rw [tm_comm _ _ _ (by decide)]
  have k11 : tm_at (zz_w g1 544 (7 * N + 4) (Int32.ofNat (T2 - T))) q z 540 11 = Int32.ofNat (c + cs.length) := (tm_at_ne _ _ _ (by omega)).trans ((aa_w_ne _ _ (by omega)).trans h11)
  refine zz_fin.steps (n := 7) (s' := (253, [some (.ref 540), some (.int x), some (.int (Int32.ofNat (7 * N))), some (.int (Int32.ofNat T))], [.int ((tm_at (zz_w g1 544 (7 * N + 4) (Int32.ofNat (T2 - T))) q z) 540 11), .int ((Int32.ofNat (7 * N)) + 6), .ref 544], aa_H (tm_at (zz_w g1 544 (7 * N + 4) (Int32.ofNat (T2 - T))) q z))) rfl ?_
  rw [k11, mb_add (7 * N) 6 (v := 6) rfl]
  refine zz_fin.ias (n := 56) rfl rfl (zz_inbN (by omega) (by omega)) ?_
  rw [zz_toN (by omega)]
  refine zz_fin.steps (n := 0) (s' := (254, [some (.ref 540), some (.int x), some (.int (Int32.ofNat (7 * N))), some (.int (Int32.ofNat T))], [], aa_H (zz_w (tm_at (zz_w g1 544 (7 * N + 4) (Int32.ofNat (T2 - T))) q z) 544 (7 * N + 6) (Int32.ofNat (c + cs.length))))) rfl ?_
  rw [tm_comm _ _ _ (by decide)]
  have k10 : tm_at (zz_w (zz_w g1 544 (7 * N + 4) (Int32.ofNat (T2 - T))) 544 (7 * N + 6) (Int32.ofNat (c + cs.length))) q z 540 10 = Int32.ofNat N := (tm_at_ne _ _ _ (by omega)).trans ((aa_w_ne _ _ (by omega)).trans ((aa_w_ne _ _ (by omega)).trans h10))
  refine zz_fin.steps (n := 5) (s' := (261, [some (.ref 540), some (.int x), some (.int (Int32.ofNat (7 * N))), some (.int (Int32.ofNat T))], [.int (((tm_at (zz_w (zz_w g1 544 (7 * N + 4) (Int32.ofNat (T2 - T))) 544 (7 * N + 6) (Int32.ofNat (c + cs.length))) q z) 540 10) + 1), .ref 540], aa_H (tm_at (zz_w (zz_w g1 544 (7 * N + 4) (Int32.ofNat (T2 - T))) 544 (7 * N + 6) (Int32.ofNat (c + cs.length))) q z))) rfl ?_
  rw [k10, aa_succ]
  refine zz_fin.steps (n := 1) (s' := (264, [some (.ref 540), some (.int x), some (.int (Int32.ofNat (7 * N))), some (.int (Int32.ofNat T))], [], aa_H (zz_w (tm_at (zz_w (zz_w g1 544 (7 * N + 4) (Int32.ofNat (T2 - T))) 544 (7 * N + 6) (Int32.ofNat (c + cs.length))) q z) 540 10 (Int32.ofNat (N + 1))))) rfl ?_
  rw [tm_commj _ _ _ (by decide) (by decide)]
  have hf3 : mb_bfr g (zz_w (zz_w (zz_w g1 544 (7 * N + 4) (Int32.ofNat (T2 - T))) 544 (7 * N + 6) (Int32.ofNat (c + cs.length))) 540 10 (Int32.ofNat (N + 1))) N c := fun k j a e d => (aa_w_ne _ _ (by omega)).trans ((aa_w_ne _ _ (by omega)).trans ((aa_w_ne _ _ (by omega)).trans (hf k j a e d)))
  refine zz_fin.steps (n := 2) (s' := (267, [some (.ref 540), some (.int x), some (.int (Int32.ofNat (7 * N))), some (.int (Int32.ofNat T))], [.int 59, .ref 540], aa_H (tm_at (zz_w (zz_w (zz_w g1 544 (7 * N + 4) (Int32.ofNat (T2 - T))) 544 (7 * N + 6) (Int32.ofNat (c + cs.length))) 540 10 (Int32.ofNat (N + 1))) q z))) rfl ?_
  refine zz_fin.call rfl rfl (Nat.le_of_ble_eq_true rfl) (tm_takes (hf3.ok h) hq (c := 59) (by decide)) ?_
  rintro v h' (⟨rfl, k1, k2, rfl⟩ | ⟨rfl, k1, g', rfl, k2⟩)
  · refine zz_fin.at (n := 1) rfl (.inr ⟨q + 1, F, T2, cs, if_pos k1, k2, rfl, _, z, rfl, hf3, aa_w_at _ _ _ _, ?_, ?_, fun i v hi => ?_, ?_⟩)
    · rw [aa_w_ne _ _ (by omega), aa_w_ne _ _ (by omega), aa_w_ne _ _ (by omega)]; exact h11
    · rw [aa_w_ne _ _ (by omega), aa_w_ne _ _ (by omega), aa_w_ne _ _ (by omega)]; exact h12
    · rw [aa_w_ne _ _ (by omega), aa_w_ne _ _ (by omega), aa_w_ne _ _ (by omega)]; exact hcs i v hi
    · obtain ⟨m1, m2, m3, m4, m5⟩ := hF
      refine ⟨?_, ?_, ?_, ?_, ?_, ?_, ?_⟩
      · rw [aa_w_ne _ _ (by omega), aa_w_ne _ _ (by omega), aa_w_ne _ _ (by omega)]; exact m1
      · rw [aa_w_ne _ _ (by omega), aa_w_ne _ _ (by omega), aa_w_ne _ _ (by omega)]; exact m2
      · rw [aa_w_ne _ _ (by omega), aa_w_ne _ _ (by omega), aa_w_ne _ _ (by omega)]; exact m3
      · rw [aa_w_ne _ _ (by omega), aa_w_ne _ _ (by omega), aa_w_ne _ _ (by omega)]; exact m4
      · rw [aa_w_ne _ _ (by omega), aa_w_ne _ _ (by omega), aa_w_at]
      · rw [aa_w_ne _ _ (by omega), aa_w_ne _ _ (by omega), aa_w_ne _ _ (by omega)]; exact m5
      · rw [aa_w_ne _ _ (by omega), aa_w_at]
  · exact zz_fin.at (n := 1) rfl (.inl ⟨q, if_neg k1, rfl, g', rfl, hf3.bad k2⟩)
theorem mb_b137 {g g1 : aa_G} {b : Nat → Int32} {n N T c q : Nat} {f y z x3 : Int32} (h : tm_ok g b n) (hN : N < 8) (hT : T ≤ 40) (hc : c ≤ 60 + 2 * T) (hq : q ≤ n) (hf : mb_bfr g g1 N c) (h10 : g1 540 10 = Int32.ofNat N) (h11 : g1 540 11 = Int32.ofNat c) (h12 : g1 540 12 = Int32.ofNat T) (hF : g1 544 (7 * N) = f ∧ g1 544 (7 * N + 1) = y) {r : pb_R} (hr : r = (match pb_end b n q f y z with | .inl f => .inl f | .inr (q, F) => pb_tail b n F (pb_cond b n q T))) : zz_fin none 179 (137, [some (.ref 540), some (.int x3), some (.int (Int32.ofNat (7 * N))), none], [], aa_H (tm_at g1 q z)) (mb_bres g n N T c r) := by
  subst hr
  refine zz_fin.steps (n := 7) (s' := (148, [some (.ref 540), some (.int x3), some (.int (Int32.ofNat (7 * N))), none], [.int z, .int ((Int32.ofNat (7 * N)) + 2), .ref 544], aa_H (tm_at g1 q z))) rfl ?_
  rw [mb_add (7 * N) 2 (v := 2) rfl]
  refine zz_fin.ias (n := 56) rfl rfl (zz_inbN (by omega) (by omega)) ?_
  rw [zz_toN (by omega)]
  refine zz_fin.steps (n := 0) (s' := (149, [some (.ref 540), some (.int x3), some (.int (Int32.ofNat (7 * N))), none], [], aa_H (zz_w (tm_at g1 q z) 544 (7 * N + 2) z))) rfl ?_
  rw [tm_comm _ _ _ (by decide)]
  have hf1 : mb_bfr g (zz_w g1 544 (7 * N + 2) z) N c := hf.w (by omega)
  refine zz_fin.steps (n := 2) (s' := (152, [some (.ref 540), some (.int x3), some (.int (Int32.ofNat (7 * N))), none], [.int 42, .ref 540], aa_H (tm_at (zz_w g1 544 (7 * N + 2) z) q z))) rfl ?_
  refine zz_fin.call rfl rfl (Nat.le_of_ble_eq_true rfl) (tm_takes (hf1.ok h) hq (c := 42) (by decide)) ?_
  rintro v h' (⟨rfl, k1, k2, rfl⟩ | ⟨rfl, k1, g', rfl, k2⟩)
  · refine zz_fin.if rfl (fun cz => zc_no1 cz) (fun cz => ?_)
    refine zz_fin.steps (n := 3) (s' := (162, [some (.ref 540), some (.int x3), some (.int (Int32.ofNat (7 * N))), none], [.int 24, .int 1, .ref 540], aa_H (tm_at (zz_w g1 544 (7 * N + 2) z) (q + 1) z))) rfl ?_
    refine zz_fin.call rfl rfl (Nat.le_of_ble_eq_true rfl) (tm_plain (hf1.ok h) k2) ?_
    rintro v h' (⟨e, he, rfl, g', rfl, hg⟩ | ⟨q3, u, he, rfl, rfl⟩)
    · rw [show pb_end b n q f y z = .inl e from (if_pos k1).trans (pb_then_inl he)]
      refine zz_fin.if rfl (fun cz => absurd cz (by decide)) (fun cz => ?_)
      exact zz_fin.at (n := 2) rfl (.inl ⟨e, rfl, rfl, g', rfl, hf1.bad hg⟩)
    · rw [show pb_end b n q f y z = .inr (q3, (f, (y, (z, u)))) from (if_pos k1).trans (pb_then_inr he)]
      have hqn := sp_num_n he k2
      refine zz_fin.if rfl (fun cz => ?_) (fun cz => absurd rfl cz)
      refine zz_fin.steps (n := 7) (s' := (181, [some (.ref 540), some (.int x3), some (.int (Int32.ofNat (7 * N))), none], [.int u, .int ((Int32.ofNat (7 * N)) + 3), .ref 544], aa_H (tm_at (zz_w g1 544 (7 * N + 2) z) q3 u))) rfl ?_
      rw [mb_add (7 * N) 3 (v := 3) rfl]
      refine zz_fin.ias (n := 56) rfl rfl (zz_inbN (by omega) (by omega)) ?_
      rw [zz_toN (by omega)]
      refine zz_fin.steps (n := 0) (s' := (182, [some (.ref 540), some (.int x3), some (.int (Int32.ofNat (7 * N))), none], [], aa_H (zz_w (tm_at (zz_w g1 544 (7 * N + 2) z) q3 u) 544 (7 * N + 3) u))) rfl ?_
      rw [tm_comm _ _ _ (by decide)]
      have k11 : tm_at (zz_w (zz_w g1 544 (7 * N + 2) z) 544 (7 * N + 3) u) q3 u 540 11 = Int32.ofNat c := (tm_at_ne _ _ _ (by omega)).trans ((aa_w_ne _ _ (by omega)).trans ((aa_w_ne _ _ (by omega)).trans h11))
      refine zz_fin.steps (n := 7) (s' := (193, [some (.ref 540), some (.int x3), some (.int (Int32.ofNat (7 * N))), none], [.int ((tm_at (zz_w (zz_w g1 544 (7 * N + 2) z) 544 (7 * N + 3) u) q3 u) 540 11), .int ((Int32.ofNat (7 * N)) + 5), .ref 544], aa_H (tm_at (zz_w (zz_w g1 544 (7 * N + 2) z) 544 (7 * N + 3) u) q3 u))) rfl ?_
      rw [k11, mb_add (7 * N) 5 (v := 5) rfl]
      refine zz_fin.ias (n := 56) rfl rfl (zz_inbN (by omega) (by omega)) ?_
      rw [zz_toN (by omega)]
      refine zz_fin.steps (n := 0) (s' := (194, [some (.ref 540), some (.int x3), some (.int (Int32.ofNat (7 * N))), none], [], aa_H (zz_w (tm_at (zz_w (zz_w g1 544 (7 * N + 2) z) 544 (7 * N + 3) u) q3 u) 544 (7 * N + 5) (Int32.ofNat c)))) rfl ?_
      rw [tm_comm _ _ _ (by decide)]
      have hf2 : mb_bfr g (zz_w (zz_w (zz_w g1 544 (7 * N + 2) z) 544 (7 * N + 3) u) 544 (7 * N + 5) (Int32.ofNat c)) N c := (hf1.w (by omega)).w (by omega)
      have m10 : (zz_w (zz_w (zz_w g1 544 (7 * N + 2) z) 544 (7 * N + 3) u) 544 (7 * N + 5) (Int32.ofNat c)) 540 10 = Int32.ofNat N := (aa_w_ne _ _ (by omega)).trans ((aa_w_ne _ _ (by omega)).trans ((aa_w_ne _ _ (by omega)).trans h10))
      have m11 : (zz_w (zz_w (zz_w g1 544 (7 * N + 2) z) 544 (7 * N + 3) u) 544 (7 * N + 5) (Int32.ofNat c)) 540 11 = Int32.ofNat c := (aa_w_ne _ _ (by omega)).trans ((aa_w_ne _ _ (by omega)).trans ((aa_w_ne _ _ (by omega)).trans h11))
      have m12 : (zz_w (zz_w (zz_w g1 544 (7 * N + 2) z) 544 (7 * N + 3) u) 544 (7 * N + 5) (Int32.ofNat c)) 540 12 = Int32.ofNat T := (aa_w_ne _ _ (by omega)).trans ((aa_w_ne _ _ (by omega)).trans ((aa_w_ne _ _ (by omega)).trans h12))
      have mF : (zz_w (zz_w (zz_w g1 544 (7 * N + 2) z) 544 (7 * N + 3) u) 544 (7 * N + 5) (Int32.ofNat c)) 544 (7 * N) = f ∧ (zz_w (zz_w (zz_w g1 544 (7 * N + 2) z) 544 (7 * N + 3) u) 544 (7 * N + 5) (Int32.ofNat c)) 544 (7 * N + 1) = y ∧ (zz_w (zz_w (zz_w g1 544 (7 * N + 2) z) 544 (7 * N + 3) u) 544 (7 * N + 5) (Int32.ofNat c)) 544 (7 * N + 2) = z ∧ (zz_w (zz_w (zz_w g1 544 (7 * N + 2) z) 544 (7 * N + 3) u) 544 (7 * N + 5) (Int32.ofNat c)) 544 (7 * N + 3) = u ∧ (zz_w (zz_w (zz_w g1 544 (7 * N + 2) z) 544 (7 * N + 3) u) 544 (7 * N + 5) (Int32.ofNat c)) 544 (7 * N + 5) = Int32.ofNat c := ⟨(aa_w_ne _ _ (by omega)).trans ((aa_w_ne _ _ (by omega)).trans ((aa_w_ne _ _ (by omega)).trans hF.1)), (aa_w_ne _ _ (by omega)).trans ((aa_w_ne _ _ (by omega)).trans ((aa_w_ne _ _ (by omega)).trans hF.2)), (aa_w_ne _ _ (by omega)).trans ((aa_w_ne _ _ (by omega)).trans (aa_w_at _ _ _ _)), (aa_w_ne _ _ (by omega)).trans (aa_w_at _ _ _ _), aa_w_at _ _ _ _⟩
      generalize zz_w (zz_w (zz_w g1 544 (7 * N + 2) z) 544 (7 * N + 3) u) 544 (7 * N + 5) (Int32.ofNat c) = g3 at hf2 m10 m11 m12 mF ⊢
      refine zz_fin.steps (n := 2) (s' := (198, [some (.ref 540), some (.int x3), some (.int (Int32.ofNat (7 * N))), none], [.int ((tm_at g3 q3 u) 540 12)], aa_H (tm_at g3 q3 u))) rfl ?_
      rw [show tm_at g3 q3 u 540 12 = Int32.ofNat T from (tm_at_ne _ _ _ (by omega)).trans m12]
      refine zz_fin.steps (n := 2) (s' := (200, [some (.ref 540), some (.int x3), some (.int (Int32.ofNat (7 * N))), some (.int (Int32.ofNat T))], [.ref 540], aa_H (tm_at g3 q3 u))) rfl ?_
      refine zz_fin.call rfl rfl (Nat.le_of_ble_eq_true rfl) (tm_here (hf2.ok h) (Nat.le_trans hqn.1 h.2.1)) ?_
      rintro v h ⟨rfl, rfl⟩
      refine zz_fin.steps (n := 1) (s' := (205, [some (.ref 540), some (.int x3), some (.int (Int32.ofNat (7 * N))), some (.int (Int32.ofNat T))], [.int 63, .int (sp_hb b n q3)], aa_H (tm_at g3 q3 u))) rfl ?_
      refine zz_fin.ic rfl (fun c1 => ?_) (fun c1 => ?_)
      · have c1 : ¬ sp_hb b n q3 = 63 := of_decide_eq_true c1
        have e3 : pb_cond b n q3 T = .inr (q3, (T, [])) := if_neg c1
        dsimp only
        rw [e3]
        exact mb_b227 (F := (f, (y, (z, u)))) (cs := []) h hN ⟨Nat.le_refl _, hT⟩ hqn.1 hf2 m10 m11 m12 (fun i v e => by cases e) mF
      · have c1 : sp_hb b n q3 = 63 := Decidable.byContradiction fun z => c1 (decide_eq_true z)
        have hq3 : q3 < n := pd_in fun e => by rw [e] at c1; exact absurd c1 (by decide)
        have e3 : pb_cond b n q3 T = pd_cond b n (q3 + 1) T := if_pos c1
        dsimp only
        rw [e3]
        refine zz_fin.steps (n := 5) (s' := (215, [some (.ref 540), some (.int x3), some (.int (Int32.ofNat (7 * N))), some (.int (Int32.ofNat T))], [.int ((Int32.ofNat q3) + 1), .ref 540], aa_H (tm_at g3 q3 u))) rfl ?_
        rw [aa_succ]
        refine zz_fin.steps (n := 1) (s' := (218, [some (.ref 540), some (.int x3), some (.int (Int32.ofNat (7 * N))), some (.int (Int32.ofNat T))], [], aa_H (zz_w (tm_at g3 q3 u) 540 5 (Int32.ofNat (q3 + 1))))) rfl ?_
        rw [tm_inc]
        refine zz_fin.steps (n := 1) (s' := (219, [some (.ref 540), some (.int x3), some (.int (Int32.ofNat (7 * N))), some (.int (Int32.ofNat T))], [.ref 540], aa_H (tm_at g3 (q3 + 1) u))) rfl ?_
        refine zz_fin.call rfl rfl (Nat.le_of_ble_eq_true rfl) (mb_cond_all b n g3 (q3 + 1) T c u (hf2.ok h) hq3 hT hc m11 m12) ?_
        rintro v h' (⟨e, he, rfl, g', rfl, hb⟩ | ⟨q4, T2, cs, he, rfl, g4, z4, rfl, hs⟩)
        · rw [he]
          refine zz_fin.if rfl (fun cz => absurd cz (by decide)) (fun cz => ?_)
          exact zz_fin.at (n := 2) rfl (.inl ⟨e, rfl, rfl, g', rfl, hf2.bad2 hb⟩)
        · rw [he]
          refine zz_fin.if rfl (fun cz => ?_) (fun cz => absurd rfl cz)
          obtain ⟨a1, a2, a3, a4, a5⟩ := pd_cond_gd b n (q3 + 1) T q4 T2 cs hq3 hT he
          have st : ∀ k j, k ≠ 545 → ¬ (k = 540 ∧ (j = 11 ∨ j = 12)) → g4 k j = g3 k j := fun k j e1 e2 => hs.1 k j e2 (fun e => e1 e.1)
          exact mb_b227 (F := (f, (y, (z, u)))) h hN ⟨by omega, a4⟩ a2 (fun k j e1 e2 e3 => (hs.1 k j (by omega) e2).trans (hf2 k j e1 e2 e3)) ((st _ _ (by decide) (by omega)).trans m10) hs.2.1 hs.2.2.1 hs.2.2.2 ⟨(st _ _ (by decide) (by omega)).trans mF.1, (st _ _ (by decide) (by omega)).trans mF.2.1, (st _ _ (by decide) (by omega)).trans mF.2.2.1, (st _ _ (by decide) (by omega)).trans mF.2.2.2.1, (st _ _ (by decide) (by omega)).trans mF.2.2.2.2⟩
  · refine zz_fin.if rfl (fun cz => ?_) (fun cz => zc_no0 cz)
    rw [show pb_end b n q f y z = .inl q from if_neg k1]
    exact zz_fin.at (n := 2) rfl (.inl ⟨q, rfl, rfl, g', rfl, hf1.bad k2⟩)
theorem mb_b51 {g : aa_G} {b : Nat → Int32} {n N T c p : Nat} {z f : Int32} (h : tm_ok g b n) (hN : N < 8) (hT : T ≤ 40) (hc : c ≤ 60 + 2 * T) (hp : p < n) (h10 : g 540 10 = Int32.ofNat N) (h11 : g 540 11 = Int32.ofNat c) (h12 : g 540 12 = Int32.ofNat T) (hl : sp_hb b n p = 100 ∨ sp_hb b n p = 110) (hf0 : f = pb_half (sp_hb b n p)) : zz_fin none 179 (51, [some (.ref 540), some (.int f), none, none], [], aa_H (tm_at g p z)) (mb_bres g n N T c (pb_bell b n p N T)) := by
  have e0 : pb_head b n p N = pb_then (sp_num b n false 0 11 (p + 1)) fun q1 y => pb_then (pb_part b n q1) fun q2 z => pb_end b n q2 (pb_half (sp_hb b n p)) y z := if_neg (fun e => e.elim (fun e => e hl) (fun e => by omega))
  rw [← hf0] at e0
  refine zz_fin.steps (n := 5) (s' := (58, [some (.ref 540), some (.int f), none, none], [.int ((Int32.ofNat p) + 1), .ref 540], aa_H (tm_at g p z))) rfl ?_
  rw [aa_succ]
  refine zz_fin.steps (n := 1) (s' := (61, [some (.ref 540), some (.int f), none, none], [], aa_H (zz_w (tm_at g p z) 540 5 (Int32.ofNat (p + 1))))) rfl ?_
  rw [tm_inc]
  refine zz_fin.steps (n := 4) (s' := (68, [some (.ref 540), some (.int f), none, none], [.int (7 * ((tm_at g (p + 1) z) 540 10))], aa_H (tm_at g (p + 1) z))) rfl ?_
  rw [show tm_at g (p + 1) z 540 10 = Int32.ofNat N from (tm_at_ne _ _ _ (by omega)).trans h10, mb_7 (by omega)]
  refine zz_fin.steps (n := 5) (s' := (75, [some (.ref 540), some (.int f), some (.int (Int32.ofNat (7 * N))), none], [.int f, .int (Int32.ofNat (7 * N)), .ref 544], aa_H (tm_at g (p + 1) z))) rfl ?_
  refine zz_fin.ias (n := 56) rfl rfl (zz_inbN (by omega) (by omega)) ?_
  rw [zz_toN (by omega)]
  refine zz_fin.steps (n := 0) (s' := (76, [some (.ref 540), some (.int f), some (.int (Int32.ofNat (7 * N))), none], [], aa_H (zz_w (tm_at g (p + 1) z) 544 (7 * N) f))) rfl ?_
  rw [tm_comm _ _ _ (by decide)]
  have hf1 : mb_bfr g (zz_w g 544 (7 * N) f) N c := mb_bfr.rf.w (by omega)
  refine zz_fin.steps (n := 3) (s' := (80, [some (.ref 540), some (.int f), some (.int (Int32.ofNat (7 * N))), none], [.int 11, .int 0, .ref 540], aa_H (tm_at (zz_w g 544 (7 * N) f) (p + 1) z))) rfl ?_
  refine zz_fin.call rfl rfl (Nat.le_of_ble_eq_true rfl) (tm_plain (p := p + 1) (hf1.ok h) hp) ?_
  rintro v h' (⟨e, he, rfl, g', rfl, hg⟩ | ⟨q1, y, he, rfl, rfl⟩)
  · rw [pb_bell_inl (e0.trans (pb_then_inl he))]
    refine zz_fin.if rfl (fun cz => absurd cz (by decide)) (fun cz => ?_)
    exact zz_fin.at (n := 2) rfl (.inl ⟨e, rfl, rfl, g', rfl, hf1.bad hg⟩)
  · have e1 := e0.trans (pb_then_inr he)
    have hqn := sp_num_n he hp
    refine zz_fin.if rfl (fun cz => ?_) (fun cz => absurd rfl cz)
    refine zz_fin.steps (n := 7) (s' := (99, [some (.ref 540), some (.int f), some (.int (Int32.ofNat (7 * N))), none], [.int y, .int ((Int32.ofNat (7 * N)) + 1), .ref 544], aa_H (tm_at (zz_w g 544 (7 * N) f) q1 y))) rfl ?_
    rw [aa_succ]
    refine zz_fin.ias (n := 56) rfl rfl (zz_inbN (by omega) (by omega)) ?_
    rw [zz_toN (by omega)]
    refine zz_fin.steps (n := 0) (s' := (100, [some (.ref 540), some (.int f), some (.int (Int32.ofNat (7 * N))), none], [], aa_H (zz_w (tm_at (zz_w g 544 (7 * N) f) q1 y) 544 (7 * N + 1) y))) rfl ?_
    rw [tm_comm _ _ _ (by decide)]
    have hf2 : mb_bfr g (zz_w (zz_w g 544 (7 * N) f) 544 (7 * N + 1) y) N c := hf1.w (by omega)
    have m10 : (zz_w (zz_w g 544 (7 * N) f) 544 (7 * N + 1) y) 540 10 = Int32.ofNat N := (aa_w_ne _ _ (by omega)).trans ((aa_w_ne _ _ (by omega)).trans h10)
    have m11 : (zz_w (zz_w g 544 (7 * N) f) 544 (7 * N + 1) y) 540 11 = Int32.ofNat c := (aa_w_ne _ _ (by omega)).trans ((aa_w_ne _ _ (by omega)).trans h11)
    have m12 : (zz_w (zz_w g 544 (7 * N) f) 544 (7 * N + 1) y) 540 12 = Int32.ofNat T := (aa_w_ne _ _ (by omega)).trans ((aa_w_ne _ _ (by omega)).trans h12)
    have mF : (zz_w (zz_w g 544 (7 * N) f) 544 (7 * N + 1) y) 544 (7 * N) = f ∧ (zz_w (zz_w g 544 (7 * N) f) 544 (7 * N + 1) y) 544 (7 * N + 1) = y := ⟨(aa_w_ne _ _ (by omega)).trans (aa_w_at _ _ _ _), aa_w_at _ _ _ _⟩
    generalize zz_w (zz_w g 544 (7 * N) f) 544 (7 * N + 1) y = g2 at hf2 m10 m11 m12 mF ⊢
    refine zz_fin.steps (n := 2) (s' := (102, [some (.ref 540), some (.int f), some (.int (Int32.ofNat (7 * N))), none], [.int 0, .ref 540], aa_H (tm_at g2 q1 y))) rfl ?_
    refine zz_fin.steps (n := 1) (s' := (105, [some (.ref 540), some (.int f), some (.int (Int32.ofNat (7 * N))), none], [], aa_H (zz_w (tm_at g2 q1 y) 540 7 0))) rfl ?_
    rw [tm_over7]
    refine zz_fin.steps (n := 1) (s' := (106, [some (.ref 540), some (.int f), some (.int (Int32.ofNat (7 * N))), none], [.ref 540], aa_H (tm_at g2 q1 0))) rfl ?_
    refine zz_fin.call rfl rfl (Nat.le_of_ble_eq_true rfl) (tm_here (hf2.ok h) (Nat.le_trans hqn.1 h.2.1)) ?_
    rintro v h ⟨rfl, rfl⟩
    refine zz_fin.steps (n := 1) (s' := (111, [some (.ref 540), some (.int f), some (.int (Int32.ofNat (7 * N))), none], [.int 46, .int (sp_hb b n q1)], aa_H (tm_at g2 q1 0))) rfl ?_
    refine zz_fin.ic rfl (fun c1 => ?_) (fun c1 => ?_)
    · have c1 : ¬ sp_hb b n q1 = 46 := of_decide_eq_true c1
      have e2 := e1.trans (pb_then_inr (show pb_part b n q1 = .inr (q1, 0) from if_neg c1))
      exact mb_b137 h hN hT hc hqn.1 hf2 m10 m11 m12 mF (by unfold pb_bell; rw [e2])
    · have c1 : sp_hb b n q1 = 46 := Decidable.byContradiction fun z => c1 (decide_eq_true z)
      have hq1 : q1 < n := pd_in fun e => by rw [e] at c1; exact absurd c1 (by decide)
      have ep : pb_part b n q1 = sp_num b n false 0 3599 (q1 + 1) := if_pos c1
      refine zz_fin.steps (n := 5) (s' := (121, [some (.ref 540), some (.int f), some (.int (Int32.ofNat (7 * N))), none], [.int ((Int32.ofNat q1) + 1), .ref 540], aa_H (tm_at g2 q1 0))) rfl ?_
      rw [aa_succ]
      refine zz_fin.steps (n := 1) (s' := (124, [some (.ref 540), some (.int f), some (.int (Int32.ofNat (7 * N))), none], [], aa_H (zz_w (tm_at g2 q1 0) 540 5 (Int32.ofNat (q1 + 1))))) rfl ?_
      rw [tm_inc]
      refine zz_fin.steps (n := 3) (s' := (129, [some (.ref 540), some (.int f), some (.int (Int32.ofNat (7 * N))), none], [.int 3599, .int 0, .ref 540], aa_H (tm_at g2 (q1 + 1) 0))) rfl ?_
      refine zz_fin.call rfl rfl (Nat.le_of_ble_eq_true rfl) (tm_plain (p := q1 + 1) (hf2.ok h) hq1) ?_
      rintro v h' (⟨e, he, rfl, g', rfl, hg⟩ | ⟨q2, u, he, rfl, rfl⟩)
      · rw [pb_bell_inl (e1.trans (pb_then_inl (ep.trans he)))]
        refine zz_fin.if rfl (fun cz => absurd cz (by decide)) (fun cz => ?_)
        exact zz_fin.at (n := 2) rfl (.inl ⟨e, rfl, rfl, g', rfl, hf2.bad hg⟩)
      · have e2 := e1.trans (pb_then_inr (ep.trans he))
        have hqn2 := sp_num_n he hq1
        refine zz_fin.if rfl (fun cz => ?_) (fun cz => absurd rfl cz)
        exact mb_b137 h hN hT hc hqn2.1 hf2 m10 m11 m12 mF (by unfold pb_bell; rw [e2])
theorem mb_bell {g : aa_G} {b : Nat → Int32} {n N T c p : Nat} {z : Int32} (h : tm_ok g b n) (hN : N ≤ 8) (hT : T ≤ 40) (hc : c ≤ 60 + 2 * T) (hp : p ≤ n) (h10 : g 540 10 = Int32.ofNat N) (h11 : g 540 11 = Int32.ofNat c) (h12 : g 540 12 = Int32.ofNat T) : zz_fin none 179 (0, zz_in [.ref 540] (zz_nl 179), [], aa_H (tm_at g p z)) (mb_bres g n N T c (pb_bell b n p N T)) := by
  have hn := h.2.1
  have k10 : tm_at g p z 540 10 = Int32.ofNat N := (tm_at_ne _ _ _ (by omega)).trans h10
  refine zz_fin.steps (n := 1) (s' := (1, [some (.ref 540), none, none, none], [.ref 540], aa_H (tm_at g p z))) rfl ?_
  refine zz_fin.call rfl rfl (Nat.le_of_ble_eq_true rfl) (tm_here h (by omega)) ?_
  rintro v h ⟨rfl, rfl⟩
  refine zz_fin.steps (n := 1) (s' := (6, [some (.ref 540), none, none, none], [.int 100, .int (sp_hb b n p)], aa_H (tm_at g p z))) rfl ?_
  refine zz_fin.ic rfl (fun c1 => ?_) (fun c1 => ?_)
  · have c1 : ¬ sp_hb b n p = 100 := of_decide_eq_true c1
    refine zz_fin.steps (n := 1) (s' := (14, [some (.ref 540), none, none, none], [.ref 540], aa_H (tm_at g p z))) rfl ?_
    refine zz_fin.call rfl rfl (Nat.le_of_ble_eq_true rfl) (tm_here h (by omega)) ?_
    rintro v h ⟨rfl, rfl⟩
    refine zz_fin.steps (n := 1) (s' := (19, [some (.ref 540), none, none, none], [.int 110, .int (sp_hb b n p)], aa_H (tm_at g p z))) rfl ?_
    refine zz_fin.ic rfl (fun c2 => ?_) (fun c2 => ?_)
    · have c2 : ¬ sp_hb b n p = 110 := of_decide_eq_true c2
      have ef : pb_head b n p N = .inl p := if_pos (.inl (fun e => e.elim c1 c2))
      refine zz_fin.steps (n := 4) (s' := (30, [some (.ref 540), some (.int (-1)), none, none], [.int (-1), .int (-1)], aa_H (tm_at g p z))) rfl ?_
      refine zz_fin.ic rfl (fun cz => ?_) (fun cz => absurd (by decide) cz)
      refine zz_fin.steps (n := 3) (s' := (47, [some (.ref 540), some (.int (-1)), none, none], [.int (Int32.ofNat p), .ref 540], aa_H (tm_at g p z))) rfl ?_
      refine zz_fin.call rfl rfl (Nat.le_of_ble_eq_true rfl) (tm_fails _) ?_
      rintro v h' ⟨rfl, rfl⟩
      exact zz_fin.at (n := 1) rfl (.inl ⟨p, pb_bell_inl ef, rfl, _, rfl, mb_bfr.rf.bad (tm_bad_of g p z p)⟩)
    · have c2 : sp_hb b n p = 110 := Decidable.byContradiction fun z => c2 (decide_eq_true z)
      have hl : sp_hb b n p = 100 ∨ sp_hb b n p = 110 := .inr c2
      refine zz_fin.steps (n := 5) (s' := (30, [some (.ref 540), some (.int 1), none, none], [.int (-1), .int 1], aa_H (tm_at g p z))) rfl ?_
      refine zz_fin.ic rfl (fun cz => absurd cz (by decide)) (fun cz => ?_)
      refine zz_fin.steps (n := 3) (s' := (39, [some (.ref 540), some (.int 1), none, none], [.int 8, .int ((tm_at g p z) 540 10)], aa_H (tm_at g p z))) rfl ?_
      rw [k10]
      refine zz_fin.ic rfl (fun c3 => ?_) (fun c3 => ?_)
      · have c3 : Int32.ofNat N ≠ 8 := of_decide_eq_true c3
        have hN8 : N < 8 := Decidable.byContradiction fun z => c3 (by rw [show N = 8 by omega]; rfl)
        have hpn : p < n := pd_in fun e => by rw [e] at hl; exact absurd hl (by decide)
        exact mb_b51 h hN8 hT hc hpn h10 h11 h12 hl (by rw [c2]; rfl)
      · have c3 : Int32.ofNat N = 8 := Decidable.byContradiction fun z => c3 (decide_eq_true z)
        have c3 : N = 8 := by have e := zz_ofN (n := N) (by omega); rw [c3, show (8 : Int32).toInt = 8 from rfl] at e; omega
        have ef : pb_head b n p N = .inl p := if_pos (.inr c3)
        refine zz_fin.steps (n := 3) (s' := (47, [some (.ref 540), some (.int 1), none, none], [.int (Int32.ofNat p), .ref 540], aa_H (tm_at g p z))) rfl ?_
        refine zz_fin.call rfl rfl (Nat.le_of_ble_eq_true rfl) (tm_fails _) ?_
        rintro v h' ⟨rfl, rfl⟩
        exact zz_fin.at (n := 1) rfl (.inl ⟨p, pb_bell_inl ef, rfl, _, rfl, mb_bfr.rf.bad (tm_bad_of g p z p)⟩)
  · have c1 : sp_hb b n p = 100 := Decidable.byContradiction fun z => c1 (decide_eq_true z)
    have hl : sp_hb b n p = 100 ∨ sp_hb b n p = 110 := .inl c1
    refine zz_fin.steps (n := 5) (s' := (30, [some (.ref 540), some (.int 0), none, none], [.int (-1), .int 0], aa_H (tm_at g p z))) rfl ?_
    refine zz_fin.ic rfl (fun cz => absurd cz (by decide)) (fun cz => ?_)
    refine zz_fin.steps (n := 3) (s' := (39, [some (.ref 540), some (.int 0), none, none], [.int 8, .int ((tm_at g p z) 540 10)], aa_H (tm_at g p z))) rfl ?_
    rw [k10]
    refine zz_fin.ic rfl (fun c3 => ?_) (fun c3 => ?_)
    · have c3 : Int32.ofNat N ≠ 8 := of_decide_eq_true c3
      have hN8 : N < 8 := Decidable.byContradiction fun z => c3 (by rw [show N = 8 by omega]; rfl)
      have hpn : p < n := pd_in fun e => by rw [e] at hl; exact absurd hl (by decide)
      exact mb_b51 h hN8 hT hc hpn h10 h11 h12 hl (by rw [c1]; rfl)
    · have c3 : Int32.ofNat N = 8 := Decidable.byContradiction fun z => c3 (decide_eq_true z)
      have c3 : N = 8 := by have e := zz_ofN (n := N) (by omega); rw [c3, show (8 : Int32).toInt = 8 from rfl] at e; omega
      have ef : pb_head b n p N = .inl p := if_pos (.inr c3)
      refine zz_fin.steps (n := 3) (s' := (47, [some (.ref 540), some (.int 0), none, none], [.int (Int32.ofNat p), .ref 540], aa_H (tm_at g p z))) rfl ?_
      refine zz_fin.call rfl rfl (Nat.le_of_ble_eq_true rfl) (tm_fails _) ?_
      rintro v h' ⟨rfl, rfl⟩
      exact zz_fin.at (n := 1) rfl (.inl ⟨p, pb_bell_inl ef, rfl, _, rfl, mb_bfr.rf.bad (tm_bad_of g p z p)⟩)
end
section
/-! BELLS: the class reads a BELL -/
def cb_condf (b : Nat → Int32) (n q T : Nat) : fl_R := if sp_hb b n q = 63 then fl_cond b n (n + 1) (q + 1) T 0 false [] else .inr (q, [])
abbrev cb_R : Type := Nat ⊕ (Nat × (pb_F × List fl_T))
def cb_tailf (F : pb_F) (r : fl_R) : cb_R := match r with
  | .inl f => .inl f
  | .inr (q, ts) => .inr (q, (F, ts))
def cb_bellf (b : Nat → Int32) (n p N T : Nat) : cb_R := match pb_head b n p N with
  | .inl f => .inl f
  | .inr (q, F) => cb_tailf F (cb_condf b n q T)
theorem cb_bellf_inl {b : Nat → Int32} {n p N T f : Nat} (h : pb_head b n p N = .inl f) : cb_bellf b n p N T = .inl f := by
  unfold cb_bellf
  rw [h]
theorem cb_bellf_inr {b : Nat → Int32} {n p N T q : Nat} {F : pb_F} (h : pb_head b n p N = .inr (q, F)) : cb_bellf b n p N T = cb_tailf F (cb_condf b n q T) := by
  unfold cb_bellf
  rw [h]
/-- a BELL more -/
def cb_new (g : aa_G) (N T : Nat) (F : pb_F) : aa_G := zz_w (zz_w (zz_w (zz_w (zz_w (zz_w (zz_w g 37 N F.1) 38 N F.2.1) 39 N F.2.2.1) 40 N F.2.2.2) 41 N (Int32.ofNat T)) 42 N 0) 36 0 (Int32.ofNat (N + 1))
theorem cb_new_at {g : aa_G} {b : Nat → Int32} {n p N T : Nat} {F : pb_F} : cb_new (tc_at g b n p) N T F = tc_at (cb_new g N T F) b n p := by
  unfold cb_new
  rw [tc_comm _ _ _ _ (by decide), tc_comm _ _ _ _ (by decide), tc_comm _ _ _ _ (by decide), tc_comm _ _ _ _ (by decide), tc_comm _ _ _ _ (by decide), tc_comm _ _ _ _ (by decide), tc_comm _ _ _ _ (by decide)]
theorem cb_new_ne {g : aa_G} {N T : Nat} {F : pb_F} {k j : Nat} (h : ¬ (k = 36 ∧ j = 0)) (h2 : ¬ (37 ≤ k ∧ k ≤ 42 ∧ j = N)) : cb_new g N T F k j = g k j := by
  unfold cb_new
  rw [aa_w_ne _ _ (by omega), aa_w_ne _ _ (by omega), aa_w_ne _ _ (by omega), aa_w_ne _ _ (by omega), aa_w_ne _ _ (by omega), aa_w_ne _ _ (by omega), aa_w_ne _ _ (by omega)]
def cb_at (g : aa_G) (N T : Nat) (F : pb_F) (th : Nat) : Prop := g 37 N = F.1 ∧ g 38 N = F.2.1 ∧ g 39 N = F.2.2.1 ∧ g 40 N = F.2.2.2 ∧ g 41 N = Int32.ofNat T ∧ g 42 N = Int32.ofNat th
theorem cb_new_get {g : aa_G} {N T : Nat} {F : pb_F} : cb_at (cb_new g N T F) N T F 0 ∧ cb_new g N T F 36 0 = Int32.ofNat (N + 1) := by
  unfold cb_new
  refine ⟨⟨?_, ?_, ?_, ?_, ?_, ?_⟩, aa_w_at _ _ _ _⟩
  · rw [aa_w_ne _ _ (by omega), aa_w_ne _ _ (by omega), aa_w_ne _ _ (by omega), aa_w_ne _ _ (by omega), aa_w_ne _ _ (by omega), aa_w_ne _ _ (by omega), aa_w_at]
  · rw [aa_w_ne _ _ (by omega), aa_w_ne _ _ (by omega), aa_w_ne _ _ (by omega), aa_w_ne _ _ (by omega), aa_w_ne _ _ (by omega), aa_w_at]
  · rw [aa_w_ne _ _ (by omega), aa_w_ne _ _ (by omega), aa_w_ne _ _ (by omega), aa_w_ne _ _ (by omega), aa_w_at]
  · rw [aa_w_ne _ _ (by omega), aa_w_ne _ _ (by omega), aa_w_ne _ _ (by omega), aa_w_at]
  · rw [aa_w_ne _ _ (by omega), aa_w_ne _ _ (by omega), aa_w_at]
  · rw [aa_w_ne _ _ (by omega), aa_w_at]
    rfl
theorem cb_addb {g : aa_G} {N T : Nat} {f y z v : Int32} (h0 : g 36 0 = Int32.ofNat N) (hN : N < 8) (h1 : g 36 1 = Int32.ofNat T) : zz_fin none 45 (0, zz_in [.ref 36, .int f, .int y, .int z, .int v] (zz_nl 45), [], aa_H g) (fun r h => r = none ∧ h = aa_H (cb_new g N T (f, (y, (z, v))))) := by
  refine zz_fin.steps (n := 3) (s' := (6, [some (.ref 36), some (.int f), some (.int y), some (.int z), some (.int v)], [.int 8, .int (g 36 0)], aa_H g)) rfl ?_
  rw [h0]
  refine zz_fin.ic rfl (fun c1 => ?_) (fun c1 => ?_)
  · refine zz_fin.steps (n := 5) (s' := (19, [some (.ref 36), some (.int f), some (.int y), some (.int z), some (.int v)], [.int f, .int (g 36 0), .ref 37], aa_H g)) rfl ?_
    rw [show (g) 36 0 = Int32.ofNat N from h0]
    refine zz_fin.ias (n := 8) rfl rfl (zz_inbN (by omega) (by omega)) ?_
    rw [zz_toN (by omega)]
    refine zz_fin.steps (n := 5) (s' := (29, [some (.ref 36), some (.int f), some (.int y), some (.int z), some (.int v)], [.int y, .int ((zz_w g 37 N f) 36 0), .ref 38], aa_H (zz_w g 37 N f))) rfl ?_
    rw [show (zz_w g 37 N f) 36 0 = Int32.ofNat N from (aa_w_ne _ _ (by omega)).trans (h0)]
    refine zz_fin.ias (n := 8) rfl rfl (zz_inbN (by omega) (by omega)) ?_
    rw [zz_toN (by omega)]
    refine zz_fin.steps (n := 5) (s' := (39, [some (.ref 36), some (.int f), some (.int y), some (.int z), some (.int v)], [.int z, .int ((zz_w (zz_w g 37 N f) 38 N y) 36 0), .ref 39], aa_H (zz_w (zz_w g 37 N f) 38 N y))) rfl ?_
    rw [show (zz_w (zz_w g 37 N f) 38 N y) 36 0 = Int32.ofNat N from (aa_w_ne _ _ (by omega)).trans ((aa_w_ne _ _ (by omega)).trans (h0))]
    refine zz_fin.ias (n := 8) rfl rfl (zz_inbN (by omega) (by omega)) ?_
    rw [zz_toN (by omega)]
    refine zz_fin.steps (n := 5) (s' := (50, [some (.ref 36), some (.int f), some (.int y), some (.int z), some (.int v)], [.int v, .int ((zz_w (zz_w (zz_w g 37 N f) 38 N y) 39 N z) 36 0), .ref 40], aa_H (zz_w (zz_w (zz_w g 37 N f) 38 N y) 39 N z))) rfl ?_
    rw [show (zz_w (zz_w (zz_w g 37 N f) 38 N y) 39 N z) 36 0 = Int32.ofNat N from (aa_w_ne _ _ (by omega)).trans ((aa_w_ne _ _ (by omega)).trans ((aa_w_ne _ _ (by omega)).trans (h0)))]
    refine zz_fin.ias (n := 8) rfl rfl (zz_inbN (by omega) (by omega)) ?_
    rw [zz_toN (by omega)]
    refine zz_fin.steps (n := 6) (s' := (63, [some (.ref 36), some (.int f), some (.int y), some (.int z), some (.int v)], [.int ((zz_w (zz_w (zz_w (zz_w g 37 N f) 38 N y) 39 N z) 40 N v) 36 1), .int ((zz_w (zz_w (zz_w (zz_w g 37 N f) 38 N y) 39 N z) 40 N v) 36 0), .ref 41], aa_H (zz_w (zz_w (zz_w (zz_w g 37 N f) 38 N y) 39 N z) 40 N v))) rfl ?_
    rw [show (zz_w (zz_w (zz_w (zz_w g 37 N f) 38 N y) 39 N z) 40 N v) 36 0 = Int32.ofNat N from (aa_w_ne _ _ (by omega)).trans ((aa_w_ne _ _ (by omega)).trans ((aa_w_ne _ _ (by omega)).trans ((aa_w_ne _ _ (by omega)).trans (h0))))]
    rw [show (zz_w (zz_w (zz_w (zz_w g 37 N f) 38 N y) 39 N z) 40 N v) 36 1 = Int32.ofNat T from (aa_w_ne _ _ (by omega)).trans ((aa_w_ne _ _ (by omega)).trans ((aa_w_ne _ _ (by omega)).trans ((aa_w_ne _ _ (by omega)).trans (h1))))]
    refine zz_fin.ias (n := 8) rfl rfl (zz_inbN (by omega) (by omega)) ?_
    rw [zz_toN (by omega)]
    refine zz_fin.steps (n := 5) (s' := (73, [some (.ref 36), some (.int f), some (.int y), some (.int z), some (.int v)], [.int 0, .int ((zz_w (zz_w (zz_w (zz_w (zz_w g 37 N f) 38 N y) 39 N z) 40 N v) 41 N (Int32.ofNat T)) 36 0), .ref 42], aa_H (zz_w (zz_w (zz_w (zz_w (zz_w g 37 N f) 38 N y) 39 N z) 40 N v) 41 N (Int32.ofNat T)))) rfl ?_
    rw [show (zz_w (zz_w (zz_w (zz_w (zz_w g 37 N f) 38 N y) 39 N z) 40 N v) 41 N (Int32.ofNat T)) 36 0 = Int32.ofNat N from (aa_w_ne _ _ (by omega)).trans ((aa_w_ne _ _ (by omega)).trans ((aa_w_ne _ _ (by omega)).trans ((aa_w_ne _ _ (by omega)).trans ((aa_w_ne _ _ (by omega)).trans (h0)))))]
    refine zz_fin.ias (n := 8) rfl rfl (zz_inbN (by omega) (by omega)) ?_
    rw [zz_toN (by omega)]
    refine zz_fin.steps (n := 5) (s' := (81, [some (.ref 36), some (.int f), some (.int y), some (.int z), some (.int v)], [.int (((zz_w (zz_w (zz_w (zz_w (zz_w (zz_w g 37 N f) 38 N y) 39 N z) 40 N v) 41 N (Int32.ofNat T)) 42 N 0) 36 0) + 1), .ref 36], aa_H (zz_w (zz_w (zz_w (zz_w (zz_w (zz_w g 37 N f) 38 N y) 39 N z) 40 N v) 41 N (Int32.ofNat T)) 42 N 0))) rfl ?_
    rw [show (zz_w (zz_w (zz_w (zz_w (zz_w (zz_w g 37 N f) 38 N y) 39 N z) 40 N v) 41 N (Int32.ofNat T)) 42 N 0) 36 0 = Int32.ofNat N from (aa_w_ne _ _ (by omega)).trans ((aa_w_ne _ _ (by omega)).trans ((aa_w_ne _ _ (by omega)).trans ((aa_w_ne _ _ (by omega)).trans ((aa_w_ne _ _ (by omega)).trans ((aa_w_ne _ _ (by omega)).trans (h0)))))), aa_succ]
    exact zz_fin.at (n := 2) rfl ⟨rfl, rfl⟩
  · exact absurd (decide_eq_true (aa_lt32.mpr (by rw [zz_ofN (by omega), show (8 : Int32).toInt = 8 from rfl]; omega))) c1
def cb_bfr (g g' : aa_G) (N T : Nat) : Prop := ∀ k j, ¬ (k = 36 ∧ j ≤ 1) → ¬ (37 ≤ k ∧ k ≤ 42 ∧ j = N) → ¬ (43 ≤ k ∧ k ≤ 45 ∧ T ≤ j) → ¬ (k = 454 ∧ j = 3) → g' k j = g k j
def cb_bst (g g' : aa_G) (N T : Nat) (F : pb_F) (ts : List fl_T) : Prop := cb_bfr g g' N T ∧ g' 36 0 = Int32.ofNat (N + 1) ∧ g' 36 1 = Int32.ofNat (T + ts.length) ∧ (∀ i t, ts[i]? = some t → g' 43 (T + i) = t.1 ∧ g' 44 (T + i) = t.2.1 ∧ g' 45 (T + i) = t.2.2) ∧ cb_at g' N T F ts.length
def cb_bres (g : aa_G) (b : Nat → Int32) (n N T : Nat) (r : cb_R) (v : Option Value) (h : zz_H) : Prop := (∃ f, r = .inl f ∧ v = some (.int 0) ∧ ∃ g', h = aa_H g' ∧ cb_bad g f g') ∨ (∃ q F ts, r = .inr (q, (F, ts)) ∧ q ≤ n ∧ v = some (.int 1) ∧ ∃ g', h = aa_H (tc_at g' b n q) ∧ cb_bst g g' N T F ts)
theorem cb_bad.of {g g1 g2 : aa_G} {f : Nat} (he : cb_eq g g1) (h : tc_bad g1 f g2) : cb_bad g f g2 := ⟨fun k j _ e => (h.1 k j e).trans (he k j (by omega)), h.2⟩
theorem cb_eq.rf {g : aa_G} : cb_eq g g := fun _ _ _ => rfl
theorem cb_eq.num {g g1 : aa_G} (z : Int32) (h : cb_eq g g1) : cb_eq g (zz_w g1 454 3 z) := fun k j e => (aa_w_ne _ _ e).trans (h k j e)
theorem cb_eq.ok {g g1 : aa_G} {b : Nat → Int32} {n : Nat} (he : cb_eq g g1) (h : tc_ok g b n) : tc_ok g1 b n := ⟨(he 454 0 (by omega)).trans h.1, h.2.1, fun j hj => (he 455 j (by omega)).trans (h.2.2 j hj)⟩
theorem cb_b89 {g g1 : aa_G} {b : Nat → Int32} {n N T q : Nat} {c y z : Int32} (h : tc_ok g b n) (hN : N < 8) (hT : T ≤ 40) (hq : q ≤ n) (he : cb_eq g g1) (h0 : g 36 0 = Int32.ofNat N) (h1 : g 36 1 = Int32.ofNat T) {r : cb_R} (hr : r = (match pb_end b n q (pb_half c) y z with | .inl f => .inl f | .inr (q, F) => cb_tailf F (cb_condf b n q T))) : zz_fin none 44 (89, [some (.ref 454), some (.ref 36), some (.int c), some (.int y), some (.int z)], [], aa_H (tc_at g1 b n q)) (cb_bres g b n N T r) := by
  subst hr
  refine zz_fin.steps (n := 2) (s' := (92, [some (.ref 454), some (.ref 36), some (.int c), some (.int y), some (.int z)], [.int 42, .ref 454], aa_H (tc_at g1 b n q))) rfl ?_
  refine zz_fin.call rfl rfl (Nat.le_of_ble_eq_true rfl) (tc_pass (he.ok h) (c := 42) (by decide)) ?_
  rintro v h' (⟨rfl, k1, k2, rfl⟩ | ⟨rfl, k1, g', rfl, k2⟩)
  · refine zz_fin.if rfl (fun cz => zc_no1 cz) (fun cz => ?_)
    refine zz_fin.steps (n := 4) (s' := (103, [some (.ref 454), some (.ref 36), some (.int c), some (.int y), some (.int z)], [.int 24, .int 1, .int 0, .ref 454], aa_H (tc_at g1 b n (q + 1)))) rfl ?_
    refine zz_fin.call rfl rfl (Nat.le_of_ble_eq_true rfl) (tc_num (neg := false) (he.ok h) k2 1 24) ?_
    rintro v h' (⟨e, hz, rfl, g', rfl, hg⟩ | ⟨q3, u, hz, rfl, rfl⟩)
    · rw [show pb_end b n q (pb_half c) y z = .inl e from (if_pos k1).trans (pb_then_inl hz)]
      refine zz_fin.if rfl (fun cz => absurd cz (by decide)) (fun cz => ?_)
      exact zz_fin.at (n := 2) rfl (.inl ⟨e, rfl, rfl, g', rfl, cb_bad.of he hg⟩)
    · rw [show pb_end b n q (pb_half c) y z = .inr (q3, (pb_half c, (y, (z, u)))) from (if_pos k1).trans (pb_then_inr hz)]
      have hqn := sp_num_n hz k2
      refine zz_fin.if rfl (fun cz => ?_) (fun cz => absurd rfl cz)
      have he2 := he.num u
      generalize hG : zz_w g1 454 3 u = g2 at he2 ⊢
      have k3 : tc_at g2 b n q3 454 3 = u := (tc_at_ne _ _ _ _ (by omega)).trans (by rw [← hG, aa_w_at])
      refine zz_fin.steps (n := 3) (s' := (115, [some (.ref 454), some (.ref 36), some (.int c), some (.int y), some (.int z)], [.int 100, .int c, .ref 36], aa_H (tc_at g2 b n q3))) rfl ?_
      have hh : ∀ φ, zz_fin none 44 (123, [some (.ref 454), some (.ref 36), some (.int c), some (.int y), some (.int z)], [.int (pb_half c), .ref 36], aa_H (tc_at g2 b n q3)) φ → zz_fin none 44 (115, [some (.ref 454), some (.ref 36), some (.int c), some (.int y), some (.int z)], [.int 100, .int c, .ref 36], aa_H (tc_at g2 b n q3)) φ := fun φ k => by
        refine zz_fin.ic rfl (fun cc => ?_) (fun cc => ?_)
        · have e : ¬ c = 100 := of_decide_eq_true cc
          rw [show pb_half c = 1 from if_neg e] at k
          exact zz_fin.steps (n := 1) rfl k
        · have e : c = 100 := Decidable.byContradiction fun z => cc (decide_eq_true z)
          rw [show pb_half c = 0 from if_pos e] at k
          exact zz_fin.steps (n := 2) rfl k
      refine hh _ ?_
      refine zz_fin.steps (n := 4) (s' := (130, [some (.ref 454), some (.ref 36), some (.int c), some (.int y), some (.int z)], [.int ((tc_at g2 b n q3) 454 3), .int z, .int y, .int (pb_half c), .ref 36], aa_H (tc_at g2 b n q3))) rfl ?_
      rw [k3]
      refine zz_fin.call rfl rfl (Nat.le_of_ble_eq_true rfl) (cb_addb (N := N) (T := T) ((tc_at_ne _ _ _ _ (by omega)).trans ((he2 _ _ (by omega)).trans h0)) hN ((tc_at_ne _ _ _ _ (by omega)).trans ((he2 _ _ (by omega)).trans h1))) ?_
      rintro v h' ⟨rfl, rfl⟩
      rw [cb_new_at]
      have gt := cb_new_get (g := g2) (N := N) (T := T) (F := (pb_half c, (y, (z, u))))
      have ne : ∀ k j, ¬ (k = 36 ∧ j = 0) → ¬ (37 ≤ k ∧ k ≤ 42 ∧ j = N) → ¬ (k = 454 ∧ j = 3) → cb_new g2 N T (pb_half c, (y, (z, u))) k j = g k j := fun k j e1 e2 e3 => (cb_new_ne e1 e2).trans (he2 k j e3)
      generalize cb_new g2 N T (pb_half c, (y, (z, u))) = g3 at gt ne ⊢
      have h3 : tc_ok g3 b n := ⟨(ne 454 0 (by omega) (by omega) (by omega)).trans h.1, h.2.1, fun j hj => (ne 455 j (by omega) (by omega) (by omega)).trans (h.2.2 j hj)⟩
      have m1 : g3 36 1 = Int32.ofNat T := (ne 36 1 (by omega) (by omega) (by omega)).trans h1
      refine zz_fin.steps (n := 3) (s' := (139, [some (.ref 454), some (.ref 36), some (.int c), some (.int y), some (.int z)], [.int 63, .int (sp_hb b n q3)], aa_H (tc_at g3 b n q3))) rfl ?_
      refine zz_fin.ic rfl (fun c1 => ?_) (fun c1 => ?_)
      · have c1 : sp_hb b n q3 = 63 := of_decide_eq_true c1
        have hq3 : q3 < n := pd_in fun e => by rw [e] at c1; exact absurd c1 (by decide)
        have e3 : cb_condf b n q3 T = fl_cond b n (n + 1) (q3 + 1) T 0 false [] := if_pos c1
        dsimp only
        rw [e3]
        refine zz_fin.steps (n := 1) (s' := (145, [some (.ref 454), some (.ref 36), some (.int c), some (.int y), some (.int z)], [.ref 454], aa_H (tc_at g3 b n q3))) rfl ?_
        refine zz_fin.call rfl rfl (Nat.le_of_ble_eq_true rfl) (tc_step h3 hq3) ?_
        rintro v h ⟨rfl, rfl⟩
        refine zz_fin.steps (n := 2) (s' := (150, [some (.ref 454), some (.ref 36), some (.int c), some (.int y), some (.int z)], [.ref 36, .ref 454], aa_H (tc_at g3 b n (q3 + 1)))) rfl ?_
        refine zz_fin.call rfl rfl (Nat.le_of_ble_eq_true rfl) (cb_cond0 (N := N + 1) (T := T) (p := q3 + 1) h3 gt.2 (by omega) m1 hT gt.1.2.2.2.2.2 (by omega) hq3) ?_
        rintro v h' (⟨e, hz, rfl, g', rfl, hb⟩ | ⟨q4, ts, hz, hq4, rfl, g4, rfl, hs⟩)
        · rw [hz]
          exact zz_fin.at (n := 1) rfl (.inl ⟨e, rfl, rfl, g', rfl, ⟨fun k j e1 e2 => (hb.1 k j e1 e2).trans (ne k j (by omega) (by omega) (by omega)), hb.2⟩⟩)
        · rw [hz]
          obtain ⟨s1, s2, s3, s4⟩ := hs
          have at4 : ∀ k, 37 ≤ k → k ≤ 41 → g4 k N = g3 k N := fun k k1 k2 => s1 k N (by omega) (by omega) (by omega) (by omega)
          exact zz_fin.at (n := 1) rfl (.inr ⟨q4, (pb_half c, (y, (z, u))), ts, rfl, hq4, rfl, g4, rfl, fun k j e1 e2 e3 e4 => (s1 k j (by omega) (by omega) (by omega) e4).trans (ne k j (by omega) e2 e4), (s1 36 0 (by omega) (by omega) (by omega) (by omega)).trans gt.2, s2, s4, ⟨(at4 37 (by omega) (by omega)).trans gt.1.1, (at4 38 (by omega) (by omega)).trans gt.1.2.1, (at4 39 (by omega) (by omega)).trans gt.1.2.2.1, (at4 40 (by omega) (by omega)).trans gt.1.2.2.2.1, (at4 41 (by omega) (by omega)).trans gt.1.2.2.2.2.1, s3⟩⟩)
      · have c1 : ¬ sp_hb b n q3 = 63 := fun z => c1 (decide_eq_true z)
        have e3 : cb_condf b n q3 T = .inr (q3, []) := if_neg c1
        dsimp only
        rw [e3]
        exact zz_fin.at (n := 2) rfl (.inr ⟨q3, (pb_half c, (y, (z, u))), [], rfl, hqn.1, rfl, g3, rfl, fun k j e1 e2 e3 e4 => ne k j (by omega) e2 e4, gt.2, m1, fun i t e => (by cases e), gt.1⟩)
  · refine zz_fin.if rfl (fun cz => ?_) (fun cz => zc_no0 cz)
    rw [show pb_end b n q (pb_half c) y z = .inl q from if_neg k1]
    exact zz_fin.at (n := 2) rfl (.inl ⟨q, rfl, rfl, g', rfl, cb_bad.of he k2⟩)
theorem cb_b31 {g : aa_G} {b : Nat → Int32} {n N T p : Nat} (h : tc_ok g b n) (hN : N < 8) (hT : T ≤ 40) (hp : p < n) (h0 : g 36 0 = Int32.ofNat N) (h1 : g 36 1 = Int32.ofNat T) (hl : sp_hb b n p = 100 ∨ sp_hb b n p = 110) : zz_fin none 44 (31, [some (.ref 454), some (.ref 36), some (.int (sp_hb b n p)), none, none], [], aa_H (tc_at g b n p)) (cb_bres g b n N T (cb_bellf b n p N T)) := by
  have e0 : pb_head b n p N = pb_then (sp_num b n false 0 11 (p + 1)) fun q1 y => pb_then (pb_part b n q1) fun q2 z => pb_end b n q2 (pb_half (sp_hb b n p)) y z := if_neg (fun e => e.elim (fun e => e hl) (fun e => by omega))
  refine zz_fin.steps (n := 1) (s' := (32, [some (.ref 454), some (.ref 36), some (.int (sp_hb b n p)), none, none], [.ref 454], aa_H (tc_at g b n p))) rfl ?_
  refine zz_fin.call rfl rfl (Nat.le_of_ble_eq_true rfl) (tc_step h hp) ?_
  rintro v h ⟨rfl, rfl⟩
  refine zz_fin.steps (n := 4) (s' := (40, [some (.ref 454), some (.ref 36), some (.int (sp_hb b n p)), none, none], [.int 11, .int 0, .int 0, .ref 454], aa_H (tc_at g b n (p + 1)))) rfl ?_
  refine zz_fin.call rfl rfl (Nat.le_of_ble_eq_true rfl) (tc_num (neg := false) (p := p + 1) h hp 0 11) ?_
  rintro v h' (⟨e, hz, rfl, g', rfl, hg⟩ | ⟨q1, y, hz, rfl, rfl⟩)
  · rw [cb_bellf_inl (e0.trans (pb_then_inl hz))]
    refine zz_fin.if rfl (fun cz => absurd cz (by decide)) (fun cz => ?_)
    exact zz_fin.at (n := 2) rfl (.inl ⟨e, rfl, rfl, g', rfl, cb_bad.of cb_eq.rf hg⟩)
  · have e1 := e0.trans (pb_then_inr hz)
    have hqn := sp_num_n hz hp
    refine zz_fin.if rfl (fun cz => ?_) (fun cz => absurd rfl cz)
    refine zz_fin.steps (n := 8) (s' := (62, [some (.ref 454), some (.ref 36), some (.int (sp_hb b n p)), some (.int y), some (.int 0)], [.int 46, .int (sp_hb b n q1)], aa_H (tc_at (zz_w g 454 3 y) b n q1))) rfl ?_
    refine zz_fin.ic rfl (fun c1 => ?_) (fun c1 => ?_)
    · have c1 : ¬ sp_hb b n q1 = 46 := of_decide_eq_true c1
      have e2 := e1.trans (pb_then_inr (show pb_part b n q1 = .inr (q1, 0) from if_neg c1))
      exact cb_b89 h hN hT hqn.1 (cb_eq.rf.num y) h0 h1 (by unfold cb_bellf; rw [e2])
    · have c1 : sp_hb b n q1 = 46 := Decidable.byContradiction fun z => c1 (decide_eq_true z)
      have hq1 : q1 < n := pd_in fun e => by rw [e] at c1; exact absurd c1 (by decide)
      have ep : pb_part b n q1 = sp_num b n false 0 3599 (q1 + 1) := if_pos c1
      refine zz_fin.steps (n := 1) (s' := (66, [some (.ref 454), some (.ref 36), some (.int (sp_hb b n p)), some (.int y), some (.int 0)], [.ref 454], aa_H (tc_at (zz_w g 454 3 y) b n q1))) rfl ?_
      refine zz_fin.call rfl rfl (Nat.le_of_ble_eq_true rfl) (tc_step (cb_eq.ok (cb_eq.rf.num y) h) hq1) ?_
      rintro v h ⟨rfl, rfl⟩
      refine zz_fin.steps (n := 4) (s' := (75, [some (.ref 454), some (.ref 36), some (.int (sp_hb b n p)), some (.int y), some (.int 0)], [.int 3599, .int 0, .int 0, .ref 454], aa_H (tc_at (zz_w g 454 3 y) b n (q1 + 1)))) rfl ?_
      refine zz_fin.call rfl rfl (Nat.le_of_ble_eq_true rfl) (tc_num (neg := false) (p := q1 + 1) (cb_eq.ok (cb_eq.rf.num y) h) hq1 0 3599) ?_
      rintro v h' (⟨e, hz2, rfl, g', rfl, hg⟩ | ⟨q2, u, hz2, rfl, rfl⟩)
      · rw [cb_bellf_inl (e1.trans (pb_then_inl (ep.trans hz2)))]
        refine zz_fin.if rfl (fun cz => absurd cz (by decide)) (fun cz => ?_)
        exact zz_fin.at (n := 2) rfl (.inl ⟨e, rfl, rfl, g', rfl, cb_bad.of (cb_eq.rf.num y) hg⟩)
      · have e2 := e1.trans (pb_then_inr (ep.trans hz2))
        have hqn2 := sp_num_n hz2 hq1
        refine zz_fin.if rfl (fun cz => ?_) (fun cz => absurd rfl cz)
        refine zz_fin.steps (n := 3) (s' := (89, [some (.ref 454), some (.ref 36), some (.int (sp_hb b n p)), some (.int y), some (.int u)], [], aa_H (tc_at (zz_w (zz_w g 454 3 y) 454 3 u) b n q2))) rfl ?_
        exact cb_b89 h hN hT hqn2.1 ((cb_eq.rf.num y).num u) h0 h1 (by unfold cb_bellf; rw [e2])
theorem cb_bell {g : aa_G} {b : Nat → Int32} {n N T p : Nat} (h : tc_ok g b n) (hN : N ≤ 8) (hT : T ≤ 40) (hp : p ≤ n) (h0 : g 36 0 = Int32.ofNat N) (h1 : g 36 1 = Int32.ofNat T) : zz_fin none 44 (0, zz_in [.ref 454, .ref 36] (zz_nl 44), [], aa_H (tc_at g b n p)) (cb_bres g b n N T (cb_bellf b n p N T)) := by
  have k0 : tc_at g b n p 36 0 = Int32.ofNat N := (tc_at_ne _ _ _ _ (by omega)).trans h0
  refine zz_fin.steps (n := 6) (s' := (11, [some (.ref 454), some (.ref 36), some (.int (sp_hb b n p)), none, none], [.int 8, .int ((tc_at g b n p) 36 0)], aa_H (tc_at g b n p))) rfl ?_
  rw [k0]
  refine zz_fin.ic rfl (fun c0 => ?_) (fun c0 => ?_)
  · have c0 : (8 : Int32).toInt ≤ (Int32.ofNat N).toInt := aa_le32.mp (of_decide_eq_true c0)
    rw [zz_ofN (by omega), show (8 : Int32).toInt = 8 from rfl] at c0
    have ef : pb_head b n p N = .inl p := if_pos (.inr (by omega))
    refine zz_fin.steps (n := 1) (s' := (27, [some (.ref 454), some (.ref 36), some (.int (sp_hb b n p)), none, none], [.ref 454], aa_H (tc_at g b n p))) rfl ?_
    refine zz_fin.call rfl rfl (Nat.le_of_ble_eq_true rfl) (tc_fail) ?_
    rintro v h' ⟨rfl, g', rfl, hb⟩
    exact zz_fin.at (n := 1) rfl (.inl ⟨p, cb_bellf_inl ef, rfl, g', rfl, cb_bad.of cb_eq.rf hb⟩)
  · have hN8 : N < 8 := Decidable.byContradiction fun z => c0 (decide_eq_true (aa_le32.mpr (by rw [zz_ofN (by omega), show (8 : Int32).toInt = 8 from rfl]; omega)))
    refine zz_fin.steps (n := 2) (s' := (17, [some (.ref 454), some (.ref 36), some (.int (sp_hb b n p)), none, none], [.int 100, .int (sp_hb b n p)], aa_H (tc_at g b n p))) rfl ?_
    refine zz_fin.ic rfl (fun c1 => ?_) (fun c1 => ?_)
    · have c1 : sp_hb b n p = 100 := of_decide_eq_true c1
      have hpn : p < n := pd_in fun e => by rw [e] at c1; exact absurd c1 (by decide)
      exact cb_b31 h hN8 hT hpn h0 h1 (.inl c1)
    · have c1 : ¬ sp_hb b n p = 100 := fun z => c1 (decide_eq_true z)
      refine zz_fin.steps (n := 2) (s' := (23, [some (.ref 454), some (.ref 36), some (.int (sp_hb b n p)), none, none], [.int 110, .int (sp_hb b n p)], aa_H (tc_at g b n p))) rfl ?_
      refine zz_fin.ic rfl (fun c2 => ?_) (fun c2 => ?_)
      · have c2 : sp_hb b n p = 110 := of_decide_eq_true c2
        have hpn : p < n := pd_in fun e => by rw [e] at c2; exact absurd c2 (by decide)
        exact cb_b31 h hN8 hT hpn h0 h1 (.inr c2)
      · have c2 : ¬ sp_hb b n p = 110 := fun z => c2 (decide_eq_true z)
        have ef : pb_head b n p N = .inl p := if_pos (.inl (fun e => e.elim c1 c2))
        refine zz_fin.steps (n := 1) (s' := (27, [some (.ref 454), some (.ref 36), some (.int (sp_hb b n p)), none, none], [.ref 454], aa_H (tc_at g b n p))) rfl ?_
        refine zz_fin.call rfl rfl (Nat.le_of_ble_eq_true rfl) (tc_fail) ?_
        rintro v h' ⟨rfl, g', rfl, hb⟩
        exact zz_fin.at (n := 1) rfl (.inl ⟨p, cb_bellf_inl ef, rfl, g', rfl, cb_bad.of cb_eq.rf hb⟩)
end
section
/-! BELLS: both sides read alike; the loops -/
theorem pb_head_lt {b : Nat → Int32} {n p N q : Nat} {F : pb_F} (h : pb_head b n p N = .inr (q, F)) : p < q ∧ q ≤ n ∧ N ≠ 8 := by
  by_cases h0 : ¬ (sp_hb b n p = 100 ∨ sp_hb b n p = 110) ∨ N = 8
  · rw [show pb_head b n p N = .inl p from if_pos h0] at h
    cases h
  · have hN : N ≠ 8 := fun e => h0 (.inr e)
    have hl : sp_hb b n p = 100 ∨ sp_hb b n p = 110 := Decidable.byContradiction fun e => h0 (.inl e)
    have hp : p < n := pd_in fun e => by
      rw [e] at hl
      exact absurd hl (by decide)
    have e0 : pb_head b n p N = pb_then (sp_num b n false 0 11 (p + 1)) fun q1 y => pb_then (pb_part b n q1) fun q2 z => pb_end b n q2 (pb_half (sp_hb b n p)) y z := if_neg h0
    rw [e0] at h
    cases h1 : sp_num b n false 0 11 (p + 1) with
    | inl f =>
      rw [pb_then_inl h1] at h
      cases h
    | inr r =>
      obtain ⟨q1, y⟩ := r
      rw [pb_then_inr h1] at h
      have b1 := sp_num_n h1 hp
      cases h2 : pb_part b n q1 with
      | inl f =>
        rw [pb_then_inl h2] at h
        cases h
      | inr r =>
        obtain ⟨q2, z⟩ := r
        rw [pb_then_inr h2] at h
        have b2 : q1 ≤ q2 ∧ q2 ≤ n := by
          by_cases hd : sp_hb b n q1 = 46
          · rw [show pb_part b n q1 = _ from if_pos hd] at h2
            have hq1 : q1 < n := pd_in fun e => by
              rw [e] at hd
              exact absurd hd (by decide)
            have := sp_num_n h2 hq1
            omega
          · rw [show pb_part b n q1 = _ from if_neg hd] at h2
            cases h2
            exact ⟨Nat.le_refl _, b1.1⟩
        by_cases hs : sp_hb b n q2 = 42
        · rw [show pb_end b n q2 (pb_half (sp_hb b n p)) y z = _ from if_pos hs] at h
          have hq2 : q2 < n := pd_in fun e => by
            rw [e] at hs
            exact absurd hs (by decide)
          cases h3 : sp_num b n false 1 24 (q2 + 1) with
          | inl f =>
            rw [pb_then_inl h3] at h
            cases h
          | inr r =>
            obtain ⟨q3, w⟩ := r
            rw [pb_then_inr h3] at h
            have b3 := sp_num_n h3 hq2
            cases h
            exact ⟨by omega, by omega, hN⟩
        · rw [show pb_end b n q2 (pb_half (sp_hb b n p)) y z = _ from if_neg hs] at h
          cases h
/-- a BELL of the class and its end -/
def cb_q (b : Nat → Int32) (n : Nat) (r : cb_R) : cb_R := match r with
  | .inl f => .inl f
  | .inr (q, (F, ts)) => if sp_hb b n q = 59 then .inr (q + 1, (F, ts)) else .inl q
theorem cb_pb {b : Nat → Int32} {n p N T : Nat} (hT : T ≤ 40) : (∀ f, pb_bell b n p N T = .inl f → cb_q b n (cb_bellf b n p N T) = .inl f) ∧ (∀ q F T2 cs, pb_bell b n p N T = .inr (q, (F, (T2, cs))) → p < q ∧ q ≤ n ∧ T2 ≤ 40 ∧ T ≤ T2 ∧ cs.length ≤ 2 * (T2 - T) ∧ N ≠ 8 ∧ ∃ ts, T + ts.length = T2 ∧ cb_q b n (cb_bellf b n p N T) = .inr (q, (F, ts))) := by
  cases hh : pb_head b n p N with
  | inl f =>
    rw [pb_bell_inl hh, cb_bellf_inl hh]
    exact ⟨fun f2 h => by cases h; rfl, fun q F T2 cs h => by cases h⟩
  | inr r =>
    obtain ⟨q, F⟩ := r
    obtain ⟨l1, l2, l3⟩ := pb_head_lt hh
    rw [pb_bell_inr hh, cb_bellf_inr hh]
    by_cases hc : sp_hb b n q = 63
    · have hqn : q < n := pd_in fun e => by
        rw [e] at hc
        exact absurd hc (by decide)
      rw [show pb_cond b n q T = pd_cond b n (q + 1) T from if_pos hc, show cb_condf b n q T = fl_cond b n (n + 1) (q + 1) T 0 false [] from if_pos hc]
      obtain ⟨i1, i2⟩ := fl_cond_pd (b := b) (n := n) (p := q + 1) (T := T) (k := n + 1) (s := 0) (l := []) hqn hT (by omega)
      cases hp : pd_cond b n (q + 1) T with
      | inl f =>
        rw [i1 f hp]
        exact ⟨fun f2 h => by cases h; rfl, fun q F T2 cs h => by cases h⟩
      | inr r =>
        obtain ⟨q2, T2, cs⟩ := r
        obtain ⟨a1, a2, a3, a4, a5⟩ := pd_cond_gd b n (q + 1) T q2 T2 cs hqn hT hp
        obtain ⟨j1, j2⟩ := i2 q2 T2 cs hp
        cases ho : pd_ot (sp_hb b n q2) with
        | true =>
          have hne : ¬ sp_hb b n q2 = 59 := fun e => by
            rw [e] at ho
            exact absurd ho (by decide)
          rw [j1 ho, show pb_tail b n F (.inr (q2, (T2, cs))) = .inl q2 from if_neg hne]
          exact ⟨fun f2 h => by cases h; rfl, fun q F T2 cs h => by cases h⟩
        | false =>
          obtain ⟨ts, e1, e2⟩ := j2 ho
          have e1 : ts.length + T = 0 + T2 := e1
          rw [e2]
          by_cases hs : sp_hb b n q2 = 59
          · rw [show pb_tail b n F (.inr (q2, (T2, cs))) = .inr (q2 + 1, (F, (T2, cs))) from if_pos hs, show cb_q b n (cb_tailf F (.inr (q2, ts))) = .inr (q2 + 1, (F, ts)) from if_pos hs]
            have hq2 : q2 < n := pd_in fun e => by
              rw [e] at hs
              exact absurd hs (by decide)
            refine ⟨fun f h => (by cases h), fun q F T2 cs h => ?_⟩
            cases h
            exact ⟨by omega, hq2, a4, by omega, by omega, l3, ts, by omega, rfl⟩
          · rw [show pb_tail b n F (.inr (q2, (T2, cs))) = .inl q2 from if_neg hs, show cb_q b n (cb_tailf F (.inr (q2, ts))) = .inl q2 from if_neg hs]
            exact ⟨fun f2 h => by cases h; rfl, fun q F T2 cs h => by cases h⟩
    · rw [show pb_cond b n q T = .inr (q, (T, [])) from if_neg hc, show cb_condf b n q T = .inr (q, []) from if_neg hc]
      by_cases hs : sp_hb b n q = 59
      · rw [show pb_tail b n F (.inr (q, (T, []))) = .inr (q + 1, (F, (T, []))) from if_pos hs, show cb_q b n (cb_tailf F (.inr (q, []))) = .inr (q + 1, (F, [])) from if_pos hs]
        have hq2 : q < n := pd_in fun e => by
          rw [e] at hs
          exact absurd hs (by decide)
        refine ⟨fun f h => (by cases h), fun q F T2 cs h => ?_⟩
        cases h
        exact ⟨by omega, hq2, hT, Nat.le_refl _, Nat.zero_le _, l3, [], rfl, rfl⟩
      · rw [show pb_tail b n F (.inr (q, (T, []))) = .inl q from if_neg hs, show cb_q b n (cb_tailf F (.inr (q, []))) = .inl q from if_neg hs]
        exact ⟨fun f2 h => by cases h; rfl, fun q F T2 cs h => by cases h⟩
/-- all BELLS: how many -/
def ml_loop (b : Nat → Int32) (n : Nat) : Nat → Nat → Nat → Nat → Nat ⊕ Nat
  | 0, p, _, _ => .inl p
  | k + 1, p, N, T => if p < n then (match pb_bell b n p N T with
    | .inl f => .inl f
    | .inr (q, (_, (T2, _))) => ml_loop b n k q (N + 1) T2) else .inr N
def cl_loop (b : Nat → Int32) (n : Nat) : Nat → Nat → Nat → Nat → Nat ⊕ Nat
  | 0, p, _, _ => .inl p
  | k + 1, p, N, T => if p < n then (match cb_q b n (cb_bellf b n p N T) with
    | .inl f => .inl f
    | .inr (q, (_, ts)) => cl_loop b n k q (N + 1) (T + ts.length)) else .inr N
theorem ml_no {b : Nat → Int32} {n k p N T : Nat} (h : ¬ p < n) : ml_loop b n (k + 1) p N T = .inr N := if_neg h
theorem ml_inl {b : Nat → Int32} {n k p N T f : Nat} (h : p < n) (e : pb_bell b n p N T = .inl f) : ml_loop b n (k + 1) p N T = .inl f := by
  rw [ml_loop, if_pos h, e]
theorem ml_inr {b : Nat → Int32} {n k p N T q T2 : Nat} {F : pb_F} {cs : List Int32} (h : p < n) (e : pb_bell b n p N T = .inr (q, (F, (T2, cs)))) : ml_loop b n (k + 1) p N T = ml_loop b n k q (N + 1) T2 := by
  rw [ml_loop, if_pos h, e]
theorem cl_no {b : Nat → Int32} {n k p N T : Nat} (h : ¬ p < n) : cl_loop b n (k + 1) p N T = .inr N := if_neg h
theorem cl_inl {b : Nat → Int32} {n k p N T f : Nat} (h : p < n) (e : cb_q b n (cb_bellf b n p N T) = .inl f) : cl_loop b n (k + 1) p N T = .inl f := by
  rw [cl_loop, if_pos h, e]
theorem cl_inr {b : Nat → Int32} {n k p N T q : Nat} {F : pb_F} {ts : List fl_T} (h : p < n) (e : cb_q b n (cb_bellf b n p N T) = .inr (q, (F, ts))) : cl_loop b n (k + 1) p N T = cl_loop b n k q (N + 1) (T + ts.length) := by
  rw [cl_loop, if_pos h, e]
theorem cl_ml {b : Nat → Int32} {n : Nat} : ∀ k p N T, T ≤ 40 → cl_loop b n k p N T = ml_loop b n k p N T := by
  intro k
  induction k with
  | zero => intro p N T _; rfl
  | succ k ih =>
    intro p N T hT
    by_cases hp : p < n
    · obtain ⟨i1, i2⟩ := cb_pb (b := b) (n := n) (p := p) (N := N) hT
      cases hb : pb_bell b n p N T with
      | inl f => rw [ml_inl hp hb, cl_inl hp (i1 f hb)]
      | inr r =>
        obtain ⟨q, F, T2, cs⟩ := r
        obtain ⟨a1, a2, a3, a4, a5, a6, ts, e1, e2⟩ := i2 q F T2 cs hb
        rw [ml_inr hp hb, cl_inr hp e2, e1]
        exact ih q (N + 1) T2 a3
    · rw [ml_no hp, cl_no hp]
def cb_rest (g g' : aa_G) : Prop := ∀ k j, ¬ (36 ≤ k ∧ k ≤ 45) → ¬ (k = 454 ∧ 1 ≤ j ∧ j ≤ 3) → g' k j = g k j
def cb_all (g : aa_G) (r : Nat ⊕ Nat) (v : Option Value) (h : zz_H) : Prop := (∃ f, r = .inl f ∧ v = some (.int (-1)) ∧ ∃ g', h = aa_H g' ∧ cb_bad g f g') ∨ (∃ N, r = .inr N ∧ N ≤ 8 ∧ v = some (.int (Int32.ofNat N)) ∧ ∃ g', h = aa_H g' ∧ cb_rest g g')
theorem cb_rest.rf {g : aa_G} : cb_rest g g := fun _ _ _ _ => rfl
theorem cb_rest.all {g g1 : aa_G} {r : Nat ⊕ Nat} {v : Option Value} {h : zz_H} (hf : cb_rest g g1) (k : cb_all g1 r v h) : cb_all g r v h := by
  rcases k with ⟨f, k1, k2, g', k3, k4⟩ | ⟨N, k1, k0, k2, g', k3, k4⟩
  · exact .inl ⟨f, k1, k2, g', k3, fun a j e1 e2 => (k4.1 a j e1 e2).trans (hf a j e1 (by omega)), k4.2⟩
  · exact .inr ⟨N, k1, k0, k2, g', k3, fun a j e1 e2 => (k4 a j e1 e2).trans (hf a j e1 e2)⟩
theorem cb_loop {b : Nat → Int32} {n : Nat} : ∀ (k p i N T : Nat) (g : aa_G), n < k + p → i ≤ p → p ≤ n → N ≤ 8 → T ≤ 40 → tc_ok g b n → g 36 0 = Int32.ofNat N → g 36 1 = Int32.ofNat T → zz_fin none 42 (10, [some (.ref 454), some (.ref 36), some (.int (Int32.ofNat i))], [], aa_H (tc_at g b n p)) (cb_all g (cl_loop b n k p N T)) := by
  intro k
  induction k with
  | zero => intro p i N T g hk hi hp; omega
  | succ k ih =>
    intro p i N T g hk hi hp hN hT h h0 h1
    have hn := h.2.1
    have k0 : tc_at g b n p 36 0 = Int32.ofNat N := (tc_at_ne _ _ _ _ (by omega)).trans h0
    refine zz_fin.steps (n := 2) (s' := (14, [some (.ref 454), some (.ref 36), some (.int (Int32.ofNat i))], [.int 500, .int (Int32.ofNat i)], aa_H (tc_at g b n p))) rfl ?_
    refine zz_fin.ic rfl (fun c1 => ?_) (fun c1 => ?_)
    · have c1 : (500 : Int32).toInt ≤ (Int32.ofNat i).toInt := aa_le32.mp (of_decide_eq_true c1)
      rw [zz_ofN (by omega), show (500 : Int32).toInt = 500 from rfl] at c1
      have hno : ¬ p < n := by omega
      refine zz_fin.steps (n := 2) (s' := (53, [some (.ref 454), some (.ref 36), some (.int (Int32.ofNat i))], [.int ((tc_at g b n p) 36 0)], aa_H (tc_at g b n p))) rfl ?_
      rw [k0, cl_no hno]
      exact zz_fin.at (n := 1) rfl (.inr ⟨N, rfl, hN, rfl, _, rfl, fun k j e1 e2 => tc_at_ne _ _ _ _ (by omega)⟩)
    · refine zz_fin.steps (n := 1) (s' := (18, [some (.ref 454), some (.ref 36), some (.int (Int32.ofNat i))], [.ref 454], aa_H (tc_at g b n p))) rfl ?_
      refine zz_fin.call rfl rfl (Nat.le_of_ble_eq_true rfl) (tc_more h (by omega)) ?_
      rintro v h ⟨⟨rfl, hno⟩ | ⟨rfl, hno⟩, rfl⟩
      · refine zz_fin.if rfl (fun cz => zc_no1 cz) (fun cz => ?_)
        refine zz_fin.steps (n := 2) (s' := (26, [some (.ref 454), some (.ref 36), some (.int (Int32.ofNat i))], [.ref 36, .ref 454], aa_H (tc_at g b n p))) rfl ?_
        refine zz_fin.call rfl rfl (Nat.le_of_ble_eq_true rfl) (cb_bell h hN hT hp h0 h1) ?_
        rintro v h' (⟨f, e, rfl, g', rfl, hb⟩ | ⟨q, F, ts, e, hq, rfl, g1, rfl, hs⟩)
        · rw [cl_inl hno (show cb_q b n (cb_bellf b n p N T) = .inl f by rw [e]; rfl)]
          refine zz_fin.if rfl (fun cz => ?_) (fun cz => zc_no0 cz)
          exact zz_fin.at (n := 2) rfl (.inl ⟨f, rfl, rfl, g', rfl, hb⟩)
        · refine zz_fin.if rfl (fun cz => zc_no1 cz) (fun cz => ?_)
          have h2 : tc_ok g1 b n := ⟨(hs.1 454 0 (by omega) (by omega) (by omega) (by omega)).trans h.1, h.2.1, fun j hj => (hs.1 455 j (by omega) (by omega) (by omega) (by omega)).trans (h.2.2 j hj)⟩
          have hr : cb_rest g g1 := fun k j e1 e2 => hs.1 k j (by omega) (by omega) (by omega) (by omega)
          refine zz_fin.steps (n := 2) (s' := (35, [some (.ref 454), some (.ref 36), some (.int (Int32.ofNat i))], [.int 59, .ref 454], aa_H (tc_at g1 b n q))) rfl ?_
          refine zz_fin.call rfl rfl (Nat.le_of_ble_eq_true rfl) (tc_pass h2 (c := 59) (by decide)) ?_
          rintro v h' (⟨rfl, k1, k2, rfl⟩ | ⟨rfl, k1, g', rfl, k2⟩)
          · have e2 : cb_q b n (cb_bellf b n p N T) = .inr (q + 1, (F, ts)) := by
              rw [e]
              exact if_pos k1
            rw [cl_inr hno e2]
            refine zz_fin.if rfl (fun cz => ?_) (fun cz => absurd rfl cz)
            refine zz_fin.steps (n := 2) (s' := (10, [some (.ref 454), some (.ref 36), some (.int (Int32.ofNat i + 1))], [], aa_H (tc_at g1 b n (q + 1)))) rfl ?_
            rw [aa_succ]
            obtain ⟨i1, i2⟩ := cb_pb (b := b) (n := n) (p := p) (N := N) hT
            have hall : p < q + 1 ∧ T + ts.length ≤ 40 ∧ N ≠ 8 := by
              cases hb : pb_bell b n p N T with
              | inl f =>
                have := i1 f hb
                rw [e2] at this
                cases this
              | inr r =>
                obtain ⟨q5, F5, T5, cs5⟩ := r
                obtain ⟨a1, a2, a3, a4, a5, a6, ts5, f1, f2⟩ := i2 q5 F5 T5 cs5 hb
                rw [e2] at f2
                cases f2
                exact ⟨a1, by omega, a6⟩
            exact (ih (q + 1) (i + 1) (N + 1) (T + ts.length) g1 (by omega) (by omega) k2 (by omega) hall.2.1 h2 hs.2.1 hs.2.2.1).mono fun v h' k => hr.all k
          · have e2 : cb_q b n (cb_bellf b n p N T) = .inl q := by
              rw [e]
              exact if_neg k1
            rw [cl_inl hno e2]
            refine zz_fin.if rfl (fun cz => absurd cz (by decide)) (fun cz => ?_)
            exact zz_fin.at (n := 2) rfl (.inl ⟨q, rfl, rfl, g', rfl, fun k j e1 e3 => (k2.1 k j e3).trans (hr k j e1 (by omega)), k2.2⟩)
      · refine zz_fin.if rfl (fun cz => ?_) (fun cz => zc_no0 cz)
        refine zz_fin.steps (n := 2) (s' := (53, [some (.ref 454), some (.ref 36), some (.int (Int32.ofNat i))], [.int ((tc_at g b n p) 36 0)], aa_H (tc_at g b n p))) rfl ?_
        rw [k0, cl_no hno]
        exact zz_fin.at (n := 1) rfl (.inr ⟨N, rfl, hN, rfl, _, rfl, fun k j e1 e2 => tc_at_ne _ _ _ _ (by omega)⟩)
end
section
/-! BELLS: bells() of both sides: answer and fault -/
def bl_ans (r : Nat ⊕ Nat) : Int32 := match r with
  | .inl _ => -1
  | .inr N => Int32.ofNat N
def bl_flt (r : Nat ⊕ Nat) : Int32 := match r with
  | .inl f => Int32.ofNat f
  | .inr _ => -1
theorem cb_read {g : aa_G} {b : Nat → Int32} {n : Nat} (h : tc_ok g b n) : zz_fin none 42 (0, zz_in [.ref 454, .ref 36] (zz_nl 42), [], aa_H g) (cb_all (zz_w (zz_w (zz_w g 454 4 (-1)) 36 0 0) 36 1 0) (cl_loop b n (n + 1) 0 0 0)) := by
  have hn := h.2.1
  refine zz_fin.steps (n := 1) (s' := (1, [some (.ref 454), some (.ref 36), none], [.ref 454], aa_H g)) rfl ?_
  refine zz_fin.call rfl rfl (Nat.le_of_ble_eq_true rfl) (tc_rew h) ?_
  rintro v h ⟨rfl, rfl⟩
  refine zz_fin.steps (n := 1) (s' := (5, [some (.ref 454), some (.ref 36), none], [.ref 36], aa_H (tc_at (zz_w g 454 4 (-1)) b n 0))) rfl ?_
  refine zz_fin.call (ψ := fun v h' => v = none ∧ h' = aa_H (zz_w (zz_w (tc_at (zz_w g 454 4 (-1)) b n 0) 36 0 0) 36 1 0)) rfl rfl (Nat.le_of_ble_eq_true rfl) (zz_fin.at (n := 7) rfl ⟨rfl, rfl⟩) ?_
  rintro v h' ⟨rfl, rfl⟩
  rw [tc_comm _ _ _ _ (by decide), tc_comm _ _ _ _ (by decide)]
  refine zz_fin.steps (n := 2) (s' := (10, [some (.ref 454), some (.ref 36), some (.int (Int32.ofNat 0))], [], aa_H (tc_at (zz_w (zz_w (zz_w g 454 4 (-1)) 36 0 0) 36 1 0) b n 0))) rfl ?_
  exact cb_loop (n + 1) 0 0 0 0 _ (by omega) (Nat.le_refl _) (Nat.zero_le _) (by omega) (by omega) ⟨(aa_w_ne _ _ (by omega)).trans ((aa_w_ne _ _ (by omega)).trans ((aa_w_ne _ _ (by omega)).trans h.1)), h.2.1, fun j hj => (aa_w_ne _ _ (by omega)).trans ((aa_w_ne _ _ (by omega)).trans ((aa_w_ne _ _ (by omega)).trans (h.2.2 j hj)))⟩ ((aa_w_ne _ _ (by omega)).trans (aa_w_at _ _ _ _)) (aa_w_at _ _ _ _)
theorem cb_bells {g : aa_G} {b : Nat → Int32} {n e c : Nat} (h : tc_ok g b n) (he : e < 12) (hc : c ≤ 12) (h0 : g 66 0 = Int32.ofNat c) (h1 : g 66 1 = Int32.ofNat e) : zz_fin none 41 (0, zz_in [.ref 1] (zz_nl 41), [], aa_H g) (fun v h => ∃ g', h = aa_H g' ∧ v = some (.int (bl_ans (cl_loop b n (n + 1) 0 0 0))) ∧ g' 1 13 = bl_flt (cl_loop b n (n + 1) 0 0 0) ∧ g' 454 0 = 0) := by
  refine zz_fin.steps (n := 4) (s' := (8, [some (.ref 1), none], [.ref 2, .ref 34], aa_H g)) rfl ?_
  refine zz_fin.call rfl rfl (Nat.le_of_ble_eq_true rfl) (cp_state cs_ok_34 cs_ok_2 (show 34 + 32 ≤ 2 ∨ 2 + 32 ≤ 34 by omega)) ?_
  rintro v h' ⟨rfl, g1, rfl, k1, k2⟩
  have k2 : cp_fr g g1 34 65 := k2
  have ht1 : tc_ok g1 b n := ⟨(k2 454 0 (by omega)).trans h.1, h.2.1, fun j hj => (k2 455 j (by omega)).trans (h.2.2 j hj)⟩
  refine zz_fin.steps (n := 5) (s' := (22, [some (.ref 1), none], [.ref 36, .ref 454], aa_H g1)) rfl ?_
  refine zz_fin.call rfl rfl (Nat.le_of_ble_eq_true rfl) (cb_read ht1) ?_
  rintro v h' (⟨f, hs, rfl, g2, rfl, b1, b2⟩ | ⟨N, hs, hN, rfl, g2, rfl, hr⟩)
  · refine zz_fin.steps (n := 2) (s' := (27, [some (.ref 1), some (.int (-1))], [.ref 1], aa_H g2)) rfl ?_
    refine zz_fin.call rfl rfl (Nat.le_of_ble_eq_true rfl) (ct_eor) ?_
    rintro v h ⟨rfl, rfl⟩
    refine zz_fin.steps (n := 2) (s' := (32, [some (.ref 1), some (.int (-1))], [.int (-1), .int (-1)], aa_H (zz_w (zz_w g2 1 13 (g2 454 4)) 454 0 0))) rfl ?_
    refine zz_fin.ic rfl (fun cz => ?_) (fun cz => absurd rfl cz)
    rw [hs]
    exact zz_fin.at (n := 2) rfl ⟨_, rfl, rfl, (aa_w_ne _ _ (by omega)).trans ((aa_w_at _ _ _ _).trans b2), aa_w_at _ _ _ _⟩
  · refine zz_fin.steps (n := 2) (s' := (27, [some (.ref 1), some (.int (Int32.ofNat N))], [.ref 1], aa_H g2)) rfl ?_
    refine zz_fin.call rfl rfl (Nat.le_of_ble_eq_true rfl) (ct_eor) ?_
    rintro v h ⟨rfl, rfl⟩
    refine zz_fin.steps (n := 2) (s' := (32, [some (.ref 1), some (.int (Int32.ofNat N))], [.int (-1), .int (Int32.ofNat N)], aa_H (zz_w (zz_w g2 1 13 (g2 454 4)) 454 0 0))) rfl ?_
    have hne : Int32.ofNat N ≠ -1 := fun z => by
      have e := zz_ofN (n := N) (by omega)
      rw [z, show (-1 : Int32).toInt = -1 from rfl] at e
      omega
    refine zz_fin.ic rfl (fun cz => absurd (of_decide_eq_true cz) hne) (fun cz => ?_)
    have fr : ∀ k j, ¬ ((34 ≤ k ∧ k ≤ 65)) → k ≠ 454 → ¬ (k = 1 ∧ j = 13) → (zz_w (zz_w g2 1 13 (g2 454 4)) 454 0 0) k j = g k j := fun k j e1 e2 e3 => by
      rw [aa_w_ne _ _ (by omega), aa_w_ne _ _ (by omega), hr k j (by omega) (by omega), aa_w_ne _ _ (by omega), aa_w_ne _ _ (by omega), aa_w_ne _ _ (by omega)]
      exact k2 k j (by omega)
    refine zz_fin.steps (n := 3) (s' := (40, [some (.ref 1), some (.int (Int32.ofNat N))], [.ref 34, .ref 1], aa_H (zz_w (zz_w g2 1 13 (g2 454 4)) 454 0 0))) rfl ?_
    have hG13 : (zz_w (zz_w g2 1 13 (g2 454 4)) 454 0 0) 1 13 = -1 := by
      rw [aa_w_ne _ _ (by omega), aa_w_at, hr 454 4 (by omega) (by omega), aa_w_ne _ _ (by omega), aa_w_ne _ _ (by omega), aa_w_at]
    have hG0 : (zz_w (zz_w g2 1 13 (g2 454 4)) 454 0 0) 454 0 = 0 := aa_w_at _ _ _ _
    generalize hG : zz_w (zz_w g2 1 13 (g2 454 4)) 454 0 0 = G3 at fr hG13 hG0 ⊢
    refine zz_fin.call rfl rfl (Nat.le_of_ble_eq_true rfl) (cd_adopt cs_ok_34 (by omega) he hc ((fr 66 0 (by omega) (by omega) (by omega)).trans h0) ((fr 66 1 (by omega) (by omega) (by omega)).trans h1)) ?_
    rintro v h' ⟨rfl, g4, g5, rfl, ⟨p1, p2, p3, p4⟩, q1, q2⟩
    have s4 : ∀ k j, ¬ (32 * e + 68 ≤ k ∧ k ≤ 32 * e + 99) → ¬ (k = 66 ∧ j ≤ 1) → g4 k j = G3 k j := p4
    rw [hs]
    exact zz_fin.at (n := 2) rfl ⟨g5, rfl, rfl, (q2 1 13 (by omega)).trans ((s4 1 13 (by omega) (by omega)).trans hG13), (q2 454 0 (by omega)).trans ((s4 454 0 (by omega) (by omega)).trans hG0)⟩
end
section
/-! FEED: a byte, both ways -/
theorem fd_255 : ∀ i, i < 32 → (255#32).getLsbD i = decide (i < 8) := by decide
theorem fd_bit (v : BitVec 32) (s : Nat) (hs : s ≤ 24) : (((v.sshiftRight s).setWidth 8).signExtend 32) &&& 255#32 = (v >>> s) &&& 255#32 := by
  apply BitVec.eq_of_getLsbD_eq
  intro i hi
  rw [BitVec.getLsbD_and, BitVec.getLsbD_and, fd_255 i hi]
  by_cases h8 : i < 8
  · have h1 : s + i < 32 := by omega
    have e1 : (((v.sshiftRight s).setWidth 8).signExtend 32).getLsbD i = v.getLsbD (s + i) := by
      rw [BitVec.getLsbD_signExtend, if_pos h8, BitVec.getLsbD_setWidth, BitVec.getLsbD_sshiftRight, decide_eq_true hi, decide_eq_true h8, if_pos h1, decide_eq_false (show ¬ 32 ≤ i by omega)]
      rfl
    have e2 : (v >>> s).getLsbD i = v.getLsbD (s + i) := BitVec.getLsbD_ushiftRight ..
    rw [e1, e2]
  · rw [decide_eq_false h8, Bool.and_false, Bool.and_false]
def cf_byte (x s : Int32) : Int32 := (x.toUInt32 >>> (s.toUInt32 &&& Int32.toUInt32 31)).toInt32 &&& 255
def mf_byte (x s : Int32) : Int32 := vp_nar .byte (x >>> (s &&& 31)).toInt8.toInt32
theorem fd_nar (y : Int32) : vp_nar .byte y.toInt8.toInt32 = y.toInt8.toInt32 := by
  rw [vp_nar_byte]
  exact congrArg Int8.toInt32 (Int8.toInt8_toInt32 _)
theorem fd_gen (x s : Int32) (n : Nat) (hn : n ≤ 24) (k1 : ((s &&& 31).toBitVec.smod 32).toNat = n) (k2 : ((s.toUInt32 &&& Int32.toUInt32 31).toBitVec % 32).toNat = n) : mf_byte x s &&& 255 = cf_byte x s := by
  unfold mf_byte cf_byte
  rw [fd_nar]
  refine Int32.toBitVec_inj.mp ?_
  have e1 : ((x >>> (s &&& 31)).toInt8.toInt32 &&& 255).toBitVec = ((((x.toBitVec.sshiftRight n).setWidth 8).signExtend 32) &&& 255#32) := by
    rw [Int32.toBitVec_and, Int8.toBitVec_toInt32, Int32.toBitVec_toInt8, Int32.toBitVec_shiftRight, BitVec.sshiftRight', k1, BitVec.signExtend_eq_setWidth_of_le _ (show 8 ≤ 32 by decide)]
    rfl
  have e2 : ((x.toUInt32 >>> (s.toUInt32 &&& Int32.toUInt32 31)).toInt32 &&& 255).toBitVec = ((x.toBitVec >>> n) &&& 255#32) := by
    rw [Int32.toBitVec_and]
    show (x.toUInt32 >>> (s.toUInt32 &&& Int32.toUInt32 31)).toBitVec &&& _ = _
    rw [UInt32.toBitVec_shiftRight, BitVec.ushiftRight_eq', k2]
    rfl
  rw [e1, e2]
  exact fd_bit _ n hn
theorem fd_byte24 (x : Int32) : mf_byte x 24 &&& 255 = cf_byte x 24 := fd_gen x 24 24 (by decide) (by decide) (by decide)
theorem fd_byte16 (x : Int32) : mf_byte x 16 &&& 255 = cf_byte x 16 := fd_gen x 16 16 (by decide) (by decide) (by decide)
theorem fd_byte8 (x : Int32) : mf_byte x 8 &&& 255 = cf_byte x 8 := fd_gen x 8 8 (by decide) (by decide) (by decide)
theorem fd_byte0 (x : Int32) : mf_byte x 0 &&& 255 = cf_byte x 0 := fd_gen x 0 0 (by decide) (by decide) (by decide)
/-- the four bytes, the highest first -/
def fd_sh : Nat → Int32
  | 0 => 24
  | 1 => 16
  | 2 => 8
  | _ => 0
theorem fd_byte (x : Int32) {i : Nat} (h : i < 4) : mf_byte x (fd_sh i) &&& 255 = cf_byte x (fd_sh i) := by
  match i, h with
  | 0, _ => exact fd_byte24 x
  | 1, _ => exact fd_byte16 x
  | 2, _ => exact fd_byte8 x
  | 3, _ => exact fd_byte0 x
end
