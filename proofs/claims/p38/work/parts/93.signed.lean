/-! READING NUMBERS: the model's readSigned and readPlain -/
def tm_res (g : aa_G) (r : Nat ⊕ (Nat × Int32)) (v : Option Value) (h : zz_H) : Prop := (∃ f, r = .inl f ∧ v = some (.int 0) ∧ ∃ g', h = aa_H g' ∧ tm_bad g f g') ∨ (∃ q z, r = .inr (q, z) ∧ v = some (.int 1) ∧ h = aa_H (tm_at g q z))
theorem tm_range {h : zz_H} {lo hi z : Int32} : zz_fin none 154 (0, zz_in [.int z, .int lo, .int hi] (zz_nl 154), [], h) (fun v h' => ((v = some (.int 1) ∧ ¬ (z < lo ∨ hi < z)) ∨ (v = some (.int 0) ∧ (z < lo ∨ hi < z))) ∧ h' = h) := by
  by_cases c : lo ≤ z ∧ z ≤ hi
  · refine (zz_within1 (.inr rfl) c).mono ?_
    rintro v h' ⟨rfl, rfl⟩
    exact ⟨.inl ⟨rfl, fun e => e.elim (fun e => Int32.not_le.mpr e c.1) (fun e => Int32.not_le.mpr e c.2)⟩, rfl⟩
  · refine (zz_within0 (.inr rfl) c).mono ?_
    rintro v h' ⟨rfl, rfl⟩
    refine ⟨.inr ⟨rfl, ?_⟩, rfl⟩
    by_cases d : lo ≤ z
    · exact .inr (Int32.not_le.mp fun e => c ⟨d, e⟩)
    · exact .inl (Int32.not_le.mp d)
theorem tm_stail {g : aa_G} {b : Nat → Int32} {n p a : Nat} {z lo hi : Int32} {m : Bool} (h : tm_ok g b n) (ha : a ≤ n) (hm : m = sp_neg b n p true) (hpa : a = if m = true then p + 1 else p) : zz_fin none 170 (36, [some (.ref 540), some (.int lo), some (.int hi), some (.int (Int32.ofNat p)), some (.int (if m = true then 1 else 0))], [], aa_H (tm_at g a z)) (tm_res g (sp_num b n true lo hi p)) := by
  have e : sp_num b n true lo hi p = (if (sp_run b n 5 a 0).1 = a ∨ sp_dg (sp_hb b n (sp_run b n 5 a 0).1) = true then .inl (sp_run b n 5 a 0).1 else (if (if m = true then -(sp_run b n 5 a 0).2 else (sp_run b n 5 a 0).2) < lo ∨ hi < (if m = true then -(sp_run b n 5 a 0).2 else (sp_run b n 5 a 0).2) then .inl p else .inr ((sp_run b n 5 a 0).1, if m = true then -(sp_run b n 5 a 0).2 else (sp_run b n 5 a 0).2))) := by
    rw [hpa, hm]
    rfl
  rw [e]
  refine zz_fin.steps (n := 1) (s' := (37, [some (.ref 540), some (.int lo), some (.int hi), some (.int (Int32.ofNat p)), some (.int (if m = true then 1 else 0))], [.ref 540], aa_H (tm_at g a z))) rfl ?_
  refine zz_fin.call rfl rfl (Nat.le_of_ble_eq_true rfl) (tm_digits h ha) ?_
  rintro v h (⟨rfl, hc, g', rfl, hg⟩ | ⟨rfl, hc, rfl⟩)
  · rw [if_pos hc]
    refine zz_fin.if rfl (fun c => absurd c (by decide)) (fun c => ?_)
    refine zz_fin.steps (n := 1) (s' := (44, [some (.ref 540), some (.int lo), some (.int hi), some (.int (Int32.ofNat p)), some (.int (if m = true then 1 else 0))], [.int 0], aa_H (g'))) rfl ?_
    exact zz_fin.at (n := 1) rfl (.inl ⟨_, rfl, rfl, g', rfl, hg⟩)
  · rw [if_neg hc]
    refine zz_fin.if rfl (fun c => ?_) (fun c => absurd rfl c)
    generalize sp_run b n 5 a 0 = r
    obtain ⟨q, y⟩ := r
    show zz_fin none 170 (45, [some (.ref 540), some (.int lo), some (.int hi), some (.int (Int32.ofNat p)), some (.int (if m = true then 1 else 0))], [], aa_H (tm_at g q y)) (tm_res g (if (if m = true then -y else y) < lo ∨ hi < (if m = true then -y else y) then .inl p else .inr (q, if m = true then -y else y)))
    refine zz_fin.steps (n := 2) (s' := (48, [some (.ref 540), some (.int lo), some (.int hi), some (.int (Int32.ofNat p)), some (.int (if m = true then 1 else 0))], [.int (if m = true then 1 else 0), .ref 540], aa_H (tm_at g q y))) rfl ?_
    have key : zz_fin none 170 (63, [some (.ref 540), some (.int lo), some (.int hi), some (.int (Int32.ofNat p)), some (.int (if m = true then 1 else 0))], [.int (if m = true then -y else y), .ref 540], aa_H (tm_at g q y)) (tm_res g (if (if m = true then -y else y) < lo ∨ hi < (if m = true then -y else y) then .inl p else .inr (q, if m = true then -y else y))) := by
      generalize (if m = true then -y else y) = x
      generalize (if m = true then (1 : Int32) else 0) = m1
      refine zz_fin.steps (n := 5) (s' := (72, [some (.ref 540), some (.int lo), some (.int hi), some (.int (Int32.ofNat p)), some (.int m1)], [.int hi, .int lo, .int x], aa_H (zz_w (tm_at g q y) 540 7 x))) rfl ?_
      rw [tm_over7]
      refine zz_fin.call rfl rfl (Nat.le_of_ble_eq_true rfl) (tm_range) ?_
      rintro v h ⟨⟨rfl, hr⟩ | ⟨rfl, hr⟩, rfl⟩
      · rw [if_neg hr]
        refine zz_fin.if rfl (fun c => ?_) (fun c => absurd rfl c)
        refine zz_fin.steps (n := 2) (s' := (91, [some (.ref 540), some (.int lo), some (.int hi), some (.int (Int32.ofNat p)), some (.int m1)], [.int 1], aa_H (tm_at g q x))) rfl ?_
        exact zz_fin.at (n := 1) rfl (.inr ⟨q, x, rfl, rfl, rfl⟩)
      · rw [if_pos hr]
        refine zz_fin.if rfl (fun c => absurd c (by decide)) (fun c => ?_)
        refine zz_fin.steps (n := 2) (s' := (80, [some (.ref 540), some (.int lo), some (.int hi), some (.int (Int32.ofNat p)), some (.int m1)], [.int (Int32.ofNat p), .ref 540], aa_H (tm_at g q x))) rfl ?_
        refine zz_fin.call rfl rfl (Nat.le_of_ble_eq_true rfl) (tm_fails _) ?_
        rintro v h ⟨rfl, rfl⟩
        refine zz_fin.if rfl (fun c => ?_) (fun c => zc_no0 c)
        refine zz_fin.steps (n := 1) (s' := (91, [some (.ref 540), some (.int lo), some (.int hi), some (.int (Int32.ofNat p)), some (.int m1)], [.int 0], aa_H (zz_w (tm_at g q x) 540 6 (Int32.ofNat p)))) rfl ?_
        exact zz_fin.at (n := 1) rfl (.inl ⟨p, rfl, rfl, _, rfl, tm_bad_of g q x p⟩)
    cases m with
    | true =>
      refine zz_fin.if rfl (fun c => zc_no1 c) (fun c => ?_)
      refine zz_fin.steps (n := 4) (s' := (63, [some (.ref 540), some (.int lo), some (.int hi), some (.int (Int32.ofNat p)), some (.int 1)], [.int (-y), .ref 540], aa_H (tm_at g q y))) rfl ?_
      exact key
    | false =>
      refine zz_fin.if rfl (fun c => ?_) (fun c => zc_no0 c)
      refine zz_fin.steps (n := 2) (s' := (63, [some (.ref 540), some (.int lo), some (.int hi), some (.int (Int32.ofNat p)), some (.int 0)], [.int (y), .ref 540], aa_H (tm_at g q y))) rfl ?_
      exact key
theorem tm_signed {g : aa_G} {b : Nat → Int32} {n p : Nat} {z lo hi : Int32} (h : tm_ok g b n) (hp : p ≤ n) : zz_fin none 170 (0, zz_in [.ref 540, .int lo, .int hi] (zz_nl 170), [], aa_H (tm_at g p z)) (tm_res g (sp_num b n true lo hi p)) := by
  have hn := h.2.1
  refine zz_fin.steps (n := 4) (s' := (6, [some (.ref 540), some (.int lo), some (.int hi), some (.int (Int32.ofNat p)), none], [.ref 540], aa_H (tm_at g p z))) rfl ?_
  refine zz_fin.call rfl rfl (Nat.le_of_ble_eq_true rfl) (tm_here h (by omega)) ?_
  rintro v h ⟨rfl, rfl⟩
  refine zz_fin.steps (n := 1) (s' := (11, [some (.ref 540), some (.int lo), some (.int hi), some (.int (Int32.ofNat p)), none], [.int 45, .int (sp_hb b n p)], aa_H (tm_at g p z))) rfl ?_
  refine zz_fin.ic rfl (fun c1 => ?_) (fun c1 => ?_)
  · have c1 : sp_hb b n p ≠ 45 := of_decide_eq_true c1
    refine zz_fin.steps (n := 3) (s' := (23, [some (.ref 540), some (.int lo), some (.int hi), some (.int (Int32.ofNat p)), some (.int 0)], [.int 0], aa_H (tm_at g p z))) rfl ?_
    refine zz_fin.if rfl (fun c => ?_) (fun c => zc_no0 c)
    exact tm_stail (m := false) h hp (by unfold sp_neg; rw [decide_eq_false c1]; rfl) rfl
  · have c1 : sp_hb b n p = 45 := Decidable.byContradiction fun z => c1 (decide_eq_true z)
    have hpn : p < n := Decidable.byContradiction fun z => by rw [show sp_hb b n p = -1 from if_neg z] at c1; cases c1
    refine zz_fin.steps (n := 4) (s' := (23, [some (.ref 540), some (.int lo), some (.int hi), some (.int (Int32.ofNat p)), some (.int 1)], [.int 1], aa_H (tm_at g p z))) rfl ?_
    refine zz_fin.if rfl (fun c => zc_no1 c) (fun c => ?_)
    refine zz_fin.steps (n := 5) (s' := (33, [some (.ref 540), some (.int lo), some (.int hi), some (.int (Int32.ofNat p)), some (.int 1)], [.int ((Int32.ofNat p) + 1), .ref 540], aa_H (tm_at g p z))) rfl ?_
    rw [aa_succ]
    refine zz_fin.steps (n := 1) (s' := (36, [some (.ref 540), some (.int lo), some (.int hi), some (.int (Int32.ofNat p)), some (.int 1)], [], aa_H (zz_w (tm_at g p z) 540 5 (Int32.ofNat (p + 1))))) rfl ?_
    rw [tm_over5]
    exact tm_stail (m := true) h hpn (by unfold sp_neg; rw [decide_eq_true c1]; rfl) rfl
theorem tm_plain {g : aa_G} {b : Nat → Int32} {n p : Nat} {z lo hi : Int32} (h : tm_ok g b n) (hp : p ≤ n) : zz_fin none 180 (0, zz_in [.ref 540, .int lo, .int hi] (zz_nl 180), [], aa_H (tm_at g p z)) (tm_res g (sp_num b n false lo hi p)) := by
  have e : sp_num b n false lo hi p = (if (sp_run b n 5 p 0).1 = p ∨ sp_dg (sp_hb b n (sp_run b n 5 p 0).1) = true then .inl (sp_run b n 5 p 0).1 else (if (sp_run b n 5 p 0).2 < lo ∨ hi < (sp_run b n 5 p 0).2 then .inl p else .inr ((sp_run b n 5 p 0).1, (sp_run b n 5 p 0).2))) := rfl
  rw [e]
  refine zz_fin.steps (n := 4) (s' := (6, [some (.ref 540), some (.int lo), some (.int hi), some (.int (Int32.ofNat p))], [.ref 540], aa_H (tm_at g p z))) rfl ?_
  refine zz_fin.call rfl rfl (Nat.le_of_ble_eq_true rfl) (tm_digits h hp) ?_
  rintro v h (⟨rfl, hc, g', rfl, hg⟩ | ⟨rfl, hc, rfl⟩)
  · rw [if_pos hc]
    refine zz_fin.if rfl (fun c => ?_) (fun c => zc_no0 c)
    refine zz_fin.steps (n := 1) (s' := (37, [some (.ref 540), some (.int lo), some (.int hi), some (.int (Int32.ofNat p))], [.int 0], aa_H (g'))) rfl ?_
    exact zz_fin.at (n := 1) rfl (.inl ⟨_, rfl, rfl, g', rfl, hg⟩)
  · rw [if_neg hc]
    refine zz_fin.if rfl (fun c => zc_no1 c) (fun c => ?_)
    generalize sp_run b n 5 p 0 = r
    obtain ⟨q, x⟩ := r
    show zz_fin none 180 (12, [some (.ref 540), some (.int lo), some (.int hi), some (.int (Int32.ofNat p))], [], aa_H (tm_at g q x)) (tm_res g (if x < lo ∨ hi < x then .inl p else .inr (q, x)))
    refine zz_fin.steps (n := 4) (s' := (18, [some (.ref 540), some (.int lo), some (.int hi), some (.int (Int32.ofNat p))], [.int hi, .int lo, .int x], aa_H (tm_at g q x))) rfl ?_
    refine zz_fin.call rfl rfl (Nat.le_of_ble_eq_true rfl) (tm_range) ?_
    rintro v h ⟨⟨rfl, hr⟩ | ⟨rfl, hr⟩, rfl⟩
    · rw [if_neg hr]
      refine zz_fin.if rfl (fun c => ?_) (fun c => absurd rfl c)
      refine zz_fin.steps (n := 2) (s' := (37, [some (.ref 540), some (.int lo), some (.int hi), some (.int (Int32.ofNat p))], [.int 1], aa_H (tm_at g q x))) rfl ?_
      exact zz_fin.at (n := 1) rfl (.inr ⟨q, x, rfl, rfl, rfl⟩)
    · rw [if_pos hr]
      refine zz_fin.if rfl (fun c => absurd c (by decide)) (fun c => ?_)
      refine zz_fin.steps (n := 2) (s' := (26, [some (.ref 540), some (.int lo), some (.int hi), some (.int (Int32.ofNat p))], [.int (Int32.ofNat p), .ref 540], aa_H (tm_at g q x))) rfl ?_
      refine zz_fin.call rfl rfl (Nat.le_of_ble_eq_true rfl) (tm_fails _) ?_
      rintro v h ⟨rfl, rfl⟩
      refine zz_fin.if rfl (fun c => ?_) (fun c => zc_no0 c)
      refine zz_fin.steps (n := 1) (s' := (37, [some (.ref 540), some (.int lo), some (.int hi), some (.int (Int32.ofNat p))], [.int 0], aa_H (zz_w (tm_at g q x) 540 6 (Int32.ofNat p)))) rfl ?_
      exact zz_fin.at (n := 1) rfl (.inl ⟨p, rfl, rfl, _, rfl, tm_bad_of g q x p⟩)
