/-! A TEXT: the model reads all items -/
theorem mt_item {g : aa_G} {b : Nat → Int32} {n p : Nat} {z : Int32} {A : sp_A} (h : tm_ok g b n) (hA : mv0 g A) (hp : p < n) : zz_fin none 166 (0, zz_in [.ref 540] (zz_nl 166), [], aa_H (tm_at g p z)) (mt_res g n (sp_q b n (sp_item b n p A))) := by
  have hn := h.2.1
  refine zz_fin.steps (n := 1) (s' := (1, [some (.ref 540), none], [.ref 540], aa_H (tm_at g p z))) rfl ?_
  refine zz_fin.call rfl rfl (Nat.le_of_ble_eq_true rfl) (tm_here h (by omega)) ?_
  rintro v h ⟨rfl, rfl⟩
  refine zz_fin.steps (n := 3) (s' := (8, [some (.ref 540), some (.int (sp_hb b n p))], [.int 116, .int (sp_hb b n p)], aa_H (tm_at g p z))) rfl ?_
  refine zz_fin.ic rfl (fun c1 => ?_) (fun c1 => ?_)
  · have c1 : sp_hb b n p ≠ 116 := of_decide_eq_true c1
    refine zz_fin.steps (n := 2) (s' := (21, [some (.ref 540), some (.int (sp_hb b n p))], [.int 112, .int (sp_hb b n p)], aa_H (tm_at g p z))) rfl ?_
    refine zz_fin.ic rfl (fun c2 => ?_) (fun c2 => ?_)
    · have c2 : sp_hb b n p = 112 := of_decide_eq_true c2
      have e : sp_item b n p A = sp_body b n p false A := by unfold sp_item sp_body; rw [if_neg c1]; simp [c2]
      rw [e, c2]
      refine zz_fin.steps (n := 3) (s' := (34, [some (.ref 540), some (.int 112)], [.int 120, .int 112, .ref 540], aa_H (tm_at g p z))) rfl ?_
      refine zz_fin.ic rfl (fun cz => ?_) (fun cz => absurd rfl cz)
      refine zz_fin.steps (n := 1) (s' := (42, [some (.ref 540), some (.int 112)], [.int 0, .ref 540], aa_H (tm_at g p z))) rfl ?_
      refine zz_fin.call rfl rfl (Nat.le_of_ble_eq_true rfl) (mt_point_0 h hA hp) ?_
      rintro v h' hres
      rcases hres with ⟨f, k1, rfl, k2⟩ | ⟨q, A', k1, k2, rfl, k3⟩
      · obtain ⟨g', rfl, k2⟩ := k2
        exact zz_fin.at (n := 2) rfl (.inl ⟨f, k1, rfl, g', rfl, k2⟩)
      · obtain ⟨g', z', rfl, k3⟩ := k3
        exact zz_fin.at (n := 2) rfl (.inr ⟨q, A', k1, k2, rfl, g', z', rfl, k3⟩)
    · have c2 : sp_hb b n p ≠ 112 := fun z => c2 (decide_eq_true z)
      refine zz_fin.steps (n := 2) (s' := (27, [some (.ref 540), some (.int (sp_hb b n p))], [.int 120, .int (sp_hb b n p)], aa_H (tm_at g p z))) rfl ?_
      refine zz_fin.ic rfl (fun c3 => ?_) (fun c3 => ?_)
      · have c3 : sp_hb b n p ≠ 120 := of_decide_eq_true c3
        have e : sp_item b n p A = .inl p := by rw [show sp_item b n p A = _ from if_neg c1, if_neg fun z => z.1.elim c2 c3]
        rw [e]
        refine zz_fin.steps (n := 3) (s' := (53, [some (.ref 540), some (.int (sp_hb b n p))], [.int (Int32.ofNat p), .ref 540], aa_H (tm_at g p z))) rfl ?_
        refine zz_fin.call rfl rfl (Nat.le_of_ble_eq_true rfl) (tm_fails _) ?_
        rintro v h' ⟨rfl, rfl⟩
        exact zz_fin.at (n := 1) rfl (.inl ⟨p, rfl, rfl, _, rfl, mt_fr.rf.bad hA.2.1 hA.1 (tm_bad_of g p z p)⟩)
      · have c3 : sp_hb b n p = 120 := Decidable.byContradiction fun z => c3 (decide_eq_true z)
        have e : sp_item b n p A = sp_body b n p true A := by unfold sp_item sp_body; rw [if_neg c1]; simp [c3]
        rw [e, c3]
        refine zz_fin.steps (n := 3) (s' := (34, [some (.ref 540), some (.int 120)], [.int 120, .int 120, .ref 540], aa_H (tm_at g p z))) rfl ?_
        refine zz_fin.ic rfl (fun cz => absurd cz (by decide)) (fun cz => ?_)
        refine zz_fin.steps (n := 2) (s' := (42, [some (.ref 540), some (.int 120)], [.int 1, .ref 540], aa_H (tm_at g p z))) rfl ?_
        refine zz_fin.call rfl rfl (Nat.le_of_ble_eq_true rfl) (mt_point_1 h hA hp) ?_
        rintro v h' hres
        rcases hres with ⟨f, k1, rfl, k2⟩ | ⟨q, A', k1, k2, rfl, k3⟩
        · obtain ⟨g', rfl, k2⟩ := k2
          exact zz_fin.at (n := 2) rfl (.inl ⟨f, k1, rfl, g', rfl, k2⟩)
        · obtain ⟨g', z', rfl, k3⟩ := k3
          exact zz_fin.at (n := 2) rfl (.inr ⟨q, A', k1, k2, rfl, g', z', rfl, k3⟩)
  · have c1 : sp_hb b n p = 116 := Decidable.byContradiction fun z => c1 (decide_eq_true z)
    rw [show sp_item b n p A = sp_rtown b n p A from if_pos c1]
    refine zz_fin.steps (n := 1) (s' := (12, [some (.ref 540), some (.int (sp_hb b n p))], [.ref 540], aa_H (tm_at g p z))) rfl ?_
    refine zz_fin.call rfl rfl (Nat.le_of_ble_eq_true rfl) (mt_rtown h hA hp) ?_
    rintro v h' hres
    rcases hres with ⟨f, k1, rfl, k2⟩ | ⟨q, A', k1, k2, rfl, k3⟩
    · obtain ⟨g', rfl, k2⟩ := k2
      exact zz_fin.at (n := 2) rfl (.inl ⟨f, k1, rfl, g', rfl, k2⟩)
    · obtain ⟨g', z', rfl, k3⟩ := k3
      exact zz_fin.at (n := 2) rfl (.inr ⟨q, A', k1, k2, rfl, g', z', rfl, k3⟩)
/-- how many points -/
def sp_pts (A : sp_A) : Nat → Nat
  | 0 => 0
  | k + 1 => sp_pts A k + A.2.1 k
theorem sp_pts_le {A : sp_A} (h : ∀ t, t < A.1.1 → A.2.1 t ≤ 12) : ∀ k, k ≤ A.1.1 → sp_pts A k ≤ 12 * k
  | 0, _ => Nat.le_refl _
  | k + 1, hk => by
    have := sp_pts_le h k (by omega)
    have := h k (by omega)
    show sp_pts A k + A.2.1 k ≤ _
    omega
theorem mt_cloop {g : aa_G} {A : sp_A} (hA : mv0 g A) (n : Nat) : ∀ (k : Nat), n + k = A.1.1 → zz_fin none 163 (4, [some (.ref 540), some (.int (Int32.ofNat (sp_pts A k))), some (.int (Int32.ofNat k))], [], aa_H g) (fun v h => v = some (.int (Int32.ofNat (sp_pts A A.1.1))) ∧ h = aa_H g) := by
  have h0 : g 541 0 = Int32.ofNat A.1.1 := hA.1
  have h4 := hA.2.1
  have hle := sp_pts_le fun t ht => (hA.2.2 t ht).2.2.1
  induction n with
  | zero =>
    intro k hk
    refine zz_fin.steps (n := 5) (s' := (11, [some (.ref 540), some (.int (Int32.ofNat (sp_pts A k))), some (.int (Int32.ofNat k))], [.int (g 541 0), .int (Int32.ofNat k)], aa_H g)) rfl ?_
    rw [h0]
    refine zz_fin.ic rfl (fun c1 => ?_) (fun c1 => ?_)
    · refine zz_fin.steps (n := 1) (s' := (35, [some (.ref 540), some (.int (Int32.ofNat (sp_pts A k))), some (.int (Int32.ofNat k))], [.int (Int32.ofNat (sp_pts A k))], aa_H g)) rfl ?_
      exact zz_fin.at (n := 1) rfl ⟨by rw [show k = A.1.1 by omega], rfl⟩
    · refine absurd (decide_eq_true (aa_le32.mpr ?_)) c1
      rw [zz_ofN (by omega), zz_ofN (by omega)]
      omega
  | succ n ih =>
    intro k hk
    have hk2 := hle k (by omega)
    refine zz_fin.steps (n := 5) (s' := (11, [some (.ref 540), some (.int (Int32.ofNat (sp_pts A k))), some (.int (Int32.ofNat k))], [.int (g 541 0), .int (Int32.ofNat k)], aa_H g)) rfl ?_
    rw [h0]
    refine zz_fin.ic rfl (fun c1 => ?_) (fun c1 => ?_)
    · have c1 : (Int32.ofNat A.1.1).toInt ≤ (Int32.ofNat k).toInt := aa_le32.mp (of_decide_eq_true c1)
      rw [zz_ofN (by omega), zz_ofN (by omega)] at c1
      omega
    · refine zz_fin.steps (n := 4) (s' := (20, [some (.ref 540), some (.int (Int32.ofNat (sp_pts A k))), some (.int (Int32.ofNat k))], [.int (Int32.ofNat k), .ref 541, .int (Int32.ofNat (sp_pts A k))], aa_H g)) rfl ?_
      refine zz_fin.call rfl rfl (Nat.le_of_ble_eq_true rfl) (tab_all (t := k)) ?_
      rintro v h ⟨rfl, rfl⟩
      refine zz_fin.steps (n := 2) (s' := (25, [some (.ref 540), some (.int (Int32.ofNat (sp_pts A k))), some (.int (Int32.ofNat k))], [.int ((Int32.ofNat (3 + 50 * k)) + 1), .ref 541, .int (Int32.ofNat (sp_pts A k))], aa_H g)) rfl ?_
      rw [aa_succ]
      refine zz_fin.ial (n := 6384) rfl rfl (zz_inbN (by omega) (by omega)) ?_
      rw [zz_toN (by omega), show (aa_H g).2.2 541 (3 + 50 * k + 1) = Int32.ofNat (A.2.1 k) from (hA.2.2 k (by omega)).2.1]
      refine zz_fin.steps (n := 4) (s' := (4, [some (.ref 540), some (.int ((Int32.ofNat (sp_pts A k)) + (Int32.ofNat (A.2.1 k)))), some (.int ((Int32.ofNat k) + 1))], [], aa_H g)) rfl ?_
      rw [aa_succ, show Int32.ofNat (sp_pts A k) + Int32.ofNat (A.2.1 k) = Int32.ofNat (sp_pts A (k + 1)) from (Int32.ofNat_add _ _).symm]
      exact ih (k + 1) (by omega)
theorem mt_count {g : aa_G} {A : sp_A} (hA : mv0 g A) : zz_fin none 163 (0, zz_in [.ref 540] (zz_nl 163), [], aa_H g) (fun v h => v = some (.int (Int32.ofNat (sp_pts A A.1.1))) ∧ h = aa_H g) := by
  refine zz_fin.steps (n := 4) (s' := (4, [some (.ref 540), some (.int (Int32.ofNat (sp_pts A 0))), some (.int (Int32.ofNat 0))], [], aa_H g)) rfl ?_
  exact mt_cloop hA A.1.1 0 rfl
/-- one item, one town or point more -/
theorem sp_then_ok {r : Nat ⊕ (Nat × Int32)} {k : Nat → Int32 → Nat ⊕ (Nat × sp_A)} {q : Nat} {A' : sp_A} (h : sp_then r k = .inr (q, A')) : ∃ q1 z, k q1 z = .inr (q, A') := by
  cases r with
  | inl f => cases h
  | inr r => exact ⟨r.1, r.2, h⟩
theorem sp_pass_ok {b : Nat → Int32} {n : Nat} {c : Int32} {p q : Nat} {k : Nat → Nat ⊕ (Nat × sp_A)} {A' : sp_A} (h : sp_pass b n c p k = .inr (q, A')) : k (p + 1) = .inr (q, A') := by
  unfold sp_pass at h
  split at h
  · exact h
  · cases h
theorem sp_pts_congr {A A' : sp_A} : ∀ k, (∀ t, t < k → A'.2.1 t = A.2.1 t) → sp_pts A' k = sp_pts A k
  | 0, _ => rfl
  | k + 1, h => by
    show sp_pts A' k + A'.2.1 k = sp_pts A k + A.2.1 k
    rw [sp_pts_congr k (fun t ht => h t (by omega)), h k (by omega)]
def sp_all (A : sp_A) : Nat := A.1.1 + sp_pts A A.1.1
theorem sp_all_town (A : sp_A) (z : Int32) : sp_all (sp_town A z) = sp_all A + 1 := by
  show A.1.1 + 1 + (sp_pts (sp_town A z) A.1.1 + (if A.1.1 = A.1.1 then 0 else A.2.1 A.1.1)) = A.1.1 + sp_pts A A.1.1 + 1
  rw [if_pos rfl, sp_pts_congr (A := A) A.1.1 fun t ht => if_neg (by omega)]
  omega
theorem sp_all_point (A : sp_A) (y d k p : Int32) (h : A.1.1 ≠ 0) : sp_all (sp_point A y d k p) = sp_all A + 1 := by
  obtain ⟨t, ht⟩ : ∃ t, A.1.1 = t + 1 := ⟨A.1.1 - 1, by omega⟩
  unfold sp_all
  show A.1.1 + sp_pts (sp_point A y d k p) A.1.1 = _
  rw [ht]
  show t + 1 + (sp_pts (sp_point A y d k p) t + (if t = A.1.1 - 1 then A.2.1 t + 1 else A.2.1 t)) = t + 1 + (sp_pts A t + A.2.1 t) + 1
  rw [if_pos (by omega), sp_pts_congr (A := A) t fun s hs => if_neg (by omega)]
  omega
theorem sp_item_all {b : Nat → Int32} {n p q : Nat} {A A' : sp_A} (h : sp_item b n p A = .inr (q, A')) : sp_all A' = sp_all A + 1 := by
  have fin : ∀ {q1 : Nat} {A1 : sp_A}, (Sum.inr (q1, A1) : Nat ⊕ (Nat × sp_A)) = .inr (q, A') → A1 = A' := fun e => congrArg Prod.snd (Sum.inr.inj e)
  unfold sp_item at h
  split at h
  · unfold sp_rtown at h
    split at h
    · cases h
    · obtain ⟨q1, z, e⟩ := sp_then_ok h
      rw [← fin e]
      exact sp_all_town A z
  · split at h
    · rename_i hh
      obtain ⟨q1, y, e⟩ := sp_then_ok h
      have e := sp_pass_ok e
      split at e
      · obtain ⟨q2, d, e⟩ := sp_then_ok e
        have e := sp_pass_ok e
        obtain ⟨q3, k, e⟩ := sp_then_ok e
        rw [← fin e]
        exact sp_all_point A _ _ _ _ hh.2.1
      · obtain ⟨q2, z, e⟩ := sp_then_ok e
        rw [← fin e]
        exact sp_all_point A _ _ _ _ hh.2.1
    · cases h
theorem sp_items_all {b : Nat → Int32} {n : Nat} : ∀ (k p c : Nat) (A : sp_A) {c' : Nat} {A' : sp_A}, sp_items b n k p c A = .inr (c', A') → c' + sp_all A = c + sp_all A'
  | 0, p, c, A, c', A', h => by
    have h : (Sum.inr (c, A) : Nat ⊕ (Nat × sp_A)) = .inr (c', A') := h
    have e1 : c = c' := congrArg Prod.fst (Sum.inr.inj h)
    have e2 : A = A' := congrArg Prod.snd (Sum.inr.inj h)
    rw [e1, e2]
  | k + 1, p, c, A, c', A', h => by
    rw [sp_items] at h
    split at h
    · split at h
      · cases h
      · rename_i q A1 hi
        split at h
        · have := sp_items_all k (q + 1) (c + 1) A1 h
          have := sp_item_all hi
          omega
        · cases h
    · have e1 : c = c' := congrArg Prod.fst (Sum.inr.inj h)
      have e2 : A = A' := congrArg Prod.snd (Sum.inr.inj h)
      rw [e1, e2]
