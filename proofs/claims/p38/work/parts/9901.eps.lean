/-! a method that answers nothing: the heap that it leaves, whatever it is; remember -/
noncomputable def ep_g (m : Nat) (as : List Value) (g : aa_G) : aa_G := @Classical.epsilon aa_G ⟨g⟩ (fun g' => ∃ n, rn_s n m (0, zz_in as (zz_nl m), [], aa_H g) none (aa_H g'))
theorem ep_H {a b : aa_G} (h : aa_H a = aa_H b) : a = b := congrArg (fun x => x.2.2) h
theorem ep_ok {m : Nat} {as : List Value} {g : aa_G} {φ : aa_G → Prop} (f : zz_fin none m (0, zz_in as (zz_nl m), [], aa_H g) (fun v h => v = none ∧ ∃ g', h = aa_H g' ∧ φ g')) : (∀ n v h, rn_s n m (0, zz_in as (zz_nl m), [], aa_H g) v h → v = none ∧ h = aa_H (ep_g m as g)) ∧ φ (ep_g m as g) := by
  obtain ⟨n, v, h, r, rfl, g', rfl, hφ⟩ := rn_of f
  have hx : ∃ g', ∃ n, rn_s n m (0, zz_in as (zz_nl m), [], aa_H g) none (aa_H g') := ⟨g', n, r⟩
  have h1 : ∃ n, rn_s n m (0, zz_in as (zz_nl m), [], aa_H g) none (aa_H (ep_g m as g)) := @Classical.epsilon_spec_aux aa_G ⟨g⟩ (fun g' => ∃ n, rn_s n m (0, zz_in as (zz_nl m), [], aa_H g) none (aa_H g')) hx
  obtain ⟨n2, r2⟩ := h1
  have e : ep_g m as g = g' := ep_H (rn_det r2 r).2
  refine ⟨fun n3 v3 h3 r3 => rn_det r3 r2, ?_⟩
  rw [e]
  exact hφ
/-- the ring of deeds is in order -/
def rem_ok (g : aa_G) : Prop := ∃ c e, c ≤ 12 ∧ e < 12 ∧ g 66 0 = Int32.ofNat c ∧ g 66 1 = Int32.ofNat e
noncomputable def fn_40 (g : aa_G) : aa_G := ep_g 40 [.ref 66, .ref 2] g
theorem dn_40 {v : Option Value} {h : zz_H} {n : Nat} {g : aa_G} (hi : rem_ok g) (r : rn_s n 40 (0, zz_in [.ref 66, .ref 2] (zz_nl 40), [], aa_H g) v h) : ig_s v h (fn_40 g) := by
  obtain ⟨c, e, hc, he, h0, h1⟩ := hi
  exact (ep_ok (cd_rem he hc h0 h1)).1 n v h r
theorem dk_40 {g : aa_G} {c e : Nat} (hc : c ≤ 12) (he : e < 12) (h0 : g 66 0 = Int32.ofNat c) (h1 : g 66 1 = Int32.ofNat e) : cd_push g (fn_40 g) 2 e c := (ep_ok (cd_rem he hc h0 h1)).2
/-- copyFrom of states; adopt; takeBack -/
theorem rn_stat {i : Int32} (h : zz_inb i 2 = true) : cs_ok (32 * i.toNatClampNeg + 476) := by
  have h1 := of_decide_eq_true h
  rcases (show i.toNatClampNeg = 0 ∨ i.toNatClampNeg = 1 by omega) with e | e <;> rw [e]
  · exact cs_ok_476
  · exact cs_ok_508
theorem st_hk {S : Nat} (h : cs_ok S) : S ≠ 0 ∧ S ≤ 553 := ⟨h.1.1.1, by have := h.1.1.2; omega⟩
theorem st_hl {S : Nat} (h : cs_ok S) : zz_ly S = .inr (.inr (5, [none, none, some (some (S + 1)), some (some (S + 2))])) := h.1.2.1
noncomputable def fn_16 (g : aa_G) (S F : Nat) : aa_G := ep_g 16 [.ref S, .ref F] g
theorem dn_16 {v : Option Value} {h : zz_H} {n : Nat} {g : aa_G} {S F : Nat} (hS : cs_ok S) (hF : cs_ok F) (hd : S + 32 ≤ F ∨ F + 32 ≤ S) (r : rn_s n 16 (0, zz_in [.ref S, .ref F] (zz_nl 16), [], aa_H g) v h) : ig_s v h (fn_16 g S F) := (ep_ok (cp_state hS hF hd)).1 n v h r
theorem dk_16 {g : aa_G} {S F : Nat} (hS : cs_ok S) (hF : cs_ok F) (hd : S + 32 ≤ F ∨ F + 32 ≤ S) : cp_st g (fn_16 g S F) S F ∧ cp_fr g (fn_16 g S F) S (S + 31) := (ep_ok (cp_state hS hF hd)).2
noncomputable def fn_39 (g : aa_G) (F : Nat) : aa_G := ep_g 39 [.ref 1, .ref F] g
theorem ep_39 {g : aa_G} {F e c : Nat} (hF : cs_ok F) (hF2 : 34 ≤ F) (he : e < 12) (hc : c ≤ 12) (h0 : g 66 0 = Int32.ofNat c) (h1 : g 66 1 = Int32.ofNat e) : zz_fin none 39 (0, zz_in [.ref 1, .ref F] (zz_nl 39), [], aa_H g) (fun v h => v = none ∧ ∃ g', h = aa_H g' ∧ ∃ g1, cd_push g g1 2 e c ∧ cp_st g1 g' 2 F ∧ cp_fr g1 g' 2 33) := (cd_adopt hF hF2 he hc h0 h1).mono fun v h ⟨k, g1, g', e1, e2⟩ => ⟨k, g', e1, g1, e2⟩
theorem dn_39 {v : Option Value} {h : zz_H} {n : Nat} {g : aa_G} {F : Nat} (hF : cs_ok F) (hF2 : 34 ≤ F) (hi : rem_ok g) (r : rn_s n 39 (0, zz_in [.ref 1, .ref F] (zz_nl 39), [], aa_H g) v h) : ig_s v h (fn_39 g F) := by
  obtain ⟨c, e, hc, he, h0, h1⟩ := hi
  exact (ep_ok (ep_39 hF hF2 he hc h0 h1)).1 n v h r
theorem dk_39 {g : aa_G} {F e c : Nat} (hF : cs_ok F) (hF2 : 34 ≤ F) (he : e < 12) (hc : c ≤ 12) (h0 : g 66 0 = Int32.ofNat c) (h1 : g 66 1 = Int32.ofNat e) : ∃ g1, cd_push g g1 2 e c ∧ cp_st g1 (fn_39 g F) 2 F ∧ cp_fr g1 (fn_39 g F) 2 33 := (ep_ok (ep_39 hF hF2 he hc h0 h1)).2
noncomputable def fn_142 (g : aa_G) : Int32 × aa_G := @Classical.epsilon (Int32 × aa_G) ⟨(0, g)⟩ (fun p => ∃ n, rn_s n 142 (0, zz_in [.ref 66, .ref 2] (zz_nl 142), [], aa_H g) (some (.int p.1)) (aa_H p.2))
theorem ep_142 {g : aa_G} {e c : Nat} (he : e < 12) (hc : c ≤ 12) (h0 : g 66 0 = Int32.ofNat c) (h1 : g 66 1 = Int32.ofNat e) : (∀ n v h, rn_s n 142 (0, zz_in [.ref 66, .ref 2] (zz_nl 142), [], aa_H g) v h → iw_s v h (fn_142 g)) ∧ ((c = 0 ∧ fn_142 g = (0, g)) ∨ (c ≠ 0 ∧ (fn_142 g).1 = 1 ∧ cd_pop g (fn_142 g).2 e c)) := by
  obtain ⟨n, v, h, r, hp⟩ := rn_of (cd_back he hc h0 h1)
  have hx : ∃ p : Int32 × aa_G, (v = some (.int p.1) ∧ h = aa_H p.2) ∧ ((c = 0 ∧ p = (0, g)) ∨ (c ≠ 0 ∧ p.1 = 1 ∧ cd_pop g p.2 e c)) := by
    rcases hp with ⟨a, b, d⟩ | ⟨a, b, g', d, f⟩
    · exact ⟨(0, g), ⟨b, d⟩, .inl ⟨a, rfl⟩⟩
    · exact ⟨(1, g'), ⟨b, d⟩, .inr ⟨a, rfl, f⟩⟩
  obtain ⟨p, ⟨rfl, rfl⟩, hq⟩ := hx
  have h1 : ∃ n, rn_s n 142 (0, zz_in [.ref 66, .ref 2] (zz_nl 142), [], aa_H g) (some (.int (fn_142 g).1)) (aa_H (fn_142 g).2) := @Classical.epsilon_spec_aux (Int32 × aa_G) ⟨(0, g)⟩ (fun p => ∃ n, rn_s n 142 (0, zz_in [.ref 66, .ref 2] (zz_nl 142), [], aa_H g) (some (.int p.1)) (aa_H p.2)) ⟨p, n, r⟩
  obtain ⟨n2, r2⟩ := h1
  have e1 := rn_det r2 r
  have e2 : fn_142 g = p := Prod.ext (by
    have := Option.some.inj e1.1
    injection this) (ep_H e1.2)
  refine ⟨fun n3 v3 h3 r3 => rn_det r3 r2, ?_⟩
  rw [e2]
  exact hq
theorem dn_142 {v : Option Value} {h : zz_H} {n : Nat} {g : aa_G} (hi : rem_ok g) (r : rn_s n 142 (0, zz_in [.ref 66, .ref 2] (zz_nl 142), [], aa_H g) v h) : iw_s v h (fn_142 g) := by
  obtain ⟨c, e, hc, he, h0, h1⟩ := hi
  exact (ep_142 he hc h0 h1).1 n v h r
