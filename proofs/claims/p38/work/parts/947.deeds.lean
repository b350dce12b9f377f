/-! THE CLASS'S DEEDS: remember, takeBack, adopt; endOfReading -/
theorem cs_ring {e : Nat} (he : e < 12) : cs_ok (32 * e + 68) := by
  have h : ∀ e, e < 12 → 32 * e + 68 ∈ cs_all := by decide
  exact cs_of (h e he)
theorem cs_67 : zz_ly 67 = .inr (.inl (4, (List.range 12).map fun e => some (32 * e + 68))) := by decide +kernel
theorem cs_67at {e : Nat} (he : e < 12) : ((List.range 12).map fun e => some (32 * e + 68))[e]? = some (some (32 * e + 68)) := by
  rw [List.getElem?_map, List.getElem?_range he]
  rfl
theorem aa_rem12 {m : Nat} (h : m < 24) : Int32.ofNat m - Int32.ofNat m / 12 * 12 = Int32.ofNat (m % 12) := by
  have k : ∀ m, m < 24 → Int32.ofNat m - Int32.ofNat m / 12 * 12 = Int32.ofNat (m % 12) := by decide
  exact k m h
theorem aa_min12 {c : Nat} (h : c < 13) : (if (12 : Int32) < Int32.ofNat (c + 1) then (12 : Int32) else Int32.ofNat (c + 1)) = Int32.ofNat (min (c + 1) 12) := by
  have k : ∀ c, c < 13 → (if (12 : Int32) < Int32.ofNat (c + 1) then (12 : Int32) else Int32.ofNat (c + 1)) = Int32.ofNat (min (c + 1) 12) := by decide
  exact k c h
/-- a state comes to the class's deeds: its place in the ring, the ring's count and next -/
def cd_push (g g' : aa_G) (S e c : Nat) : Prop := cp_st g g' (32 * e + 68) S ∧ g' 66 0 = Int32.ofNat (min (c + 1) 12) ∧ g' 66 1 = Int32.ofNat ((e + 1) % 12) ∧ ∀ k j, ¬ (32 * e + 68 ≤ k ∧ k ≤ 32 * e + 99) → ¬ (k = 66 ∧ j ≤ 1) → g' k j = g k j
theorem cd_rem {g : aa_G} {e c : Nat} (he : e < 12) (hc : c ≤ 12) (h0 : g 66 0 = Int32.ofNat c) (h1 : g 66 1 = Int32.ofNat e) : zz_fin none 40 (0, zz_in [.ref 66, .ref 2] (zz_nl 40), [], aa_H g) (fun v h => v = none ∧ ∃ g', h = aa_H g' ∧ cd_push g g' 2 e c) := by
  refine zz_fin.steps (n := 4) (s' := (8, [some (.ref 66), some (.ref 2)], [.int (g 66 1), .ref 67], aa_H g)) rfl ?_
  rw [h1]
  refine zz_fin.sal rfl ⟨by decide, by decide⟩ cs_67 (.inr rfl) (i := e) (by omega) (cs_67at he) ?_
  refine zz_fin.steps (n := 1) (s' := (10, [some (.ref 66), some (.ref 2)], [.ref 2, .ref (32 * e + 68)], aa_H g)) rfl ?_
  refine zz_fin.callr (k := 32 * e + 68) (as := [.ref 2]) rfl rfl rfl ⟨by omega, by omega⟩ (cs_ring he).1.2.1 (Nat.le_of_ble_eq_true rfl) (Nat.le_of_ble_eq_true rfl) (cp_state (cs_ring he) cs_ok_2 (by omega)) ?_
  rintro v h ⟨rfl, g1, rfl, k1, k2⟩
  have h0' : g1 66 0 = Int32.ofNat c := (k2 66 0 (by omega)).trans h0
  have h1' : g1 66 1 = Int32.ofNat e := (k2 66 1 (by omega)).trans h1
  refine zz_fin.steps (n := 5) (s' := (20, [some (.ref 66), some (.ref 2)], [.int ((g1 66 1) + 1), .ref 66], aa_H g1)) rfl ?_
  rw [h1', aa_succ]
  refine zz_fin.steps (n := 2) (s' := (23, [some (.ref 66), some (.ref 2)], [.int ((Int32.ofNat (e + 1)) - (Int32.ofNat (e + 1)) / 12 * 12), .ref 66], aa_H g1)) rfl ?_
  rw [aa_rem12 (by omega)]
  refine zz_fin.steps (n := 6) (s' := (33, [some (.ref 66), some (.ref 2)], [.int (((zz_w g1 66 1 (Int32.ofNat ((e + 1) % 12))) 66 0) + 1), .ref 66], aa_H (zz_w g1 66 1 (Int32.ofNat ((e + 1) % 12))))) rfl ?_
  rw [show zz_w g1 66 1 (Int32.ofNat ((e + 1) % 12)) 66 0 = Int32.ofNat c from h0', aa_succ]
  refine zz_fin.steps (n := 1) (s' := (35, [some (.ref 66), some (.ref 2)], [.int 12, .int (Int32.ofNat (c + 1)), .ref 66], aa_H (zz_w g1 66 1 (Int32.ofNat ((e + 1) % 12))))) rfl ?_
  refine zz_fin.steps (n := 1) (s' := (38, [some (.ref 66), some (.ref 2)], [.int (if (12 : Int32) < Int32.ofNat (c + 1) then (12 : Int32) else Int32.ofNat (c + 1)), .ref 66], aa_H (zz_w g1 66 1 (Int32.ofNat ((e + 1) % 12))))) rfl ?_
  rw [aa_min12 (by omega)]
  refine zz_fin.steps (n := 1) (s' := (41, [some (.ref 66), some (.ref 2)], [], aa_H (zz_w (zz_w g1 66 1 (Int32.ofNat ((e + 1) % 12))) 66 0 (Int32.ofNat (min (c + 1) 12))))) rfl ?_
  refine zz_fin.at (n := 1) rfl ⟨rfl, _, rfl, ⟨⟨fun j hj => ?_, ⟨fun j hj => ?_, fun o j o1 o2 hj => ?_⟩, fun t ht => ⟨fun j hj => ?_, fun o j o1 o2 hj => ?_⟩⟩, ?_, ?_, fun k j hk hkj => ?_⟩⟩
  · rw [aa_w_ne _ _ (by omega), aa_w_ne _ _ (by omega)]; exact k1.1 j hj
  · rw [aa_w_ne _ _ (by omega), aa_w_ne _ _ (by omega)]; exact k1.2.1.1 j hj
  · rw [aa_w_ne _ _ (by omega), aa_w_ne _ _ (by omega)]; exact k1.2.1.2 o j o1 o2 hj
  · rw [aa_w_ne _ _ (by omega), aa_w_ne _ _ (by omega)]; exact (k1.2.2 t ht).1 j hj
  · rw [aa_w_ne _ _ (by omega), aa_w_ne _ _ (by omega)]; exact (k1.2.2 t ht).2 o j o1 o2 hj
  · rw [aa_w_at]
  · rw [aa_w_ne _ _ (by omega), aa_w_at]
  · rw [aa_w_ne _ _ (by omega), aa_w_ne _ _ (by omega)]; exact k2 k j hk
theorem cd_adopt {g : aa_G} {F e c : Nat} (hF : cs_ok F) (hF2 : 34 ≤ F) (he : e < 12) (hc : c ≤ 12) (h0 : g 66 0 = Int32.ofNat c) (h1 : g 66 1 = Int32.ofNat e) : zz_fin none 39 (0, zz_in [.ref 1, .ref F] (zz_nl 39), [], aa_H g) (fun v h => v = none ∧ ∃ g1 g', h = aa_H g' ∧ cd_push g g1 2 e c ∧ cp_st g1 g' 2 F ∧ cp_fr g1 g' 2 33) := by
  refine zz_fin.steps (n := 4) (s' := (8, [some (.ref 1), some (.ref F)], [.ref 2, .ref 66], aa_H g)) rfl ?_
  refine zz_fin.call rfl rfl (Nat.le_of_ble_eq_true rfl) (cd_rem he hc h0 h1) ?_
  rintro v h ⟨rfl, g1, rfl, hp⟩
  refine zz_fin.steps (n := 3) (s' := (16, [some (.ref 1), some (.ref F)], [.ref F, .ref 2], aa_H g1)) rfl ?_
  refine zz_fin.call rfl rfl (Nat.le_of_ble_eq_true rfl) (cp_state cs_ok_2 hF (show 2 + 32 ≤ F ∨ F + 32 ≤ 2 by omega)) ?_
  rintro v h ⟨rfl, g', rfl, k1, k2⟩
  exact zz_fin.at (n := 1) rfl ⟨rfl, g1, g', rfl, hp, k1, k2⟩
theorem ct_eor {g : aa_G} : zz_fin none 38 (0, zz_in [.ref 1] (zz_nl 38), [], aa_H g) (fun v h => v = none ∧ h = aa_H (zz_w (zz_w g 1 13 (g 454 4)) 454 0 0)) := by
  refine zz_fin.steps (n := 9) (s' := (19, [some (.ref 1)], [], aa_H (zz_w (zz_w g 1 13 (g 454 4)) 454 0 0))) rfl ?_
  exact zz_fin.at (n := 1) rfl ⟨rfl, rfl⟩
/-- the latest deed goes -/
theorem aa_el12 {e : Nat} (he : e < 12) : Int32.ofNat e + 12 - 1 = Int32.ofNat (e + 11) := by
  have k : ∀ e, e < 12 → Int32.ofNat e + 12 - 1 = Int32.ofNat (e + 11) := by decide
  exact k e he
theorem aa_pred {p : Nat} (h : p ≠ 0) (hp : p < 2147483648) : Int32.ofNat p - 1 = Int32.ofNat (p - 1) := aa_eqN (by rw [aa_sub32 (by rw [zz_ofN hp, show (1 : Int32).toInt = 1 from rfl]; omega) (by rw [zz_ofN hp, show (1 : Int32).toInt = 1 from rfl]; omega), zz_ofN hp, show (1 : Int32).toInt = 1 from rfl]; omega) (by omega)
def cd_pop (g g' : aa_G) (e c : Nat) : Prop := cp_st g g' 2 (32 * ((e + 11) % 12) + 68) ∧ g' 66 0 = Int32.ofNat (c - 1) ∧ g' 66 1 = Int32.ofNat ((e + 11) % 12) ∧ ∀ k j, ¬ (2 ≤ k ∧ k ≤ 33) → ¬ (k = 66 ∧ j ≤ 1) → g' k j = g k j
theorem cd_back {g : aa_G} {e c : Nat} (he : e < 12) (hc : c ≤ 12) (h0 : g 66 0 = Int32.ofNat c) (h1 : g 66 1 = Int32.ofNat e) : zz_fin none 142 (0, zz_in [.ref 66, .ref 2] (zz_nl 142), [], aa_H g) (fun v h => (c = 0 ∧ v = some (.int 0) ∧ h = aa_H g) ∨ (c ≠ 0 ∧ v = some (.int 1) ∧ ∃ g', h = aa_H g' ∧ cd_pop g g' e c)) := by
  refine zz_fin.steps (n := 2) (s' := (4, [some (.ref 66), some (.ref 2)], [.int (g 66 0)], aa_H g)) rfl ?_
  rw [h0]
  refine zz_fin.if rfl (fun c1 => ?_) (fun c1 => ?_)
  · have c1 : Int32.ofNat c ≠ 0 := of_decide_eq_true c1
    have hc0 : c ≠ 0 := fun z => c1 (by rw [z]; rfl)
    have hp : (e + 11) % 12 < 12 := by omega
    refine zz_fin.steps (n := 7) (s' := (19, [some (.ref 66), some (.ref 2)], [.int (((g 66 1) + 12) - 1), .ref 66], aa_H g)) rfl ?_
    rw [h1, aa_el12 he]
    refine zz_fin.steps (n := 2) (s' := (22, [some (.ref 66), some (.ref 2)], [.int ((Int32.ofNat (e + 11)) - (Int32.ofNat (e + 11)) / 12 * 12), .ref 66], aa_H g)) rfl ?_
    rw [aa_rem12 (by omega)]
    refine zz_fin.steps (n := 6) (s' := (34, [some (.ref 66), some (.ref 2)], [.int (Int32.ofNat ((e + 11) % 12)), .ref 67, .ref 2], aa_H (zz_w g 66 1 (Int32.ofNat ((e + 11) % 12))))) rfl ?_
    refine zz_fin.sal rfl ⟨by decide, by decide⟩ cs_67 (.inr rfl) (i := (e + 11) % 12) (by omega) (cs_67at hp) ?_
    refine zz_fin.call rfl rfl (Nat.le_of_ble_eq_true rfl) (cp_state cs_ok_2 (cs_ring hp) (show 2 + 32 ≤ 32 * ((e + 11) % 12) + 68 ∨ 32 * ((e + 11) % 12) + 68 + 32 ≤ 2 by omega)) ?_
    rintro v h ⟨rfl, g1, rfl, k1, k2⟩
    have k2 : cp_fr (zz_w g 66 1 (Int32.ofNat ((e + 11) % 12))) g1 2 33 := k2
    have h0' : g1 66 0 = Int32.ofNat c := (k2 66 0 (by omega)).trans ((aa_w_ne _ _ (by omega)).trans h0)
    refine zz_fin.steps (n := 5) (s' := (45, [some (.ref 66), some (.ref 2)], [.int ((g1 66 0) - 1), .ref 66], aa_H g1)) rfl ?_
    rw [h0', aa_pred hc0 (by omega)]
    refine zz_fin.steps (n := 2) (s' := (49, [some (.ref 66), some (.ref 2)], [.int 1], aa_H (zz_w g1 66 0 (Int32.ofNat (c - 1))))) rfl ?_
    refine zz_fin.at (n := 1) rfl (.inr ⟨hc0, rfl, _, rfl, ⟨⟨fun j hj => ?_, ⟨fun j hj => ?_, fun o j o1 o2 hj => ?_⟩, fun t ht => ⟨fun j hj => ?_, fun o j o1 o2 hj => ?_⟩⟩, aa_w_at _ _ _ _, ?_, fun k j hk hkj => ?_⟩⟩)
    · rw [aa_w_ne _ _ (by omega)]; exact (k1.1 j hj).trans (aa_w_ne _ _ (by omega))
    · rw [aa_w_ne _ _ (by omega)]; exact (k1.2.1.1 j hj).trans (aa_w_ne _ _ (by omega))
    · rw [aa_w_ne _ _ (by omega)]; exact (k1.2.1.2 o j o1 o2 hj).trans (aa_w_ne _ _ (by omega))
    · rw [aa_w_ne _ _ (by omega)]; exact ((k1.2.2 t ht).1 j hj).trans (aa_w_ne _ _ (by omega))
    · rw [aa_w_ne _ _ (by omega)]; exact ((k1.2.2 t ht).2 o j o1 o2 hj).trans (aa_w_ne _ _ (by omega))
    · rw [aa_w_ne _ _ (by omega)]; exact (k2 66 1 (by omega)).trans (aa_w_at _ _ _ _)
    · rw [aa_w_ne _ _ (by omega)]; exact (k2 k j hk).trans (aa_w_ne _ _ (by omega))
  · have c1 : Int32.ofNat c = 0 := Decidable.byContradiction fun z => c1 (decide_eq_true z)
    have hc0 : c = 0 := by have e := zz_ofN (n := c) (by omega); rw [c1, show (0 : Int32).toInt = 0 from rfl] at e; omega
    refine zz_fin.steps (n := 1) (s' := (8, [some (.ref 66), some (.ref 2)], [.int 0], aa_H g)) rfl ?_
    exact zz_fin.at (n := 1) rfl (.inl ⟨hc0, rfl, rfl⟩)
