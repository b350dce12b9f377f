/-! BY HAND: a row comes to the deeds -/
theorem aa_add32 {a b : Int32} (h1 : -2147483648 ≤ a.toInt + b.toInt) (h2 : a.toInt + b.toInt ≤ 2147483647) : (a + b).toInt = a.toInt + b.toInt := by
  rw [Int32.toInt_add, aa_bm h1 h2]
theorem aa_sub32 {a b : Int32} (h1 : -2147483648 ≤ a.toInt - b.toInt) (h2 : a.toInt - b.toInt ≤ 2147483647) : (a - b).toInt = a.toInt - b.toInt := by
  rw [Int32.toInt_sub, aa_bm h1 h2]
theorem aa_eqN {a : Int32} {n : Nat} (h : a.toInt = n) (hn : n < 2147483648) : a = Int32.ofNat n := Int32.toInt_inj.mp (by rw [h, zz_ofN hn])
theorem aa_Phi_deeds {g : aa_G} (h : aa_Phi g) {v : Int32} (hv : ∀ k : Nat, k < 12 → (k : Int) < v.toInt → 1 ≤ (g 541 (399 * (3 + k) + 1)).toInt) : aa_Phi (zz_w g 540 1 v) := by
  obtain ⟨k1, ⟨k2, k3⟩, k4⟩ := h
  have oth : ∀ k, k ≠ 540 → zz_w g 540 1 v k = g k := fun k hk => zz_w_other _ _ _ hk
  have o1 := oth 541 (by decide)
  have o2 := oth 542 (by decide)
  have o3 : ∀ j, j ≠ 1 → zz_w g 540 1 v 540 j = g 540 j := fun j hj => aa_w_ne _ _ fun e => hj e.2
  refine ⟨fun r hr => ⟨aa_pt_of (fun q _ _ _ _ _ => by rw [o1]) (k1 r hr).1, aa_rp_of (by rw [o1]) (fun q _ => by rw [o1]) (k1 r hr).2⟩, ⟨fun k hk hc => ?_, fun k hk hc => ?_⟩, fun b hb hc => ?_⟩
  · rw [o1]
    rw [o2] at hc
    exact k2 k hk hc
  · rw [o1]
    rw [aa_w_at] at hc
    exact hv k hk hc
  · rw [o3 10 (by decide)] at hc
    exact aa_nb_of (fun q _ => by rw [oth 544 (by decide)]) (by rw [o3 11 (by decide)]; exact Int.le_refl _) (fun i _ => by rw [oth 545 (by decide)]) (k4 b hb hc)
abbrev aa_dw : aa_W := [(35, 1, 1), (36, 1197, 5984)]
theorem aa_fr_deeds {g : aa_G} {v : Int32} {ws : aa_W} (hw : (35, 1, 1) ∈ ws) : aa_fr ws g (zz_w g 540 1 v) := by
  refine ⟨fun k j => ?_, .inl (aa_dep_w ⟨fun e => by have := e.2; omega, by decide, by decide⟩)⟩
  by_cases e : k = 540 ∧ j = 1
  · obtain ⟨rfl, rfl⟩ := e
    exact .inr ⟨_, hw, rfl, by decide, by decide⟩
  · exact .inl (aa_w_ne _ _ e)
/-- what a deed begins with -/
def aa_dbeg (row : Nat) (g : aa_G) : Prop := aa_inv g ∧ aa_Phi g ∧ 1 ≤ (g 541 (399 * row + 1)).toInt
theorem deed_tail {row : Nat} (hrow : row = 0 ∨ row = 15) {g : aa_G} (hb : aa_dbeg row g) (hd : (g 540 1).toInt ≤ 11) (x : Option Value) : zz_fin none 157 (45, [some (.ref 540), some (.int (Int32.ofNat row)), x], [], aa_H g) (fun v h => v = none ∧ ∃ g', h = aa_H g' ∧ aa_inv g' ∧ aa_Phi g' ∧ aa_fr aa_dw g g') := by
  obtain ⟨h5, h6, hp⟩ := hb
  have hd0 : 0 ≤ (g 540 1).toInt := (h5 540 1).1
  obtain ⟨d, hdd⟩ : ∃ d : Nat, (g 540 1).toInt = (d : Int) := ⟨(g 540 1).toInt.toNat, by omega⟩
  have e3 : (3 : Int32).toInt = 3 := rfl
  have e1 : (1 : Int32).toInt = 1 := rfl
  have et : (3 : Int32) + g 540 1 = Int32.ofNat (3 + d) := aa_eqN (by rw [aa_add32 (by omega) (by omega), e3, hdd]; omega) (by omega)
  refine zz_fin.steps (n := 6) (s' := (53, [some (.ref 540), some (.int (Int32.ofNat row)), x], [.int (3 + g 540 1), .int (Int32.ofNat row), .ref 540], aa_H g)) rfl ?_
  rw [et]
  refine zz_fin.call rfl rfl (Nat.le_of_ble_eq_true rfl) (aa_copy (f := row) (t := 3 + d) (by omega) (by omega) (by omega) h5 h6 hp) ?_
  rintro v h ⟨rfl, g1, rfl, hc, k1, k2⟩
  refine zz_fin.steps (n := 6) (s' := (66, [some (.ref 540), some (.int (Int32.ofNat row)), x], [], aa_H (zz_w g1 540 1 (g1 540 1 + 1)))) rfl ?_
  have hd1 : g1 540 1 = g 540 1 := hc.2 540 1 (by omega)
  have hv : (g1 540 1 + 1).toInt = (d : Int) + 1 := by
    rw [aa_add32 (by rw [hd1]; omega) (by rw [hd1]; omega), hd1, hdd, e1]
  refine zz_fin.at (n := 1) rfl ⟨rfl, _, rfl, aa_inv_w k1 ?_ ?_, aa_Phi_deeds k2 fun k hk hkv => ?_, ?_⟩
  · show (0 : Int) ≤ _
    omega
  · show _ ≤ (12 : Int)
    omega
  · by_cases hkd : k = d
    · subst hkd
      rw [hc.1 1 (by omega)]
      exact hp
    · exact k2.2.1.2 k hk (by rw [hd1]; omega)
  · exact aa_fr.tr (aa_cp_fr hc (List.mem_cons_of_mem _ List.mem_cons_self) (by omega) (by omega)) (aa_fr_deeds List.mem_cons_self)
theorem deed_loop {row : Nat} (hrow : row = 0 ∨ row = 15) {φ : Option Value → zz_H → Prop} (g0 : aa_G) (hk : ∀ g, aa_dbeg row g → (g 540 1).toInt = 12 → aa_fr aa_dw g0 g → ∀ x, zz_fin none 157 (35, [some (.ref 540), some (.int (Int32.ofNat row)), x], [], aa_H g) φ) (n : Nat) : ∀ (k : Nat), n + k = 12 → 1 ≤ k → ∀ g, aa_dbeg row g → (g 540 1).toInt = 12 → aa_fr aa_dw g0 g → zz_fin none 157 (11, [some (.ref 540), some (.int (Int32.ofNat row)), some (.int (Int32.ofNat k))], [], aa_H g) φ := by
  have e12 : (12 : Int32).toInt = 12 := rfl
  have e3 : (3 : Int32).toInt = 3 := rfl
  have e1 : (1 : Int32).toInt = 1 := rfl
  induction n with
  | zero =>
    intro k hk' h1 g hb hd hf
    refine zz_fin.steps (n := 2) (s' := (14, [some (.ref 540), some (.int (Int32.ofNat row)), some (.int (Int32.ofNat k))], [.int 12, .int (Int32.ofNat k)], aa_H g)) rfl ?_
    refine zz_fin.ic rfl (fun c => ?_) (fun c => ?_)
    · exact hk g hb hd hf _
    · refine absurd ((aa_cmp _ _ _).mpr ?_) c
      show (0 : Int) ≤ _
      rw [zz_ofN (by omega), e12]
      omega
  | succ n ih =>
    intro k hk' h1 g hb hd hf
    have ek := zz_ofN (show k < 2147483648 by omega)
    refine zz_fin.steps (n := 2) (s' := (14, [some (.ref 540), some (.int (Int32.ofNat row)), some (.int (Int32.ofNat k))], [.int 12, .int (Int32.ofNat k)], aa_H g)) rfl ?_
    refine zz_fin.ic rfl (fun c => ?_) (fun c => ?_)
    · have c : (0 : Int) ≤ (Int32.ofNat k).toInt - (12 : Int32).toInt := (aa_cmp _ _ _).mp c
      rw [ek, e12] at c
      omega
    · refine zz_fin.steps (n := 9) (s' := (26, [some (.ref 540), some (.int (Int32.ofNat row)), some (.int (Int32.ofNat k))], [.int (3 + Int32.ofNat k - 1), .int (3 + Int32.ofNat k), .ref 540], aa_H g)) rfl ?_
      have es : (3 + Int32.ofNat k : Int32).toInt = 3 + (k : Int) := by rw [aa_add32 (by omega) (by omega), e3, ek]
      have ef : (3 : Int32) + Int32.ofNat k = Int32.ofNat (3 + k) := aa_eqN (by rw [es]; omega) (by omega)
      have et : (3 : Int32) + Int32.ofNat k - 1 = Int32.ofNat (2 + k) := aa_eqN (by rw [aa_sub32 (by rw [es, e1]; omega) (by rw [es, e1]; omega), es, e1]; omega) (by omega)
      rw [et, ef]
      obtain ⟨h5, h6, hp⟩ := hb
      refine zz_fin.call rfl rfl (Nat.le_of_ble_eq_true rfl) (aa_copy (f := 3 + k) (t := 2 + k) (by omega) (by omega) (by omega) h5 h6 (h6.2.1.2 k (by omega) (by omega))) ?_
      rintro v h ⟨rfl, g1, rfl, hc, k1, k2⟩
      refine zz_fin.steps (n := 2) (s' := (11, [some (.ref 540), some (.int (Int32.ofNat row)), some (.int (Int32.ofNat k + 1))], [], aa_H g1)) rfl ?_
      rw [show Int32.ofNat k + 1 = Int32.ofNat (k + 1) from (Int32.ofNat_add k 1).symm]
      refine ih (k + 1) (by omega) (by omega) g1 ⟨k1, k2, ?_⟩ ?_ (hf.tr (aa_cp_fr hc (List.mem_cons_of_mem _ List.mem_cons_self) (by omega) (by omega)))
      · rw [hc.2 541 _ (by omega)]
        exact hp
      · rw [hc.2 540 1 (by omega)]
        exact hd
theorem deed_all {row : Nat} (hrow : row = 0 ∨ row = 15) {g : aa_G} (hb : aa_dbeg row g) : zz_fin none 157 (0, zz_in [.ref 540, .int (Int32.ofNat row)] (zz_nl 157), [], aa_H g) (fun v h => v = none ∧ ∃ g', h = aa_H g' ∧ aa_inv g' ∧ aa_Phi g' ∧ aa_fr aa_dw g g') := by
  have e12 : (12 : Int32).toInt = 12 := rfl
  have e1 : (1 : Int32).toInt = 1 := rfl
  have b1 : 0 ≤ (g 540 1).toInt := (hb.1 540 1).1
  have b2 : (g 540 1).toInt ≤ 12 := (hb.1 540 1).2
  refine zz_fin.steps (n := 3) (s' := (6, [some (.ref 540), some (.int (Int32.ofNat row)), none], [.int 12, .int (g 540 1)], aa_H g)) rfl ?_
  refine zz_fin.ic rfl (fun c => ?_) (fun c => ?_)
  · have c : (g 540 1).toInt - (12 : Int32).toInt ≠ 0 := (aa_cmp _ _ _).mp c
    exact deed_tail hrow hb (by omega) _
  · have c : ¬ ((g 540 1).toInt - (12 : Int32).toInt ≠ 0) := fun z => c ((aa_cmp _ _ _).mpr z)
    have hd : (g 540 1).toInt = 12 := by omega
    refine zz_fin.steps (n := 2) (s' := (11, [some (.ref 540), some (.int (Int32.ofNat row)), some (.int (Int32.ofNat 1))], [], aa_H g)) rfl ?_
    refine deed_loop hrow g (fun g1 hb1 hd1 hf1 x => ?_) 11 1 rfl (Nat.le_refl 1) g hb hd aa_fr.rf
    refine zz_fin.steps (n := 6) (s' := (45, [some (.ref 540), some (.int (Int32.ofNat row)), x], [], aa_H (zz_w g1 540 1 (g1 540 1 - 1)))) rfl ?_
    have hv : (g1 540 1 - 1).toInt = 11 := by
      rw [aa_sub32 (by omega) (by omega), hd1, e1]
      omega
    obtain ⟨k1, k2, k3⟩ := hb1
    refine (deed_tail hrow (g := zz_w g1 540 1 (g1 540 1 - 1)) ⟨aa_inv_w k1 (by show (0 : Int) ≤ _; omega) (by show _ ≤ (12 : Int); omega), aa_Phi_deeds k2 (fun k hk hkv => k2.2.1.2 k hk (by omega)), by rw [zz_w_other _ _ _ (by decide)]; exact k3⟩ (by rw [aa_w_at]; omega) x).mono ?_
    rintro v h ⟨rfl, g2, rfl, q1, q2, q3⟩
    exact ⟨rfl, g2, rfl, q1, q2, hf1.tr ((aa_fr_deeds List.mem_cons_self).tr q3)⟩
theorem aa_h11 : aa_met aa_Phi aa_m11 := by
  intro ν0 g as h1 h2 h3 h4 h5 h6
  obtain ⟨as, rfl, h7⟩ := aa_this h4
  clear h4
  obtain ⟨w1, as, rfl, e1, h8⟩ := aa_ms_int h7
  clear h7
  have e1 : (0 : Int) + 0 = w1.toInt := Option.some.inj e1
  have e1 : w1 = Int32.ofNat 0 := Int32.toInt_inj.mp (by rw [← e1]; rfl)
  subst e1
  match as, h8 with
  | [], _ =>
    have hp : (1 : Int) ≤ (g 541 1).toInt := (h5 541 1).1
    refine (deed_all (.inl rfl) ⟨h5, h6, hp⟩).mono ?_
    rintro v h ⟨rfl, g', rfl, k1, k2, k3⟩
    exact ⟨g', rfl, k1, k2, k3, _, List.mem_cons_self, [], (by rw [List.append_nil]; exact h1), fun f hf => (by cases hf), fun q hq => (by cases hq), trivial⟩
theorem aa_h5 : aa_met aa_Phi aa_m5 := by
  intro ν0 g as h1 h2 h3 h4 h5 h6
  obtain ⟨as, rfl, h7⟩ := aa_this h4
  clear h4
  obtain ⟨w1, as, rfl, e1, h8⟩ := aa_ms_int h7
  clear h7
  have e1 : (15 : Int) + 0 = w1.toInt := Option.some.inj e1
  have e1 : w1 = Int32.ofNat 15 := Int32.toInt_inj.mp (by rw [← e1]; rfl)
  subst e1
  have hlen : ν0.length = 1 := h1.1
  match ν0, hlen, as, h8 with
  | [a], _, [], _ =>
    have ra := aa_vh_at h3 (k := 541) (j := 5986) (r := (541, [])) (sl := (5986, [])) (f := (0, [(0, 1)])) List.mem_cons_self rfl rfl
    have ra : (0 : Int) + (1 * a + 0) = (g 541 5986).toInt := Option.some.inj ra
    have ba : (1 : Int) ≤ a := (h1.2 0 _ a rfl rfl).1
    have hp : (1 : Int) ≤ (g 541 (399 * 15 + 1)).toInt := by
      show (1 : Int) ≤ (g 541 5986).toInt
      omega
    refine (deed_all (.inr rfl) ⟨h5, h6, hp⟩).mono ?_
    rintro v h ⟨rfl, g', rfl, k1, k2, k3⟩
    exact ⟨g', rfl, k1, k2, k3, _, List.mem_cons_self, [], h1, fun f hf => (by cases hf), fun q hq => (by cases hq), trivial⟩
