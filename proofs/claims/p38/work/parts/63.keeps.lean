/-! BY HAND: undo, keep, restore -/
section AK
variable {X : zz_X} {m pc : Nat} {lv : zz_V} {h : zz_H} {φ : Option Value → zz_H → Prop}
theorem zz_fin.bas1 {i a : Int32} {k n : Nat} {r : List Value} {x y u w : Nat} {vv : Value} {sw : List (Int × Nat)} (hT : zz_T m pc = some (.bastore, (x, y, u, w), vv, sw)) (ha : zz_arr h (k + 1) 1 = some n) (hb : zz_inb i n = true) (kk : zz_fin X m (pc + 1, lv, r, (h.1, (h.2.1, zz_w h.2.2 (k + 1) i.toNatClampNeg (vp_nar .boolean a)))) φ) : zz_fin X m (pc, lv, .int a :: .int i :: .ref (k + 1) :: r, h) φ := by
  refine zz_fin.step1 hT ?_ kk
  show zz_bas pc lv (.int a :: .int i :: .ref (k + 1) :: r) h = _
  unfold zz_bas
  dsimp only
  rw [ha]
  dsimp only
  rw [if_pos hb]
  rfl
theorem zz_fin.bal1 {i : Int32} {k n : Nat} {r : List Value} {x y u w : Nat} {vv : Value} {sw : List (Int × Nat)} (hT : zz_T m pc = some (.baload, (x, y, u, w), vv, sw)) (ha : zz_arr h (k + 1) 1 = some n) (hb : zz_inb i n = true) (kk : zz_fin X m (pc + 1, lv, .int (h.2.2 (k + 1) i.toNatClampNeg) :: r, h) φ) : zz_fin X m (pc, lv, .int i :: .ref (k + 1) :: r, h) φ := by
  refine zz_fin.step1 hT ?_ kk
  show zz_bal pc lv (.int i :: .ref (k + 1) :: r) h = _
  unfold zz_bal
  dsimp only
  rw [ha]
  dsimp only
  rw [if_pos hb]
  rfl
end AK
theorem aa_le32 {a b : Int32} : a ≤ b ↔ a.toInt ≤ b.toInt := Int32.le_iff_toInt_le
theorem aa_Phi_kept {g : aa_G} (h : aa_Phi g) {i : Nat} {v : Int32} (hv : 1 ≤ (g 541 (399 * (1 + i) + 1)).toInt) : aa_Phi (zz_w g 542 i v) := by
  obtain ⟨k1, ⟨k2, k3⟩, k4⟩ := h
  have oth : ∀ k, k ≠ 542 → zz_w g 542 i v k = g k := fun k hk => zz_w_other _ _ _ hk
  have o1 := oth 541 (by decide)
  have o2 := oth 540 (by decide)
  refine ⟨fun r hr => ⟨aa_pt_of (fun q _ _ _ _ _ => by rw [o1]) (k1 r hr).1, aa_rp_of (by rw [o1]) (fun q _ => by rw [o1]) (k1 r hr).2⟩, ⟨fun k hk hc => ?_, fun k hk hc => ?_⟩, fun b hb hc => ?_⟩
  · rw [o1]
    by_cases e : k = i
    · rw [e]
      exact hv
    · rw [aa_w_ne _ _ fun z => e z.2] at hc
      exact k2 k hk hc
  · rw [o1]
    rw [o2] at hc
    exact k3 k hk hc
  · rw [o2] at hc
    exact aa_nb_of (fun q _ => by rw [oth 544 (by decide)]) (by rw [o2]; exact Int.le_refl _) (fun i _ => by rw [oth 545 (by decide)]) (k4 b hb hc)
theorem aa_h0 : aa_met aa_Phi aa_m0 := by
  intro ν0 g as h1 h2 h3 h4 h5 h6
  obtain ⟨as, rfl, h7⟩ := aa_this h4
  clear h4
  have e1 : (1 : Int32).toInt = 1 := rfl
  have e3 : (3 : Int32).toInt = 3 := rfl
  match as, h7 with
  | [], _ =>
    have b1 : 0 ≤ (g 540 1).toInt := (h5 540 1).1
    have b2 : (g 540 1).toInt ≤ 12 := (h5 540 1).2
    have hlen : ν0.length = 0 := h1.1
    match ν0, hlen, h1 with
    | [], _, h1 =>
      refine zz_fin.steps (n := 2) (s' := (4, [some (.ref 540)], [.int (g 540 1)], aa_H g)) rfl ?_
      refine zz_fin.if rfl (fun c => ?_) (fun c => ?_)
      · have c : g 540 1 ≠ 0 := of_decide_eq_true c
        have c1 : (g 540 1).toInt ≠ 0 := fun z => c (Int32.toInt_inj.mp z)
        obtain ⟨d, hdd⟩ : ∃ d : Nat, (g 540 1).toInt = (d : Int) + 1 := ⟨(g 540 1).toInt.toNat - 1, by omega⟩
        have es : (g 540 1 - 1).toInt = (d : Int) := by rw [aa_sub32 (by omega) (by omega), e1]; omega
        have et : (3 : Int32) + (g 540 1 - 1) = Int32.ofNat (3 + d) := aa_eqN (by rw [aa_add32 (by omega) (by omega), e3, es]; omega) (by omega)
        refine zz_fin.steps (n := 12) (s' := (27, [some (.ref 540)], [.int (Int32.ofNat 0), .int (3 + (g 540 1 - 1)), .ref 540], aa_H (zz_w g 540 1 (g 540 1 - 1)))) rfl ?_
        rw [et]
        have q1 : aa_inv (zz_w g 540 1 (g 540 1 - 1)) := aa_inv_w h5 (by show (0 : Int) ≤ _; omega) (by show _ ≤ (12 : Int); omega)
        have q2 : aa_Phi (zz_w g 540 1 (g 540 1 - 1)) := aa_Phi_deeds h6 fun k hk hkv => h6.2.1.2 k hk (by omega)
        have q3 : 1 ≤ (zz_w g 540 1 (g 540 1 - 1) 541 (399 * (3 + d) + 1)).toInt := by
          rw [zz_w_other _ _ _ (by decide)]
          exact h6.2.1.2 d (by omega) (by omega)
        refine zz_fin.call rfl rfl (Nat.le_of_ble_eq_true rfl) (aa_copy (f := 3 + d) (t := 0) (by omega) (by omega) (by omega) q1 q2 q3) ?_
        rintro v h ⟨rfl, g1, rfl, hc, k1, k2⟩
        refine zz_fin.steps (n := 2) (s' := (34, [some (.ref 540)], [.int (g1 540 1)], aa_H g1)) rfl ?_
        have hd1 : (g1 540 1).toInt = (d : Int) := by
          rw [hc.2 540 1 (by omega), aa_w_at]
          exact es
        refine zz_fin.at (n := 1) rfl ⟨g1, rfl, k1, k2, (aa_fr_deeds List.mem_cons_self).tr (aa_cp_fr hc (List.mem_cons_of_mem _ List.mem_cons_self) (by omega) (by omega)), _, List.mem_cons_of_mem _ List.mem_cons_self, [(g1 540 1).toInt], ?_, fun f hf => (by cases hf), fun q hq => (by cases hq), ?_⟩
        · exact aa_vb_new h1 (lo := 0) (hi := 11) (gr := 0) (by omega) (by omega) (fun z => absurd rfl z)
        · refine ⟨Nat.one_ne_zero, _, rfl, ?_⟩
          show some ((0 : Int) + (1 * (g1 540 1).toInt + 0)) = some _
          congr 1
          omega
      · refine zz_fin.steps (n := 1) (s' := (8, [some (.ref 540)], [.int (-1)], aa_H g)) rfl ?_
        exact zz_fin.at (n := 1) rfl ⟨g, rfl, h5, h6, aa_fr.rf, _, List.mem_cons_self, [], h1, fun f hf => (by cases hf), fun q hq => (by cases hq), Nat.one_ne_zero, _, rfl, rfl⟩
theorem aa_slot {w : Int32} (c : (0 : Int32) ≤ w ∧ w ≤ 1) : ∃ k : Nat, k < 2 ∧ w = Int32.ofNat k := by
  have c1 : (0 : Int) ≤ w.toInt := aa_le32.mp c.1
  have c2 : w.toInt ≤ 1 := aa_le32.mp c.2
  exact ⟨w.toInt.toNat, by omega, aa_eqN (by omega) (by omega)⟩
theorem aa_fr_kept {g : aa_G} {v : Int32} {ws : aa_W} {k : Nat} (hk : k < 2) (hw : (37, 0, 1) ∈ ws) : aa_fr ws g (zz_w g 542 k v) := by
  refine ⟨fun a b => ?_, .inl (aa_dep_w ⟨fun e => by have := e.1; omega, by decide, by decide⟩)⟩
  by_cases e : a = 542 ∧ b = k
  · obtain ⟨rfl, rfl⟩ := e
    exact .inr ⟨_, hw, rfl, by show (0 : Int) ≤ (b : Int); omega, by show (b : Int) ≤ 1; omega⟩
  · exact .inl (aa_w_ne _ _ e)
theorem aa_h1 : aa_met aa_Phi aa_m1 := by
  intro ν0 g as h1 h2 h3 h4 h5 h6
  obtain ⟨as, rfl, h7⟩ := aa_this h4
  clear h4
  obtain ⟨w1, as, rfl, e1, h8⟩ := aa_ms_int h7
  clear h7
  have hlen : ν0.length = 1 := h1.1
  match ν0, hlen, h1, as, h8, e1 with
  | [a], _, h1, [], _, e1 =>
    have e1 : (0 : Int) + (1 * a + 0) = w1.toInt := Option.some.inj e1
    refine zz_fin.steps (n := 3) (s' := (3, [some (.ref 540), some (.int w1)], [.int 1, .int 0, .int w1], aa_H g)) rfl ?_
    by_cases c : (0 : Int32) ≤ w1 ∧ w1 ≤ 1
    · refine zz_fin.call rfl rfl (Nat.le_of_ble_eq_true rfl) (zz_within1 (.inr rfl) c) ?_
      rintro v h ⟨rfl, rfl⟩
      obtain ⟨k, hk, rfl⟩ := aa_slot c
      refine zz_fin.steps (n := 6) (s' := (16, [some (.ref 540), some (.int (Int32.ofNat k))], [.int (1 + Int32.ofNat k), .int (Int32.ofNat 0), .ref 540], aa_H g)) rfl ?_
      rw [show (1 : Int32) + Int32.ofNat k = Int32.ofNat (1 + k) from (Int32.ofNat_add 1 k).symm]
      have hp : (1 : Int) ≤ (g 541 1).toInt := (h5 541 1).1
      refine zz_fin.call rfl rfl (Nat.le_of_ble_eq_true rfl) (aa_copy (f := 0) (t := 1 + k) (by omega) (by omega) (by omega) h5 h6 hp) ?_
      rintro v h ⟨rfl, g1, rfl, hc, k1, k2⟩
      refine zz_fin.steps (n := 4) (s' := (25, [some (.ref 540), some (.int (Int32.ofNat k))], [.int 1, .int (Int32.ofNat k), .ref 542], aa_H g1)) rfl ?_
      refine zz_fin.bas1 (n := 2) rfl rfl (zz_inbN hk (by omega)) ?_
      rw [zz_toN (by omega)]
      have hp1 : 1 ≤ (g1 541 (399 * (1 + k) + 1)).toInt := by
        rw [hc.1 1 (by omega)]
        exact hp
      have b1 : aa_iv 37 k = (0, 1) := aa_flat_ok rfl k 0
      have b2 : (vp_nar .boolean 1).toInt = 1 := by decide
      refine zz_fin.at (n := 2) rfl ⟨_, rfl, aa_inv_w k1 (v := vp_nar .boolean 1) ?_ ?_, aa_Phi_kept k2 hp1, ?_, _, List.mem_cons_of_mem _ List.mem_cons_self, [], h1, ?_, fun q hq => (by cases hq), Nat.one_ne_zero, _, rfl, rfl⟩
      · show (aa_iv 37 k).1 ≤ _
        rw [b1, b2]
        decide
      · show _ ≤ (aa_iv 37 k).2
        rw [b1, b2]
        decide
      · exact (aa_cp_fr hc (List.mem_cons_of_mem _ List.mem_cons_self) (by omega) (by omega)).tr (aa_fr_kept hk List.mem_cons_self)
      · have ek := zz_ofN (show k < 2147483648 by omega)
        intro f hf
        rcases List.mem_cons.mp hf with rfl | hf
        · exact ⟨_, rfl, by show 0 ≤ (0 : Int) + (1 * a + 0); omega⟩
        · rcases List.mem_cons.mp hf with rfl | hf
          · exact ⟨_, rfl, by show 0 ≤ (1 : Int) + (-1 * a + 0); omega⟩
          · cases hf
    · refine zz_fin.call rfl rfl (Nat.le_of_ble_eq_true rfl) (zz_within0 (.inr rfl) c) ?_
      rintro v h ⟨rfl, rfl⟩
      refine zz_fin.at (n := 3) rfl ⟨g, rfl, h5, h6, aa_fr.rf, _, List.mem_cons_self, [], h1, fun f hf => (by cases hf), fun q hq => (by cases hq), Nat.one_ne_zero, _, rfl, rfl⟩
theorem aa_h2 : aa_met aa_Phi aa_m2 := by
  intro ν0 g as h1 h2 h3 h4 h5 h6
  obtain ⟨as, rfl, h7⟩ := aa_this h4
  clear h4
  obtain ⟨w1, as, rfl, e1, h8⟩ := aa_ms_int h7
  clear h7
  match as, h8 with
  | [], _ =>
    have h1 : aa_vb [(-2147483648, 2147483647, 0)] (ν0 ++ []) := by rw [List.append_nil]; exact h1
    have end0 : aa_post aa_Phi aa_m2 ν0 g (some (.int 0)) (aa_H g) := ⟨g, rfl, h5, h6, aa_fr.rf, _, List.mem_cons_self, [], h1, fun f hf => (by cases hf), fun q hq => (by cases hq), Nat.one_ne_zero, _, rfl, rfl⟩
    refine zz_fin.steps (n := 3) (s' := (3, [some (.ref 540), some (.int w1)], [.int 1, .int 0, .int w1], aa_H g)) rfl ?_
    by_cases c : (0 : Int32) ≤ w1 ∧ w1 ≤ 1
    · refine zz_fin.call rfl rfl (Nat.le_of_ble_eq_true rfl) (zz_within1 (.inr rfl) c) ?_
      rintro v h ⟨rfl, rfl⟩
      obtain ⟨k, hk, rfl⟩ := aa_slot c
      refine zz_fin.steps (n := 4) (s' := (14, [some (.ref 540), some (.int (Int32.ofNat k))], [.int (Int32.ofNat k), .ref 542], aa_H g)) rfl ?_
      refine zz_fin.bal1 (n := 2) rfl rfl (zz_inbN hk (by omega)) ?_
      rw [zz_toN (by omega)]
      refine zz_fin.if rfl (fun d => ?_) (fun d => ?_)
      · have d : g 542 k ≠ 0 := of_decide_eq_true d
        have d1 : (g 542 k).toInt ≠ 0 := fun z => d (Int32.toInt_inj.mp z)
        have hp : (1 : Int) ≤ (g 541 1).toInt := (h5 541 1).1
        refine zz_fin.steps (n := 1) (s' := (21, [some (.ref 540), some (.int (Int32.ofNat k))], [.ref 540], aa_H g)) rfl ?_
        refine zz_fin.call (ψ := fun v h => v = none ∧ ∃ g', h = aa_H g' ∧ aa_inv g' ∧ aa_Phi g' ∧ aa_fr aa_dw g g') rfl rfl (Nat.le_of_ble_eq_true rfl) ?_ ?_
        · refine zz_fin.steps (n := 2) (s' := (2, [some (.ref 540)], [.int (Int32.ofNat 0), .ref 540], aa_H g)) rfl ?_
          refine zz_fin.call rfl rfl (Nat.le_of_ble_eq_true rfl) (deed_all (row := 0) (.inl rfl) ⟨h5, h6, hp⟩) ?_
          rintro v h ⟨rfl, g1, rfl, k1, k2, k3⟩
          exact zz_fin.at (n := 1) rfl ⟨rfl, g1, rfl, k1, k2, k3⟩
        · rintro v h ⟨rfl, g1, rfl, k1, k2, k3⟩
          refine zz_fin.steps (n := 5) (s' := (29, [some (.ref 540), some (.int (Int32.ofNat k))], [.int (Int32.ofNat 0), .int (1 + Int32.ofNat k), .ref 540], aa_H g1)) rfl ?_
          rw [show (1 : Int32) + Int32.ofNat k = Int32.ofNat (1 + k) from (Int32.ofNat_add 1 k).symm]
          have hk1 : g1 542 k = g 542 k := by
            rcases k3.1 542 k with e | ⟨w, hw, e, -⟩
            · exact e
            · rcases List.mem_cons.mp hw with rfl | hw
              · exact absurd e (by decide)
              · rcases List.mem_cons.mp hw with rfl | hw
                · exact absurd e (by decide)
                · cases hw
          have hp1 : 1 ≤ (g1 541 (399 * (1 + k) + 1)).toInt := k2.2.1.1 k hk (by rw [hk1]; exact d1)
          refine zz_fin.call rfl rfl (Nat.le_of_ble_eq_true rfl) (aa_copy (f := 1 + k) (t := 0) (by omega) (by omega) (by omega) k1 k2 hp1) ?_
          rintro v h ⟨rfl, g2, rfl, hc, q1, q2⟩
          have fw : aa_fr [(35, 1, 1), (36, 1197, 5984), (36, 0, 398)] g g1 := ⟨fun a b => (k3.1 a b).imp id fun ⟨w, hw, z⟩ => ⟨w, List.mem_append_left [(36, 0, 398)] hw, z⟩, k3.2.imp id fun ⟨w, hw, z⟩ => ⟨w, List.mem_append_left [(36, 0, 398)] hw, z⟩⟩
          refine zz_fin.at (n := 2) rfl ⟨g2, rfl, q1, q2, fw.tr (aa_cp_fr hc (List.mem_cons_of_mem _ (List.mem_cons_of_mem _ List.mem_cons_self)) (by omega) (by omega)), _, List.mem_cons_of_mem _ List.mem_cons_self, [], h1, fun f hf => (by cases hf), fun q hq => (by cases hq), Nat.one_ne_zero, _, rfl, rfl⟩
      · have d : g 542 k = 0 := Decidable.byContradiction fun z => d (decide_eq_true z)
        exact zz_fin.at (n := 2) rfl end0
    · refine zz_fin.call rfl rfl (Nat.le_of_ble_eq_true rfl) (zz_within0 (.inr rfl) c) ?_
      rintro v h ⟨rfl, rfl⟩
      exact zz_fin.at (n := 3) rfl end0
