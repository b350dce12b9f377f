/-! THE LAW'S CASES BY HAND: feed -/
theorem zz_fin.xal {L : Nat} {xs : Nat → Int32} {m pc : Nat} {lv : zz_V} {h : zz_H} {φ : Option Value → zz_H → Prop} {i : Int32} {r : List Value} {x y u w : Nat} {vv : Value} {sw : List (Int × Nat)} (hT : zz_T m pc = some (.iaload, (x, y, u, w), vv, sw)) (hin : zz_inb i L = true) (kk : zz_fin (some (L, xs)) m (pc + 1, lv, .int (xs i.toNatClampNeg) :: r, h) φ) : zz_fin (some (L, xs)) m (pc, lv, .int i :: .ref 0 :: r, h) φ := by
  refine zz_fin.step1 hT ?_ kk
  show zz_ial (some (L, xs)) pc lv (.int i :: .ref 0 :: r) h = _
  unfold zz_ial
  dsimp only
  rw [if_pos hin]
  rfl
theorem fc_rng (a : Int32) : (-2147483648 : Int) ≤ a.toInt ∧ a.toInt ≤ 2147483647 := by
  have r1 := a.le_toInt
  have r2 := a.toInt_lt
  exact ⟨by omega, by omega⟩
theorem fc_vb {a0 a1 a2 a3 a4 : Int32} {c : Nat} (hc : c ≤ 500) : aa_vb [aa_full, aa_full, aa_full, aa_full, aa_full, (0, 500, 0)] [a0.toInt, a1.toInt, a2.toInt, a3.toInt, a4.toInt, (c : Int)] :=
  aa_vb_new (aa_vb_new (aa_vb_new (aa_vb_new (aa_vb_new (aa_vb_new (iv := []) (ν := []) ⟨rfl, fun i q v hq => by cases hq⟩ (lo := -2147483648) (hi := 2147483647) (gr := 0) (fc_rng a0).1 (fc_rng a0).2 (fun z => absurd rfl z)) (lo := -2147483648) (hi := 2147483647) (gr := 0) (fc_rng a1).1 (fc_rng a1).2 (fun z => absurd rfl z)) (lo := -2147483648) (hi := 2147483647) (gr := 0) (fc_rng a2).1 (fc_rng a2).2 (fun z => absurd rfl z)) (lo := -2147483648) (hi := 2147483647) (gr := 0) (fc_rng a3).1 (fc_rng a3).2 (fun z => absurd rfl z)) (lo := -2147483648) (hi := 2147483647) (gr := 0) (fc_rng a4).1 (fc_rng a4).2 (fun z => absurd rfl z)) (lo := 0) (hi := 500) (gr := 0) (show (0 : Int) ≤ (c : Int) by omega) (show (c : Int) ≤ 500 by omega) (fun z => absurd rfl z)
theorem fc_metc {g : aa_G} {c : Nat} {a0 a1 a2 a3 a4 : Int32} (hc : c ≤ 500) (h0 : g 454 0 = Int32.ofNat c) (hi : aa_inv g) (hφ : aa_Phi g) : zz_fin none 11 (0, zz_in [.ref 1, .int a0, .int a1, .int a2, .int a3, .int a4] (zz_nl 11), [], aa_H g) (fun _ h => ∃ g', h = aa_H g' ∧ aa_inv g' ∧ aa_Phi g') := by
  have hK : aa_met aa_Phi aa_x3 := aa_xm aa_good_free _ (List.mem_of_getElem? (i := 1) rfl)
  refine (hK [a0.toInt, a1.toInt, a2.toInt, a3.toInt, a4.toInt, (c : Int)] g [.ref 1, .int a0, .int a1, .int a2, .int a3, .int a4] (fc_vb hc) (fun f hf => by cases hf) ?_ ⟨⟨Nat.succ_ne_zero _, 1, rfl, rfl⟩, ⟨Nat.one_ne_zero, a0, rfl, aa_id_ev rfl⟩, ⟨Nat.one_ne_zero, a1, rfl, aa_id_ev rfl⟩, ⟨Nat.one_ne_zero, a2, rfl, aa_id_ev rfl⟩, ⟨Nat.one_ne_zero, a3, rfl, aa_id_ev rfl⟩, ⟨Nat.one_ne_zero, a4, rfl, aa_id_ev rfl⟩, trivial⟩ hi hφ).mono ?_
  · intro q hq
    have hq := List.mem_singleton.mp hq
    subst hq
    exact ⟨454, 0, (c : Int), rfl, rfl, aa_id_ev rfl, by rw [aa_rd_of (by decide), h0, zz_ofN (by omega)]⟩
  · rintro v h ⟨g', rfl, k1, k2, -⟩
    exact ⟨g', rfl, k1, k2⟩
theorem fc_metm {g : aa_G} {c : Nat} {a0 a1 a2 a3 a4 : Int32} (hc : c ≤ 500) (h0 : g 540 4 = Int32.ofNat c) (hi : aa_inv g) (hφ : aa_Phi g) : zz_fin none 158 (0, zz_in [.ref 540, .int a0, .int a1, .int a2, .int a3, .int a4] (zz_nl 158), [], aa_H g) (fun _ h => ∃ g', h = aa_H g' ∧ aa_inv g' ∧ aa_Phi g') := by
  have hK : aa_met aa_Phi aa_x4 := aa_xm4
  refine (hK [a0.toInt, a1.toInt, a2.toInt, a3.toInt, a4.toInt, (c : Int)] g [.ref 540, .int a0, .int a1, .int a2, .int a3, .int a4] (fc_vb hc) (fun f hf => by cases hf) ?_ ⟨⟨Nat.succ_ne_zero _, 540, rfl, rfl⟩, ⟨Nat.one_ne_zero, a0, rfl, aa_id_ev rfl⟩, ⟨Nat.one_ne_zero, a1, rfl, aa_id_ev rfl⟩, ⟨Nat.one_ne_zero, a2, rfl, aa_id_ev rfl⟩, ⟨Nat.one_ne_zero, a3, rfl, aa_id_ev rfl⟩, ⟨Nat.one_ne_zero, a4, rfl, aa_id_ev rfl⟩, trivial⟩ hi hφ).mono ?_
  · intro q hq
    have hq := List.mem_singleton.mp hq
    subst hq
    exact ⟨540, 4, (c : Int), rfl, rfl, aa_id_ev rfl, by rw [aa_rd_of (by decide), h0, zz_ofN (by omega)]⟩
  · rintro v h ⟨g', rfl, k1, k2, -⟩
    exact ⟨g', rfl, k1, k2⟩
theorem fd_H {g g' : aa_G} (h : aa_H g = aa_H g') : g = g' := congrArg (fun h : zz_H => h.2.2) h
theorem fc_int_11 {g : aa_G} {c : Nat} {a0 a1 a2 a3 a4 : Int32} (hc : c ≤ 500) (h0 : g 454 0 = Int32.ofNat c) (hi : aa_inv g) (hφ : aa_Phi g) : zz_fin none 11 (0, zz_in [.ref 1, .int a0, .int a1, .int a2, .int a3, .int a4] (zz_nl 11), [], aa_H g) (fun v _ => ∃ x : Int32, v = some (.int x)) := by
  have hK : aa_met aa_Phi aa_x3 := aa_xm aa_good_free _ (List.mem_of_getElem? (i := 1) rfl)
  refine (hK [a0.toInt, a1.toInt, a2.toInt, a3.toInt, a4.toInt, (c : Int)] g [.ref 1, .int a0, .int a1, .int a2, .int a3, .int a4] (fc_vb hc) (fun f hf => by cases hf) ?_ ⟨⟨Nat.succ_ne_zero _, 1, rfl, rfl⟩, ⟨Nat.one_ne_zero, a0, rfl, aa_id_ev rfl⟩, ⟨Nat.one_ne_zero, a1, rfl, aa_id_ev rfl⟩, ⟨Nat.one_ne_zero, a2, rfl, aa_id_ev rfl⟩, ⟨Nat.one_ne_zero, a3, rfl, aa_id_ev rfl⟩, ⟨Nat.one_ne_zero, a4, rfl, aa_id_ev rfl⟩, trivial⟩ hi hφ).mono ?_
  · intro q hq
    have hq := List.mem_singleton.mp hq
    subst hq
    exact ⟨454, 0, (c : Int), rfl, rfl, aa_id_ev rfl, by rw [aa_rd_of (by decide), h0, zz_ofN (by omega)]⟩
  · rintro v h ⟨g', rfl, -, -, -, A, hA, ρ, -, -, -, hr⟩
    rcases List.mem_cons.mp hA with rfl | hA
    · match v, hr with
      | some w, hr =>
        obtain ⟨-, z, hz, -⟩ := hr
        exact ⟨z, congrArg some (Option.some.inj hz)⟩
    · rcases List.mem_cons.mp hA with rfl | hA
      · match v, hr with
        | some w, hr =>
          obtain ⟨-, z, hz, -⟩ := hr
          exact ⟨z, congrArg some (Option.some.inj hz)⟩
      · cases hA
theorem fc_int_158 {g : aa_G} {c : Nat} {a0 a1 a2 a3 a4 : Int32} (hc : c ≤ 500) (h0 : g 540 4 = Int32.ofNat c) (hi : aa_inv g) (hφ : aa_Phi g) : zz_fin none 158 (0, zz_in [.ref 540, .int a0, .int a1, .int a2, .int a3, .int a4] (zz_nl 158), [], aa_H g) (fun v _ => ∃ x : Int32, v = some (.int x)) := by
  have hK : aa_met aa_Phi aa_x4 := aa_xm4
  refine (hK [a0.toInt, a1.toInt, a2.toInt, a3.toInt, a4.toInt, (c : Int)] g [.ref 540, .int a0, .int a1, .int a2, .int a3, .int a4] (fc_vb hc) (fun f hf => by cases hf) ?_ ⟨⟨Nat.succ_ne_zero _, 540, rfl, rfl⟩, ⟨Nat.one_ne_zero, a0, rfl, aa_id_ev rfl⟩, ⟨Nat.one_ne_zero, a1, rfl, aa_id_ev rfl⟩, ⟨Nat.one_ne_zero, a2, rfl, aa_id_ev rfl⟩, ⟨Nat.one_ne_zero, a3, rfl, aa_id_ev rfl⟩, ⟨Nat.one_ne_zero, a4, rfl, aa_id_ev rfl⟩, trivial⟩ hi hφ).mono ?_
  · intro q hq
    have hq := List.mem_singleton.mp hq
    subst hq
    exact ⟨540, 4, (c : Int), rfl, rfl, aa_id_ev rfl, by rw [aa_rd_of (by decide), h0, zz_ofN (by omega)]⟩
  · rintro v h ⟨g', rfl, -, -, -, A, hA, ρ, -, -, -, hr⟩
    rcases List.mem_cons.mp hA with rfl | hA
    · match v, hr with
      | some w, hr =>
        obtain ⟨-, z, hz, -⟩ := hr
        exact ⟨z, congrArg some (Option.some.inj hz)⟩
    · rcases List.mem_cons.mp hA with rfl | hA
      · match v, hr with
        | some w, hr =>
          obtain ⟨-, z, hz, -⟩ := hr
          exact ⟨z, congrArg some (Option.some.inj hz)⟩
      · cases hA
theorem lw_feed {L : Nat} {xs : Nat → Int32} {g : aa_G} {i c : Nat} {φ : Option Value → zz_H → Prop} (hL : i + 6 ≤ L) (hL2 : L ≤ 3072) (hc : c ≤ 500) (h1 : g 454 0 = Int32.ofNat c) (h2 : g 540 4 = Int32.ofNat c) (hi : aa_inv g) (hφ : aa_Phi g) (hR : fd_R g) (k : ∀ g' c', c' ≤ 500 → g' 454 0 = Int32.ofNat c' → g' 540 4 = Int32.ofNat c' → aa_inv g' → aa_Phi g' → fd_R g' → (∀ j, g' 546 j = g 546 j) → zz_fin (some (L, xs)) 0 (18, [some (.ref 0), some (.ref 1), some (.ref 540), some (.int (Int32.ofNat (i + 6)))], [], aa_H g') φ) : zz_fin (some (L, xs)) 0 (252, [some (.ref 0), some (.ref 1), some (.ref 540), some (.int (Int32.ofNat i))], [], aa_H g) φ := by
  refine zz_fin.steps (n := 5) (s' := (257, [some (.ref 0), some (.ref 1), some (.ref 540), some (.int (Int32.ofNat i))], [.int ((Int32.ofNat i) + 1), .ref 0, .ref 1], aa_H g)) rfl ?_
  rw [mb_add i 1 (v := 1) rfl]
  refine zz_fin.xal rfl (zz_inbN (by omega) (by omega)) ?_
  rw [zz_toN (by omega)]
  refine zz_fin.steps (n := 4) (s' := (262, [some (.ref 0), some (.ref 1), some (.ref 540), some (.int (Int32.ofNat i))], [.int ((Int32.ofNat i) + 2), .ref 0, .int (xs (i + 1)), .ref 1], aa_H g)) rfl ?_
  rw [mb_add i 2 (v := 2) rfl]
  refine zz_fin.xal rfl (zz_inbN (by omega) (by omega)) ?_
  rw [zz_toN (by omega)]
  refine zz_fin.steps (n := 4) (s' := (267, [some (.ref 0), some (.ref 1), some (.ref 540), some (.int (Int32.ofNat i))], [.int ((Int32.ofNat i) + 3), .ref 0, .int (xs (i + 2)), .int (xs (i + 1)), .ref 1], aa_H g)) rfl ?_
  rw [mb_add i 3 (v := 3) rfl]
  refine zz_fin.xal rfl (zz_inbN (by omega) (by omega)) ?_
  rw [zz_toN (by omega)]
  refine zz_fin.steps (n := 4) (s' := (272, [some (.ref 0), some (.ref 1), some (.ref 540), some (.int (Int32.ofNat i))], [.int ((Int32.ofNat i) + 4), .ref 0, .int (xs (i + 3)), .int (xs (i + 2)), .int (xs (i + 1)), .ref 1], aa_H g)) rfl ?_
  rw [mb_add i 4 (v := 4) rfl]
  refine zz_fin.xal rfl (zz_inbN (by omega) (by omega)) ?_
  rw [zz_toN (by omega)]
  refine zz_fin.steps (n := 4) (s' := (277, [some (.ref 0), some (.ref 1), some (.ref 540), some (.int (Int32.ofNat i))], [.int ((Int32.ofNat i) + 5), .ref 0, .int (xs (i + 4)), .int (xs (i + 3)), .int (xs (i + 2)), .int (xs (i + 1)), .ref 1], aa_H g)) rfl ?_
  rw [mb_add i 5 (v := 5) rfl]
  refine zz_fin.xal rfl (zz_inbN (by omega) (by omega)) ?_
  rw [zz_toN (by omega)]
  refine zz_fin.call rfl rfl (Nat.le_of_ble_eq_true rfl) (zz_finX ((fd_feedc hc h1).and ((fc_metc hc h1 hi hφ).and (fc_int_11 hc h1 hi hφ)))) ?_
  rintro v h' ⟨⟨g1, rfl, r1⟩, ⟨g1', e1, i1, f1⟩, x, rfl⟩
  cases fd_H e1
  refine zz_fin.steps (n := 6) (s' := (287, [some (.ref 0), some (.ref 1), some (.ref 540), some (.int (Int32.ofNat i))], [.int ((Int32.ofNat i) + 1), .ref 0, .ref 540], aa_H g1)) rfl ?_
  rw [mb_add i 1 (v := 1) rfl]
  refine zz_fin.xal rfl (zz_inbN (by omega) (by omega)) ?_
  rw [zz_toN (by omega)]
  refine zz_fin.steps (n := 4) (s' := (292, [some (.ref 0), some (.ref 1), some (.ref 540), some (.int (Int32.ofNat i))], [.int ((Int32.ofNat i) + 2), .ref 0, .int (xs (i + 1)), .ref 540], aa_H g1)) rfl ?_
  rw [mb_add i 2 (v := 2) rfl]
  refine zz_fin.xal rfl (zz_inbN (by omega) (by omega)) ?_
  rw [zz_toN (by omega)]
  refine zz_fin.steps (n := 4) (s' := (297, [some (.ref 0), some (.ref 1), some (.ref 540), some (.int (Int32.ofNat i))], [.int ((Int32.ofNat i) + 3), .ref 0, .int (xs (i + 2)), .int (xs (i + 1)), .ref 540], aa_H g1)) rfl ?_
  rw [mb_add i 3 (v := 3) rfl]
  refine zz_fin.xal rfl (zz_inbN (by omega) (by omega)) ?_
  rw [zz_toN (by omega)]
  refine zz_fin.steps (n := 4) (s' := (302, [some (.ref 0), some (.ref 1), some (.ref 540), some (.int (Int32.ofNat i))], [.int ((Int32.ofNat i) + 4), .ref 0, .int (xs (i + 3)), .int (xs (i + 2)), .int (xs (i + 1)), .ref 540], aa_H g1)) rfl ?_
  rw [mb_add i 4 (v := 4) rfl]
  refine zz_fin.xal rfl (zz_inbN (by omega) (by omega)) ?_
  rw [zz_toN (by omega)]
  refine zz_fin.steps (n := 4) (s' := (307, [some (.ref 0), some (.ref 1), some (.ref 540), some (.int (Int32.ofNat i))], [.int ((Int32.ofNat i) + 5), .ref 0, .int (xs (i + 4)), .int (xs (i + 3)), .int (xs (i + 2)), .int (xs (i + 1)), .ref 540], aa_H g1)) rfl ?_
  rw [mb_add i 5 (v := 5) rfl]
  refine zz_fin.xal rfl (zz_inbN (by omega) (by omega)) ?_
  rw [zz_toN (by omega)]
  have q1 : g1 540 4 = Int32.ofNat c := by
    rcases r1 with ⟨-, rfl⟩ | ⟨-, r1⟩
    · exact h2
    · exact (r1.2.2 540 4 (by omega) (by omega)).trans h2
  refine zz_fin.call rfl rfl (Nat.le_of_ble_eq_true rfl) (zz_finX ((fd_feedm hc q1).and ((fc_metm hc q1 i1 f1).and (fc_int_158 hc q1 i1 f1)))) ?_
  rintro v h' ⟨⟨g2, rfl, r2⟩, ⟨g2', e2, i2, f2⟩, x2, rfl⟩
  cases fd_H e2
  refine zz_fin.steps (n := 4) (s' := (18, [some (.ref 0), some (.ref 1), some (.ref 540), some (.int ((Int32.ofNat i) + 6))], [], aa_H g2)) rfl ?_
  rw [mb_add i 6 (v := 6) rfl]
  rcases r1 with ⟨n1, rfl⟩ | ⟨n1, r1⟩
  · rcases r2 with ⟨n2, rfl⟩ | ⟨n2, r2⟩
    · exact k _ c hc h1 q1 i2 f2 hR (fun _ => rfl)
    · omega
  · rcases r2 with ⟨n2, rfl⟩ | ⟨n2, r2⟩
    · omega
    · exact k g2 (c + 4 * 5) (by omega) ((r2.2.2 454 0 (by omega) (by omega)).trans r1.1) r2.1 i2 f2 (hR.feed r1 r2) (fun j => (r2.2.2 546 j (by omega) (by omega)).trans (r1.2.2 546 j (by omega) (by omega)))
