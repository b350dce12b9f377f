/-! BY HAND: reading a byte, a code more, a row copied -/
theorem aa_this {ν : List Int} {l : List aa_A} {q : List Value} (h : aa_ms ν ((3, (540, [])) :: l) q) : ∃ r, q = .ref 540 :: r ∧ aa_ms ν l r := by
  obtain ⟨k, r, rfl, h1, h2⟩ := aa_ms_ref h
  have e : (540 : Int) + 0 = (k : Int) := Option.some.inj h1
  have e : k = 540 := by omega
  subst e
  exact ⟨r, rfl, h2⟩
theorem aa_vh_at {ch : aa_C} {ν : List Int} {g : aa_G} (h : aa_vh ch ν g) {k j : Nat} {r sl f : aa_F} (hm : ((r, sl), f) ∈ ch) (hr : aa_ev ν r = some (k : Int)) (hs : aa_ev ν sl = some (j : Int)) : aa_ev ν f = some (aa_rd g k j) := by
  obtain ⟨a, b, x, e1, e2, e3, e4⟩ := h _ hm
  have e1 : aa_ev ν r = some (a : Int) := e1
  have e2 : aa_ev ν sl = some (b : Int) := e2
  rw [hr] at e1
  rw [hs] at e2
  have h1 := Option.some.inj e1
  have h2 := Option.some.inj e2
  rw [show k = a by omega, show j = b by omega, e4]
  exact e3
theorem aa_and255 (x : Int32) : (x &&& 255).toInt = x.toInt % 256 := by
  have e1 : (x &&& 255).toInt = (x.toBitVec &&& 255#32).toInt := rfl
  have e2 : x.toInt = x.toBitVec.toInt := rfl
  have e3 : (x.toBitVec &&& 255#32).toNat = x.toBitVec.toNat % 256 := by
    rw [BitVec.toNat_and]
    exact Nat.and_two_pow_sub_one_eq_mod _ 8
  have hl := x.toBitVec.isLt
  rw [e1, e2, BitVec.toInt_eq_toNat_cond, BitVec.toInt_eq_toNat_cond, e3]
  split <;> split <;> omega
section AH
variable {X : zz_X} {m pc : Nat} {lv : zz_V} {h : zz_H} {φ : Option Value → zz_H → Prop}
theorem zz_fin.ias {i a : Int32} {k n : Nat} {r : List Value} {x y u w : Nat} {vv : Value} {sw : List (Int × Nat)} (hT : zz_T m pc = some (.iastore, (x, y, u, w), vv, sw)) (ha : zz_arr h (k + 1) 0 = some n) (hb : zz_inb i n = true) (kk : zz_fin X m (pc + 1, lv, r, (h.1, (h.2.1, zz_w h.2.2 (k + 1) i.toNatClampNeg a))) φ) : zz_fin X m (pc, lv, .int a :: .int i :: .ref (k + 1) :: r, h) φ := by
  refine zz_fin.step1 hT ?_ kk
  show zz_ias pc lv (.int a :: .int i :: .ref (k + 1) :: r) h = _
  unfold zz_ias
  dsimp only
  rw [ha]
  dsimp only
  rw [if_pos hb]
  rfl
theorem zz_fin.ial {i : Int32} {k n : Nat} {r : List Value} {x y u w : Nat} {vv : Value} {sw : List (Int × Nat)} (hT : zz_T m pc = some (.iaload, (x, y, u, w), vv, sw)) (ha : zz_arr h (k + 1) 0 = some n) (hb : zz_inb i n = true) (kk : zz_fin X m (pc + 1, lv, .int (h.2.2 (k + 1) i.toNatClampNeg) :: r, h) φ) : zz_fin X m (pc, lv, .int i :: .ref (k + 1) :: r, h) φ := by
  refine zz_fin.step1 hT ?_ kk
  show zz_ial X pc lv (.int i :: .ref (k + 1) :: r) h = _
  unfold zz_ial
  dsimp only
  rw [ha]
  dsimp only
  rw [if_pos hb]
  rfl
theorem zz_fin.bal {i : Int32} {k n : Nat} {r : List Value} {x y u w : Nat} {vv : Value} {sw : List (Int × Nat)} (hT : zz_T m pc = some (.baload, (x, y, u, w), vv, sw)) (h1 : zz_arr h (k + 1) 1 = none) (ha : zz_arr h (k + 1) 2 = some n) (hb : zz_inb i n = true) (kk : zz_fin X m (pc + 1, lv, .int (h.2.2 (k + 1) i.toNatClampNeg) :: r, h) φ) : zz_fin X m (pc, lv, .int i :: .ref (k + 1) :: r, h) φ := by
  refine zz_fin.step1 hT ?_ kk
  show zz_bal pc lv (.int i :: .ref (k + 1) :: r) h = _
  unfold zz_bal
  dsimp only
  rw [h1, ha]
  dsimp only
  rw [if_pos hb]
  rfl
end AH
theorem aa_inb {i : Int32} {n : Nat} (h0 : 0 ≤ i.toInt) (h1 : i.toInt < n) : zz_inb i n = true := ((aa_nat_of (Int.le_refl _) (Int.le_refl _) h0 h1).2 n rfl).1
theorem aa_h4 : aa_met aa_Phi aa_m4 := by
  intro ν0 g as h1 h2 h3 h4 h5 h6
  obtain ⟨as, rfl, h7⟩ := aa_this h4
  clear h4
  cases as with
  | cons _ _ => exact h7.elim
  | nil =>
    have ra := aa_vh_at h3 (k := 540) (j := 5) (r := (540, [])) (sl := (5, [])) (f := (0, [(0, 1)])) List.mem_cons_self rfl rfl
    have rb := aa_vh_at h3 (k := 540) (j := 4) (r := (540, [])) (sl := (4, [])) (f := (0, [(1, 1)])) (List.mem_cons_of_mem _ List.mem_cons_self) rfl rfl
    have hlen : ν0.length = 2 := h1.1
    match ν0, hlen, h1, ra, rb with
    | [a, b], _, h1, ra, rb =>
      have ra : (0 : Int) + (1 * a + 0) = (g 540 5).toInt := Option.some.inj ra
      have rb : (0 : Int) + (1 * b + 0) = (g 540 4).toInt := Option.some.inj rb
      have ba := h1.2 0 _ a rfl rfl
      have bb := h1.2 1 _ b rfl rfl
      have ba1 : 0 ≤ a := ba.1
      have bb1 : b ≤ 500 := bb.2.1
      have end1 : a ≥ b → aa_end aa_m4 [a, b] g (some (.int (-1))) := fun hab => by
        refine ⟨_, List.mem_cons_self, [], h1, ?_, fun q hq => (by cases hq), Nat.one_ne_zero, -1, rfl, rfl⟩
        intro f hf
        rcases List.mem_cons.mp hf with rfl | hf
        · exact ⟨_, rfl, by show 0 ≤ (0 : Int) + (1 * a + (-1 * b + 0)); omega⟩
        · cases hf
      show zz_fin none 167 (0, zz_in [.ref 540] (zz_nl 167), [], aa_H g) _
      refine zz_fin.steps (n := 4) (s' := (8, [some (.ref 540)], [.int (g 540 4), .int (g 540 5)], aa_H g)) rfl ?_
      refine zz_fin.ic rfl (fun c => ?_) (fun c => ?_)
      · have c := (aa_cmp _ _ _).mp c
        have c : 0 ≤ (g 540 5).toInt - (g 540 4).toInt := c
        refine zz_fin.steps (n := 1) (s' := (28, [some (.ref 540)], [.int (-1)], aa_H g)) rfl ?_
        exact zz_fin.at (n := 1) rfl ⟨g, rfl, h5, h6, aa_fr.rf, end1 (by omega)⟩
      · have c : ¬ 0 ≤ (g 540 5).toInt - (g 540 4).toInt := fun z => c ((aa_cmp _ _ _).mpr z)
        refine zz_fin.steps (n := 4) (s' := (19, [some (.ref 540)], [.int (g 540 5), .ref 543], aa_H g)) rfl ?_
        refine zz_fin.bal (n := 500) rfl rfl rfl (aa_inb (by omega) (by omega)) ?_
        refine zz_fin.steps (n := 3) (s' := (28, [some (.ref 540)], [.int (g 543 (g 540 5).toNatClampNeg &&& 255)], aa_H g)) rfl ?_
        refine zz_fin.at (n := 1) rfl ⟨g, rfl, h5, h6, aa_fr.rf, ?_⟩
        have hv := aa_and255 (g 543 (g 540 5).toNatClampNeg)
        refine ⟨_, List.mem_cons_of_mem _ List.mem_cons_self, [(g 543 (g 540 5).toNatClampNeg &&& 255).toInt], ?_, ?_, ?_, Nat.one_ne_zero, _, rfl, ?_⟩
        · refine aa_vb_new h1 (lo := 0) (hi := 255) (gr := 0) (by omega) (by omega) (fun z => absurd rfl z)
        · intro f hf
          rcases List.mem_cons.mp hf with rfl | hf
          · exact ⟨_, rfl, by show 0 ≤ (-1 : Int) + (-1 * a + (1 * b + 0)); omega⟩
          · cases hf
        · intro q hq
          rcases List.mem_cons.mp hq with rfl | hq
          · refine ⟨601, (g 540 5).toNatClampNeg, _, rfl, ?_, rfl, ?_⟩
            · have e : (((g 540 5).toNatClampNeg : Nat) : Int) = (g 540 5).toInt := by
                have e : (g 540 5).toNatClampNeg = (g 540 5).toInt.toNat := rfl
                omega
              show some ((0 : Int) + (1 * a + 0)) = _
              rw [e, ra]
            · show (g 543 (g 540 5).toNatClampNeg).toInt % 256 = (0 : Int) + (1 * (g 543 (g 540 5).toNatClampNeg &&& 255).toInt + 0)
              omega
          · cases hq
        · show some ((0 : Int) + (1 * (g 543 (g 540 5).toNatClampNeg &&& 255).toInt + 0)) = some _
          congr 1
          omega
