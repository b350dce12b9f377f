/-! BY HAND: a COND is reckoned -/
def aa_mj : aa_K := ((215, 3, []), (((([(-2147483648, 2147483647, 0), (-2147483648, 2147483647, 0), (-2147483648, 2147483647, 0)], []), ([], [(1, (0, [(0, 1)])), (1, (0, [(1, 1)])), (1, (0, [(2, 1)]))])), [(0, 0), (0, 1), (0, 2)]), ([((([(-2147483648, 2147483647, 0), (-2147483648, 2147483647, 0), (-2147483648, 2147483647, 0), (-2147483648, 2147483647, 0)], []), ([], [(1, (0, [(3, 1)]))])), [(0, 0)])], [])))
set_option maxRecDepth 100000 in
theorem aa_hj : aa_met aa_Phi aa_mj := aa_chk_ok (Ks := []) (gv := fun _ => false) (n := 400) aa_model_good (fun _ h => by cases h) (fun _ _ q => by cases q) (by decide +kernel)
theorem joined_all {a b c : Int32} {g : aa_G} (h5 : aa_inv g) (h6 : aa_Phi g) : zz_fin none 215 (0, zz_in [.int a, .int b, .int c] (zz_nl 215), [], aa_H g) (fun v h => ∃ z : Int32, v = some (.int z) ∧ h = aa_H g) := by
  have v0 : aa_vb [] [] := ⟨rfl, fun i q x h => by cases h⟩
  have b0 : ∀ x : Int32, (-2147483648 : Int) ≤ x.toInt ∧ x.toInt ≤ 2147483647 := fun x => by
    have := x.le_toInt
    have := x.toInt_lt
    omega
  have v1 := aa_vb_new v0 (gr := 0) (b0 a).1 (b0 a).2 (fun z => absurd rfl z)
  have v2 := aa_vb_new v1 (gr := 0) (b0 b).1 (b0 b).2 (fun z => absurd rfl z)
  have v3 := aa_vb_new v2 (gr := 0) (b0 c).1 (b0 c).2 (fun z => absurd rfl z)
  have ev : ∀ x : Int, (0 : Int) + (1 * x + 0) = x := fun x => by omega
  refine (aa_hj [a.toInt, b.toInt, c.toInt] g [.int a, .int b, .int c] v3 (fun f hf => by cases hf) (fun f hf => by cases hf) ⟨⟨Nat.one_ne_zero, a, rfl, congrArg some (ev _)⟩, ⟨Nat.one_ne_zero, b, rfl, congrArg some (ev _)⟩, ⟨Nat.one_ne_zero, c, rfl, congrArg some (ev _)⟩, trivial⟩ h5 h6).mono ?_
  rintro v h ⟨g', rfl, -, -, fr, A, hA, ρ, -, -, -, mr⟩
  have eg : g' = g := by
    funext k j
    rcases fr.1 k j with e | ⟨w, hw, -⟩
    · exact e
    · cases hw
  rw [eg]
  rcases List.mem_cons.mp hA with rfl | hA
  · match v, mr with
    | some w, ⟨_, z, e, _⟩ => exact ⟨z, e, rfl⟩
  · cases hA
theorem aa_rst_neg {w : Int32} {d : Int} (h : d < 0) : aa_rst w d < 0 := by
  unfold aa_rst
  by_cases c : w.toInt < 200000
  · rw [if_pos c, if_pos h]
    decide
  · rw [if_neg c, if_pos (by omega)]
    decide
theorem aa_run_neg {c : Nat → Int32} : ∀ (n k : Nat) (d : Int), d < 0 → aa_run c n k d < 0
  | 0, _, _, h => h
  | n + 1, k, d, h => aa_run_neg n (k + 1) _ (aa_rst_neg h)
theorem aa_from_ge {g : aa_G} (h : aa_inv g) (b : Nat) (hb : b < 8) : 0 ≤ (g 541 (208 + 7 * b)).toInt := by
  have k := (h 541 (208 + 7 * b)).1
  have k : (aa_iv 36 (208 + 7 * b)).1 ≤ (g 541 (208 + 7 * b)).toInt := k
  rw [aa_iv36, show (208 + 7 * b) / 399 = 0 by omega, show (208 + 7 * b) % 399 = 208 + 7 * b by omega] at k
  rcases (show b = 0 ∨ b = 1 ∨ b = 2 ∨ b = 3 ∨ b = 4 ∨ b = 5 ∨ b = 6 ∨ b = 7 by omega) with rfl | rfl | rfl | rfl | rfl | rfl | rfl | rfl <;> exact k
abbrev aa_hw : aa_W := [(44, 0, 43)]
theorem aa_pile {g : aa_G} (h5 : aa_inv g) (h6 : aa_Phi g) {q : Nat} (hq : q < 44) (v : Int32) : aa_inv (zz_w g 549 q v) ∧ aa_Phi (zz_w g 549 q v) ∧ aa_fr aa_hw g (zz_w g 549 q v) ∧ zz_w g 549 q v 541 = g 541 := by
  have b1 : aa_iv 44 q = (-2147483648, 2147483647) := aa_flat_ok rfl q 0
  have c1 := v.le_toInt
  have c2 := v.toInt_lt
  have fr : ∀ ws : aa_W, (44, 0, 43) ∈ ws → aa_fr ws g (zz_w g 549 q v) := fun ws hw => by
    refine ⟨fun a b => ?_, .inl (aa_dep_w ⟨fun e => by have := e.1; omega, by decide, by decide⟩)⟩
    by_cases e : a = 549 ∧ b = q
    · obtain ⟨rfl, rfl⟩ := e
      exact .inr ⟨_, hw, rfl, by show (0 : Int) ≤ (b : Int); omega, by show (b : Int) ≤ 43; omega⟩
    · exact .inl (aa_w_ne _ _ e)
  refine ⟨aa_inv_w h5 ?_ ?_, aa_Phi_same (aa_same_fr (fr aa_mfree (by decide))) h6, fr _ List.mem_cons_self, zz_w_other _ _ _ (by decide)⟩
  · show (aa_iv 44 q).1 ≤ _
    rw [b1]
    omega
  · show _ ≤ (aa_iv 44 q).2
    rw [b1]
    omega
def aa_hpost (g0 : aa_G) (v : Option Value) (h : zz_H) : Prop := (v = some (.int 0) ∨ v = some (.int 1)) ∧ ∃ g', h = aa_H g' ∧ aa_inv g' ∧ aa_Phi g' ∧ aa_fr aa_hw g0 g'
theorem holds_end {g0 g : aa_G} {w i : Int32} {x : Option Value} (p : Nat) (hp : p ≤ 44) (h5 : aa_inv g) (h6 : aa_Phi g) (hf : aa_fr aa_hw g0 g) : zz_fin none 214 (116, [some (.ref 540), some (.int w), some (.int (Int32.ofNat p)), some (.int i), x], [], aa_H g) (aa_hpost g0) := by
  refine zz_fin.steps (n := 1) (s' := (117, [some (.ref 540), some (.int w), some (.int (Int32.ofNat p)), some (.int i), x], [.int (Int32.ofNat p)], aa_H g)) rfl ?_
  refine zz_fin.if rfl (fun c => ?_) (fun c => ?_)
  · exact zz_fin.at (n := 3) rfl ⟨.inr rfl, g, rfl, h5, h6, hf⟩
  · refine zz_fin.steps (n := 5) (s' := (127, [some (.ref 540), some (.int w), some (.int (Int32.ofNat p)), some (.int i), x], [.int 1, .int (g 549 0)], aa_H g)) rfl ?_
    refine zz_fin.ic rfl (fun c => ?_) (fun c => ?_)
    · exact zz_fin.at (n := 2) rfl ⟨.inl rfl, g, rfl, h5, h6, hf⟩
    · exact zz_fin.at (n := 3) rfl ⟨.inr rfl, g, rfl, h5, h6, hf⟩
theorem holds_loop {b : Nat} (hb : b < 8) (g0 : aa_G) (G : Nat → Int32) (T : Nat) (hT : (G (209 + 7 * b)).toInt = (T : Int)) (hT2 : T ≤ 140) (n : Nat) : ∀ (i p : Nat) (x : Option Value) (g : aa_G), aa_inv g → aa_Phi g → g 541 = G → aa_fr aa_hw g0 g → T - i = n → i ≤ 140 → p ≤ 44 → 0 ≤ aa_run (fun k => G (259 + k)) n i (p : Int) → zz_fin none 214 (11, [some (.ref 540), some (.int (Int32.ofNat (203 + 7 * b))), some (.int (Int32.ofNat p)), some (.int (Int32.ofNat i)), x], [], aa_H g) (aa_hpost g0) := by
  have eL : (200000 : Int32).toInt = 200000 := rfl
  have eM : (100000 : Int32).toInt = 100000 := rfl
  induction n with
  | zero =>
    intro i p x g h5 h6 hG hf hn hi hp hr
    refine zz_fin.steps (n := 6) (s' := (20, [some (.ref 540), some (.int (Int32.ofNat (203 + 7 * b))), some (.int (Int32.ofNat p)), some (.int (Int32.ofNat i)), x], [.int (Int32.ofNat (203 + 7 * b) + 6), .ref 541, .int (Int32.ofNat i)], aa_H g)) rfl ?_
    rw [show Int32.ofNat (203 + 7 * b) + 6 = Int32.ofNat (203 + 7 * b + 6) from (Int32.ofNat_add _ 6).symm]
    refine zz_fin.ial (n := 6384) rfl rfl (zz_inbN (by omega) (by omega)) ?_
    rw [zz_toN (by omega)]
    refine zz_fin.ic rfl (fun c => ?_) (fun c => ?_)
    · exact holds_end p hp h5 h6 hf
    · refine absurd ((aa_cmp _ _ _).mpr ?_) c
      show (0 : Int) ≤ (Int32.ofNat i).toInt - (g 541 (203 + 7 * b + 6)).toInt
      rw [zz_ofN (by omega), hG, show 203 + 7 * b + 6 = 209 + 7 * b by omega]
      omega
  | succ n ih =>
    intro i p x g h5 h6 hG hf hn hi hp hr
    have ei := zz_ofN (show i < 2147483648 by omega)
    have ep := zz_ofN (show p < 2147483648 by omega)
    refine zz_fin.steps (n := 6) (s' := (20, [some (.ref 540), some (.int (Int32.ofNat (203 + 7 * b))), some (.int (Int32.ofNat p)), some (.int (Int32.ofNat i)), x], [.int (Int32.ofNat (203 + 7 * b) + 6), .ref 541, .int (Int32.ofNat i)], aa_H g)) rfl ?_
    rw [show Int32.ofNat (203 + 7 * b) + 6 = Int32.ofNat (203 + 7 * b + 6) from (Int32.ofNat_add _ 6).symm]
    refine zz_fin.ial (n := 6384) rfl rfl (zz_inbN (by omega) (by omega)) ?_
    rw [zz_toN (by omega)]
    refine zz_fin.ic rfl (fun c => ?_) (fun c => ?_)
    · exact holds_end p hp h5 h6 hf
    · refine zz_fin.steps (n := 5) (s' := (33, [some (.ref 540), some (.int (Int32.ofNat (203 + 7 * b))), some (.int (Int32.ofNat p)), some (.int (Int32.ofNat i)), x], [.int (259 + Int32.ofNat i), .ref 541], aa_H g)) rfl ?_
      rw [show (259 : Int32) + Int32.ofNat i = Int32.ofNat (259 + i) from (Int32.ofNat_add 259 i).symm]
      refine zz_fin.ial (n := 6384) rfl rfl (zz_inbN (by omega) (by omega)) ?_
      rw [zz_toN (by omega)]
      have hGi : (aa_H g).2.2 541 (259 + i) = G (259 + i) := congrFun hG _
      rw [hGi]
      have hr : 0 ≤ aa_run (fun k => G (259 + k)) n (i + 1) (aa_rst (G (259 + i)) (p : Int)) := hr
      have hs : 0 ≤ aa_rst (G (259 + i)) (p : Int) := by
        rcases Int.lt_or_le (aa_rst (G (259 + i)) (p : Int)) 0 with z | z
        · have := aa_run_neg (c := fun k => G (259 + k)) n (i + 1) _ z
          omega
        · exact z
      generalize G (259 + i) = c at hr hs
      refine zz_fin.steps (n := 3) (s' := (40, [some (.ref 540), some (.int (Int32.ofNat (203 + 7 * b))), some (.int (Int32.ofNat p)), some (.int (Int32.ofNat i)), some (.int c)], [.int 200000, .int c], aa_H g)) rfl ?_
      refine zz_fin.ic rfl (fun d => ?_) (fun d => ?_)
      · have d : (0 : Int) ≤ c.toInt - (200000 : Int32).toInt := (aa_cmp _ _ _).mp d
        rw [eL] at d
        unfold aa_rst at hr hs
        rw [if_neg (by omega)] at hr hs
        have p2 : ¬ (p : Int) < 2 := fun z => by
          rw [if_pos z] at hs
          omega
        rw [if_neg p2] at hr
        obtain ⟨q, rfl⟩ : ∃ q, p = q + 2 := ⟨p - 2, by omega⟩
        have e1 : (1 : Int32).toInt = 1 := rfl
        have em : (-1 : Int32).toInt = -1 := rfl
        have eq1 : Int32.ofNat (q + 2) + (-1) = Int32.ofNat (q + 1) := aa_eqN (by rw [aa_add32 (by omega) (by omega), ep, em]; omega) (by omega)
        have ep1 := zz_ofN (show q + 1 < 2147483648 by omega)
        have eq2 : Int32.ofNat (q + 1) - 1 = Int32.ofNat q := aa_eqN (by rw [aa_sub32 (by omega) (by omega), ep1, e1]; omega) (by omega)
        refine zz_fin.steps (n := 1) (s' := (80, [some (.ref 540), some (.int (Int32.ofNat (203 + 7 * b))), some (.int (Int32.ofNat (q + 2) + (-1))), some (.int (Int32.ofNat i)), some (.int c)], [], aa_H g)) rfl ?_
        rw [eq1]
        refine zz_fin.steps (n := 13) (s' := (99, [some (.ref 540), some (.int (Int32.ofNat (203 + 7 * b))), some (.int (Int32.ofNat (q + 1))), some (.int (Int32.ofNat i)), some (.int c)], [.int (Int32.ofNat (q + 1) - 1), .ref 549, .int (c - 200000), .int (Int32.ofNat (q + 1) - 1), .ref 549], aa_H g)) rfl ?_
        rw [eq2]
        refine zz_fin.ial (n := 44) rfl rfl (zz_inbN (by omega) (by omega)) ?_
        refine zz_fin.steps (n := 3) (s' := (105, [some (.ref 540), some (.int (Int32.ofNat (203 + 7 * b))), some (.int (Int32.ofNat (q + 1))), some (.int (Int32.ofNat i)), some (.int c)], [.int (Int32.ofNat (q + 1)), .ref 549, .int (g 549 (Int32.ofNat q).toNatClampNeg), .int (c - 200000), .int (Int32.ofNat q), .ref 549], aa_H g)) rfl ?_
        refine zz_fin.ial (n := 44) rfl rfl (zz_inbN (by omega) (by omega)) ?_
        refine zz_fin.call rfl rfl (Nat.le_of_ble_eq_true rfl) (joined_all h5 h6) ?_
        rintro v h ⟨z, rfl, rfl⟩
        refine zz_fin.ias (n := 44) rfl rfl (zz_inbN (by omega) (by omega)) ?_
        rw [zz_toN (by omega)]
        obtain ⟨k1, k2, k3, k4⟩ := aa_pile h5 h6 (show q < 44 by omega) z
        refine zz_fin.steps (n := 2) (s' := (11, [some (.ref 540), some (.int (Int32.ofNat (203 + 7 * b))), some (.int (Int32.ofNat (q + 1))), some (.int (Int32.ofNat i + 1)), some (.int c)], [], aa_H (zz_w g 549 q z))) rfl ?_
        rw [show Int32.ofNat i + 1 = Int32.ofNat (i + 1) from (Int32.ofNat_add i 1).symm]
        refine ih (i + 1) (q + 1) _ _ k1 k2 (k4.trans hG) (hf.tr k3) (by omega) (by omega) (by omega) ?_
        rwa [show ((q + 1 : Nat) : Int) = ((q + 2 : Nat) : Int) - 1 by omega]
      · have d : ¬ (0 : Int) ≤ c.toInt - (200000 : Int32).toInt := fun z => d ((aa_cmp _ _ _).mpr z)
        rw [eL] at d
        unfold aa_rst at hr hs
        rw [if_pos (by omega), if_neg (by omega)] at hr hs
        have p2 : ¬ 43 < (p : Int) := fun z => by
          rw [if_pos z] at hs
          omega
        rw [if_neg p2] at hr hs
        have c2 : ¬ 100004 < c.toInt := fun z => by
          rw [if_pos z] at hs
          omega
        rw [if_neg c2] at hr
        have fin : ∀ z : Int32, zz_fin none 214 (70, [some (.ref 540), some (.int (Int32.ofNat (203 + 7 * b))), some (.int (Int32.ofNat p)), some (.int (Int32.ofNat i)), some (.int c)], [.int z, .int (Int32.ofNat p), .ref 549], aa_H g) (aa_hpost g0) := fun z => by
          refine zz_fin.ias (n := 44) rfl rfl (zz_inbN (by omega) (by omega)) ?_
          rw [zz_toN (by omega)]
          obtain ⟨k1, k2, k3, k4⟩ := aa_pile h5 h6 (show p < 44 by omega) z
          refine zz_fin.steps (n := 4) (s' := (11, [some (.ref 540), some (.int (Int32.ofNat (203 + 7 * b))), some (.int (Int32.ofNat p + 1)), some (.int (Int32.ofNat i + 1)), some (.int c)], [], aa_H (zz_w g 549 p z))) rfl ?_
          rw [show Int32.ofNat i + 1 = Int32.ofNat (i + 1) from (Int32.ofNat_add i 1).symm, show Int32.ofNat p + 1 = Int32.ofNat (p + 1) from (Int32.ofNat_add p 1).symm]
          exact ih (i + 1) (p + 1) _ _ k1 k2 (k4.trans hG) (hf.tr k3) (by omega) (by omega) (by omega) hr
        refine zz_fin.steps (n := 5) (s' := (52, [some (.ref 540), some (.int (Int32.ofNat (203 + 7 * b))), some (.int (Int32.ofNat p)), some (.int (Int32.ofNat i)), some (.int c)], [.int 100000, .int c, .int (Int32.ofNat p), .ref 549], aa_H g)) rfl ?_
        refine zz_fin.ic rfl (fun e => ?_) (fun e => ?_)
        · have e : (0 : Int) ≤ c.toInt - (100000 : Int32).toInt := (aa_cmp _ _ _).mp e
          rw [eM] at e
          have ec : (c - 100000).toInt = c.toInt - 100000 := by
            rw [aa_sub32 (by omega) (by omega), eM]
          refine zz_fin.steps (n := 5) (s' := (69, [some (.ref 540), some (.int (Int32.ofNat (203 + 7 * b))), some (.int (Int32.ofNat p)), some (.int (Int32.ofNat i)), some (.int c)], [.int (c - 100000), .ref 548, .int (Int32.ofNat p), .ref 549], aa_H g)) rfl ?_
          refine zz_fin.ial (n := 5) rfl rfl (aa_inb (by omega) (by omega)) ?_
          exact fin _
        · refine zz_fin.steps (n := 2) (s' := (70, [some (.ref 540), some (.int (Int32.ofNat (203 + 7 * b))), some (.int (Int32.ofNat p)), some (.int (Int32.ofNat i)), some (.int c)], [.int c, .int (Int32.ofNat p), .ref 549], aa_H g)) rfl ?_
          exact fin _
theorem aa_h10 : aa_met aa_Phi aa_m10 := by
  intro ν0 g as h1 h2 h3 h4 h5 h6
  obtain ⟨as, rfl, h7⟩ := aa_this h4
  clear h4
  obtain ⟨w, as, rfl, e1, h8⟩ := aa_ms_int h7
  clear h7
  have hlen : ν0.length = 2 := h1.1
  match ν0, hlen, h1, as, h8, h2, h3, e1 with
  | [a, c], _, h1, [], _, h2, h3, e1 =>
    have e1 : (203 : Int) + (7 * a + 0) = w.toInt := Option.some.inj e1
    have rc := aa_vh_at h3 (k := 541) (j := 2) (r := (541, [])) (sl := (2, [])) (f := (0, [(1, 1)])) List.mem_cons_self rfl rfl
    have rc : (0 : Int) + (1 * c + 0) = (g 541 2).toInt := Option.some.inj rc
    have ba := (h1.2 0 _ a rfl rfl)
    have ba1 : 0 ≤ a := ba.1
    have ba2 : a ≤ 7 := ba.2.1
    obtain ⟨x, hx, hx2⟩ := h2 _ List.mem_cons_self
    have hx : (-1 : Int) + (-1 * a + (1 * c + 0)) = x := Option.some.inj hx
    obtain ⟨b, rfl⟩ : ∃ b : Nat, a = (b : Int) := ⟨a.toNat, by omega⟩
    have ew : w = Int32.ofNat (203 + 7 * b) := aa_eqN (by omega) (by omega)
    subst ew
    have hseg : aa_seg g 0 b := (h6.1 0 (by omega)).2 b (by omega) (by show (b : Int) < (g 541 2).toInt; omega)
    have t1 := aa_to_le h5 0 b (by omega)
    have f1 := aa_from_ge h5 b (by omega)
    unfold aa_seg at hseg
    rw [show 399 * 0 + 203 + 7 * b + 5 = 208 + 7 * b by omega, show 399 * 0 + 203 + 7 * b + 6 = 209 + 7 * b by omega] at hseg
    rw [show 399 * 0 + 203 + 7 * b + 6 = 209 + 7 * b by omega] at t1
    have t0 : 0 ≤ (g 541 (209 + 7 * b)).toInt := by
      have k := (h5 541 (209 + 7 * b)).1
      have k : (aa_iv 36 (209 + 7 * b)).1 ≤ (g 541 (209 + 7 * b)).toInt := k
      rw [aa_iv36, show (209 + 7 * b) / 399 = 0 by omega, show (209 + 7 * b) % 399 = 209 + 7 * b by omega] at k
      rcases (show b = 0 ∨ b = 1 ∨ b = 2 ∨ b = 3 ∨ b = 4 ∨ b = 5 ∨ b = 6 ∨ b = 7 by omega) with rfl | rfl | rfl | rfl | rfl | rfl | rfl | rfl <;> exact k
    have f2 : (g 541 (208 + 7 * b)).toInt ≤ 140 := by
      have k := (h5 541 (208 + 7 * b)).2
      have k : (g 541 (208 + 7 * b)).toInt ≤ (aa_iv 36 (208 + 7 * b)).2 := k
      rw [aa_iv36, show (208 + 7 * b) / 399 = 0 by omega, show (208 + 7 * b) % 399 = 208 + 7 * b by omega] at k
      rcases (show b = 0 ∨ b = 1 ∨ b = 2 ∨ b = 3 ∨ b = 4 ∨ b = 5 ∨ b = 6 ∨ b = 7 by omega) with rfl | rfl | rfl | rfl | rfl | rfl | rfl | rfl <;> exact k
    refine zz_fin.steps (n := 7) (s' := (9, [some (.ref 540), some (.int (Int32.ofNat (203 + 7 * b))), some (.int 0), none, none], [.int (Int32.ofNat (203 + 7 * b) + 5), .ref 541], aa_H g)) rfl ?_
    rw [show Int32.ofNat (203 + 7 * b) + 5 = Int32.ofNat (203 + 7 * b + 5) from (Int32.ofNat_add _ 5).symm]
    refine zz_fin.ial (n := 6384) rfl rfl (zz_inbN (by omega) (by omega)) ?_
    rw [zz_toN (by omega), show 203 + 7 * b + 5 = 208 + 7 * b by omega]
    have ef : g 541 (208 + 7 * b) = Int32.ofNat (g 541 (208 + 7 * b)).toInt.toNat := aa_eqN (by omega) (by omega)
    refine zz_fin.steps (n := 1) (s' := (11, [some (.ref 540), some (.int (Int32.ofNat (203 + 7 * b))), some (.int (Int32.ofNat 0)), some (.int (g 541 (208 + 7 * b))), none], [], aa_H g)) rfl ?_
    rw [ef]
    refine (holds_loop (b := b) (by omega) g (g 541) (g 541 (209 + 7 * b)).toInt.toNat (by omega) (by omega) _ _ 0 none g h5 h6 rfl aa_fr.rf rfl (by omega) (by omega) ?_).mono ?_
    · rw [aa_run_congr (c := fun k => g 541 (399 * 0 + 259 + k))]
      · exact hseg
      · intro j hj
        rfl
    · rintro v h ⟨hv, g', rfl, k1, k2, k3⟩
      rcases hv with rfl | rfl
      · exact ⟨g', rfl, k1, k2, k3, _, List.mem_cons_self, [], h1, fun f hf => (by cases hf), fun q hq => (by cases hq), Nat.one_ne_zero, _, rfl, rfl⟩
      · exact ⟨g', rfl, k1, k2, k3, _, List.mem_cons_of_mem _ List.mem_cons_self, [], h1, fun f hf => (by cases hf), fun q hq => (by cases hq), Nat.one_ne_zero, _, rfl, rfl⟩
