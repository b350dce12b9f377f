/-! BY HAND: a code more behind the codes -/
abbrev aa_ow : aa_W := [(35, 11, 11), (40, 0, 139), (900, 0, 0)]
def aa_doing (g : aa_G) (w : Int32) : aa_G := zz_w (zz_w g 545 (g 540 11).toNatClampNeg w) 540 11 (g 540 11 + 1)
theorem aa_doing_oth {g : aa_G} {w : Int32} {k : Nat} (h1 : k ≠ 540) (h2 : k ≠ 545) : aa_doing g w k = g k := by
  unfold aa_doing
  rw [zz_w_other _ _ _ h1, zz_w_other _ _ _ h2]
theorem aa_doing_540 {g : aa_G} {w : Int32} {j : Nat} (h : j ≠ 11) : aa_doing g w 540 j = g 540 j := by
  unfold aa_doing
  rw [aa_w_ne _ _ fun e => h e.2, zz_w_other _ _ _ (by decide)]
theorem aa_doing_11 {g : aa_G} {w : Int32} : aa_doing g w 540 11 = g 540 11 + 1 := aa_w_at _ _ _ _
theorem aa_doing_545 {g : aa_G} {w : Int32} {j : Nat} : aa_doing g w 545 j = zz_w g 545 (g 540 11).toNatClampNeg w 545 j := by
  unfold aa_doing
  rw [zz_w_other _ _ _ (by decide)]
theorem aa_doing_dep {g : aa_G} {w : Int32} {C : Nat} (hC : (g 540 11).toInt = (C : Int)) (hC2 : C ≤ 139) (hd : 0 ≤ aa_dep g) : aa_dep (aa_doing g w) = aa_rst w (aa_dep g) := by
  have e1 : (1 : Int32).toInt = 1 := rfl
  have en : (g 540 11).toNatClampNeg = C := by
    have e : (g 540 11).toNatClampNeg = (g 540 11).toInt.toNat := rfl
    omega
  have e11 : (aa_doing g w 540 11).toInt = (C : Int) + 1 := by rw [aa_doing_11, aa_add32 (by omega) (by omega), hC, e1]
  have eb : aa_beg (aa_doing g w) = aa_beg g := by
    unfold aa_beg
    rw [aa_doing_540 (by decide), aa_doing_oth (by decide) (by decide)]
  have hb : aa_beg g ≤ C := by
    unfold aa_dep at hd
    split at hd
    · omega
    · omega
  unfold aa_dep
  rw [eb, e11, hC, if_neg (by omega), if_neg (by omega), show ((C : Int) + 1).toNat - aa_beg g = (C - aa_beg g) + 1 by omega, aa_run_add, show aa_beg g + (C - aa_beg g) = C by omega, show ((C : Int)).toNat - aa_beg g = C - aa_beg g by omega]
  congr 1
  · rw [aa_doing_545, en, aa_w_at]
  · refine aa_run_congr _ _ _ fun i hi => ?_
    rw [aa_doing_545, en, aa_w_ne _ _ (by omega)]
theorem does_all {g : aa_G} {w : Int32} (h5 : aa_inv g) (h6 : aa_Phi g) (hw0 : 0 ≤ w.toInt) (hw1 : w.toInt ≤ 200255) {C : Nat} (hC : (g 540 11).toInt = (C : Int)) (hC2 : C ≤ 139) (hd : 0 ≤ aa_dep g) : zz_fin none 188 (0, zz_in [.ref 540, .int w] (zz_nl 188), [], aa_H g) (fun v h => v = none ∧ ∃ g', h = aa_H g' ∧ aa_inv g' ∧ aa_Phi g' ∧ aa_fr aa_ow g g' ∧ (g' 540 11).toInt = (C : Int) + 1 ∧ aa_dep g' = aa_rst w (aa_dep g)) := by
  have e1 : (1 : Int32).toInt = 1 := rfl
  have en : (g 540 11).toNatClampNeg = C := by
    have e : (g 540 11).toNatClampNeg = (g 540 11).toInt.toNat := rfl
    omega
  have e11 : (g 540 11 + 1).toInt = (C : Int) + 1 := by rw [aa_add32 (by omega) (by omega), hC, e1]
  refine zz_fin.steps (n := 5) (s' := (9, [some (.ref 540), some (.int w)], [.int w, .int (g 540 11), .ref 545], aa_H g)) rfl ?_
  refine zz_fin.ias (n := 140) rfl rfl (aa_inb (by omega) (by omega)) ?_
  refine zz_fin.steps (n := 6) (s' := (20, [some (.ref 540), some (.int w)], [], aa_H (aa_doing g w))) rfl ?_
  have b1 : aa_iv 40 C = (0, 200255) := aa_flat_ok rfl C 0
  refine zz_fin.at (n := 1) rfl ⟨rfl, _, rfl, ?_, ?_, ?_, ?_, aa_doing_dep hC hC2 hd⟩
  · unfold aa_doing
    refine aa_inv_w (aa_inv_w h5 ?_ ?_) ?_ ?_
    · rw [en]
      show (aa_iv 40 C).1 ≤ _
      rw [b1]
      exact hw0
    · rw [en]
      show _ ≤ (aa_iv 40 C).2
      rw [b1]
      exact hw1
    · show (0 : Int) ≤ _
      omega
    · show _ ≤ (140 : Int)
      omega
  · obtain ⟨k1, ⟨k2, k3⟩, k4⟩ := h6
    have o1 : aa_doing g w 541 = g 541 := aa_doing_oth (by decide) (by decide)
    have o2 : aa_doing g w 542 = g 542 := aa_doing_oth (by decide) (by decide)
    have o3 : aa_doing g w 544 = g 544 := aa_doing_oth (by decide) (by decide)
    refine ⟨fun r hr => ⟨aa_pt_of (fun q _ _ _ _ _ => by rw [o1]) (k1 r hr).1, aa_rp_of (by rw [o1]) (fun q _ => by rw [o1]) (k1 r hr).2⟩, ⟨fun k hk hc => ?_, fun k hk hc => ?_⟩, fun b hb hc => ?_⟩
    · rw [o1]
      rw [o2] at hc
      exact k2 k hk hc
    · rw [o1]
      rw [aa_doing_540 (by decide)] at hc
      exact k3 k hk hc
    · rw [aa_doing_540 (by decide)] at hc
      refine aa_nb_of (fun q _ => by rw [o3]) (by rw [aa_doing_11, e11]; omega) (fun i hi => ?_) (k4 b hb hc)
      rw [aa_doing_545, en, aa_w_ne _ _ (by omega)]
  · refine ⟨fun a b => ?_, .inr ⟨(900, 0, 0), List.mem_cons_of_mem _ (List.mem_cons_of_mem _ List.mem_cons_self), rfl⟩⟩
    by_cases ea : a = 540 ∧ b = 11
    · obtain ⟨rfl, rfl⟩ := ea
      exact .inr ⟨_, List.mem_cons_self, rfl, by decide, by decide⟩
    · by_cases eb : a = 545 ∧ b = C
      · obtain ⟨rfl, rfl⟩ := eb
        exact .inr ⟨_, List.mem_cons_of_mem _ List.mem_cons_self, rfl, by show (0 : Int) ≤ (b : Int); omega, by show (b : Int) ≤ 139; omega⟩
      · refine .inl ?_
        unfold aa_doing
        rw [aa_w_ne _ _ ea, en, aa_w_ne _ _ eb]
  · rw [aa_doing_11]
    exact e11
theorem aa_h7 : aa_met aa_Phi aa_m7 := by
  intro ν0 g as h1 h2 h3 h4 h5 h6
  obtain ⟨as, rfl, h7⟩ := aa_this h4
  clear h4
  obtain ⟨w, as, rfl, e1, h8⟩ := aa_ms_int h7
  clear h7
  have hlen : ν0.length = 3 := h1.1
  match ν0, hlen, h1, as, h8, h3, e1 with
  | [a, c, d], _, h1, [], _, h3, e1 =>
    have e1 : (0 : Int) + (1 * a + 0) = w.toInt := Option.some.inj e1
    have rc := aa_vh_at h3 (k := 540) (j := 11) (r := (540, [])) (sl := (11, [])) (f := (0, [(1, 1)])) List.mem_cons_self rfl rfl
    have rd := aa_vh_at h3 (k := 600) (j := 0) (r := (600, [])) (sl := (0, [])) (f := (0, [(2, 1)])) (List.mem_cons_of_mem _ List.mem_cons_self) rfl rfl
    have rc : (0 : Int) + (1 * c + 0) = (g 540 11).toInt := Option.some.inj rc
    have rd : (0 : Int) + (1 * d + 0) = aa_dep g := Option.some.inj rd
    have ba := (h1.2 0 _ a rfl rfl)
    have bc := (h1.2 1 _ c rfl rfl)
    have bd := (h1.2 2 _ d rfl rfl)
    have ba1 : 0 ≤ a := ba.1
    have ba2 : a ≤ 100004 := ba.2.1
    have bc1 : 0 ≤ c := bc.1
    have bc2 : c ≤ 139 := bc.2.1
    have bd1 : 0 ≤ d := bd.1
    have bd2 : d ≤ 43 := bd.2.1
    refine (does_all (w := w) h5 h6 (by omega) (by omega) (C := c.toNat) (by omega) (by omega) (by omega)).mono ?_
    rintro v h ⟨rfl, g', rfl, k1, k2, k3, k4, k5⟩
    refine ⟨g', rfl, k1, k2, k3, _, List.mem_cons_self, [], h1, fun f hf => (by cases hf), ?_, trivial⟩
    intro q hq
    rcases List.mem_cons.mp hq with rfl | hq
    · refine ⟨540, 11, _, rfl, rfl, rfl, ?_⟩
      show (g' 540 11).toInt = (1 : Int) + (1 * c + 0)
      omega
    · rcases List.mem_cons.mp hq with rfl | hq
      · refine ⟨600, 0, _, rfl, rfl, rfl, ?_⟩
        show aa_dep g' = (1 : Int) + (1 * d + 0)
        rw [k5]
        unfold aa_rst
        rw [if_pos (by omega), if_neg (by omega), if_neg (by omega), if_neg (by omega)]
        omega
      · cases hq
theorem aa_h8 : aa_met aa_Phi aa_m8 := by
  intro ν0 g as h1 h2 h3 h4 h5 h6
  obtain ⟨as, rfl, h7⟩ := aa_this h4
  clear h4
  obtain ⟨w, as, rfl, e1, h8⟩ := aa_ms_int h7
  clear h7
  have hlen : ν0.length = 3 := h1.1
  match ν0, hlen, h1, as, h8, h3, e1 with
  | [a, c, d], _, h1, [], _, h3, e1 =>
    have e1 : (0 : Int) + (1 * a + 0) = w.toInt := Option.some.inj e1
    have rc := aa_vh_at h3 (k := 540) (j := 11) (r := (540, [])) (sl := (11, [])) (f := (0, [(1, 1)])) List.mem_cons_self rfl rfl
    have rd := aa_vh_at h3 (k := 600) (j := 0) (r := (600, [])) (sl := (0, [])) (f := (0, [(2, 1)])) (List.mem_cons_of_mem _ List.mem_cons_self) rfl rfl
    have rc : (0 : Int) + (1 * c + 0) = (g 540 11).toInt := Option.some.inj rc
    have rd : (0 : Int) + (1 * d + 0) = aa_dep g := Option.some.inj rd
    have ba := (h1.2 0 _ a rfl rfl)
    have bc := (h1.2 1 _ c rfl rfl)
    have bd := (h1.2 2 _ d rfl rfl)
    have ba1 : 200000 ≤ a := ba.1
    have ba2 : a ≤ 200255 := ba.2.1
    have bc1 : 0 ≤ c := bc.1
    have bc2 : c ≤ 139 := bc.2.1
    have bd1 : 2 ≤ d := bd.1
    have bd2 : d ≤ 44 := bd.2.1
    refine (does_all (w := w) h5 h6 (by omega) (by omega) (C := c.toNat) (by omega) (by omega) (by omega)).mono ?_
    rintro v h ⟨rfl, g', rfl, k1, k2, k3, k4, k5⟩
    refine ⟨g', rfl, k1, k2, k3, _, List.mem_cons_self, [], h1, fun f hf => (by cases hf), ?_, trivial⟩
    intro q hq
    rcases List.mem_cons.mp hq with rfl | hq
    · refine ⟨540, 11, _, rfl, rfl, rfl, ?_⟩
      show (g' 540 11).toInt = (1 : Int) + (1 * c + 0)
      omega
    · rcases List.mem_cons.mp hq with rfl | hq
      · refine ⟨600, 0, _, rfl, rfl, rfl, ?_⟩
        show aa_dep g' = (-1 : Int) + (1 * d + 0)
        rw [k5]
        unfold aa_rst
        rw [if_neg (by omega), if_neg (by omega)]
        omega
      · cases hq
