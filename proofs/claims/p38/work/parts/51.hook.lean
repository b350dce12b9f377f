/-! WHAT ELSE MAY BE WRITTEN: points behind those that count, a count, a bell that is being read -/
def aa_tn (sl : aa_F) : aa_F := ((sl.1 - 4) / 50, (sl.2.filter fun q => decide (q.2 % 50 = 0)).map fun q => (q.1, q.2 / 50))
def aa_hkg (s : aa_S) (p : aa_F) : Bool := (match aa_lk (aa_c 541) (aa_plus p 3) s.2.1 with
  | some f => decide (0 ≤ aa_lo s.1.1 s.1.2 f)
  | none => false) || (match aa_lk (aa_c 541) (aa_plus p 1) s.2.1, aa_lk (aa_c 541) (aa_plus p 2) s.2.1 with
  | some dn, some dk => decide (0 ≤ aa_lo s.1.1 s.1.2 dn) && decide (1 ≤ aa_lo s.1.1 s.1.2 (aa_add dk dn (-1)))
  | _, _ => false)
def aa_hk36 (s : aa_S) (sl f : aa_F) : Bool :=
  aa_wf s.1.1.length (aa_tn sl) && (decide (0 ≤ aa_lo s.1.1 s.1.2 (aa_tn sl)) && (decide (aa_hi s.1.1 s.1.2 (aa_tn sl) ≤ 3) &&
    (if aa_eqf (aa_plus (aa_add sl (aa_scale (aa_tn sl) 50) (-1)) (-5)) (aa_c (-1)) = true then
        (decide (aa_hi s.1.1 s.1.2 f ≤ 0) || (match aa_lk (aa_c 541) (aa_plus (aa_scale (aa_tn sl) 50) 4) s.2.1 with
          | none => false
          | some c => decide (0 ≤ aa_lo s.1.1 s.1.2 (aa_add c f (-1))) || (aa_eqf (aa_add f c (-1)) (aa_c 1) && aa_hkg s (aa_add (aa_plus (aa_scale (aa_tn sl) 50) 5) c 4))))
      else (match aa_lk (aa_c 541) (aa_plus (aa_scale (aa_tn sl) 50) 4) s.2.1 with
        | none => false
        | some c => decide (0 ≤ aa_lo s.1.1 s.1.2 (aa_add (aa_plus (aa_add sl (aa_scale (aa_tn sl) 50) (-1)) (-5)) c (-4))) && (decide (0 ≤ aa_lo s.1.1 s.1.2 c) && decide (aa_hi s.1.1 s.1.2 (aa_plus (aa_add sl (aa_scale (aa_tn sl) 50) (-1)) (-5)) ≤ 47))))))
def aa_hk39 (s : aa_S) (sl : aa_F) : Bool := match aa_lk (aa_c 540) (aa_c 10) s.2.1 with
  | some nb => decide (0 ≤ aa_lo s.1.1 s.1.2 (aa_add sl nb (-7)))
  | none => false
def aa_hkin (s : aa_S) (nb : aa_F) (q lo hi : Int) : Bool := match aa_lk (aa_c 544) (aa_plus (aa_scale nb 7) q) s.2.1 with
  | some f => decide (lo ≤ aa_lo s.1.1 s.1.2 f) && decide (aa_hi s.1.1 s.1.2 f ≤ hi)
  | none => false
def aa_hk10 (s : aa_S) (f : aa_F) : Bool := decide (aa_hi s.1.1 s.1.2 f ≤ 0) || (match aa_lk (aa_c 540) (aa_c 10) s.2.1, aa_lk (aa_c 540) (aa_c 11) s.2.1 with
  | some nb, some cc => aa_eqf (aa_add f nb (-1)) (aa_c 1) && (decide (0 ≤ aa_lo s.1.1 s.1.2 nb) && (aa_hkin s nb 0 0 1 && (aa_hkin s nb 1 0 11 && (aa_hkin s nb 2 0 3599 && (aa_hkin s nb 3 0 24 && (aa_hkin s nb 4 0 40 &&
      (match aa_lk (aa_c 544) (aa_plus (aa_scale nb 7) 5) s.2.1, aa_lk (aa_c 544) (aa_plus (aa_scale nb 7) 6) s.2.1 with
        | some a, some e => aa_eqf e cc && (decide (0 ≤ aa_lo s.1.1 s.1.2 a) && (aa_eqf a cc || (decide (0 ≤ aa_lo s.1.1 s.1.2 (aa_add cc a (-1))) && (match aa_lk (aa_c 600) (aa_c 0) s.2.1 with
          | some d => decide (0 ≤ aa_lo s.1.1 s.1.2 d)
          | none => false))))
        | _, _ => false)))))))
  | _, _ => false)
def aa_hk11 (s : aa_S) : Bool := match aa_lk (aa_c 540) (aa_c 10) s.2.1 with
  | some nb => decide (aa_hi s.1.1 s.1.2 nb ≤ 0)
  | none => false
def aa_hook : aa_Hk := fun s r sl f =>
  let gr := aa_gp s.1.1 r
  if Nat.beq gr 36 = true then aa_hk36 s sl f else if Nat.beq gr 39 = true then aa_hk39 s sl else if Nat.beq gr 35 = true then (if aa_eqf sl (aa_c 10) = true then aa_hk10 s f else if aa_eqf sl (aa_c 11) = true then aa_hk11 s else false) else false
theorem aa_only {k : Nat} : (aa_gc k = 35 → k = 540) ∧ (aa_gc k = 36 → k = 541) := by
  have h2 : (List.range 554).all (fun k => (!(Nat.beq (aa_gc k) 35) || Nat.beq k 540) && (!(Nat.beq (aa_gc k) 36) || Nat.beq k 541)) = true := by decide +kernel
  constructor
  · intro h
    have h1 := (aa_fit_at (k := k) (by rw [h]; exact Nat.succ_ne_zero _)).1
    have h3 := List.all_eq_true.mp h2 k (List.mem_range.mpr (Nat.lt_succ_of_le h1))
    rw [h, Bool.and_eq_true] at h3
    exact Nat.eq_of_beq_eq_true h3.1
  · intro h
    have h1 := (aa_fit_at (k := k) (by rw [h]; exact Nat.succ_ne_zero _)).1
    have h3 := List.all_eq_true.mp h2 k (List.mem_range.mpr (Nat.lt_succ_of_le h1))
    rw [h, Bool.and_eq_true] at h3
    exact Nat.eq_of_beq_eq_true h3.2
/-- what a known cell holds -/
theorem aa_known {s : aa_S} {ν : List Int} {g : aa_G} (h : aa_vh s.2.1 ν g) {k : Int} {sl f : aa_F} (hl : aa_lk (aa_c k) sl s.2.1 = some f) {y : Int} (hy : aa_ev ν sl = some y) (hk : aa_gc k.toNat ≠ 0) : 0 ≤ y ∧ aa_ev ν f = some (g k.toNat y.toNat).toInt := by
  obtain ⟨a, b, x, e1, e2, e3, e4⟩ := h _ (aa_lk_ok hl)
  have e1 : aa_ev ν (aa_c k) = some (a : Int) := e1
  have e2 : aa_ev ν sl = some (b : Int) := e2
  have e3 : aa_ev ν f = some x := e3
  rw [aa_c_ev] at e1
  rw [hy] at e2
  have h1 := Option.some.inj e1
  have h2 := Option.some.inj e2
  have ha : k.toNat = a := by omega
  have hb : y.toNat = b := by omega
  rw [ha] at hk ⊢
  rw [hb, e3, ← e4, aa_rd_of hk]
  exact ⟨by omega, rfl⟩
theorem aa_Phi36 {g : aa_G} (h : aa_Phi g) {j : Nat} {v : Int32} (hj : j < 203) (hj2 : 3 ≤ j) (hp : aa_pt (zz_w g 541 j v) 0) : aa_Phi (zz_w g 541 j v) := by
  obtain ⟨k1, ⟨k2, k3⟩, k4⟩ := h
  have far : ∀ q, q ≠ j → zz_w g 541 j v 541 q = g 541 q := fun q hq => aa_w_ne _ _ fun e => hq e.2
  have oth : ∀ k, k ≠ 541 → zz_w g 541 j v k = g k := fun k hk => zz_w_other _ _ _ hk
  refine ⟨fun r hr => ⟨?_, ?_⟩, ⟨fun k hk hc => ?_, fun k hk hc => ?_⟩, fun b hb hc => ?_⟩
  · by_cases h0 : r = 0
    · subst h0
      exact hp
    · exact aa_pt_of (fun q _ _ _ _ _ => far _ (by omega)) (k1 r hr).1
  · by_cases h0 : r = 0
    · subst h0
      exact aa_rp_of (far _ (by omega)) (fun q q1 => far _ (by omega)) (k1 0 hr).2
    · exact aa_rp_of (far _ (by omega)) (fun q q1 => far _ (by omega)) (k1 r hr).2
  · rw [far _ (by omega)]
    rw [oth 542 (by decide)] at hc
    exact k2 k hk hc
  · rw [far _ (by omega)]
    rw [oth 540 (by decide)] at hc
    exact k3 k hk hc
  · rw [oth 540 (by decide)] at hc
    exact aa_nb_of (fun q _ => by rw [oth 544 (by decide)]) (by rw [oth 540 (by decide)]; exact Int.le_refl _) (fun i _ => by rw [oth 545 (by decide)]) (k4 b hb hc)
theorem aa_hk36_ok {s : aa_S} {ν : List Int} {g : aa_G} {sl f : aa_F} {j : Nat} {v : Int32} (hb : aa_vb s.1.1 ν) (hc : aa_vc s.1.2 ν) (hh : aa_vh s.2.1 ν g) (hφ : aa_Phi g) (hs : aa_ev ν sl = some (j : Int)) (hf : aa_ev ν f = some v.toInt) (h : aa_hk36 s sl f = true) : aa_Phi (zz_w g 541 j v) := by
  unfold aa_hk36 at h
  simp only [Bool.and_eq_true, decide_eq_true_eq] at h
  obtain ⟨h1, h2, h3, h4⟩ := h
  rw [← hb.1] at h1
  obtain ⟨y, hy⟩ := aa_wf_ok h1
  have y1 := aa_lo_ok hb hc hy
  have y2 := aa_hi_ok hb hc hy
  have hr := aa_plus_ev (n := -5) (aa_add_ev (k := -1) hs (aa_scale_ev (k := 50) hy))
  have hcs := aa_plus_ev (n := 4) (aa_scale_ev (k := 50) hy)
  have hp0 := (hφ.1 0 (by omega)).1
  have far : ∀ q, q ≠ j → zz_w g 541 j v 541 q = g 541 q := fun q hq => aa_w_ne _ _ fun e => hq e.2
  obtain ⟨t, rfl⟩ : ∃ t : Nat, y = (t : Int) := ⟨y.toNat, by omega⟩
  have ht : t < 4 := by omega
  split at h4
  · rename_i hz
    have hz := aa_eqf_ok hz
    rw [hz, aa_c_ev] at hr
    have hj : j = 50 * t + 4 := by
      have := Option.some.inj hr
      omega
    have cell : ∀ {c : aa_F}, aa_lk (aa_c 541) (aa_plus (aa_scale (aa_tn sl) 50) 4) s.2.1 = some c → aa_ev ν c = some (g 541 (50 * t + 4)).toInt := fun hl => by
      have := (aa_known hh hl hcs (by exact Nat.succ_ne_zero _)).2
      rwa [show (50 * (t : Int) + 4).toNat = 50 * t + 4 by omega] at this
    -- a count that is not above what was good
    have key : (∀ i : Nat, i < 12 → (i : Int) < v.toInt → aa_gd g (50 * t + 4 * i + 5)) → aa_Phi (zz_w g 541 j v) := fun hgood => by
      refine aa_Phi36 hφ (by omega) (by omega) fun t' i ht' hi' hcnt => ?_
      have e2 := far (399 * 0 + 50 * t' + 4 * i + 5 + 3) (by omega)
      have e3 := far (399 * 0 + 50 * t' + 4 * i + 5 + 1) (by omega)
      have e4 := far (399 * 0 + 50 * t' + 4 * i + 5 + 2) (by omega)
      unfold aa_gd
      rw [e2, e3, e4]
      by_cases htt : t' = t
      · subst htt
        rw [show 399 * 0 + 50 * t' + 4 = j by omega, aa_w_at] at hcnt
        have := hgood i hi' hcnt
        unfold aa_gd at this
        rwa [show 50 * t' + 4 * i + 5 = 399 * 0 + 50 * t' + 4 * i + 5 by omega] at this
      · rw [far _ (by omega)] at hcnt
        exact hp0 t' i ht' hi' hcnt
    have old : ∀ i : Nat, i < 12 → (i : Int) < (g 541 (50 * t + 4)).toInt → aa_gd g (50 * t + 4 * i + 5) := fun i hi hi2 => by
      have := hp0 t i ht hi (by rw [show 399 * 0 + 50 * t + 4 = 50 * t + 4 by omega]; exact hi2)
      rwa [show 399 * 0 + 50 * t + 4 * i + 5 = 50 * t + 4 * i + 5 by omega] at this
    rw [Bool.or_eq_true] at h4
    rcases h4 with h4 | h4
    · have h4 := of_decide_eq_true h4
      have := aa_hi_ok hb hc hf
      exact key fun i _ hi => by omega
    · split at h4
      · cases h4
      · rename_i c hl
        have hcv := cell hl
        rw [Bool.or_eq_true] at h4
        rcases h4 with h4 | h4
        · have h4 := of_decide_eq_true h4
          have := aa_lo_ok hb hc (aa_add_ev (k := -1) hcv hf)
          exact key fun i hi hi2 => old i hi (by omega)
        · rw [Bool.and_eq_true] at h4
          have hz2 := aa_eqf_ok h4.1
          have e5 := aa_add_ev (k := -1) hf hcv
          rw [hz2, aa_c_ev] at e5
          have hv : v.toInt = (g 541 (50 * t + 4)).toInt + 1 := by
            have := Option.some.inj e5
            omega
          refine key fun i hi hi2 => ?_
          by_cases hic : (i : Int) < (g 541 (50 * t + 4)).toInt
          · exact old i hi hic
          · have hie : (g 541 (50 * t + 4)).toInt = (i : Int) := by omega
            rw [hie] at hcv
            have hp := aa_add_ev (k := 4) (aa_plus_ev (n := 5) (aa_scale_ev (k := 50) hy)) hcv
            have rd : ∀ (m : Nat) {f' : aa_F}, aa_lk (aa_c 541) (aa_plus (aa_add (aa_plus (aa_scale (aa_tn sl) 50) 5) c 4) m) s.2.1 = some f' → aa_ev ν f' = some (g 541 (50 * t + 4 * i + 5 + m)).toInt := fun m f' hl' => by
              have := (aa_known hh hl' (aa_plus_ev (n := (m : Int)) hp) (by exact Nat.succ_ne_zero _)).2
              rwa [show (50 * (t : Int) + 5 + 4 * (i : Int) + (m : Int)).toNat = 50 * t + 4 * i + 5 + m by omega] at this
            have hg := h4.2
            unfold aa_hkg at hg
            rw [Bool.or_eq_true] at hg
            unfold aa_gd
            rcases hg with hg | hg
            · split at hg
              · rename_i f' hl'
                have b1 := aa_lo_ok hb hc (rd 3 hl')
                have b2 := of_decide_eq_true hg
                intro hm
                omega
              · cases hg
            · split at hg
              · rename_i dn dk hdn hdk
                rw [Bool.and_eq_true, decide_eq_true_eq, decide_eq_true_eq] at hg
                have b1 := aa_lo_ok hb hc (rd 1 hdn)
                have b2 := aa_lo_ok hb hc (aa_add_ev (k := -1) (rd 2 hdk) (rd 1 hdn))
                intro _
                omega
              · cases hg
  · split at h4
    · cases h4
    · rename_i c hl
      simp only [Bool.and_eq_true, decide_eq_true_eq] at h4
      obtain ⟨h5, h6, h7⟩ := h4
      have hcv := (aa_known hh hl hcs (by exact Nat.succ_ne_zero _)).2
      rw [show (50 * (t : Int) + 4).toNat = 50 * t + 4 by omega] at hcv
      have hcv : aa_ev ν c = some (g 541 (50 * t + 4)).toInt := hcv
      have b1 := aa_lo_ok hb hc hcv
      have b2 := aa_lo_ok hb hc (aa_add_ev (k := -4) hr hcv)
      have b3 := aa_hi_ok hb hc hr
      refine aa_Phi36 hφ (by omega) (by omega) fun t' i ht' hi' hcnt => ?_
      have e1 := far (399 * 0 + 50 * t' + 4) (by omega)
      rw [e1] at hcnt
      have hi2 : t' = t → (i : Int) < (g 541 (50 * t + 4)).toInt := fun e => by
        subst e
        rwa [show 399 * 0 + 50 * t' + 4 = 50 * t' + 4 by omega] at hcnt
      have e2 := far (399 * 0 + 50 * t' + 4 * i + 5 + 3) (by omega)
      have e3 := far (399 * 0 + 50 * t' + 4 * i + 5 + 1) (by omega)
      have e4 := far (399 * 0 + 50 * t' + 4 * i + 5 + 2) (by omega)
      unfold aa_gd
      rw [e2, e3, e4]
      exact hp0 t' i ht' hi' hcnt
theorem aa_hk39_ok {s : aa_S} {ν : List Int} {g : aa_G} {sl : aa_F} {j : Nat} {v : Int32} (hb : aa_vb s.1.1 ν) (hc : aa_vc s.1.2 ν) (hh : aa_vh s.2.1 ν g) (hφ : aa_Phi g) (hs : aa_ev ν sl = some (j : Int)) (h : aa_hk39 s sl = true) : aa_Phi (zz_w g 544 j v) := by
  unfold aa_hk39 at h
  split at h
  · rename_i nb hl
    have h := of_decide_eq_true h
    have hn := (aa_known hh hl aa_c_ev (by exact Nat.succ_ne_zero _)).2
    have hn : aa_ev ν nb = some (g 540 10).toInt := hn
    have b1 := aa_lo_ok hb hc (aa_add_ev (k := -7) hs hn)
    obtain ⟨k1, ⟨k2, k3⟩, k4⟩ := hφ
    have oth : ∀ k, k ≠ 544 → zz_w g 544 j v k = g k := fun k hk => zz_w_other _ _ _ hk
    have o1 := oth 541 (by decide)
    have o2 := oth 542 (by decide)
    have o3 := oth 540 (by decide)
    have o4 := oth 545 (by decide)
    refine ⟨fun r hr => ⟨aa_pt_of (fun q _ _ _ _ _ => by rw [o1]) (k1 r hr).1, aa_rp_of (by rw [o1]) (fun q _ => by rw [o1]) (k1 r hr).2⟩, ⟨fun k hk hc => ?_, fun k hk hc => ?_⟩, fun b hb hc => ?_⟩
    · rw [o1]
      rw [o2] at hc
      exact k2 k hk hc
    · rw [o1]
      rw [o3] at hc
      exact k3 k hk hc
    · rw [o3] at hc
      exact aa_nb_of (fun q hq => aa_w_ne _ _ fun e => by have := e.2; omega) (by rw [o3]; exact Int.le_refl _) (fun i _ => by rw [o4]) (k4 b hb hc)
  · cases h
/-- only the model's own numbers change -/
theorem aa_Phi35 {g : aa_G} (h : aa_Phi g) {j : Nat} {v : Int32} (hj : j ≠ 1) (hn : aa_nw (zz_w g 540 j v)) : aa_Phi (zz_w g 540 j v) := by
  obtain ⟨k1, ⟨k2, k3⟩, k4⟩ := h
  have oth : ∀ k, k ≠ 540 → zz_w g 540 j v k = g k := fun k hk => zz_w_other _ _ _ hk
  have o1 := oth 541 (by decide)
  have o2 := oth 542 (by decide)
  refine ⟨fun r hr => ⟨aa_pt_of (fun q _ _ _ _ _ => by rw [o1]) (k1 r hr).1, aa_rp_of (by rw [o1]) (fun q _ => by rw [o1]) (k1 r hr).2⟩, ⟨fun k hk hc => ?_, fun k hk hc => ?_⟩, hn⟩
  · rw [o1]
    rw [o2] at hc
    exact k2 k hk hc
  · rw [o1]
    rw [aa_w_ne _ _ fun e => hj e.2.symm] at hc
    exact k3 k hk hc
theorem aa_hk11_ok {s : aa_S} {ν : List Int} {g : aa_G} {v : Int32} (hb : aa_vb s.1.1 ν) (hc : aa_vc s.1.2 ν) (hh : aa_vh s.2.1 ν g) (hφ : aa_Phi g) (h : aa_hk11 s = true) : aa_Phi (zz_w g 540 11 v) := by
  unfold aa_hk11 at h
  split at h
  · rename_i nb hl
    have h := of_decide_eq_true h
    have hn := (aa_known hh hl aa_c_ev (by exact Nat.succ_ne_zero _)).2
    have hn : aa_ev ν nb = some (g 540 10).toInt := hn
    have b1 := aa_hi_ok hb hc hn
    refine aa_Phi35 hφ (by decide) fun b _ hcnt => ?_
    rw [aa_w_ne _ _ (fun e => by have := e.2; omega)] at hcnt
    omega
  · cases h
theorem aa_hk10_ok {s : aa_S} {ν : List Int} {g : aa_G} {f : aa_F} {v : Int32} (hb : aa_vb s.1.1 ν) (hc : aa_vc s.1.2 ν) (hh : aa_vh s.2.1 ν g) (hφ : aa_Phi g) (hf : aa_ev ν f = some v.toInt) (h : aa_hk10 s f = true) : aa_Phi (zz_w g 540 10 v) := by
  unfold aa_hk10 at h
  rw [Bool.or_eq_true] at h
  rcases h with h | h
  · have h := of_decide_eq_true h
    have b1 := aa_hi_ok hb hc hf
    refine aa_Phi35 hφ (by decide) fun b _ hcnt => ?_
    rw [aa_w_at] at hcnt
    omega
  · split at h
    · rename_i nb cc hnb hcc
      simp only [Bool.and_eq_true, decide_eq_true_eq] at h
      obtain ⟨h1, h2, h3, h4, h5, h6, h7, h8⟩ := h
      have hn := (aa_known hh hnb aa_c_ev (by exact Nat.succ_ne_zero _)).2
      have hn : aa_ev ν nb = some (g 540 10).toInt := hn
      have hm := (aa_known hh hcc aa_c_ev (by exact Nat.succ_ne_zero _)).2
      have hm : aa_ev ν cc = some (g 540 11).toInt := hm
      have n0 := aa_lo_ok hb hc hn
      have hz := aa_eqf_ok h1
      have e5 := aa_add_ev (k := -1) hf hn
      rw [hz, aa_c_ev] at e5
      have e5 := Option.some.inj e5
      obtain ⟨n, hnn⟩ : ∃ n : Nat, (g 540 10).toInt = (n : Int) := ⟨(g 540 10).toInt.toNat, by omega⟩
      have rd : ∀ (q : Nat) {f' : aa_F}, aa_lk (aa_c 544) (aa_plus (aa_scale nb 7) q) s.2.1 = some f' → aa_ev ν f' = some (g 544 (7 * n + q)).toInt := fun q f' hl => by
        have := (aa_known hh hl (aa_plus_ev (n := (q : Int)) (aa_scale_ev (k := 7) hn)) (by exact Nat.succ_ne_zero _)).2
        rw [hnn] at this
        rwa [show (7 * (n : Int) + (q : Int)).toNat = 7 * n + q by omega] at this
      have inn : ∀ (q : Nat) (lo hi : Int), aa_hkin s nb q lo hi = true → lo ≤ (g 544 (7 * n + q)).toInt ∧ (g 544 (7 * n + q)).toInt ≤ hi := fun q lo hi hq => by
        unfold aa_hkin at hq
        split at hq
        · rename_i f' hl
          rw [Bool.and_eq_true, decide_eq_true_eq, decide_eq_true_eq] at hq
          have c1 := aa_lo_ok hb hc (rd q hl)
          have c2 := aa_hi_ok hb hc (rd q hl)
          omega
        · cases hq
      refine aa_Phi35 hφ (by decide) fun b hb' hcnt => ?_
      rw [aa_w_at] at hcnt
      have keep : ∀ {b}, aa_nb g b → aa_nb (zz_w g 540 10 v) b := fun k => aa_nb_of (fun q _ => by rw [zz_w_other _ _ _ (by decide)]) (by rw [aa_w_ne _ _ (fun e => by have := e.2; omega)]; exact Int.le_refl _) (fun i _ => by rw [zz_w_other _ _ _ (by decide)]) k
      by_cases hbn : b = n
      · subst hbn
        refine keep ⟨inn 0 0 1 h3, inn 1 0 11 h4, inn 2 0 3599 h5, inn 3 0 24 h6, inn 4 0 40 h7, ?_⟩
        split at h8
        · rename_i a e ha he
          simp only [Bool.and_eq_true, Bool.or_eq_true, decide_eq_true_eq] at h8
          obtain ⟨z1, z2, z3⟩ := h8
          have z1 := aa_eqf_ok z1
          subst z1
          have ra := rd 5 ha
          have re := rd 6 he
          rw [hm] at re
          have re := Option.some.inj re
          have a0 := aa_lo_ok hb hc ra
          rcases z3 with z3 | ⟨z3, z4⟩
          · have z3 := aa_eqf_ok z3
            subst z3
            rw [hm] at ra
            have ra := Option.some.inj ra
            refine ⟨by omega, by omega, by omega, ?_⟩
            rw [← re, ← ra, Nat.sub_self]
            exact Int.le_refl 0
          · have b3 := aa_lo_ok hb hc (aa_add_ev (k := -1) hm ra)
            refine ⟨by omega, by omega, by omega, ?_⟩
            split at z4
            · rename_i d hd
              have z4 := of_decide_eq_true z4
              obtain ⟨a1, b1, x, e1, e2, e3, e4⟩ := hh _ (aa_lk_ok hd)
              have e1 : aa_ev ν (aa_c 600) = some (a1 : Int) := e1
              have e3 : aa_ev ν d = some x := e3
              rw [aa_c_ev] at e1
              have ha1 : a1 = 600 := by have := Option.some.inj e1; omega
              subst ha1
              have e4 : aa_dep g = x := e4
              have c1 := aa_lo_ok hb hc e3
              have hbeg : aa_beg g = (g 544 (7 * b + 5)).toInt.toNat := by
                unfold aa_beg
                rw [hnn]
                rfl
              unfold aa_dep at e4
              rw [hbeg] at e4
              split at e4
              · omega
              · rw [← re, e4]
                omega
            · cases z4
        · cases h8
      · exact keep (hφ.2.2 b hb' (by omega))
    · cases h
theorem aa_model_good : aa_good aa_Phi aa_mfree aa_hook := by
  refine ⟨fun g g' h hf => aa_Phi_same (aa_same_fr hf) h, ?_⟩
  intro s ν g lv st r sl f k j v h hi hφ hr hs hf hg hk
  unfold aa_hook at hk
  dsimp only at hk
  rw [← hg] at hk
  split at hk
  · rename_i h36
    have e := aa_only.2 (Nat.eq_of_beq_eq_true h36)
    subst e
    exact aa_hk36_ok h.1 h.2.1 h.2.2.1 hφ hs hf hk
  · split at hk
    · rename_i h39
      have e := aa_gc39 (Nat.eq_of_beq_eq_true h39)
      subst e
      exact aa_hk39_ok h.1 h.2.1 h.2.2.1 hφ hs hk
    · split at hk
      · rename_i h35
        have e := aa_only.1 (Nat.eq_of_beq_eq_true h35)
        subst e
        split at hk
        · rename_i hz
          have hz := aa_eqf_ok hz
          rw [hz, aa_c_ev] at hs
          have e : j = 10 := by have := Option.some.inj hs; omega
          subst e
          exact aa_hk10_ok h.1 h.2.1 h.2.2.1 hφ hf hk
        · split at hk
          · rename_i hz
            have hz := aa_eqf_ok hz
            rw [hz, aa_c_ev] at hs
            have e : j = 11 := by have := Option.some.inj hs; omega
            subst e
            exact aa_hk11_ok h.1 h.2.1 h.2.2.1 hφ hk
          · cases hk
      · cases hk
