section
/-! AN ANALYSER OF METHODS: contracts, calls, ends -/
/-- ((method, how many names at its start, places that it may write), start, ends, places in its loops with what falls there) -/
abbrev aa_K : Type := (Nat × Nat × aa_W) × ((aa_T × aa_Wh) × (List (aa_T × aa_Wh) × List (Nat × (aa_T × aa_Wh) × aa_F)))
def aa_mr (ν : List Int) : List aa_A → Option Value → Prop
  | [], none => True
  | [a], some w => a.1 ≠ 0 ∧ aa_mv ν a (some w)
  | _, _ => False
/-- one of the ends of a contract holds -/
def aa_end (K : aa_K) (ν0 : List Int) (g : aa_G) (v : Option Value) : Prop := ∃ A ∈ K.2.2.1, ∃ ρ, aa_vb A.1.1.1 (ν0 ++ ρ) ∧ aa_vc A.1.1.2 (ν0 ++ ρ) ∧ aa_vh A.1.2.1 (ν0 ++ ρ) g ∧ aa_mr (ν0 ++ ρ) A.1.2.2 v
def aa_post (Φ : aa_G → Prop) (K : aa_K) (ν0 : List Int) (g0 : aa_G) (v : Option Value) (h : zz_H) : Prop := ∃ g, h = aa_H g ∧ aa_inv g ∧ Φ g ∧ aa_fr K.1.2.2 g0 g ∧ aa_end K ν0 g v
/-- a method keeps its contract -/
def aa_met (Φ : aa_G → Prop) (K : aa_K) : Prop := ∀ (ν0 : List Int) (g : aa_G) (as : List Value), aa_vb K.2.1.1.1.1 ν0 → aa_vc K.2.1.1.1.2 ν0 → aa_vh K.2.1.1.2.1 ν0 g → aa_ms ν0 K.2.1.1.2.2 as → aa_inv g → Φ g → zz_fin none K.1.1 (0, zz_in as (zz_nl K.1.1), [], aa_H g) (aa_post Φ K ν0 g)
/-- the cells that a call's start speaks of are read -/
def aa_lds (s : aa_S) (σ : List aa_F) : aa_C → Option (aa_S × List aa_F)
  | [] => some (s, σ)
  | q :: r => match aa_sub σ q.1.1, aa_sub σ q.1.2 with
    | some a, some b => if aa_wf s.1.1.length a = true ∧ aa_wf s.1.1.length b = true ∧ 0 ≤ aa_lo s.1.1 s.1.2 a ∧ 0 ≤ aa_lo s.1.1 s.1.2 b then (match aa_ld s a b with
      | some (f, s') => aa_lds s' (if aa_eqf q.2 (aa_id σ.length) = true then σ ++ [f] else σ) r
      | none => none) else none
    | _, _ => none
theorem aa_lds_ok {g : aa_G} {lv : zz_V} {st : List Value} (hi : aa_inv g) : ∀ {cs : aa_C} {s s' : aa_S} {σ σ' : List aa_F} {ν : List Int}, aa_ok s ν g lv st → aa_lds s σ cs = some (s', σ') → s'.2.2 = s.2.2 ∧ ∃ ρ, aa_ok s' (ν ++ ρ) g lv st
  | [], s, s', σ, σ', ν, h, e => by
    cases e
    exact ⟨rfl, [], by rw [List.append_nil]; exact h⟩
  | q :: r, s, s', σ, σ', ν, h, e => by
    rw [aa_lds] at e
    split at e
    · rename_i a b ha hb
      split at e
      · rename_i hc
        obtain ⟨c1, c2, c3, c4⟩ := hc
        rw [← h.1.1] at c1 c2
        obtain ⟨x, hx⟩ := aa_wf_ok c1
        obtain ⟨y, hy⟩ := aa_wf_ok c2
        have b1 := aa_lo_ok h.1 h.2.1 hx
        have b2 := aa_lo_ok h.1 h.2.1 hy
        split at e
        · rename_i f s1 hld
          obtain ⟨k1, ρ, k2, k3⟩ := aa_ld_ok h hi hld (k := x.toNat) (j := y.toNat) (by rw [hx, Int.toNat_of_nonneg (by omega)]) (by rw [hy, Int.toNat_of_nonneg (by omega)])
          obtain ⟨k4, ρ2, k5⟩ := aa_lds_ok hi k2 e
          exact ⟨k4.trans k1, ρ ++ ρ2, by rw [← List.append_assoc]; exact k5⟩
        · cases e
      · cases e
    · cases e
def aa_ass (s : aa_S) (σ : List aa_F) : List aa_F → Option (List aa_S)
  | [] => some [s]
  | f :: r => match aa_sub σ f with
    | none => none
    | some f' => match aa_as s f' with
      | none => some []
      | some s' => aa_ass s' σ r
theorem aa_ass_ok {ν τ : List Int} {σ : List aa_F} {g : aa_G} {lv : zz_V} {st : List Value} (he : aa_evs ν σ τ) : ∀ {cs : List aa_F} {s : aa_S} {l : List aa_S}, aa_ok s ν g lv st → aa_vc cs τ → aa_ass s σ cs = some l → ∃ s' ∈ l, aa_ok s' ν g lv st
  | [], s, l, h, _, e => by
    cases e
    exact ⟨s, List.mem_cons_self, h⟩
  | f :: r, s, l, h, hc, e => by
    rw [aa_ass] at e
    split at e
    · cases e
    · rename_i f' hf'
      obtain ⟨x, e1, e2⟩ := aa_sub_ok he hf'
      obtain ⟨y, e3, e4⟩ := hc f List.mem_cons_self
      rw [e1] at e3
      cases e3
      obtain ⟨s1, e5, h1⟩ := aa_as_ok h e2 e4
      rw [e5] at e
      exact aa_ass_ok he h1 (fun f hf => hc f (List.mem_cons_of_mem _ hf)) e
def aa_chs (σ : List aa_F) : aa_C → aa_C → Option aa_C
  | [], ch => some ch
  | q :: r, ch => match aa_sub σ q.1.1, aa_sub σ q.1.2, aa_sub σ q.2 with
    | some a, some b, some v => aa_chs σ r (if (aa_lk a b ch).isSome = true then ch else ((a, b), v) :: ch)
    | _, _, _ => none
theorem aa_chs_ok {ν τ : List Int} {σ : List aa_F} {g : aa_G} (he : aa_evs ν σ τ) : ∀ {cs ch ch' : aa_C}, aa_vh cs τ g → aa_vh ch ν g → aa_chs σ cs ch = some ch' → aa_vh ch' ν g
  | [], ch, ch', _, h, e => by
    cases e
    exact h
  | q :: r, ch, ch', hc, h, e => by
    rw [aa_chs] at e
    split at e
    · rename_i a b v ha hb hv
      obtain ⟨x1, c1, c2⟩ := aa_sub_ok he ha
      obtain ⟨x2, c3, c4⟩ := aa_sub_ok he hb
      obtain ⟨x3, c5, c6⟩ := aa_sub_ok he hv
      obtain ⟨k, j, x, d1, d2, d3, d4⟩ := hc q List.mem_cons_self
      rw [c1] at d1
      rw [c3] at d2
      rw [c5] at d3
      cases d1
      cases d2
      cases d3
      refine aa_chs_ok he (fun p hp => hc p (List.mem_cons_of_mem _ hp)) ?_ e
      split
      · exact h
      · exact aa_vh_cons h c2 c4 c6 d4
    · cases e
def aa_rets (σ : List aa_F) : List aa_A → Option (List aa_A)
  | [] => some []
  | [a] => if Nat.beq a.1 0 = true then none else (match aa_sub σ a.2 with
    | some f => some [(a.1, f)]
    | none => none)
  | _ => none
theorem aa_rets_ok {ν τ : List Int} {σ : List aa_F} (he : aa_evs ν σ τ) {l l' : List aa_A} {v : Option Value} (h : aa_mr τ l v) (e : aa_rets σ l = some l') {rest : List aa_A} {q : List Value} (hq : aa_ms ν rest q) : aa_ms ν (l' ++ rest) (v.toList ++ q) := by
  match l, v, h with
  | [], none, _ =>
    cases e
    exact hq
  | [a], some w, h =>
    rw [aa_rets] at e
    split at e
    · cases e
    · split at e
      · rename_i f hf
        cases e
        obtain ⟨x, e1, e2⟩ := aa_sub_ok he hf
        refine ⟨⟨h.1, ?_⟩, hq⟩
        obtain ⟨k, f0⟩ := a
        match k, h.2 with
        | 0, _ => trivial
        | 1, hv =>
          obtain ⟨w1, e3, e4⟩ := hv
          have e4 : aa_ev τ f0 = some w1.toInt := e4
          rw [e1] at e4
          cases e4
          exact ⟨w1, e3, e2⟩
        | 2, hv =>
          obtain ⟨w1, e3, e4⟩ := hv
          have e4 : aa_ev τ f0 = some w1.toInt := e4
          rw [e1] at e4
          cases e4
          exact ⟨w1, e3, e2⟩
        | 3, hv =>
          obtain ⟨w1, e3, e4⟩ := hv
          have e4 : aa_ev τ f0 = some (w1 : Int) := e4
          rw [e1] at e4
          cases e4
          exact ⟨w1, e3, e2⟩
        | 4, hv => exact hv
        | k + 5, hv => exact hv.elim
      · cases e
/-- two forms of one cell are one number -/
def aa_eqs (σ : List aa_F) (ch : aa_C) : aa_C → Option (List aa_F)
  | [] => some []
  | q :: r => match aa_sub σ q.1.1, aa_sub σ q.1.2, aa_sub σ q.2, aa_eqs σ ch r with
    | some a, some b, some v, some l => (match aa_lk a b ch with
      | some w => if aa_eqf w v = true then some l else some (aa_add w v (-1) :: l)
      | none => some l)
    | _, _, _, _ => none
theorem aa_eqs_ok {ν τ : List Int} {σ : List aa_F} {g : aa_G} {ch : aa_C} (he : aa_evs ν σ τ) (hh : aa_vh ch ν g) : ∀ {cs : aa_C} {l : List aa_F}, aa_vh cs τ g → aa_eqs σ ch cs = some l → ∀ f ∈ l, aa_ev ν f = some 0
  | [], l, _, e => by
    cases e
    exact fun f hf => by cases hf
  | q :: r, l, hc, e => by
    rw [aa_eqs] at e
    split at e
    · rename_i a b v l1 ha hb hv hl
      have ih := aa_eqs_ok he hh (fun p hp => hc p (List.mem_cons_of_mem _ hp)) hl
      split at e
      · rename_i w hw
        split at e
        · cases e
          exact ih
        · cases e
          intro f hf
          rcases List.mem_cons.mp hf with rfl | hf
          · obtain ⟨x1, c1, c2⟩ := aa_sub_ok he ha
            obtain ⟨x2, c3, c4⟩ := aa_sub_ok he hb
            obtain ⟨x3, c5, c6⟩ := aa_sub_ok he hv
            obtain ⟨k, j, x, d1, d2, d3, d4⟩ := hc q List.mem_cons_self
            rw [c1] at d1
            rw [c3] at d2
            rw [c5] at d3
            cases d1
            cases d2
            cases d3
            obtain ⟨k', j', x', z1, z2, z3, z4⟩ := hh _ (aa_lk_ok hw)
            have z1 : aa_ev ν a = some (k' : Int) := z1
            have z2 : aa_ev ν b = some (j' : Int) := z2
            have z3 : aa_ev ν w = some x' := z3
            rw [c2] at z1
            rw [c4] at z2
            have e1 : k = k' := Int.ofNat.inj (Option.some.inj z1)
            have e2 : j = j' := Int.ofNat.inj (Option.some.inj z2)
            rw [← e1, ← e2, d4] at z4
            rw [aa_add_ev (k := -1) z3 c6, z4]
            congr 1
            omega
          · exact ih f hf
      · cases e
        exact ih
    · cases e
def aa_as2s (s : aa_S) : List aa_F → Option aa_S
  | [] => some s
  | f :: r => match aa_as2 s f with
    | none => none
    | some s' => aa_as2s s' r
theorem aa_as2s_ok {ν : List Int} {g : aa_G} {lv : zz_V} {st : List Value} : ∀ {l : List aa_F} {s : aa_S}, aa_ok s ν g lv st → (∀ f ∈ l, aa_ev ν f = some 0) → ∃ s', aa_as2s s l = some s' ∧ aa_ok s' ν g lv st
  | [], s, h, _ => ⟨s, rfl, h⟩
  | f :: r, s, h, hl => by
    obtain ⟨s1, e1, h1⟩ := aa_as2_ok h (hl f List.mem_cons_self)
    rw [aa_as2s, e1]
    exact aa_as2s_ok h1 fun f hf => hl f (List.mem_cons_of_mem _ hf)
def aa_alt (s : aa_S) (σ : List aa_F) (rest : List aa_A) (A : aa_T) : Option (List aa_S) :=
  let ext := A.1.1.drop σ.length
  let σ1 := σ ++ aa_ids s.1.1.length ext.length
  match aa_chs σ1 A.2.1 s.2.1, aa_rets σ1 A.2.2, aa_eqs σ1 s.2.1 A.2.1 with
  | some ch, some r, some eqs => (match aa_as2s ((s.1.1 ++ ext, s.1.2), (ch, (s.2.2.1, r ++ rest))) eqs with
    | none => some []
    | some s' => aa_ass s' σ1 A.1.2)
  | _, _, _ => none
theorem aa_evs_ids {ν τ ρ : List Int} {σ : List aa_F} (he : aa_evs ν σ τ) : aa_evs (ν ++ ρ) (σ ++ aa_ids ν.length ρ.length) (τ ++ ρ) := by
  have hl : (aa_ids ν.length ρ.length).length = ρ.length := by
    unfold aa_ids
    rw [List.length_map, List.length_range]
  refine ⟨by rw [List.length_append, List.length_append, he.1, hl], fun i f hf => ?_⟩
  by_cases hi : i < σ.length
  · rw [List.getElem?_append_left hi] at hf
    obtain ⟨x, e1, e2⟩ := he.2 i f hf
    exact ⟨x, aa_ev_app e1, by rw [List.getElem?_append_left (by rw [he.1]; exact hi)]; exact e2⟩
  · rw [List.getElem?_append_right (by omega)] at hf
    have hj := (List.getElem?_eq_some_iff.mp hf).1
    rw [hl] at hj
    unfold aa_ids at hf
    rw [List.getElem?_map, List.getElem?_range hj] at hf
    cases hf
    refine ⟨ρ[i - σ.length], aa_id_ev ?_, ?_⟩
    · rw [List.getElem?_append_right (by omega), show ν.length + (i - σ.length) - ν.length = i - σ.length by omega]
      exact List.getElem?_eq_getElem hj
    · rw [List.getElem?_append_right (by rw [he.1]; omega), he.1]
      exact List.getElem?_eq_getElem hj
theorem aa_alt_ok {s : aa_S} {ν τ ρ : List Int} {σ : List aa_F} {g : aa_G} {lv : zz_V} {q : List Value} {v : Option Value} {rest : List aa_A} {A : aa_T} {l : List aa_S} (h : aa_alt s σ rest A = some l) (hb : aa_vb s.1.1 ν) (hc : aa_vc s.1.2 ν) (hh : aa_vh s.2.1 ν g) (hl : aa_ml ν s.2.2.1 lv) (hq : aa_ms ν rest q) (he : aa_evs ν σ τ) (k1 : aa_vb A.1.1 (τ ++ ρ)) (k2 : aa_vc A.1.2 (τ ++ ρ)) (k3 : aa_vh A.2.1 (τ ++ ρ) g) (k4 : aa_mr (τ ++ ρ) A.2.2 v) : ∃ s' ∈ l, aa_ok s' (ν ++ ρ) g lv (v.toList ++ q) := by
  have hlen : (A.1.1.drop σ.length).length = ρ.length := by
    rw [List.length_drop, ← k1.1, List.length_append, he.1]
    omega
  have he2 := aa_evs_ids (ρ := ρ) he
  unfold aa_alt at h
  dsimp only at h
  rw [hlen, ← hb.1] at h
  split at h
  · rename_i ch r eqs hch hr heqs
    have h0 : aa_ok ((s.1.1 ++ A.1.1.drop σ.length, s.1.2), (ch, (s.2.2.1, r ++ rest))) (ν ++ ρ) g lv (v.toList ++ q) := ?_
    · obtain ⟨s', e1, h1⟩ := aa_as2s_ok h0 (aa_eqs_ok he2 (aa_vh_app hh) k3 heqs)
      rw [e1] at h
      exact aa_ass_ok he2 h1 k2 h
    refine ⟨aa_vb_app hb hlen.symm fun i z w hz hw => ?_, aa_vc_app hc, aa_chs_ok he2 k3 (aa_vh_app hh) hch, aa_ml_app hl, aa_rets_ok he2 k4 hr (aa_ms_app hq)⟩
    rw [List.getElem?_drop] at hz
    refine k1.2 (σ.length + i) z w hz ?_
    rw [List.getElem?_append_right (by rw [he.1]; omega), he.1, show σ.length + i - σ.length = i by omega]
    exact hw
  · cases h
def aa_alts (s : aa_S) (σ : List aa_F) (rest : List aa_A) : List (aa_T × aa_Wh) → Option (List aa_S)
  | [] => some []
  | A :: r => match aa_alt s σ rest A.1, aa_alts s σ rest r with
    | some a, some b => some (a ++ b)
    | _, _ => none
theorem aa_alts_ok {s : aa_S} {σ : List aa_F} {rest : List aa_A} {A : aa_T × aa_Wh} : ∀ {r : List (aa_T × aa_Wh)} {l : List aa_S}, aa_alts s σ rest r = some l → A ∈ r → ∃ a, aa_alt s σ rest A.1 = some a ∧ ∀ x ∈ a, x ∈ l
  | B :: r, l, h, hm => by
    rw [aa_alts] at h
    split at h
    · rename_i a b ha hb
      cases h
      rcases List.mem_cons.mp hm with rfl | hm
      · exact ⟨a, ha, fun x hx => List.mem_append.mpr (.inl hx)⟩
      · obtain ⟨c, h1, h2⟩ := aa_alts_ok hb hm
        exact ⟨c, h1, fun x hx => List.mem_append.mpr (.inr (h2 x hx))⟩
    · cases h
/-- a call by one contract -/
def aa_app (ws : aa_W) (s : aa_S) (avs rest : List aa_A) (K : aa_K) : Option (List aa_S) :=
  match aa_lds s (aa_fnd s avs K.2.1.1 K.2.1.2 []) K.2.1.1.2.1 with
  | none => none
  | some (s1, σ) => if (aa_mt s1 avs K.2.1.1 σ && (aa_nz K.2.1.1.2.2 && (K.1.2.2.all (fun w => aa_inw w.1 w.2.1 w.2.2 ws) && (Nat.ble (aa_cat rest) 8 && Nat.ble (aa_cat avs) (zz_nl K.1.1))))) = true then
      aa_alts (s1.1, (s1.2.1.filter (aa_kl s1.1.1 s1.1.2 K.1.2.2), s1.2.2)) σ rest K.2.2.1 else none
theorem aa_fr_sub {ws ws' : aa_W} {g g' : aa_G} (h : aa_fr ws' g g') (hs : ws'.all (fun w => aa_inw w.1 w.2.1 w.2.2 ws) = true) : aa_fr ws g g' := by
  refine ⟨fun k j => ?_, ?_⟩
  · rcases h.1 k j with e | ⟨w, hw, w1, w2, w3⟩
    · exact .inl e
    · obtain ⟨z, hz, z1, z2, z3⟩ := aa_inw_ok (List.all_eq_true.mp hs w hw)
      exact .inr ⟨z, hz, z1.trans w1, by omega, by omega⟩
  · rcases h.2 with e | ⟨w, hw, w1⟩
    · exact .inl e
    · obtain ⟨z, hz, z1, -⟩ := aa_inw_ok (List.all_eq_true.mp hs w hw)
      exact .inr ⟨z, hz, z1.trans w1⟩
theorem aa_zin_len {ν : List Int} : ∀ {l : List aa_A} {q : List Value}, aa_ms ν l q → (q.flatMap fun v => if v.category = 2 then [some v, none] else [some v]).length = aa_cat l
  | [], [], _ => rfl
  | [], _ :: _, h => h.elim
  | _ :: _, [], h => h.elim
  | a :: l, v :: q, h => by
    rw [List.flatMap_cons, List.length_append, aa_zin_len h.2, aa_cat]
    congr 1
    have e := aa_cat1 h.1.1 h.1.2
    cases hb : Nat.beq a.1 2 with
    | true =>
      rw [hb] at e
      rw [if_pos (show v.category = 2 from e)]
      rfl
    | false =>
      rw [hb] at e
      rw [if_neg (by rw [e]; decide)]
      rfl
theorem aa_app_ok {Φ : aa_G → Prop} {ws : aa_W} {s : aa_S} {ν : List Int} {g : aa_G} {lv : zz_V} {st as q : List Value} {avs rest : List aa_A} {K : aa_K} {l : List aa_S} (h : aa_ok s ν g lv st) (hi : aa_inv g) (hφ : Φ g) (ha : aa_ms ν avs as) (hr : aa_ms ν rest q) (hK : aa_met Φ K) (e : aa_app ws s avs rest K = some l) : (q.map fun v => v.category).sum ≤ 8 ∧ (zz_in as 0).length ≤ zz_nl K.1.1 ∧ zz_fin none K.1.1 (0, zz_in as (zz_nl K.1.1), [], aa_H g) (fun v h' => ∃ g', h' = aa_H g' ∧ aa_inv g' ∧ Φ g' ∧ aa_fr ws g g' ∧ ∃ s' ∈ l, ∃ ρ, aa_ok s' (ν ++ ρ) g' lv (v.toList ++ q)) := by
  unfold aa_app at e
  split at e
  · cases e
  · rename_i s1 σ hlds
    obtain ⟨hs2, ρ1, h1⟩ := aa_lds_ok hi h hlds
    split at e
    · rename_i hc
      simp only [Bool.and_eq_true] at hc
      obtain ⟨c1, c2, c3, c4, c5⟩ := hc
      obtain ⟨τ, t1, t2, t3, t4, t5⟩ := aa_mt_ok h1.1 h1.2.1 h1.2.2.1 c1
      refine ⟨by rw [aa_cat_ok hr]; exact Nat.le_of_ble_eq_true c4, ?_, ?_⟩
      · unfold zz_in
        dsimp only
        rw [List.length_append, aa_zin_len ha, List.length_replicate]
        have := Nat.le_of_ble_eq_true c5
        omega
      · refine (hK τ g as t2 t3 t4 (aa_mav_ms t1 t5 c2 (aa_ms_app ha)) hi hφ).mono ?_
        rintro v h' ⟨g', rfl, g1, g2, g3, A, hA, ρ, a1, a2, a3, a4⟩
        refine ⟨g', rfl, g1, g2, aa_fr_sub g3 c3, ?_⟩
        obtain ⟨a, e1, e2⟩ := aa_alts_ok e hA
        obtain ⟨s', hs', k⟩ := aa_alt_ok e1 h1.1 h1.2.1 (aa_kl_ok h1.1 h1.2.1 h1.2.2.1 g3) h1.2.2.2.1 (aa_ms_app hr) t1 a1 a2 a3 a4
        exact ⟨s', e2 s' hs', ρ1 ++ ρ, by rw [← List.append_assoc]; exact k⟩
    · cases e
def aa_try (ws : aa_W) (s : aa_S) (m : Nat) (avs rest : List aa_A) : List aa_K → Option (List aa_S)
  | [] => none
  | K :: r => if Nat.beq K.1.1 m = true then (match aa_app ws s avs rest K with
    | some l => some l
    | none => aa_try ws s m avs rest r) else aa_try ws s m avs rest r
theorem aa_try_ok {ws : aa_W} {s : aa_S} {m : Nat} {avs rest : List aa_A} : ∀ {Ks : List aa_K} {l : List aa_S}, aa_try ws s m avs rest Ks = some l → ∃ K ∈ Ks, K.1.1 = m ∧ aa_app ws s avs rest K = some l
  | K :: r, l, h => by
    rw [aa_try] at h
    split at h
    · rename_i hm
      split at h
      · rename_i l' hl
        cases h
        exact ⟨K, List.mem_cons_self, Nat.eq_of_beq_eq_true hm, hl⟩
      · obtain ⟨K', h1, h2⟩ := aa_try_ok h
        exact ⟨K', List.mem_cons_of_mem _ h1, h2⟩
    · obtain ⟨K', h1, h2⟩ := aa_try_ok h
      exact ⟨K', List.mem_cons_of_mem _ h1, h2⟩
theorem aa_ms_take {ν : List Int} : ∀ {l : List aa_A} {q : List Value} (n : Nat), aa_ms ν l q → aa_ms ν (l.take n) (q.take n)
  | _, _, 0, _ => by rw [List.take_zero, List.take_zero]; trivial
  | [], [], n + 1, h => h
  | [], _ :: _, _, h => h.elim
  | _ :: _, [], _, h => h.elim
  | a :: l, v :: q, n + 1, h => ⟨h.1, aa_ms_take n h.2⟩
theorem aa_ms_drop {ν : List Int} : ∀ {l : List aa_A} {q : List Value} (n : Nat), aa_ms ν l q → aa_ms ν (l.drop n) (q.drop n)
  | _, _, 0, h => h
  | [], [], n + 1, h => h
  | [], _ :: _, _, h => h.elim
  | _ :: _, [], _, h => h.elim
  | a :: l, v :: q, n + 1, h => aa_ms_drop n h.2
theorem aa_ms_len {ν : List Int} : ∀ {l : List aa_A} {q : List Value}, aa_ms ν l q → q.length = l.length
  | [], [], _ => rfl
  | [], _ :: _, h => h.elim
  | _ :: _, [], h => h.elim
  | a :: l, v :: q, h => by rw [List.length_cons, List.length_cons, aa_ms_len h.2]
theorem aa_ms_apd {ν : List Int} : ∀ {l : List aa_A} {q : List Value} {l2 : List aa_A} {q2 : List Value}, aa_ms ν l q → aa_ms ν l2 q2 → aa_ms ν (l ++ l2) (q ++ q2)
  | [], [], _, _, _, h2 => h2
  | [], _ :: _, _, _, h, _ => h.elim
  | _ :: _, [], _, _, h, _ => h.elim
  | a :: l, v :: q, _, _, h, h2 => ⟨h.1, aa_ms_apd h.2 h2⟩
theorem aa_ms_rev {ν : List Int} : ∀ {l : List aa_A} {q : List Value}, aa_ms ν l q → aa_ms ν l.reverse q.reverse
  | [], [], h => h
  | [], _ :: _, h => h.elim
  | _ :: _, [], h => h.elim
  | a :: l, v :: q, h => by
    rw [List.reverse_cons, List.reverse_cons]
    exact aa_ms_apd (aa_ms_rev h.2) ⟨h.1, trivial⟩
end
section
/-! AN ANALYSER OF METHODS: a method walked, from its start and from each place in its loops -/
/-- where a call goes, and with what -/
def aa_calls (Ks : List aa_K) (ws : aa_W) (pc : Nat) (s : aa_S) (m n : Nat) : aa_Q :=
  if n ≤ s.2.2.2.length then (match aa_try ws s m (s.2.2.2.take n).reverse (s.2.2.2.drop n) Ks with
    | some l => some (l.map fun t => (pc, t))
    | none => none) else none
def aa_callv (Ks : List aa_K) (ws : aa_W) (pc : Nat) (s : aa_S) (m n ci : Nat) : aa_Q := match s.2.2.2.drop n with
  | (3, f) :: r => if Nat.beq (aa_gp s.1.1 f) 0 = true then none else (match aa_gi (aa_gp s.1.1 f) with
    | (0, c, _, _) => if Nat.beq c ci = true ∧ n ≤ s.2.2.2.length then (match aa_try ws s m ((3, f) :: (s.2.2.2.take n).reverse) r Ks with
      | some l => some (l.map fun t => (pc, t))
      | none => none) else none
    | _ => none)
  | _ => none
def aa_nx (Ks : List aa_K) (ws fr : aa_W) (hk : aa_Hk) (e : zz_I) (pc : Nat) (s : aa_S) : aa_Q := match e with
  | (i, (x, y, u, w), v, sw) => match i with
    | .invokestatic n => if x < 100000 then aa_calls Ks ws (pc + 3) s x y else aa_st ws fr hk (.invokestatic n, (x, y, u, w), v, sw) pc s
    | .invokevirtual _ => aa_callv Ks ws (pc + 3) s x y u
    | .invokespecial n => if x = 100000 then aa_st ws fr hk (.invokespecial n, (x, y, u, w), v, sw) pc s else aa_callv Ks ws (pc + 3) s x y u
    | i => aa_st ws fr hk (i, (x, y, u, w), v, sw) pc s
def aa_exit (K : aa_K) (s : aa_S) (avs : List aa_A) : Bool := K.2.2.1.any fun A => let σ := aa_fnd s avs A.1 A.2 (aa_ids 0 K.1.2.1); aa_mt s avs A.1 σ && (aa_pfx K.1.2.1 σ && aa_nz A.1.2.2)
def aa_exz (K : aa_K) (s : aa_S) (f : aa_F) (n : Int) : Bool := match aa_as2 s (aa_plus f (-n)) with
  | none => true
  | some s' => aa_exit K s' [(1, aa_c n)]
/-- 2: no end here -/
def aa_rt (K : aa_K) (e : zz_I) (s : aa_S) : Option Bool := match e.1 with
  | .ireturn => some (match s.2.2.2 with
    | [(1, f)] => if Nat.beq (zz_rt K.1.1) 1 = true then aa_exit K s [(1, f)] else (Nat.beq (zz_rt K.1.1) 2 && (decide (0 ≤ aa_lo s.1.1 s.1.2 f) && (decide (aa_hi s.1.1 s.1.2 f ≤ 1) && (aa_exz K s f 0 && aa_exz K s f 1))))
    | _ => false)
  | .areturn => some (match s.2.2.2 with
    | [(3, f)] => Nat.beq (zz_rt K.1.1) 3 && aa_exit K s [(3, f)]
    | [(4, f)] => Nat.beq (zz_rt K.1.1) 3 && aa_exit K s [(4, f)]
    | _ => false)
  | .return_ => some (match s.2.2.2 with
    | [] => Nat.beq (zz_rt K.1.1) 0 && aa_exit K s []
    | _ => false)
  | _ => none
def aa_cut (pc : Nat) : List (Nat × (aa_T × aa_Wh) × aa_F) → List (Nat × (aa_T × aa_Wh) × aa_F) := List.filter fun c => Nat.beq c.1 pc
/-- the walk comes to a place in a loop: what must hold there does, and less is left than where it began -/
def aa_arv (K : aa_K) (cur : Option aa_F) (s : aa_S) (c : Nat × (aa_T × aa_Wh) × aa_F) : Bool :=
  let σ := aa_fnd s s.2.2.1 c.2.1.1 c.2.1.2 (aa_ids 0 K.1.2.1)
  aa_mt s s.2.2.1 c.2.1.1 σ && (aa_pfx K.1.2.1 σ && (match aa_sub σ c.2.2 with
    | none => false
    | some μ => decide (0 ≤ aa_lo s.1.1 s.1.2 μ) && (match cur with
      | none => true
      | some f => decide (1 ≤ aa_lo s.1.1 s.1.2 (aa_add f μ (-1))))))
def aa_ex (Ks : List aa_K) (K : aa_K) (fr : aa_W) (hk : aa_Hk) : Nat → Bool → Option aa_F → Nat → aa_S → Bool
  | 0, _, _, _, _ => false
  | n + 1, mv, cur, pc, s => match (if mv = true then aa_cut pc K.2.2.2 else []) with
    | c :: r => (match s.2.2.2 with
      | [] => (c :: r).any fun c => aa_arv K cur s c
      | _ => false)
    | [] => match zz_T K.1.1 pc with
      | none => false
      | some e => match aa_rt K e s with
        | some b => b
        | none => match aa_nx Ks K.1.2.2 fr hk e pc s with
          | none => false
          | some l => l.all fun q => aa_ex Ks K fr hk n true cur q.1 q.2
section AX
variable {Φ : aa_G → Prop} {fr : aa_W} {hk : aa_Hk} {Ks : List aa_K} {K : aa_K} {ν0 : List Int} {g0 : aa_G}
theorem zz_fin.ret {X : zz_X} {m pc q : Nat} {lv : zz_V} {st : List Value} {h h' : zz_H} {e : zz_I} {v : Option Value} {φ : Option Value → zz_H → Prop} (hT : zz_T m pc = some e) (hs : zz_step X zz_us (zz_rt m) e pc lv st h = some (.inr (.inl (q, v, h')))) (k : φ v h') : zz_fin X m (pc, lv, st, h) φ := by
  refine ⟨1, q, v, h', ?_, k⟩
  rw [zz_walk]
  rw [show zz_Q.1 m pc = some e from hT]
  dsimp only
  rw [show zz_step X zz_us (zz_Q.2.1 m) e pc lv st h = some (.inr (.inl (q, v, h'))) from hs]
/-- what is so at every step of a walk -/
def aa_at (Φ : aa_G → Prop) (K : aa_K) (ν0 : List Int) (g0 : aa_G) (ν : List Int) (g : aa_G) : Prop := (∃ ρ, ν = ν0 ++ ρ) ∧ aa_inv g ∧ Φ g ∧ aa_fr K.1.2.2 g0 g
theorem aa_exit_ok (hν0 : ν0.length = K.1.2.1) {s : aa_S} {ν : List Int} {g : aa_G} {lv : zz_V} {st : List Value} {avs : List aa_A} {v : Option Value} (h : aa_ok s ν g lv st) (ha : aa_at Φ K ν0 g0 ν g) (hv : aa_mr ν avs v) (e : aa_exit K s avs = true) : aa_post Φ K ν0 g0 v (aa_H g) := by
  unfold aa_exit at e
  obtain ⟨A, hA, e⟩ := List.any_eq_true.mp e
  dsimp only at e
  generalize hσ : aa_fnd s avs A.1 A.2 (aa_ids 0 K.1.2.1) = σ at e
  simp only [Bool.and_eq_true] at e
  obtain ⟨e1, e2, e3⟩ := e
  obtain ⟨τ, t1, t2, t3, t4, t5⟩ := aa_mt_ok h.1 h.2.1 h.2.2.1 e1
  obtain ⟨⟨ρ0, rfl⟩, a1, a2, a3⟩ := ha
  rw [← hν0] at e2
  obtain ⟨ρ, rfl⟩ := aa_pfx_ok e2 t1
  refine ⟨g, rfl, a1, a2, a3, A, hA, ρ, t2, t3, t4, ?_⟩
  match avs, v, hv with
  | [], none, _ =>
    have : aa_mav σ A.1.2.2 [] = true := t5
    revert this
    cases A.1.2.2 with
    | nil => intro _; trivial
    | cons a l => intro q; cases q
  | [a], some w, hv =>
    have q := aa_mav_ms t1 t5 e3 (q := [w]) ⟨hv, trivial⟩
    revert q
    cases A.1.2.2 with
    | nil => intro q; exact q.elim
    | cons b l =>
      intro q
      cases l with
      | nil => exact q.1
      | cons c l => exact q.2.elim
/-- a step or a call: the walk goes on in one of these -/
def aa_on (Φ : aa_G → Prop) (ws : aa_W) (m : Nat) (ν : List Int) (g : aa_G) (pc : Nat) (lv : zz_V) (st : List Value) (l : List (Nat × aa_S)) : Prop := ∀ φ : Option Value → zz_H → Prop, (∀ (pc' : Nat) (s' : aa_S) (ρ : List Int) (g' : aa_G) (lv' : zz_V) (st' : List Value), (pc', s') ∈ l → aa_ok s' (ν ++ ρ) g' lv' st' → aa_inv g' → Φ g' → aa_fr ws g g' → zz_fin none m (pc', lv', st', aa_H g') φ) → zz_fin none m (pc, lv, st, aa_H g) φ
theorem aa_on_st (hG : aa_good Φ fr hk) {ws : aa_W} {m : Nat} {e : zz_I} {pc : Nat} (hT : zz_T m pc = some e) {s : aa_S} {ν : List Int} {g : aa_G} {lv : zz_V} {st : List Value} (hs : aa_ok s ν g lv st) (hi : aa_inv g) (hφ : Φ g) {l : List (Nat × aa_S)} (hl : aa_st ws fr hk e pc s = some l) : aa_on Φ ws m ν g pc lv st l := fun φ k => by
  obtain ⟨pc', lv', st', g', h1, ⟨s', ρ, h2, h3⟩, h4, h5, h6⟩ := aa_st_ok hG (rt := zz_rt m) hs hi l hl
  exact zz_fin.step1 hT h1 (k pc' s' ρ g' lv' st' h2 h3 h4 (h6 hφ) h5)
theorem aa_on_try (hKs : ∀ K ∈ Ks, aa_met Φ K) {ws : aa_W} {m m2 : Nat} {e : zz_I} {pc : Nat} (hT : zz_T m pc = some e) {s : aa_S} {ν : List Int} {g : aa_G} {lv : zz_V} {st as q : List Value} {avs rest : List aa_A} (hs : aa_ok s ν g lv st) (hi : aa_inv g) (hφ : Φ g) (ha : aa_ms ν avs as) (hr : aa_ms ν rest q) {l : List aa_S} (hl : aa_try ws s m2 avs rest Ks = some l) (hstep : (q.map fun v => v.category).sum ≤ 8 → zz_step none zz_us (zz_rt m) e pc lv st (aa_H g) = some (.inr (.inr (m2, as, q)))) : aa_on Φ ws m ν g pc lv st (l.map fun t => (pc + 3, t)) := fun φ k => by
  obtain ⟨K', hK', rfl, e1⟩ := aa_try_ok hl
  obtain ⟨k1, k2, k3⟩ := aa_app_ok hs hi hφ ha hr (hKs K' hK') e1
  refine zz_fin.call hT (hstep k1) k2 k3 ?_
  rintro v h' ⟨g', rfl, g1, g2, g3, s', hs', ρ, h3⟩
  exact k (pc + 3) s' ρ g' lv (v.toList ++ q) (List.mem_map.mpr ⟨s', hs', rfl⟩) h3 g1 g2 g3
theorem aa_on_cs (hKs : ∀ K ∈ Ks, aa_met Φ K) {ws : aa_W} {m m2 n i : Nat} {u w : Nat} {v : Value} {sw : List (Int × Nat)} {pc : Nat} (hT : zz_T m pc = some (.invokestatic i, (m2, n, u, w), v, sw)) (hm : m2 < 100000) {s : aa_S} {ν : List Int} {g : aa_G} {lv : zz_V} {st : List Value} (hs : aa_ok s ν g lv st) (hi : aa_inv g) (hφ : Φ g) {l : List (Nat × aa_S)} (hl : aa_calls Ks ws (pc + 3) s m2 n = some l) : aa_on Φ ws m ν g pc lv st l := by
  unfold aa_calls at hl
  split at hl
  · rename_i hn
    split at hl
    · rename_i l' hl'
      cases hl
      refine aa_on_try hKs hT hs hi hφ (aa_ms_rev (aa_ms_take n hs.2.2.2.2)) (aa_ms_drop n hs.2.2.2.2) hl' fun h8 => ?_
      show (if m2 < 100000 then zz_cs m2 n st else _) = _
      rw [if_pos hm]
      unfold zz_cs zz_call
      rw [if_pos (by rw [aa_ms_len hs.2.2.2.2]; exact hn), if_pos h8]
    · cases hl
  · cases hl
theorem aa_on_cv (hKs : ∀ K ∈ Ks, aa_met Φ K) {ws : aa_W} {m m2 n u : Nat} {e : zz_I} {pc : Nat} {s : aa_S} {ν : List Int} {g : aa_G} {lv : zz_V} {st : List Value} (hT : zz_T m pc = some e) (he : zz_step none zz_us (zz_rt m) e pc lv st (aa_H g) = zz_cv m2 n u st (aa_H g)) (hs : aa_ok s ν g lv st) (hi : aa_inv g) (hφ : Φ g) {l : List (Nat × aa_S)} (hl : aa_callv Ks ws (pc + 3) s m2 n u = some l) : aa_on Φ ws m ν g pc lv st l := by
  unfold aa_callv at hl
  split at hl
  · rename_i f r hd
    have hm := aa_ms_drop n hs.2.2.2.2
    rw [hd] at hm
    obtain ⟨k, q, hq, h2, h3⟩ := aa_ms_ref hm
    split at hl
    · cases hl
    · rename_i hg
      have hg : aa_gp s.1.1 f ≠ 0 := fun z => hg (by rw [z]; rfl)
      have hgc := aa_gp_ok hs.1 h2 hg
      have hk0 := (aa_fit_at (k := k) (by rw [hgc]; exact hg)).2.1
      split at hl
      · rename_i c n' ts hgi
        split at hl
        · rename_i hc
          obtain ⟨hc, hn⟩ := hc
          have e1 := Nat.eq_of_beq_eq_true hc
          subst e1
          obtain ⟨fs, hly, hob, hsl⟩ := aa_obj g (k := k) (by rw [hgc]; exact hg) (by rw [hgc]; exact hgi)
          obtain ⟨k', rfl⟩ : ∃ k', k = k' + 1 := ⟨k - 1, by omega⟩
          split at hl
          · rename_i l' hl'
            cases hl
            refine aa_on_try (avs := (3, f) :: (s.2.2.2.take n).reverse) hKs hT hs hi hφ (as := .ref (k' + 1) :: (st.take n).reverse) ⟨⟨Nat.succ_ne_zero _, k' + 1, rfl, h2⟩, aa_ms_rev (aa_ms_take n hs.2.2.2.2)⟩ h3 hl' fun h8 => ?_
            rw [he]
            unfold zz_cv zz_call
            rw [hq]
            dsimp only
            rw [if_pos ⟨by rw [aa_ms_len hs.2.2.2.2]; exact hn, by rw [hob]; rfl⟩, if_pos h8]
          · cases hl
        · cases hl
      · cases hl
  · cases hl
theorem aa_nx_ok (hG : aa_good Φ fr hk) (hKs : ∀ K ∈ Ks, aa_met Φ K) {ws : aa_W} {m : Nat} {e : zz_I} {pc : Nat} (hT : zz_T m pc = some e) {s : aa_S} {ν : List Int} {g : aa_G} {lv : zz_V} {st : List Value} (hs : aa_ok s ν g lv st) (hi : aa_inv g) (hφ : Φ g) {l : List (Nat × aa_S)} (hl : aa_nx Ks ws fr hk e pc s = some l) : aa_on Φ ws m ν g pc lv st l := by
  obtain ⟨i, ⟨x, y, u, w⟩, v, sw⟩ := e
  cases i with
  | invokestatic n =>
    have hl : (if x < 100000 then aa_calls Ks ws (pc + 3) s x y else aa_st ws fr hk (.invokestatic n, (x, y, u, w), v, sw) pc s) = some l := hl
    split at hl
    · exact aa_on_cs hKs hT (by assumption) hs hi hφ hl
    · exact aa_on_st hG hT hs hi hφ hl
  | invokevirtual n => exact aa_on_cv (m2 := x) (n := y) (u := u) hKs hT rfl hs hi hφ hl
  | invokespecial n =>
    have hl : (if x = 100000 then aa_st ws fr hk (.invokespecial n, (x, y, u, w), v, sw) pc s else aa_callv Ks ws (pc + 3) s x y u) = some l := hl
    split at hl
    · exact aa_on_st hG hT hs hi hφ hl
    · rename_i hx
      refine aa_on_cv (m2 := x) (n := y) (u := u) hKs hT ?_ hs hi hφ hl
      show (if x = 100000 then _ else zz_cv x y u st (aa_H g)) = _
      rw [if_neg hx]
  | _ => exact aa_on_st hG hT hs hi hφ hl
/-- at this place of a loop, with so much left -/
def aa_here (Φ : aa_G → Prop) (K : aa_K) (ν0 : List Int) (g0 : aa_G) (c : Nat × (aa_T × aa_Wh) × aa_F) (y : Int) : Prop := ∀ (τ : List Int) (g : aa_G) (lv : zz_V), aa_vb c.2.1.1.1.1 τ → aa_vc c.2.1.1.1.2 τ → aa_vh c.2.1.1.2.1 τ g → aa_ml τ c.2.1.1.2.2 lv → aa_at Φ K ν0 g0 τ g → aa_ev τ c.2.2 = some y → zz_fin none K.1.1 (c.1, lv, [], aa_H g) (aa_post Φ K ν0 g0)
theorem aa_arv_ok (hν0 : ν0.length = K.1.2.1) {cur : Option aa_F} {s : aa_S} {c : Nat × (aa_T × aa_Wh) × aa_F} {ν : List Int} {g : aa_G} {lv : zz_V} {st : List Value} {b : Int} (h : aa_ok s ν g lv st) (ha : aa_at Φ K ν0 g0 ν g) (hb : ∀ f, cur = some f → aa_ev ν f = some b) (hc : ∀ y, 0 ≤ y → (∀ f, cur = some f → y < b) → aa_here Φ K ν0 g0 c y) (e : aa_arv K cur s c = true) : zz_fin none K.1.1 (c.1, lv, [], aa_H g) (aa_post Φ K ν0 g0) := by
  unfold aa_arv at e
  dsimp only at e
  generalize hσ : aa_fnd s s.2.2.1 c.2.1.1 c.2.1.2 (aa_ids 0 K.1.2.1) = σ at e
  simp only [Bool.and_eq_true] at e
  obtain ⟨e1, e2, e3⟩ := e
  obtain ⟨τ, t1, t2, t3, t4, t5⟩ := aa_mt_ok h.1 h.2.1 h.2.2.1 e1
  obtain ⟨⟨ρ0, rfl⟩, a1, a2, a3⟩ := ha
  rw [← hν0] at e2
  obtain ⟨ρ, rfl⟩ := aa_pfx_ok e2 t1
  split at e3
  · cases e3
  · rename_i μ hμ
    rw [Bool.and_eq_true, decide_eq_true_eq] at e3
    obtain ⟨y, y1, y2⟩ := aa_sub_ok t1 hμ
    have b1 := aa_lo_ok h.1 h.2.1 y2
    refine hc y (by omega) ?_ _ g lv t2 t3 t4 (aa_mav_ml t1 t5 h.2.2.2.1) ⟨⟨ρ, rfl⟩, a1, a2, a3⟩ y1
    rintro f rfl
    have b2 := aa_lo_ok h.1 h.2.1 (aa_add_ev (k := -1) (hb f rfl) y2)
    have b3 := of_decide_eq_true e3.2
    omega
theorem aa_ex_ok (hG : aa_good Φ fr hk) (hKs : ∀ K ∈ Ks, aa_met Φ K) (hν0 : ν0.length = K.1.2.1) {b : Int} : ∀ (n : Nat) (mv : Bool) (cur : Option aa_F) (pc : Nat) (s : aa_S) (ν : List Int) (g : aa_G) (lv : zz_V) (st : List Value), aa_ex Ks K fr hk n mv cur pc s = true → aa_ok s ν g lv st → aa_at Φ K ν0 g0 ν g → (∀ f, cur = some f → aa_ev ν f = some b) → (∀ c ∈ K.2.2.2, ∀ y, 0 ≤ y → (∀ f, cur = some f → y < b) → aa_here Φ K ν0 g0 c y) → zz_fin none K.1.1 (pc, lv, st, aa_H g) (aa_post Φ K ν0 g0)
  | 0, _, _, _, _, _, _, _, _, h, _, _, _, _ => by cases h
  | n + 1, mv, cur, pc, s, ν, g, lv, st, e, h, ha, hb, hc => by
    rw [aa_ex] at e
    split at e
    · rename_i c r hcut
      have hmem : ∀ c' ∈ c :: r, c' ∈ K.2.2.2 ∧ c'.1 = pc := fun c' hc' => by
        rw [← hcut] at hc'
        cases mv with
        | false => cases hc'
        | true =>
          obtain ⟨k1, k2⟩ := List.mem_filter.mp hc'
          exact ⟨k1, Nat.eq_of_beq_eq_true k2⟩
      split at e
      · rename_i hst
        obtain ⟨c', hc', e1⟩ := List.any_eq_true.mp e
        obtain ⟨m1, m2⟩ := hmem c' hc'
        have hm := h.2.2.2.2
        rw [hst] at hm
        cases st with
        | cons v q => exact hm.elim
        | nil =>
          rw [← m2]
          exact aa_arv_ok hν0 h ha hb (hc c' m1) e1
      · cases e
    · split at e
      · cases e
      · rename_i i hT
        split at e
        · rename_i bb hrt
          subst e
          have hm := h.2.2.2.2
          obtain ⟨i, ⟨x, y, u, w⟩, v, sw⟩ := i
          unfold aa_rt at hrt
          dsimp only at hrt
          split at hrt
          · have hrt := Option.some.inj hrt
            split at hrt
            · rename_i f hst
              rw [hst] at hm
              obtain ⟨a, q, rfl, h1, h2⟩ := aa_ms_int hm
              cases q with
              | cons _ _ => exact h2.elim
              | nil =>
                split at hrt
                · rename_i hr
                  have hr := Nat.eq_of_beq_eq_true hr
                  refine zz_fin.ret (v := some (.int a)) (q := pc) hT ?_ (aa_exit_ok (avs := [(1, f)]) hν0 h ha ⟨Nat.one_ne_zero, a, rfl, h1⟩ hrt)
                  show (if zz_rt K.1.1 = 1 ∨ (zz_rt K.1.1 = 2 ∧ (a = 0 ∨ a = 1)) then _ else none) = _
                  rw [if_pos (.inl hr)]
                · simp only [Bool.and_eq_true, decide_eq_true_eq] at hrt
                  obtain ⟨r1, r2, r3, r4, r5⟩ := hrt
                  have hr := Nat.eq_of_beq_eq_true r1
                  have b1 := aa_lo_ok h.1 h.2.1 h1
                  have b2 := aa_hi_ok h.1 h.2.1 h1
                  have key : ∀ z : Int32, a = z → aa_exz K s f z.toInt = true → aa_post Φ K ν0 g0 (some (.int a)) (aa_H g) := fun z hz hx => by
                    subst hz
                    unfold aa_exz at hx
                    obtain ⟨s', e3, h3⟩ := aa_as2_ok h (f := aa_plus f (-a.toInt)) (by rw [aa_plus_ev h1, Int.add_right_neg])
                    rw [e3] at hx
                    exact aa_exit_ok (avs := [(1, aa_c a.toInt)]) hν0 h3 ha ⟨Nat.one_ne_zero, a, rfl, aa_c_ev⟩ hx
                  have h01 : a = 0 ∨ a = 1 := by
                    rcases (show a.toInt = 0 ∨ a.toInt = 1 by omega) with z | z
                    · exact .inl (Int32.toInt_inj.mp z)
                    · exact .inr (Int32.toInt_inj.mp z)
                  refine zz_fin.ret (v := some (.int a)) (q := pc) (h' := aa_H g) hT ?_ ?_
                  · show (if zz_rt K.1.1 = 1 ∨ (zz_rt K.1.1 = 2 ∧ (a = 0 ∨ a = 1)) then _ else none) = _
                    rw [if_pos (.inr ⟨hr, h01⟩)]
                  · rcases h01 with z | z
                    · exact key 0 z r4
                    · exact key 1 z r5
            · cases hrt
          · have hrt := Option.some.inj hrt
            split at hrt
            · rename_i f hst
              rw [Bool.and_eq_true] at hrt
              have hr := Nat.eq_of_beq_eq_true hrt.1
              rw [hst] at hm
              obtain ⟨a, q, rfl, h1, h2⟩ := aa_ms_ref hm
              cases q with
              | cons _ _ => exact h2.elim
              | nil =>
                refine zz_fin.ret (v := some (.ref a)) (q := pc) hT ?_ (aa_exit_ok (avs := [(3, f)]) hν0 h ha ⟨Nat.succ_ne_zero _, a, rfl, h1⟩ hrt.2)
                show (if zz_rt K.1.1 = 3 then _ else none) = _
                rw [if_pos hr]
            · rename_i f hst
              rw [Bool.and_eq_true] at hrt
              have hr := Nat.eq_of_beq_eq_true hrt.1
              rw [hst] at hm
              obtain ⟨q, rfl, h2⟩ := aa_ms_null hm
              cases q with
              | cons _ _ => exact h2.elim
              | nil =>
                refine zz_fin.ret (v := some .null) (q := pc) hT ?_ (aa_exit_ok (avs := [(4, f)]) hν0 h ha ⟨Nat.succ_ne_zero _, rfl⟩ hrt.2)
                show (if zz_rt K.1.1 = 3 then _ else none) = _
                rw [if_pos hr]
            · cases hrt
          · have hrt := Option.some.inj hrt
            split at hrt
            · rename_i hst
              rw [Bool.and_eq_true] at hrt
              have hr := Nat.eq_of_beq_eq_true hrt.1
              rw [hst] at hm
              cases st with
              | cons _ _ => exact hm.elim
              | nil =>
                refine zz_fin.ret (v := none) (q := pc) hT ?_ (aa_exit_ok (avs := []) hν0 h ha trivial hrt.2)
                show (if zz_rt K.1.1 = 0 then _ else none) = _
                rw [if_pos hr]
            · cases hrt
          · cases hrt
        · split at e
          · cases e
          · rename_i l hl
            refine aa_nx_ok hG hKs hT h ha.2.1 ha.2.2.1 hl _ fun pc' s' ρ g' lv' st' h1 h2 h3 h4 h5 => ?_
            have e1 := List.all_eq_true.mp e _ h1
            obtain ⟨⟨ρ0, rfl⟩, a1, a2, a3⟩ := ha
            exact aa_ex_ok hG hKs hν0 n true cur pc' s' _ g' lv' st' e1 h2 ⟨⟨ρ0 ++ ρ, by rw [List.append_assoc]⟩, h3, h4, a3.tr h5⟩ (fun f hf => aa_ev_app (hb f hf)) hc
end AX
/-- a contract is checked -/
def aa_lv0 (n : Nat) (avs : List aa_A) : List aa_A :=
  let l := avs.flatMap fun a => if Nat.beq a.1 2 = true then [a, (0, aa_c 0)] else [a]
  l ++ List.replicate (n - l.length) (0, aa_c 0)
/-- 'gv': places of its loops that are walked elsewhere -/
def aa_chk (Ks : List aa_K) (fr : aa_W) (hk : aa_Hk) (gv : Nat → Bool) (n : Nat) (K : aa_K) : Bool :=
  Nat.beq K.2.1.1.1.1.length K.1.2.1 && (aa_nz K.2.1.1.2.2 && (aa_ex Ks K fr hk n true none 0 (K.2.1.1.1, (K.2.1.1.2.1, (aa_lv0 (zz_nl K.1.1) K.2.1.1.2.2, []))) && K.2.2.2.all fun c => gv c.1 || aa_ex Ks K fr hk n false (some c.2.2) c.1 (c.2.1.1.1, (c.2.1.1.2.1, (c.2.1.1.2.2, [])))))
theorem aa_ml_apd {ν : List Int} : ∀ {l : List aa_A} {q : zz_V} {l2 : List aa_A} {q2 : zz_V}, aa_ml ν l q → aa_ml ν l2 q2 → aa_ml ν (l ++ l2) (q ++ q2)
  | [], [], _, _, _, h2 => h2
  | [], _ :: _, _, _, h, _ => h.elim
  | _ :: _, [], _, _, h, _ => h.elim
  | a :: l, v :: q, _, _, h, h2 => ⟨h.1, aa_ml_apd h.2 h2⟩
theorem aa_ml_rep {ν : List Int} : ∀ n : Nat, aa_ml ν (List.replicate n (0, aa_c 0)) (List.replicate n none)
  | 0 => trivial
  | n + 1 => ⟨trivial, aa_ml_rep n⟩
theorem aa_lv0_ok {ν : List Int} {n : Nat} {avs : List aa_A} {as : List Value} (h : aa_ms ν avs as) : aa_ml ν (aa_lv0 n avs) (zz_in as n) := by
  have key : ∀ {avs : List aa_A} {as : List Value}, aa_ms ν avs as → aa_ml ν (avs.flatMap fun a => if Nat.beq a.1 2 = true then [a, (0, aa_c 0)] else [a]) (as.flatMap fun v => if v.category = 2 then [some v, none] else [some v]) := by
    intro avs
    induction avs with
    | nil =>
      intro as h
      cases as with
      | nil => trivial
      | cons _ _ => exact h.elim
    | cons a l ih =>
      intro as h
      cases as with
      | nil => exact h.elim
      | cons v q =>
        rw [List.flatMap_cons, List.flatMap_cons]
        refine aa_ml_apd ?_ (ih h.2)
        have e := aa_cat1 h.1.1 h.1.2
        cases hb : Nat.beq a.1 2 with
        | true =>
          rw [hb] at e
          rw [if_pos (show v.category = 2 from e), if_pos rfl]
          exact ⟨h.1.2, trivial, trivial⟩
        | false =>
          rw [hb] at e
          rw [if_neg (show ¬ (false = true) by decide), if_neg (show ¬ v.category = 2 by rw [e]; decide)]
          exact ⟨h.1.2, trivial⟩
  have k := key h
  have hl := aa_ml_len k
  unfold aa_lv0 zz_in
  dsimp only
  rw [hl]
  exact aa_ml_apd k (aa_ml_rep _)
theorem aa_chk_ok {Φ : aa_G → Prop} {fr : aa_W} {hk : aa_Hk} {gv : Nat → Bool} (hG : aa_good Φ fr hk) {Ks : List aa_K} (hKs : ∀ K ∈ Ks, aa_met Φ K) {n : Nat} {K : aa_K} (hgv : ∀ c ∈ K.2.2.2, gv c.1 = true → ∀ (ν0 : List Int) (g0 : aa_G) (y : Int), ν0.length = K.1.2.1 → aa_here Φ K ν0 g0 c y) (h : aa_chk Ks fr hk gv n K = true) : aa_met Φ K := by
  unfold aa_chk at h
  simp only [Bool.and_eq_true] at h
  obtain ⟨h1, h2, h3, h4⟩ := h
  have h1 := Nat.eq_of_beq_eq_true h1
  intro ν0 g0 as k1 k2 k3 k4 k5 k6
  have hν0 : ν0.length = K.1.2.1 := by rw [k1.1, h1]
  have base : aa_at Φ K ν0 g0 ν0 g0 := ⟨⟨[], by rw [List.append_nil]⟩, k5, k6, aa_fr.rf⟩
  have loop : ∀ (N : Nat), ∀ c ∈ K.2.2.2, ∀ y : Int, 0 ≤ y → y < N → aa_here Φ K ν0 g0 c y := by
    intro N
    induction N with
    | zero => intro c _ y q1 q2; omega
    | succ N ih =>
      intro c hc y q1 q2 τ g lv t1 t2 t3 t4 t5 t6
      have h5 := List.all_eq_true.mp h4 c hc
      rw [Bool.or_eq_true] at h5
      rcases h5 with h5 | h5
      · exact hgv c hc h5 ν0 g0 y hν0 τ g lv t1 t2 t3 t4 t5 t6
      refine aa_ex_ok (b := y) hG hKs hν0 n false (some c.2.2) c.1 _ τ g lv [] h5 ⟨t1, t2, t3, t4, trivial⟩ t5 (fun f hf => by cases hf; exact t6) ?_
      intro c' hc' y' p1 p2
      have := p2 _ rfl
      exact ih c' hc' y' p1 (by omega)
  refine aa_ex_ok (b := 0) hG hKs hν0 n true none 0 _ ν0 g0 _ [] h3 ⟨k1, k2, k3, aa_lv0_ok k4, trivial⟩ base (fun f hf => by cases hf) ?_
  intro c hc y p1 _
  exact loop (y.toNat + 1) c hc y p1 (by omega)
/-- many contracts, each over those ahead of it -/
def aa_all_chk (fr : aa_W) (hk : aa_Hk) (n : Nat) : List aa_K → List aa_K → Bool
  | _, [] => true
  | Ks, K :: r => aa_chk Ks fr hk (fun _ => false) n K && aa_all_chk fr hk n (K :: Ks) r
theorem aa_all_ok {Φ : aa_G → Prop} {fr : aa_W} {hk : aa_Hk} (hG : aa_good Φ fr hk) {n : Nat} : ∀ (r Ks : List aa_K), (∀ K ∈ Ks, aa_met Φ K) → aa_all_chk fr hk n Ks r = true → ∀ K ∈ r, aa_met Φ K
  | K :: r, Ks, hKs, h, K', hK' => by
    rw [aa_all_chk, Bool.and_eq_true] at h
    have hK := aa_chk_ok hG hKs (fun c _ q => by cases q) h.1
    rcases List.mem_cons.mp hK' with rfl | hK'
    · exact hK
    · exact aa_all_ok hG r (K :: Ks) (fun Q hQ => by
        rcases List.mem_cons.mp hQ with rfl | hQ
        · exact hK
        · exact hKs Q hQ) h.2 K' hK'
end
