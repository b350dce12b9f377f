/-! AN ANALYSER OF METHODS: contracts, calls, ends -/
/-- ((method, how many names at its start, places that it may write), start, ends, places in its loops with what falls there) -/
abbrev aa_K : Type := (Nat × Nat × aa_W) × ((aa_T × aa_Wh) × (List (aa_T × aa_Wh) × List (Nat × (aa_T × aa_Wh) × aa_F)))
def aa_mr (ν : List Int) : List aa_A → Option Value → Prop
  | [], none => True
  | [a], some w => a.1 ≠ 0 ∧ aa_mv ν a (some w)
  | _, _ => False
/-- one of the ends of a contract holds -/
def aa_end (K : aa_K) (ν0 : List Int) (g : aa_G) (v : Option Value) : Prop := ∃ A ∈ K.2.2.1, ∃ ρ, aa_vb A.1.1.1 (ν0 ++ ρ) ∧ aa_vc A.1.1.2 (ν0 ++ ρ) ∧ aa_vh A.1.2.1 (ν0 ++ ρ) g ∧ aa_mr (ν0 ++ ρ) A.1.2.2 v
def aa_post (Φ : aa_G → Prop) (K : aa_K) (ν0 : List Int) (g0 : aa_G) (v : Option Value) (h : zz_H) : Prop := ∃ g, h = aa_H g ∧ aa_inv g ∧ Φ g ∧ aa_fr K.1.2.2 g0 g ∧ aa_end K ν0 g v
/-- a method keeps its contract -/
def aa_met (Φ : aa_G → Prop) (K : aa_K) : Prop := ∀ (ν0 : List Int) (g : aa_G) (as : List Value), aa_vb K.2.1.1.1.1 ν0 → aa_vc K.2.1.1.1.2 ν0 → aa_vh K.2.1.1.2.1 ν0 g → aa_ms ν0 K.2.1.1.2.2 as → aa_inv g → Φ g → zz_fin none K.1.1 (0, zz_in as (zz_nl K.1.1), [], aa_H g) (aa_post Φ K ν0 g)
/-- the cells that a call's start speaks of are read -/
def aa_lds (s : aa_S) (σ : List aa_F) : aa_C → Option (aa_S × List aa_F)
  | [] => some (s, σ)
  | q :: r => match aa_sub σ q.1.1, aa_sub σ q.1.2 with
    | some a, some b => if aa_wf s.1.1.length a = true ∧ aa_wf s.1.1.length b = true ∧ 0 ≤ aa_lo s.1.1 s.1.2 a ∧ 0 ≤ aa_lo s.1.1 s.1.2 b then (match aa_ld s a b with
      | some (f, s') => aa_lds s' (if aa_eqf q.2 (aa_id σ.length) = true then σ ++ [f] else σ) r
      | none => none) else none
    | _, _ => none
theorem aa_lds_ok {g : aa_G} {lv : zz_V} {st : List Value} (hi : aa_inv g) : ∀ {cs : aa_C} {s s' : aa_S} {σ σ' : List aa_F} {ν : List Int}, aa_ok s ν g lv st → aa_lds s σ cs = some (s', σ') → s'.2.2 = s.2.2 ∧ ∃ ρ, aa_ok s' (ν ++ ρ) g lv st
  | [], s, s', σ, σ', ν, h, e => by
    cases e
    exact ⟨rfl, [], by rw [List.append_nil]; exact h⟩
  | q :: r, s, s', σ, σ', ν, h, e => by
    rw [aa_lds] at e
    split at e
    · rename_i a b ha hb
      split at e
      · rename_i hc
        obtain ⟨c1, c2, c3, c4⟩ := hc
        rw [← h.1.1] at c1 c2
        obtain ⟨x, hx⟩ := aa_wf_ok c1
        obtain ⟨y, hy⟩ := aa_wf_ok c2
        have b1 := aa_lo_ok h.1 h.2.1 hx
        have b2 := aa_lo_ok h.1 h.2.1 hy
        split at e
        · rename_i f s1 hld
          obtain ⟨k1, ρ, k2, k3⟩ := aa_ld_ok h hi hld (k := x.toNat) (j := y.toNat) (by rw [hx, Int.toNat_of_nonneg (by omega)]) (by rw [hy, Int.toNat_of_nonneg (by omega)])
          obtain ⟨k4, ρ2, k5⟩ := aa_lds_ok hi k2 e
          exact ⟨k4.trans k1, ρ ++ ρ2, by rw [← List.append_assoc]; exact k5⟩
        · cases e
      · cases e
    · cases e
def aa_ass (s : aa_S) (σ : List aa_F) : List aa_F → Option (List aa_S)
  | [] => some [s]
  | f :: r => match aa_sub σ f with
    | none => none
    | some f' => match aa_as s f' with
      | none => some []
      | some s' => aa_ass s' σ r
theorem aa_ass_ok {ν τ : List Int} {σ : List aa_F} {g : aa_G} {lv : zz_V} {st : List Value} (he : aa_evs ν σ τ) : ∀ {cs : List aa_F} {s : aa_S} {l : List aa_S}, aa_ok s ν g lv st → aa_vc cs τ → aa_ass s σ cs = some l → ∃ s' ∈ l, aa_ok s' ν g lv st
  | [], s, l, h, _, e => by
    cases e
    exact ⟨s, List.mem_cons_self, h⟩
  | f :: r, s, l, h, hc, e => by
    rw [aa_ass] at e
    split at e
    · cases e
    · rename_i f' hf'
      obtain ⟨x, e1, e2⟩ := aa_sub_ok he hf'
      obtain ⟨y, e3, e4⟩ := hc f List.mem_cons_self
      rw [e1] at e3
      cases e3
      obtain ⟨s1, e5, h1⟩ := aa_as_ok h e2 e4
      rw [e5] at e
      exact aa_ass_ok he h1 (fun f hf => hc f (List.mem_cons_of_mem _ hf)) e
def aa_chs (σ : List aa_F) : aa_C → aa_C → Option aa_C
  | [], ch => some ch
  | q :: r, ch => match aa_sub σ q.1.1, aa_sub σ q.1.2, aa_sub σ q.2 with
    | some a, some b, some v => aa_chs σ r (if (aa_lk a b ch).isSome = true then ch else ((a, b), v) :: ch)
    | _, _, _ => none
theorem aa_chs_ok {ν τ : List Int} {σ : List aa_F} {g : aa_G} (he : aa_evs ν σ τ) : ∀ {cs ch ch' : aa_C}, aa_vh cs τ g → aa_vh ch ν g → aa_chs σ cs ch = some ch' → aa_vh ch' ν g
  | [], ch, ch', _, h, e => by
    cases e
    exact h
  | q :: r, ch, ch', hc, h, e => by
    rw [aa_chs] at e
    split at e
    · rename_i a b v ha hb hv
      obtain ⟨x1, c1, c2⟩ := aa_sub_ok he ha
      obtain ⟨x2, c3, c4⟩ := aa_sub_ok he hb
      obtain ⟨x3, c5, c6⟩ := aa_sub_ok he hv
      obtain ⟨k, j, x, d1, d2, d3, d4⟩ := hc q List.mem_cons_self
      rw [c1] at d1
      rw [c3] at d2
      rw [c5] at d3
      cases d1
      cases d2
      cases d3
      refine aa_chs_ok he (fun p hp => hc p (List.mem_cons_of_mem _ hp)) ?_ e
      split
      · exact h
      · exact aa_vh_cons h c2 c4 c6 d4
    · cases e
def aa_rets (σ : List aa_F) : List aa_A → Option (List aa_A)
  | [] => some []
  | [a] => if Nat.beq a.1 0 = true then none else (match aa_sub σ a.2 with
    | some f => some [(a.1, f)]
    | none => none)
  | _ => none
theorem aa_rets_ok {ν τ : List Int} {σ : List aa_F} (he : aa_evs ν σ τ) {l l' : List aa_A} {v : Option Value} (h : aa_mr τ l v) (e : aa_rets σ l = some l') {rest : List aa_A} {q : List Value} (hq : aa_ms ν rest q) : aa_ms ν (l' ++ rest) (v.toList ++ q) := by
  match l, v, h with
  | [], none, _ =>
    cases e
    exact hq
  | [a], some w, h =>
    rw [aa_rets] at e
    split at e
    · cases e
    · split at e
      · rename_i f hf
        cases e
        obtain ⟨x, e1, e2⟩ := aa_sub_ok he hf
        refine ⟨⟨h.1, ?_⟩, hq⟩
        obtain ⟨k, f0⟩ := a
        match k, h.2 with
        | 0, _ => trivial
        | 1, hv =>
          obtain ⟨w1, e3, e4⟩ := hv
          have e4 : aa_ev τ f0 = some w1.toInt := e4
          rw [e1] at e4
          cases e4
          exact ⟨w1, e3, e2⟩
        | 2, hv =>
          obtain ⟨w1, e3, e4⟩ := hv
          have e4 : aa_ev τ f0 = some w1.toInt := e4
          rw [e1] at e4
          cases e4
          exact ⟨w1, e3, e2⟩
        | 3, hv =>
          obtain ⟨w1, e3, e4⟩ := hv
          have e4 : aa_ev τ f0 = some (w1 : Int) := e4
          rw [e1] at e4
          cases e4
          exact ⟨w1, e3, e2⟩
        | 4, hv => exact hv
        | k + 5, hv => exact hv.elim
      · cases e
/-- two forms of one cell are one number -/
def aa_eqs (σ : List aa_F) (ch : aa_C) : aa_C → Option (List aa_F)
  | [] => some []
  | q :: r => match aa_sub σ q.1.1, aa_sub σ q.1.2, aa_sub σ q.2, aa_eqs σ ch r with
    | some a, some b, some v, some l => (match aa_lk a b ch with
      | some w => if aa_eqf w v = true then some l else some (aa_add w v (-1) :: l)
      | none => some l)
    | _, _, _, _ => none
theorem aa_eqs_ok {ν τ : List Int} {σ : List aa_F} {g : aa_G} {ch : aa_C} (he : aa_evs ν σ τ) (hh : aa_vh ch ν g) : ∀ {cs : aa_C} {l : List aa_F}, aa_vh cs τ g → aa_eqs σ ch cs = some l → ∀ f ∈ l, aa_ev ν f = some 0
  | [], l, _, e => by
    cases e
    exact fun f hf => by cases hf
  | q :: r, l, hc, e => by
    rw [aa_eqs] at e
    split at e
    · rename_i a b v l1 ha hb hv hl
      have ih := aa_eqs_ok he hh (fun p hp => hc p (List.mem_cons_of_mem _ hp)) hl
      split at e
      · rename_i w hw
        split at e
        · cases e
          exact ih
        · cases e
          intro f hf
          rcases List.mem_cons.mp hf with rfl | hf
          · obtain ⟨x1, c1, c2⟩ := aa_sub_ok he ha
            obtain ⟨x2, c3, c4⟩ := aa_sub_ok he hb
            obtain ⟨x3, c5, c6⟩ := aa_sub_ok he hv
            obtain ⟨k, j, x, d1, d2, d3, d4⟩ := hc q List.mem_cons_self
            rw [c1] at d1
            rw [c3] at d2
            rw [c5] at d3
            cases d1
            cases d2
            cases d3
            obtain ⟨k', j', x', z1, z2, z3, z4⟩ := hh _ (aa_lk_ok hw)
            have z1 : aa_ev ν a = some (k' : Int) := z1
            have z2 : aa_ev ν b = some (j' : Int) := z2
            have z3 : aa_ev ν w = some x' := z3
            rw [c2] at z1
            rw [c4] at z2
            have e1 : k = k' := Int.ofNat.inj (Option.some.inj z1)
            have e2 : j = j' := Int.ofNat.inj (Option.some.inj z2)
            rw [← e1, ← e2, d4] at z4
            rw [aa_add_ev (k := -1) z3 c6, z4]
            congr 1
            omega
          · exact ih f hf
      · cases e
        exact ih
    · cases e
def aa_as2s (s : aa_S) : List aa_F → Option aa_S
  | [] => some s
  | f :: r => match aa_as2 s f with
    | none => none
    | some s' => aa_as2s s' r
theorem aa_as2s_ok {ν : List Int} {g : aa_G} {lv : zz_V} {st : List Value} : ∀ {l : List aa_F} {s : aa_S}, aa_ok s ν g lv st → (∀ f ∈ l, aa_ev ν f = some 0) → ∃ s', aa_as2s s l = some s' ∧ aa_ok s' ν g lv st
  | [], s, h, _ => ⟨s, rfl, h⟩
  | f :: r, s, h, hl => by
    obtain ⟨s1, e1, h1⟩ := aa_as2_ok h (hl f List.mem_cons_self)
    rw [aa_as2s, e1]
    exact aa_as2s_ok h1 fun f hf => hl f (List.mem_cons_of_mem _ hf)
def aa_alt (s : aa_S) (σ : List aa_F) (rest : List aa_A) (A : aa_T) : Option (List aa_S) :=
  let ext := A.1.1.drop σ.length
  let σ1 := σ ++ aa_ids s.1.1.length ext.length
  match aa_chs σ1 A.2.1 s.2.1, aa_rets σ1 A.2.2, aa_eqs σ1 s.2.1 A.2.1 with
  | some ch, some r, some eqs => (match aa_as2s ((s.1.1 ++ ext, s.1.2), (ch, (s.2.2.1, r ++ rest))) eqs with
    | none => some []
    | some s' => aa_ass s' σ1 A.1.2)
  | _, _, _ => none
theorem aa_evs_ids {ν τ ρ : List Int} {σ : List aa_F} (he : aa_evs ν σ τ) : aa_evs (ν ++ ρ) (σ ++ aa_ids ν.length ρ.length) (τ ++ ρ) := by
  have hl : (aa_ids ν.length ρ.length).length = ρ.length := by
    unfold aa_ids
    rw [List.length_map, List.length_range]
  refine ⟨by rw [List.length_append, List.length_append, he.1, hl], fun i f hf => ?_⟩
  by_cases hi : i < σ.length
  · rw [List.getElem?_append_left hi] at hf
    obtain ⟨x, e1, e2⟩ := he.2 i f hf
    exact ⟨x, aa_ev_app e1, by rw [List.getElem?_append_left (by rw [he.1]; exact hi)]; exact e2⟩
  · rw [List.getElem?_append_right (by omega)] at hf
    have hj := (List.getElem?_eq_some_iff.mp hf).1
    rw [hl] at hj
    unfold aa_ids at hf
    rw [List.getElem?_map, List.getElem?_range hj] at hf
    cases hf
    refine ⟨ρ[i - σ.length], aa_id_ev ?_, ?_⟩
    · rw [List.getElem?_append_right (by omega), show ν.length + (i - σ.length) - ν.length = i - σ.length by omega]
      exact List.getElem?_eq_getElem hj
    · rw [List.getElem?_append_right (by rw [he.1]; omega), he.1]
      exact List.getElem?_eq_getElem hj
theorem aa_alt_ok {s : aa_S} {ν τ ρ : List Int} {σ : List aa_F} {g : aa_G} {lv : zz_V} {q : List Value} {v : Option Value} {rest : List aa_A} {A : aa_T} {l : List aa_S} (h : aa_alt s σ rest A = some l) (hb : aa_vb s.1.1 ν) (hc : aa_vc s.1.2 ν) (hh : aa_vh s.2.1 ν g) (hl : aa_ml ν s.2.2.1 lv) (hq : aa_ms ν rest q) (he : aa_evs ν σ τ) (k1 : aa_vb A.1.1 (τ ++ ρ)) (k2 : aa_vc A.1.2 (τ ++ ρ)) (k3 : aa_vh A.2.1 (τ ++ ρ) g) (k4 : aa_mr (τ ++ ρ) A.2.2 v) : ∃ s' ∈ l, aa_ok s' (ν ++ ρ) g lv (v.toList ++ q) := by
  have hlen : (A.1.1.drop σ.length).length = ρ.length := by
    rw [List.length_drop, ← k1.1, List.length_append, he.1]
    omega
  have he2 := aa_evs_ids (ρ := ρ) he
  unfold aa_alt at h
  dsimp only at h
  rw [hlen, ← hb.1] at h
  split at h
  · rename_i ch r eqs hch hr heqs
    have h0 : aa_ok ((s.1.1 ++ A.1.1.drop σ.length, s.1.2), (ch, (s.2.2.1, r ++ rest))) (ν ++ ρ) g lv (v.toList ++ q) := ?_
    · obtain ⟨s', e1, h1⟩ := aa_as2s_ok h0 (aa_eqs_ok he2 (aa_vh_app hh) k3 heqs)
      rw [e1] at h
      exact aa_ass_ok he2 h1 k2 h
    refine ⟨aa_vb_app hb hlen.symm fun i z w hz hw => ?_, aa_vc_app hc, aa_chs_ok he2 k3 (aa_vh_app hh) hch, aa_ml_app hl, aa_rets_ok he2 k4 hr (aa_ms_app hq)⟩
    rw [List.getElem?_drop] at hz
    refine k1.2 (σ.length + i) z w hz ?_
    rw [List.getElem?_append_right (by rw [he.1]; omega), he.1, show σ.length + i - σ.length = i by omega]
    exact hw
  · cases h
def aa_alts (s : aa_S) (σ : List aa_F) (rest : List aa_A) : List (aa_T × aa_Wh) → Option (List aa_S)
  | [] => some []
  | A :: r => match aa_alt s σ rest A.1, aa_alts s σ rest r with
    | some a, some b => some (a ++ b)
    | _, _ => none
theorem aa_alts_ok {s : aa_S} {σ : List aa_F} {rest : List aa_A} {A : aa_T × aa_Wh} : ∀ {r : List (aa_T × aa_Wh)} {l : List aa_S}, aa_alts s σ rest r = some l → A ∈ r → ∃ a, aa_alt s σ rest A.1 = some a ∧ ∀ x ∈ a, x ∈ l
  | B :: r, l, h, hm => by
    rw [aa_alts] at h
    split at h
    · rename_i a b ha hb
      cases h
      rcases List.mem_cons.mp hm with rfl | hm
      · exact ⟨a, ha, fun x hx => List.mem_append.mpr (.inl hx)⟩
      · obtain ⟨c, h1, h2⟩ := aa_alts_ok hb hm
        exact ⟨c, h1, fun x hx => List.mem_append.mpr (.inr (h2 x hx))⟩
    · cases h
/-- a call by one contract -/
def aa_app (ws : aa_W) (s : aa_S) (avs rest : List aa_A) (K : aa_K) : Option (List aa_S) :=
  match aa_lds s (aa_fnd s avs K.2.1.1 K.2.1.2 []) K.2.1.1.2.1 with
  | none => none
  | some (s1, σ) => if (aa_mt s1 avs K.2.1.1 σ && (aa_nz K.2.1.1.2.2 && (K.1.2.2.all (fun w => aa_inw w.1 w.2.1 w.2.2 ws) && (Nat.ble (aa_cat rest) 8 && Nat.ble (aa_cat avs) (zz_nl K.1.1))))) = true then
      aa_alts (s1.1, (s1.2.1.filter (aa_kl s1.1.1 s1.1.2 K.1.2.2), s1.2.2)) σ rest K.2.2.1 else none
theorem aa_fr_sub {ws ws' : aa_W} {g g' : aa_G} (h : aa_fr ws' g g') (hs : ws'.all (fun w => aa_inw w.1 w.2.1 w.2.2 ws) = true) : aa_fr ws g g' := by
  refine ⟨fun k j => ?_, ?_⟩
  · rcases h.1 k j with e | ⟨w, hw, w1, w2, w3⟩
    · exact .inl e
    · obtain ⟨z, hz, z1, z2, z3⟩ := aa_inw_ok (List.all_eq_true.mp hs w hw)
      exact .inr ⟨z, hz, z1.trans w1, by omega, by omega⟩
  · rcases h.2 with e | ⟨w, hw, w1⟩
    · exact .inl e
    · obtain ⟨z, hz, z1, -⟩ := aa_inw_ok (List.all_eq_true.mp hs w hw)
      exact .inr ⟨z, hz, z1.trans w1⟩
theorem aa_zin_len {ν : List Int} : ∀ {l : List aa_A} {q : List Value}, aa_ms ν l q → (q.flatMap fun v => if v.category = 2 then [some v, none] else [some v]).length = aa_cat l
  | [], [], _ => rfl
  | [], _ :: _, h => h.elim
  | _ :: _, [], h => h.elim
  | a :: l, v :: q, h => by
    rw [List.flatMap_cons, List.length_append, aa_zin_len h.2, aa_cat]
    congr 1
    have e := aa_cat1 h.1.1 h.1.2
    cases hb : Nat.beq a.1 2 with
    | true =>
      rw [hb] at e
      rw [if_pos (show v.category = 2 from e)]
      rfl
    | false =>
      rw [hb] at e
      rw [if_neg (by rw [e]; decide)]
      rfl
theorem aa_app_ok {Φ : aa_G → Prop} {ws : aa_W} {s : aa_S} {ν : List Int} {g : aa_G} {lv : zz_V} {st as q : List Value} {avs rest : List aa_A} {K : aa_K} {l : List aa_S} (h : aa_ok s ν g lv st) (hi : aa_inv g) (hφ : Φ g) (ha : aa_ms ν avs as) (hr : aa_ms ν rest q) (hK : aa_met Φ K) (e : aa_app ws s avs rest K = some l) : (q.map fun v => v.category).sum ≤ 8 ∧ (zz_in as 0).length ≤ zz_nl K.1.1 ∧ zz_fin none K.1.1 (0, zz_in as (zz_nl K.1.1), [], aa_H g) (fun v h' => ∃ g', h' = aa_H g' ∧ aa_inv g' ∧ Φ g' ∧ aa_fr ws g g' ∧ ∃ s' ∈ l, ∃ ρ, aa_ok s' (ν ++ ρ) g' lv (v.toList ++ q)) := by
  unfold aa_app at e
  split at e
  · cases e
  · rename_i s1 σ hlds
    obtain ⟨hs2, ρ1, h1⟩ := aa_lds_ok hi h hlds
    split at e
    · rename_i hc
      simp only [Bool.and_eq_true] at hc
      obtain ⟨c1, c2, c3, c4, c5⟩ := hc
      obtain ⟨τ, t1, t2, t3, t4, t5⟩ := aa_mt_ok h1.1 h1.2.1 h1.2.2.1 c1
      refine ⟨by rw [aa_cat_ok hr]; exact Nat.le_of_ble_eq_true c4, ?_, ?_⟩
      · unfold zz_in
        dsimp only
        rw [List.length_append, aa_zin_len ha, List.length_replicate]
        have := Nat.le_of_ble_eq_true c5
        omega
      · refine (hK τ g as t2 t3 t4 (aa_mav_ms t1 t5 c2 (aa_ms_app ha)) hi hφ).mono ?_
        rintro v h' ⟨g', rfl, g1, g2, g3, A, hA, ρ, a1, a2, a3, a4⟩
        refine ⟨g', rfl, g1, g2, aa_fr_sub g3 c3, ?_⟩
        obtain ⟨a, e1, e2⟩ := aa_alts_ok e hA
        obtain ⟨s', hs', k⟩ := aa_alt_ok e1 h1.1 h1.2.1 (aa_kl_ok h1.1 h1.2.1 h1.2.2.1 g3) h1.2.2.2.1 (aa_ms_app hr) t1 a1 a2 a3 a4
        exact ⟨s', e2 s' hs', ρ1 ++ ρ, by rw [← List.append_assoc]; exact k⟩
    · cases e
def aa_try (ws : aa_W) (s : aa_S) (m : Nat) (avs rest : List aa_A) : List aa_K → Option (List aa_S)
  | [] => none
  | K :: r => if Nat.beq K.1.1 m = true then (match aa_app ws s avs rest K with
    | some l => some l
    | none => aa_try ws s m avs rest r) else aa_try ws s m avs rest r
theorem aa_try_ok {ws : aa_W} {s : aa_S} {m : Nat} {avs rest : List aa_A} : ∀ {Ks : List aa_K} {l : List aa_S}, aa_try ws s m avs rest Ks = some l → ∃ K ∈ Ks, K.1.1 = m ∧ aa_app ws s avs rest K = some l
  | K :: r, l, h => by
    rw [aa_try] at h
    split at h
    · rename_i hm
      split at h
      · rename_i l' hl
        cases h
        exact ⟨K, List.mem_cons_self, Nat.eq_of_beq_eq_true hm, hl⟩
      · obtain ⟨K', h1, h2⟩ := aa_try_ok h
        exact ⟨K', List.mem_cons_of_mem _ h1, h2⟩
    · obtain ⟨K', h1, h2⟩ := aa_try_ok h
      exact ⟨K', List.mem_cons_of_mem _ h1, h2⟩
theorem aa_ms_take {ν : List Int} : ∀ {l : List aa_A} {q : List Value} (n : Nat), aa_ms ν l q → aa_ms ν (l.take n) (q.take n)
  | _, _, 0, _ => by rw [List.take_zero, List.take_zero]; trivial
  | [], [], n + 1, h => h
  | [], _ :: _, _, h => h.elim
  | _ :: _, [], _, h => h.elim
  | a :: l, v :: q, n + 1, h => ⟨h.1, aa_ms_take n h.2⟩
theorem aa_ms_drop {ν : List Int} : ∀ {l : List aa_A} {q : List Value} (n : Nat), aa_ms ν l q → aa_ms ν (l.drop n) (q.drop n)
  | _, _, 0, h => h
  | [], [], n + 1, h => h
  | [], _ :: _, _, h => h.elim
  | _ :: _, [], _, h => h.elim
  | a :: l, v :: q, n + 1, h => aa_ms_drop n h.2
theorem aa_ms_len {ν : List Int} : ∀ {l : List aa_A} {q : List Value}, aa_ms ν l q → q.length = l.length
  | [], [], _ => rfl
  | [], _ :: _, h => h.elim
  | _ :: _, [], h => h.elim
  | a :: l, v :: q, h => by rw [List.length_cons, List.length_cons, aa_ms_len h.2]
theorem aa_ms_apd {ν : List Int} : ∀ {l : List aa_A} {q : List Value} {l2 : List aa_A} {q2 : List Value}, aa_ms ν l q → aa_ms ν l2 q2 → aa_ms ν (l ++ l2) (q ++ q2)
  | [], [], _, _, _, h2 => h2
  | [], _ :: _, _, _, h, _ => h.elim
  | _ :: _, [], _, _, h, _ => h.elim
  | a :: l, v :: q, _, _, h, h2 => ⟨h.1, aa_ms_apd h.2 h2⟩
theorem aa_ms_rev {ν : List Int} : ∀ {l : List aa_A} {q : List Value}, aa_ms ν l q → aa_ms ν l.reverse q.reverse
  | [], [], h => h
  | [], _ :: _, h => h.elim
  | _ :: _, [], h => h.elim
  | a :: l, v :: q, h => by
    rw [List.reverse_cons, List.reverse_cons]
    exact aa_ms_apd (aa_ms_rev h.2) ⟨h.1, trivial⟩
