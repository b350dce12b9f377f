/-! AN ANALYSER OF METHODS: templates -/
abbrev aa_T : Type := (List aa_I × List aa_F) × (aa_C × List aa_A)
abbrev aa_Wh : Type := List (Nat × Nat)
def aa_subT (σ : List aa_F) : List (Nat × Int) → aa_F → Option aa_F
  | [], acc => some acc
  | (i, c) :: r, acc => match σ[i]? with
    | none => none
    | some h => aa_subT σ r (aa_add acc h c)
def aa_sub (σ : List aa_F) (f : aa_F) : Option aa_F := aa_subT σ f.2 (aa_c f.1)
def aa_evs (ν : List Int) (σ : List aa_F) (τ : List Int) : Prop := τ.length = σ.length ∧ ∀ (i : Nat) (f : aa_F), σ[i]? = some f → ∃ x, aa_ev ν f = some x ∧ τ[i]? = some x
theorem aa_subT_ok {ν τ : List Int} {σ : List aa_F} (h : aa_evs ν σ τ) : ∀ (l : List (Nat × Int)) (acc f : aa_F) (a : Int), aa_ev ν acc = some a → aa_subT σ l acc = some f → ∃ y, aa_tm τ l = some y ∧ aa_ev ν f = some (a + y)
  | [], acc, f, a, ha, hs => by
    cases hs
    exact ⟨0, rfl, by rw [Int.add_zero]; exact ha⟩
  | (i, c) :: r, acc, f, a, ha, hs => by
    rw [aa_subT] at hs
    split at hs
    · cases hs
    · rename_i z hz
      obtain ⟨x, h1, h2⟩ := h.2 i z hz
      obtain ⟨y, h3, h4⟩ := aa_subT_ok h r _ f _ (aa_add_ev (k := c) ha h1) hs
      exact ⟨c * x + y, aa_tm_cons.mpr ⟨x, y, h2, h3, rfl⟩, by rw [h4, Int.add_assoc]⟩
theorem aa_sub_ok {ν τ : List Int} {σ : List aa_F} (h : aa_evs ν σ τ) {f f' : aa_F} (hs : aa_sub σ f = some f') : ∃ x, aa_ev τ f = some x ∧ aa_ev ν f' = some x := by
  obtain ⟨y, h1, h2⟩ := aa_subT_ok h f.2 (aa_c f.1) f' f.1 aa_c_ev hs
  exact ⟨f.1 + y, aa_ev_some.mpr ⟨y, h1, rfl⟩, h2⟩
def aa_wf (n : Nat) (f : aa_F) : Bool := f.2.all fun q => Nat.blt q.1 n
theorem aa_wf_ok {ν : List Int} {f : aa_F} (h : aa_wf ν.length f = true) : ∃ x, aa_ev ν f = some x := by
  have key : ∀ l : List (Nat × Int), (l.all fun q => Nat.blt q.1 ν.length) = true → ∃ y, aa_tm ν l = some y := by
    intro l
    induction l with
    | nil => intro _; exact ⟨0, rfl⟩
    | cons q l ih =>
      intro hl
      rw [List.all_cons, Bool.and_eq_true] at hl
      obtain ⟨y, hy⟩ := ih hl.2
      have hq : q.1 < ν.length := Nat.le_of_ble_eq_true hl.1
      exact ⟨_, aa_tm_cons.mpr ⟨_, y, List.getElem?_eq_getElem hq, hy, rfl⟩⟩
  obtain ⟨y, hy⟩ := key f.2 h
  exact ⟨_, aa_ev_some.mpr ⟨y, hy, rfl⟩⟩
def aa_mb1 (s : aa_S) (q : aa_I) (f : aa_F) : Bool := aa_wf s.1.1.length f && (decide (q.1 ≤ aa_lo s.1.1 s.1.2 f) && (decide (aa_hi s.1.1 s.1.2 f ≤ q.2.1) && (Nat.beq q.2.2 0 || (Nat.beq (aa_gp s.1.1 f) q.2.2 && decide (0 ≤ q.1)))))
def aa_mbs (s : aa_S) : List aa_I → List aa_F → Bool
  | [], [] => true
  | q :: iv, f :: σ => aa_mb1 s q f && aa_mbs s iv σ
  | _, _ => false
theorem aa_vb_cons {iv : List aa_I} {ν : List Int} {q : aa_I} {v : Int} (h : aa_vb iv ν) (hq : q.1 ≤ v ∧ v ≤ q.2.1 ∧ (q.2.2 ≠ 0 → 0 ≤ v ∧ aa_gc v.toNat = q.2.2)) : aa_vb (q :: iv) (v :: ν) := by
  refine ⟨by rw [List.length_cons, List.length_cons, h.1], fun i p w hp hw => ?_⟩
  cases i with
  | zero =>
    cases hp
    cases hw
    exact hq
  | succ i => exact h.2 i p w hp hw
theorem aa_mbs_ok {s : aa_S} {ν : List Int} (hb : aa_vb s.1.1 ν) (hc : aa_vc s.1.2 ν) : ∀ {iv : List aa_I} {σ : List aa_F}, aa_mbs s iv σ = true → ∃ τ, aa_evs ν σ τ ∧ aa_vb iv τ
  | [], [], _ => ⟨[], ⟨rfl, fun i f h => by cases h⟩, ⟨rfl, fun i q v h _ => by cases h⟩⟩
  | [], _ :: _, h => by cases h
  | _ :: _, [], h => by cases h
  | q :: iv, f :: σ, h => by
    rw [aa_mbs, Bool.and_eq_true] at h
    obtain ⟨τ, h1, h2⟩ := aa_mbs_ok hb hc h.2
    have h0 := h.1
    unfold aa_mb1 at h0
    simp only [Bool.and_eq_true, Bool.or_eq_true, decide_eq_true_eq] at h0
    obtain ⟨k1, k2, k3, k4⟩ := h0
    rw [← hb.1] at k1
    obtain ⟨x, hx⟩ := aa_wf_ok k1
    have b1 := aa_lo_ok hb hc hx
    have b2 := aa_hi_ok hb hc hx
    refine ⟨x :: τ, ⟨by rw [List.length_cons, List.length_cons, h1.1], fun i f' hf' => ?_⟩, aa_vb_cons h2 ⟨by omega, by omega, fun hg => ?_⟩⟩
    · cases i with
      | zero =>
        cases hf'
        exact ⟨x, hx, rfl⟩
      | succ i => exact h1.2 i f' hf'
    · rcases k4 with k4 | ⟨k4, k5⟩
      · exact absurd (Nat.eq_of_beq_eq_true k4) hg
      · have e := Nat.eq_of_beq_eq_true k4
        have hx0 : 0 ≤ x := by omega
        refine ⟨hx0, ?_⟩
        rw [← e]
        exact aa_gp_ok hb (k := x.toNat) (by rw [hx, Int.toNat_of_nonneg hx0]) (by rw [e]; exact hg)
def aa_mcs (s : aa_S) (σ : List aa_F) : List aa_F → Bool
  | [] => true
  | f :: r => (match aa_sub σ f with
    | some f' => decide (0 ≤ aa_lo s.1.1 s.1.2 f')
    | none => false) && aa_mcs s σ r
theorem aa_mcs_ok {s : aa_S} {ν τ : List Int} {σ : List aa_F} (hb : aa_vb s.1.1 ν) (hc : aa_vc s.1.2 ν) (he : aa_evs ν σ τ) : ∀ {cs : List aa_F}, aa_mcs s σ cs = true → aa_vc cs τ
  | [], _ => fun f hf => by cases hf
  | f :: r, h => by
    rw [aa_mcs, Bool.and_eq_true] at h
    intro f' hf'
    rcases List.mem_cons.mp hf' with rfl | hf'
    · have h1 := h.1
      split at h1
      · rename_i f2 hf2
        obtain ⟨x, e1, e2⟩ := aa_sub_ok he hf2
        have := aa_lo_ok hb hc e2
        exact ⟨x, e1, by have := of_decide_eq_true h1; omega⟩
      · cases h1
    · exact aa_mcs_ok hb hc he h.2 f' hf'
def aa_mch (s : aa_S) (σ : List aa_F) : aa_C → Bool
  | [] => true
  | q :: r => (match aa_sub σ q.1.1, aa_sub σ q.1.2, aa_sub σ q.2 with
    | some a, some b, some v => (match aa_lk a b s.2.1 with
      | some w => aa_eqf w v
      | none => false)
    | _, _, _ => false) && aa_mch s σ r
theorem aa_mch_ok {s : aa_S} {ν τ : List Int} {σ : List aa_F} {g : aa_G} (hh : aa_vh s.2.1 ν g) (he : aa_evs ν σ τ) : ∀ {cs : aa_C}, aa_mch s σ cs = true → aa_vh cs τ g
  | [], _ => fun f hf => by cases hf
  | q :: r, h => by
    rw [aa_mch, Bool.and_eq_true] at h
    intro p hp
    rcases List.mem_cons.mp hp with rfl | hp
    · have h1 := h.1
      split at h1
      · rename_i a b v ha hb hv
        split at h1
        · rename_i w hw
          have e := aa_eqf_ok h1
          subst e
          obtain ⟨x1, c1, c2⟩ := aa_sub_ok he ha
          obtain ⟨x2, c3, c4⟩ := aa_sub_ok he hb
          obtain ⟨x3, c5, c6⟩ := aa_sub_ok he hv
          obtain ⟨k, j, x, d1, d2, d3, d4⟩ := hh _ (aa_lk_ok hw)
          have d1 : aa_ev ν a = some (k : Int) := d1
          have d2 : aa_ev ν b = some (j : Int) := d2
          have d3 : aa_ev ν w = some x := d3
          rw [c2] at d1
          rw [c4] at d2
          rw [c6] at d3
          cases d1
          cases d2
          cases d3
          exact ⟨k, j, x3, c1, c3, c5, d4⟩
        · cases h1
      · cases h1
    · exact aa_mch_ok hh he h.2 p hp
def aa_ma1 (σ : List aa_F) (t a : aa_A) : Bool := Nat.beq t.1 0 || (Nat.beq t.1 a.1 && (Nat.beq t.1 4 || (match aa_sub σ t.2 with
  | some f => aa_eqf f a.2
  | none => false)))
def aa_mav (σ : List aa_F) : List aa_A → List aa_A → Bool
  | [], [] => true
  | t :: r, a :: q => aa_ma1 σ t a && aa_mav σ r q
  | _, _ => false
theorem aa_ma1_ok {ν τ : List Int} {σ : List aa_F} (he : aa_evs ν σ τ) {t a : aa_A} (h : aa_ma1 σ t a = true) {v : Option Value} (hv : aa_mv ν a v) : aa_mv τ t v := by
  obtain ⟨k, f⟩ := t
  obtain ⟨k', f'⟩ := a
  unfold aa_ma1 at h
  simp only [Bool.or_eq_true, Bool.and_eq_true] at h
  rcases h with h | ⟨h, h2⟩
  · have e := Nat.eq_of_beq_eq_true h
    subst e
    trivial
  · have e := Nat.eq_of_beq_eq_true h
    subst e
    rcases h2 with h2 | h2
    · have e := Nat.eq_of_beq_eq_true h2
      subst e
      exact hv
    · split at h2
      · rename_i f2 hf2
        have e : f2 = f' := aa_eqf_ok h2
        subst e
        obtain ⟨x, c1, c2⟩ := aa_sub_ok he hf2
        match k, hv with
        | 0, _ => trivial
        | 1, hv =>
          obtain ⟨w, e1, e2⟩ := hv
          have e2 : aa_ev ν f2 = some w.toInt := e2
          rw [c2] at e2
          cases e2
          exact ⟨w, e1, c1⟩
        | 2, hv =>
          obtain ⟨w, e1, e2⟩ := hv
          have e2 : aa_ev ν f2 = some w.toInt := e2
          rw [c2] at e2
          cases e2
          exact ⟨w, e1, c1⟩
        | 3, hv =>
          obtain ⟨w, e1, e2⟩ := hv
          have e2 : aa_ev ν f2 = some (w : Int) := e2
          rw [c2] at e2
          cases e2
          exact ⟨w, e1, c1⟩
        | 4, hv => exact hv
        | k + 5, hv => exact hv.elim
      · cases h2
theorem aa_mav_ml {ν τ : List Int} {σ : List aa_F} (he : aa_evs ν σ τ) : ∀ {t a : List aa_A} {q : zz_V}, aa_mav σ t a = true → aa_ml ν a q → aa_ml τ t q
  | [], [], [], _, _ => trivial
  | [], [], _ :: _, _, hq => hq.elim
  | [], _ :: _, _, h, _ => by cases h
  | _ :: _, [], _, h, _ => by cases h
  | t :: r, a :: s, [], _, hq => hq.elim
  | t :: r, a :: s, v :: q, h, hq => by
    rw [aa_mav, Bool.and_eq_true] at h
    exact ⟨aa_ma1_ok he h.1 hq.1, aa_mav_ml he h.2 hq.2⟩
def aa_nz (l : List aa_A) : Bool := l.all fun a => !(Nat.beq a.1 0)
theorem aa_mav_ms {ν τ : List Int} {σ : List aa_F} (he : aa_evs ν σ τ) : ∀ {t a : List aa_A} {q : List Value}, aa_mav σ t a = true → aa_nz t = true → aa_ms ν a q → aa_ms τ t q
  | [], [], [], _, _, _ => trivial
  | [], [], _ :: _, _, _, hq => hq.elim
  | [], _ :: _, _, h, _, _ => by cases h
  | _ :: _, [], _, h, _, _ => by cases h
  | t :: r, a :: s, [], _, _, hq => hq.elim
  | t :: r, a :: s, v :: q, h, hz, hq => by
    rw [aa_mav, Bool.and_eq_true] at h
    unfold aa_nz at hz
    rw [List.all_cons, Bool.and_eq_true, Bool.not_eq_true'] at hz
    refine ⟨⟨fun e => ?_, aa_ma1_ok he h.1 hq.1.2⟩, aa_mav_ms he h.2 hz.2 hq.2⟩
    rw [e] at hz
    cases hz.1
def aa_mt (s : aa_S) (avs : List aa_A) (T : aa_T) (σ : List aa_F) : Bool := aa_mbs s T.1.1 σ && (aa_mcs s σ T.1.2 && (aa_mch s σ T.2.1 && aa_mav σ T.2.2 avs))
theorem aa_mt_ok {s : aa_S} {ν : List Int} {g : aa_G} (hb : aa_vb s.1.1 ν) (hc : aa_vc s.1.2 ν) (hh : aa_vh s.2.1 ν g) {avs : List aa_A} {T : aa_T} {σ : List aa_F} (h : aa_mt s avs T σ = true) : ∃ τ, aa_evs ν σ τ ∧ aa_vb T.1.1 τ ∧ aa_vc T.1.2 τ ∧ aa_vh T.2.1 τ g ∧ aa_mav σ T.2.2 avs = true := by
  unfold aa_mt at h
  simp only [Bool.and_eq_true] at h
  obtain ⟨τ, h1, h2⟩ := aa_mbs_ok hb hc h.1
  exact ⟨τ, h1, h2, aa_mcs_ok hb hc h1 h.2.1, aa_mch_ok hh h1 h.2.2.1, h.2.2.2⟩
/-- which form stands for which name of a template (it need not be right: the match is checked) -/
def aa_cod (w : Nat) (f : aa_F) : aa_F := match w with
  | 0 => f
  | 2 => ((f.1 - 5) / 50, (f.2.filter fun q => decide (q.2 % 50 = 0)).map fun q => (q.1, q.2 / 50))
  | 3 => (((f.1 - 5) % 50) / 4, (f.2.filter fun q => !(decide (q.2 % 50 = 0))).map fun q => (q.1, q.2 / 4))
  | 4 => ((f.1 - 3) / 50, f.2.map fun q => (q.1, q.2 / 50))
  | _ => ((f.1 - 203) / 7, f.2.map fun q => (q.1, q.2 / 7))
def aa_fnd (s : aa_S) (avs : List aa_A) (T : aa_T) : aa_Wh → List aa_F → List aa_F
  | [], σ => σ
  | (1, j) :: r, σ => (match T.2.1[j]? with
    | some q => (match aa_sub σ q.1.1, aa_sub σ q.1.2 with
      | some a, some b => (match aa_lk a b s.2.1 with
        | some w => aa_fnd s avs T r (σ ++ [w])
        | none => σ)
      | _, _ => σ)
    | none => σ)
  | (w, k) :: r, σ => (match avs[k]? with
    | some a => aa_fnd s avs T r (σ ++ [aa_cod w a.2])
    | none => σ)
def aa_ids (n k : Nat) : List aa_F := (List.range k).map fun j => aa_id (n + j)
def aa_pfx (e : Nat) (σ : List aa_F) : Bool := (List.range e).all fun i => match σ[i]? with
  | some f => aa_eqf f (aa_id i)
  | none => false
theorem aa_pfx_ok {ν0 ρ τ : List Int} {σ : List aa_F} (h : aa_pfx ν0.length σ = true) (he : aa_evs (ν0 ++ ρ) σ τ) : ∃ ρ', τ = ν0 ++ ρ' := by
  refine ⟨τ.drop ν0.length, ?_⟩
  have key : ∀ i, i < ν0.length → τ[i]? = ν0[i]? := fun i hi => by
    have h1 := List.all_eq_true.mp h i (List.mem_range.mpr hi)
    split at h1
    · rename_i f hf
      have e := aa_eqf_ok h1
      subst e
      obtain ⟨x, e1, e2⟩ := he.2 i _ hf
      have h2 : (ν0 ++ ρ)[i]? = some ν0[i] := by rw [List.getElem?_append_left hi]; exact List.getElem?_eq_getElem hi
      rw [aa_id_ev h2] at e1
      cases e1
      rw [e2]
      exact (List.getElem?_eq_getElem hi).symm
    · cases h1
  have hlen : ν0.length ≤ τ.length := by
    rcases Nat.eq_zero_or_pos ν0.length with h0 | h0
    · omega
    · have := key (ν0.length - 1) (by omega)
      rw [List.getElem?_eq_getElem (show ν0.length - 1 < ν0.length by omega)] at this
      have := (List.getElem?_eq_some_iff.mp this).1
      omega
  refine List.ext_getElem? fun i => ?_
  by_cases hi : i < ν0.length
  · rw [key i hi, List.getElem?_append_left hi]
  · rw [List.getElem?_append_right (by omega), List.getElem?_drop]
    congr 1
    omega
