/-! THE LAW WALKED BY THE ANALYSER: as any method, and the script is read; the name 0 is its length -/
/-- what is read of the script is kept: behind the places of cell 546, which nobody reads -/
def lw_add (s : aa_S) (r : List aa_A) (i f : aa_F) : aa_S := (s.1, (((aa_c 546, aa_plus i 10000), f) :: s.2.1, (s.2.2.1, (1, f) :: r)))
def lw_new (s : aa_S) (r : List aa_A) (i : aa_F) (lo hi : Int) : aa_S := ((s.1.1 ++ [(lo, hi, 0)], s.1.2), (((aa_c 546, aa_plus i 10000), aa_id s.1.1.length) :: s.2.1, (s.2.2.1, (1, aa_id s.1.1.length) :: r)))
def lw_rd (sp : Nat → Bool) (pc : Nat) (s : aa_S) (r : List aa_A) (i : aa_F) : List aa_S := match aa_lk (aa_c 546) (aa_plus i 10000) s.2.1 with
  | some f => [aa_pi s r f]
  | none => if sp pc = true then [lw_add s r i (aa_c 0), lw_add s r i (aa_c 1), lw_new s r i (-2147483648) (-1), lw_new s r i 2 2147483647] else [lw_new s r i (-2147483648) 2147483647]
theorem lw_add_ok {s : aa_S} {ν : List Int} {g : aa_G} {lv : zz_V} {st q : List Value} {r : List aa_A} {i f : aa_F} {j : Nat} {w : Int32} (h : aa_ok s ν g lv st) (hq : aa_ms ν r q) (hj : aa_ev ν (aa_plus i 10000) = some (j : Int)) (hw : g 546 j = w) (hf : aa_ev ν f = some w.toInt) : aa_ok (lw_add s r i f) ν g lv (.int w :: q) :=
  ⟨h.1, h.2.1, aa_vh_cons h.2.2.1 (a := 546) (aa_c_ev) hj hf (by rw [aa_rd_of (by decide), hw]), h.2.2.2.1, ⟨⟨Nat.one_ne_zero, w, rfl, hf⟩, hq⟩⟩
theorem lw_new_ok {s : aa_S} {ν : List Int} {g : aa_G} {lv : zz_V} {st q : List Value} {r : List aa_A} {i : aa_F} {j : Nat} {w : Int32} {lo hi : Int} (h : aa_ok s ν g lv st) (hq : aa_ms ν r q) (hj : aa_ev ν (aa_plus i 10000) = some (j : Int)) (hw : g 546 j = w) (h3 : lo ≤ w.toInt) (h4 : w.toInt ≤ hi) : aa_ok (lw_new s r i lo hi) (ν ++ [w.toInt]) g lv (.int w :: q) := by
  have hn := aa_ok_new h h3 h4 (gr := 0) (fun q => absurd rfl q)
  exact ⟨hn.1, hn.2.1, aa_vh_cons hn.2.2.1 (a := 546) (aa_c_ev) (aa_ev_app hj) (aa_ev_new h.1) (by rw [aa_rd_of (by decide), hw]), hn.2.2.2.1, ⟨⟨Nat.one_ne_zero, w, rfl, aa_ev_new h.1⟩, aa_ms_app hq⟩⟩
theorem lw_rd_ok {sp : Nat → Bool} {pc : Nat} {s : aa_S} {ν : List Int} {g : aa_G} {lv : zz_V} {st q : List Value} {r : List aa_A} {i : aa_F} {j : Nat} {w : Int32} (h : aa_ok s ν g lv st) (hq : aa_ms ν r q) (hj : aa_ev ν (aa_plus i 10000) = some (j : Int)) (hw : g 546 j = w) : ∃ s' ∈ lw_rd sp pc s r i, ∃ ρ, aa_ok s' (ν ++ ρ) g lv (.int w :: q) := by
  unfold lw_rd
  split
  · rename_i f hl
    obtain ⟨a, b, x, e1, e2, e3, e4⟩ := h.2.2.1 _ (aa_lk_ok hl)
    have e1 : aa_ev ν (aa_c 546) = some (a : Int) := e1
    have e2 : aa_ev ν (aa_plus i 10000) = some (b : Int) := e2
    have e3 : aa_ev ν f = some x := e3
    rw [aa_c_ev] at e1
    rw [hj] at e2
    have a1 : a = 546 := by
      have := Option.some.inj e1
      omega
    have a2 : b = j := by
      have := Option.some.inj e2
      omega
    subst a1
    subst a2
    rw [aa_rd_of (by decide), hw] at e4
    exact ⟨_, List.mem_cons_self, [], by rw [List.append_nil]; exact aa_pi_ok h hq (by rw [e3, e4])⟩
  · have r1 := w.le_toInt
    have r2 := w.toInt_lt
    split
    · by_cases c0 : w.toInt = 0
      · exact ⟨_, List.mem_cons_self, [], by rw [List.append_nil]; exact lw_add_ok h hq hj hw (by rw [c0]; exact aa_c_ev)⟩
      by_cases c1 : w.toInt = 1
      · exact ⟨_, List.mem_cons_of_mem _ List.mem_cons_self, [], by rw [List.append_nil]; exact lw_add_ok h hq hj hw (by rw [c1]; exact aa_c_ev)⟩
      by_cases c2 : w.toInt < 0
      · exact ⟨_, List.mem_cons_of_mem _ (List.mem_cons_of_mem _ List.mem_cons_self), _, lw_new_ok h hq hj hw (by omega) (by omega)⟩
      · exact ⟨_, List.mem_cons_of_mem _ (List.mem_cons_of_mem _ (List.mem_cons_of_mem _ List.mem_cons_self)), _, lw_new_ok h hq hj hw (by omega) (by omega)⟩
    · exact ⟨_, List.mem_cons_self, _, lw_new_ok h hq hj hw (by omega) (by omega)⟩
/-- 'sp': places at which what is read is told apart: 0, 1, below, above -/
def aa_nxX (Ks : List aa_K) (ws fr : aa_W) (hk : aa_Hk) (sp : Nat → Bool) (e : zz_I) (pc : Nat) (s : aa_S) : aa_Q := match e.1 with
  | .iaload => (match s.2.2.2 with
    | (1, i) :: (3, f) :: r => if aa_eqf f (aa_c 0) = true then (if 0 ≤ aa_lo s.1.1 s.1.2 i ∧ 1 ≤ aa_lo s.1.1 s.1.2 (aa_add (aa_id 0) i (-1)) then some ((lw_rd sp pc s r i).map fun t => (pc + 1, t)) else none) else aa_nx Ks ws fr hk e pc s
    | _ => none)
  | .arraylength => (match s.2.2.2 with
    | (3, f) :: r => if aa_eqf f (aa_c 0) = true then some [(pc + 1, aa_pi s r (aa_id 0))] else aa_nx Ks ws fr hk e pc s
    | _ => none)
  | _ => aa_nx Ks ws fr hk e pc s
def aa_exX (Ks : List aa_K) (K : aa_K) (fr : aa_W) (hk : aa_Hk) (sp : Nat → Bool) : Nat → Bool → Option aa_F → Nat → aa_S → Bool
  | 0, _, _, _, _ => false
  | n + 1, mv, cur, pc, s => match (if mv = true then aa_cut pc K.2.2.2 else []) with
    | c :: r => (match s.2.2.2 with
      | [] => (c :: r).any fun c => aa_arv K cur s c
      | _ => false)
    | [] => match zz_T K.1.1 pc with
      | none => false
      | some e => match aa_rt K e s with
        | some b => b
        | none => match aa_nxX Ks K.1.2.2 fr hk sp e pc s with
          | none => false
          | some l => l.all fun q => aa_exX Ks K fr hk sp n true cur q.1 q.2
section AX
variable {Φ : aa_G → Prop} {fr : aa_W} {hk : aa_Hk} {Ks : List aa_K} {K : aa_K} {ν0 : List Int} {g0 : aa_G} {L : Nat} {xs : Nat → Int32} {sp : Nat → Bool}
/-- a step or a call: the walk goes on in one of these -/
def aa_onX (Φ : aa_G → Prop) (L : Nat) (xs : Nat → Int32) (ws : aa_W) (m : Nat) (ν : List Int) (g : aa_G) (pc : Nat) (lv : zz_V) (st : List Value) (l : List (Nat × aa_S)) : Prop := ∀ φ : Option Value → zz_H → Prop, (∀ (pc' : Nat) (s' : aa_S) (ρ : List Int) (g' : aa_G) (lv' : zz_V) (st' : List Value), (pc', s') ∈ l → aa_ok s' (ν ++ ρ) g' lv' st' → aa_inv g' → Φ g' → aa_fr ws g g' → zz_fin (some (L, xs)) m (pc', lv', st', aa_H g') φ) → zz_fin (some (L, xs)) m (pc, lv, st, aa_H g) φ
theorem aa_on_stX (hG : aa_good Φ fr hk) {ws : aa_W} {m : Nat} {e : zz_I} {pc : Nat} (hT : zz_T m pc = some e) {s : aa_S} {ν : List Int} {g : aa_G} {lv : zz_V} {st : List Value} (hs : aa_ok s ν g lv st) (hi : aa_inv g) (hφ : Φ g) {l : List (Nat × aa_S)} (hl : aa_st ws fr hk e pc s = some l) : aa_onX Φ L xs ws m ν g pc lv st l := fun φ k => by
  obtain ⟨pc', lv', st', g', h1, ⟨s', ρ, h2, h3⟩, h4, h5, h6⟩ := aa_st_ok hG (rt := zz_rt m) hs hi l hl
  exact zz_fin.step1 hT (zz_step_X h1) (k pc' s' ρ g' lv' st' h2 h3 h4 (h6 hφ) h5)
theorem aa_on_tryX (hKs : ∀ K ∈ Ks, aa_met Φ K) {ws : aa_W} {m m2 : Nat} {e : zz_I} {pc : Nat} (hT : zz_T m pc = some e) {s : aa_S} {ν : List Int} {g : aa_G} {lv : zz_V} {st as q : List Value} {avs rest : List aa_A} (hs : aa_ok s ν g lv st) (hi : aa_inv g) (hφ : Φ g) (ha : aa_ms ν avs as) (hr : aa_ms ν rest q) {l : List aa_S} (hl : aa_try ws s m2 avs rest Ks = some l) (hstep : (q.map fun v => v.category).sum ≤ 8 → zz_step none zz_us (zz_rt m) e pc lv st (aa_H g) = some (.inr (.inr (m2, as, q)))) : aa_onX Φ L xs ws m ν g pc lv st (l.map fun t => (pc + 3, t)) := fun φ k => by
  obtain ⟨K', hK', rfl, e1⟩ := aa_try_ok hl
  obtain ⟨k1, k2, k3⟩ := aa_app_ok hs hi hφ ha hr (hKs K' hK') e1
  refine zz_fin.call hT (zz_step_X (hstep k1)) k2 (zz_finX k3) ?_
  rintro v h' ⟨g', rfl, g1, g2, g3, s', hs', ρ, h3⟩
  exact k (pc + 3) s' ρ g' lv (v.toList ++ q) (List.mem_map.mpr ⟨s', hs', rfl⟩) h3 g1 g2 g3
theorem aa_on_csX (hKs : ∀ K ∈ Ks, aa_met Φ K) {ws : aa_W} {m m2 n i : Nat} {u w : Nat} {v : Value} {sw : List (Int × Nat)} {pc : Nat} (hT : zz_T m pc = some (.invokestatic i, (m2, n, u, w), v, sw)) (hm : m2 < 100000) {s : aa_S} {ν : List Int} {g : aa_G} {lv : zz_V} {st : List Value} (hs : aa_ok s ν g lv st) (hi : aa_inv g) (hφ : Φ g) {l : List (Nat × aa_S)} (hl : aa_calls Ks ws (pc + 3) s m2 n = some l) : aa_onX Φ L xs ws m ν g pc lv st l := by
  unfold aa_calls at hl
  split at hl
  · rename_i hn
    split at hl
    · rename_i l' hl'
      cases hl
      refine aa_on_tryX hKs hT hs hi hφ (aa_ms_rev (aa_ms_take n hs.2.2.2.2)) (aa_ms_drop n hs.2.2.2.2) hl' fun h8 => ?_
      show (if m2 < 100000 then zz_cs m2 n st else _) = _
      rw [if_pos hm]
      unfold zz_cs zz_call
      rw [if_pos (by rw [aa_ms_len hs.2.2.2.2]; exact hn), if_pos h8]
    · cases hl
  · cases hl
theorem aa_on_cvX (hKs : ∀ K ∈ Ks, aa_met Φ K) {ws : aa_W} {m m2 n u : Nat} {e : zz_I} {pc : Nat} {s : aa_S} {ν : List Int} {g : aa_G} {lv : zz_V} {st : List Value} (hT : zz_T m pc = some e) (he : zz_step none zz_us (zz_rt m) e pc lv st (aa_H g) = zz_cv m2 n u st (aa_H g)) (hs : aa_ok s ν g lv st) (hi : aa_inv g) (hφ : Φ g) {l : List (Nat × aa_S)} (hl : aa_callv Ks ws (pc + 3) s m2 n u = some l) : aa_onX Φ L xs ws m ν g pc lv st l := by
  unfold aa_callv at hl
  split at hl
  · rename_i f r hd
    have hm := aa_ms_drop n hs.2.2.2.2
    rw [hd] at hm
    obtain ⟨k, q, hq, h2, h3⟩ := aa_ms_ref hm
    split at hl
    · cases hl
    · rename_i hg
      have hg : aa_gp s.1.1 f ≠ 0 := fun z => hg (by rw [z]; rfl)
      have hgc := aa_gp_ok hs.1 h2 hg
      have hk0 := (aa_fit_at (k := k) (by rw [hgc]; exact hg)).2.1
      split at hl
      · rename_i c n' ts hgi
        split at hl
        · rename_i hc
          obtain ⟨hc, hn⟩ := hc
          have e1 := Nat.eq_of_beq_eq_true hc
          subst e1
          obtain ⟨fs, hly, hob, hsl⟩ := aa_obj g (k := k) (by rw [hgc]; exact hg) (by rw [hgc]; exact hgi)
          obtain ⟨k', rfl⟩ : ∃ k', k = k' + 1 := ⟨k - 1, by omega⟩
          split at hl
          · rename_i l' hl'
            cases hl
            refine aa_on_tryX (avs := (3, f) :: (s.2.2.2.take n).reverse) hKs hT hs hi hφ (as := .ref (k' + 1) :: (st.take n).reverse) ⟨⟨Nat.succ_ne_zero _, k' + 1, rfl, h2⟩, aa_ms_rev (aa_ms_take n hs.2.2.2.2)⟩ h3 hl' fun h8 => ?_
            rw [he]
            unfold zz_cv zz_call
            rw [hq]
            dsimp only
            rw [if_pos ⟨by rw [aa_ms_len hs.2.2.2.2]; exact hn, by rw [hob]; rfl⟩, if_pos h8]
          · cases hl
        · cases hl
      · cases hl
  · cases hl
theorem aa_nx_okX (hG : aa_good Φ fr hk) (hKs : ∀ K ∈ Ks, aa_met Φ K) {ws : aa_W} {m : Nat} {e : zz_I} {pc : Nat} (hT : zz_T m pc = some e) {s : aa_S} {ν : List Int} {g : aa_G} {lv : zz_V} {st : List Value} (hs : aa_ok s ν g lv st) (hi : aa_inv g) (hφ : Φ g) {l : List (Nat × aa_S)} (hl : aa_nx Ks ws fr hk e pc s = some l) : aa_onX Φ L xs ws m ν g pc lv st l := by
  obtain ⟨i, ⟨x, y, u, w⟩, v, sw⟩ := e
  cases i with
  | invokestatic n =>
    have hl : (if x < 100000 then aa_calls Ks ws (pc + 3) s x y else aa_st ws fr hk (.invokestatic n, (x, y, u, w), v, sw) pc s) = some l := hl
    split at hl
    · exact aa_on_csX hKs hT (by assumption) hs hi hφ hl
    · exact aa_on_stX hG hT hs hi hφ hl
  | invokevirtual n => exact aa_on_cvX (m2 := x) (n := y) (u := u) hKs hT rfl hs hi hφ hl
  | invokespecial n =>
    have hl : (if x = 100000 then aa_st ws fr hk (.invokespecial n, (x, y, u, w), v, sw) pc s else aa_callv Ks ws (pc + 3) s x y u) = some l := hl
    split at hl
    · exact aa_on_stX hG hT hs hi hφ hl
    · rename_i hx
      refine aa_on_cvX (m2 := x) (n := y) (u := u) hKs hT ?_ hs hi hφ hl
      show (if x = 100000 then _ else zz_cv x y u st (aa_H g)) = _
      rw [if_neg hx]
  | _ => exact aa_on_stX hG hT hs hi hφ hl
theorem aa_nxX_ok (hL : L < 2147483648) (hG : aa_good Φ fr hk) (hKs : ∀ K ∈ Ks, aa_met Φ K) {ws : aa_W} {m : Nat} {e : zz_I} {pc : Nat} (hT : zz_T m pc = some e) {s : aa_S} {ν : List Int} (h0 : ν[0]? = some (L : Int)) {g : aa_G} (hx : ∀ j, j < L → g 546 (10000 + j) = xs j) {lv : zz_V} {st : List Value} (hs : aa_ok s ν g lv st) (hi : aa_inv g) (hφ : Φ g) {l : List (Nat × aa_S)} (hl : aa_nxX Ks ws fr hk sp e pc s = some l) : aa_onX Φ L xs ws m ν g pc lv st l := by
  obtain ⟨i, ⟨x, y, u, w⟩, v, sw⟩ := e
  unfold aa_nxX at hl
  dsimp only at hl
  split at hl
  · split at hl
    · rename_i a f r hst
      split at hl
      · rename_i hz
        have hz := aa_eqf_ok hz
        subst hz
        split at hl
        · rename_i hc
          have hm := hs.2.2.2.2
          rw [hst] at hm
          obtain ⟨z, q, rfl, z1, h2⟩ := aa_ms_int hm
          obtain ⟨k, q, rfl, z2, h3⟩ := aa_ms_ref h2
          rw [aa_c_ev] at z2
          have hk0 : k = 0 := by
            have := Option.some.inj z2
            omega
          subst hk0
          have b1 := aa_lo_ok hs.1 hs.2.1 z1
          have b2 := aa_lo_ok hs.1 hs.2.1 (aa_add_ev (k := -1) (aa_id_ev h0) z1)
          have hin : zz_inb z L = true := aa_inb (by omega) (by omega)
          have hz0 : 0 ≤ z.toInt := by omega
          have hzn : ((10000 + z.toNatClampNeg : Nat) : Int) = z.toInt + 10000 := by
            have e : z.toNatClampNeg = z.toInt.toNat := rfl
            omega
          obtain ⟨s', hs', ρ, h5⟩ := lw_rd_ok (sp := sp) (pc := pc) (w := xs z.toNatClampNeg) hs h3 (j := 10000 + z.toNatClampNeg) (by rw [hzn]; exact aa_plus_ev z1) (hx _ (by have e : z.toNatClampNeg = z.toInt.toNat := rfl; omega))
          cases hl
          intro φ k
          refine zz_fin.step1 hT ?_ (k (pc + 1) s' ρ g lv _ (List.mem_map.mpr ⟨s', hs', rfl⟩) h5 hi hφ aa_fr.rf)
          show zz_ial (some (L, xs)) pc lv (.int z :: .ref 0 :: q) (aa_H g) = _
          unfold zz_ial
          dsimp only
          rw [if_pos hin]
          rfl
        · cases hl
      · exact aa_nx_okX hG hKs hT hs hi hφ hl
    · cases hl
  · split at hl
    · rename_i f r hst
      split at hl
      · rename_i hz
        have hz := aa_eqf_ok hz
        subst hz
        cases hl
        have hm := hs.2.2.2.2
        rw [hst] at hm
        obtain ⟨k, q, rfl, z2, h3⟩ := aa_ms_ref hm
        rw [aa_c_ev] at z2
        have hk0 : k = 0 := by
          have := Option.some.inj z2
          omega
        subst hk0
        intro φ k
        have hw : (Int32.ofNat L).toInt = L := zz_ofN hL
        refine zz_fin.step1 hT ?_ (k (pc + 1) _ [] g lv (.int (Int32.ofNat L) :: q) List.mem_cons_self (by rw [List.append_nil]; exact aa_pi_ok hs h3 (by rw [hw]; exact aa_id_ev h0)) hi hφ aa_fr.rf)
        rfl
      · exact aa_nx_okX hG hKs hT hs hi hφ hl
    · cases hl
  · exact aa_nx_okX hG hKs hT hs hi hφ hl
/-- at this place of a loop, with so much left -/
def aa_hereX (Φ : aa_G → Prop) (L : Nat) (xs : Nat → Int32) (K : aa_K) (ν0 : List Int) (g0 : aa_G) (c : Nat × (aa_T × aa_Wh) × aa_F) (y : Int) : Prop := ∀ (τ : List Int) (g : aa_G) (lv : zz_V), aa_vb c.2.1.1.1.1 τ → aa_vc c.2.1.1.1.2 τ → aa_vh c.2.1.1.2.1 τ g → aa_ml τ c.2.1.1.2.2 lv → aa_at Φ K ν0 g0 τ g → aa_ev τ c.2.2 = some y → zz_fin (some (L, xs)) K.1.1 (c.1, lv, [], aa_H g) (aa_post Φ K ν0 g0)
theorem aa_arvX_ok (hν0 : ν0.length = K.1.2.1) {cur : Option aa_F} {s : aa_S} {c : Nat × (aa_T × aa_Wh) × aa_F} {ν : List Int} {g : aa_G} {lv : zz_V} {st : List Value} {b : Int} (h : aa_ok s ν g lv st) (ha : aa_at Φ K ν0 g0 ν g) (hb : ∀ f, cur = some f → aa_ev ν f = some b) (hc : ∀ y, 0 ≤ y → (∀ f, cur = some f → y < b) → aa_hereX Φ L xs K ν0 g0 c y) (e : aa_arv K cur s c = true) : zz_fin (some (L, xs)) K.1.1 (c.1, lv, [], aa_H g) (aa_post Φ K ν0 g0) := by
  unfold aa_arv at e
  dsimp only at e
  generalize hσ : aa_fnd s s.2.2.1 c.2.1.1 c.2.1.2 (aa_ids 0 K.1.2.1) = σ at e
  simp only [Bool.and_eq_true] at e
  obtain ⟨e1, e2, e3⟩ := e
  obtain ⟨τ, t1, t2, t3, t4, t5⟩ := aa_mt_ok h.1 h.2.1 h.2.2.1 e1
  obtain ⟨⟨ρ0, rfl⟩, a1, a2, a3⟩ := ha
  rw [← hν0] at e2
  obtain ⟨ρ, rfl⟩ := aa_pfx_ok e2 t1
  split at e3
  · cases e3
  · rename_i μ hμ
    rw [Bool.and_eq_true, decide_eq_true_eq] at e3
    obtain ⟨y, y1, y2⟩ := aa_sub_ok t1 hμ
    have b1 := aa_lo_ok h.1 h.2.1 y2
    refine hc y (by omega) ?_ _ g lv t2 t3 t4 (aa_mav_ml t1 t5 h.2.2.2.1) ⟨⟨ρ, rfl⟩, a1, a2, a3⟩ y1
    rintro f rfl
    have b2 := aa_lo_ok h.1 h.2.1 (aa_add_ev (k := -1) (hb f rfl) y2)
    have b3 := of_decide_eq_true e3.2
    omega
theorem aa_exX_ok (hL : L < 2147483648) (hLν : ν0[0]? = some (L : Int)) (hx0 : ∀ j, j < L → g0 546 (10000 + j) = xs j) (hws : ∀ w ∈ K.1.2.2, w.1 = 41 → w.2.2 < 10000) (hG : aa_good Φ fr hk) (hKs : ∀ K ∈ Ks, aa_met Φ K) (hν0 : ν0.length = K.1.2.1) {b : Int} : ∀ (n : Nat) (mv : Bool) (cur : Option aa_F) (pc : Nat) (s : aa_S) (ν : List Int) (g : aa_G) (lv : zz_V) (st : List Value), aa_exX Ks K fr hk sp n mv cur pc s = true → aa_ok s ν g lv st → aa_at Φ K ν0 g0 ν g → (∀ f, cur = some f → aa_ev ν f = some b) → (∀ c ∈ K.2.2.2, ∀ y, 0 ≤ y → (∀ f, cur = some f → y < b) → aa_hereX Φ L xs K ν0 g0 c y) → zz_fin (some (L, xs)) K.1.1 (pc, lv, st, aa_H g) (aa_post Φ K ν0 g0)
  | 0, _, _, _, _, _, _, _, _, h, _, _, _, _ => by cases h
  | n + 1, mv, cur, pc, s, ν, g, lv, st, e, h, ha, hb, hc => by
    rw [aa_exX] at e
    split at e
    · rename_i c r hcut
      have hmem : ∀ c' ∈ c :: r, c' ∈ K.2.2.2 ∧ c'.1 = pc := fun c' hc' => by
        rw [← hcut] at hc'
        cases mv with
        | false => cases hc'
        | true =>
          obtain ⟨k1, k2⟩ := List.mem_filter.mp hc'
          exact ⟨k1, Nat.eq_of_beq_eq_true k2⟩
      split at e
      · rename_i hst
        obtain ⟨c', hc', e1⟩ := List.any_eq_true.mp e
        obtain ⟨m1, m2⟩ := hmem c' hc'
        have hm := h.2.2.2.2
        rw [hst] at hm
        cases st with
        | cons v q => exact hm.elim
        | nil =>
          rw [← m2]
          exact aa_arvX_ok hν0 h ha hb (hc c' m1) e1
      · cases e
    · split at e
      · cases e
      · rename_i i hT
        split at e
        · rename_i bb hrt
          subst e
          have hm := h.2.2.2.2
          obtain ⟨i, ⟨x, y, u, w⟩, v, sw⟩ := i
          unfold aa_rt at hrt
          dsimp only at hrt
          split at hrt
          · have hrt := Option.some.inj hrt
            split at hrt
            · rename_i f hst
              rw [hst] at hm
              obtain ⟨a, q, rfl, h1, h2⟩ := aa_ms_int hm
              cases q with
              | cons _ _ => exact h2.elim
              | nil =>
                split at hrt
                · rename_i hr
                  have hr := Nat.eq_of_beq_eq_true hr
                  refine zz_fin.ret (v := some (.int a)) (q := pc) hT ?_ (aa_exit_ok (avs := [(1, f)]) hν0 h ha ⟨Nat.one_ne_zero, a, rfl, h1⟩ hrt)
                  show (if zz_rt K.1.1 = 1 ∨ (zz_rt K.1.1 = 2 ∧ (a = 0 ∨ a = 1)) then _ else none) = _
                  rw [if_pos (.inl hr)]
                · simp only [Bool.and_eq_true, decide_eq_true_eq] at hrt
                  obtain ⟨r1, r2, r3, r4, r5⟩ := hrt
                  have hr := Nat.eq_of_beq_eq_true r1
                  have b1 := aa_lo_ok h.1 h.2.1 h1
                  have b2 := aa_hi_ok h.1 h.2.1 h1
                  have key : ∀ z : Int32, a = z → aa_exz K s f z.toInt = true → aa_post Φ K ν0 g0 (some (.int a)) (aa_H g) := fun z hz hx => by
                    subst hz
                    unfold aa_exz at hx
                    obtain ⟨s', e3, h3⟩ := aa_as2_ok h (f := aa_plus f (-a.toInt)) (by rw [aa_plus_ev h1, Int.add_right_neg])
                    rw [e3] at hx
                    exact aa_exit_ok (avs := [(1, aa_c a.toInt)]) hν0 h3 ha ⟨Nat.one_ne_zero, a, rfl, aa_c_ev⟩ hx
                  have h01 : a = 0 ∨ a = 1 := by
                    rcases (show a.toInt = 0 ∨ a.toInt = 1 by omega) with z | z
                    · exact .inl (Int32.toInt_inj.mp z)
                    · exact .inr (Int32.toInt_inj.mp z)
                  refine zz_fin.ret (v := some (.int a)) (q := pc) (h' := aa_H g) hT ?_ ?_
                  · show (if zz_rt K.1.1 = 1 ∨ (zz_rt K.1.1 = 2 ∧ (a = 0 ∨ a = 1)) then _ else none) = _
                    rw [if_pos (.inr ⟨hr, h01⟩)]
                  · rcases h01 with z | z
                    · exact key 0 z r4
                    · exact key 1 z r5
            · cases hrt
          · have hrt := Option.some.inj hrt
            split at hrt
            · rename_i f hst
              rw [Bool.and_eq_true] at hrt
              have hr := Nat.eq_of_beq_eq_true hrt.1
              rw [hst] at hm
              obtain ⟨a, q, rfl, h1, h2⟩ := aa_ms_ref hm
              cases q with
              | cons _ _ => exact h2.elim
              | nil =>
                refine zz_fin.ret (v := some (.ref a)) (q := pc) hT ?_ (aa_exit_ok (avs := [(3, f)]) hν0 h ha ⟨Nat.succ_ne_zero _, a, rfl, h1⟩ hrt.2)
                show (if zz_rt K.1.1 = 3 then _ else none) = _
                rw [if_pos hr]
            · rename_i f hst
              rw [Bool.and_eq_true] at hrt
              have hr := Nat.eq_of_beq_eq_true hrt.1
              rw [hst] at hm
              obtain ⟨q, rfl, h2⟩ := aa_ms_null hm
              cases q with
              | cons _ _ => exact h2.elim
              | nil =>
                refine zz_fin.ret (v := some .null) (q := pc) hT ?_ (aa_exit_ok (avs := [(4, f)]) hν0 h ha ⟨Nat.succ_ne_zero _, rfl⟩ hrt.2)
                show (if zz_rt K.1.1 = 3 then _ else none) = _
                rw [if_pos hr]
            · cases hrt
          · have hrt := Option.some.inj hrt
            split at hrt
            · rename_i hst
              rw [Bool.and_eq_true] at hrt
              have hr := Nat.eq_of_beq_eq_true hrt.1
              rw [hst] at hm
              cases st with
              | cons _ _ => exact hm.elim
              | nil =>
                refine zz_fin.ret (v := none) (q := pc) hT ?_ (aa_exit_ok (avs := []) hν0 h ha trivial hrt.2)
                show (if zz_rt K.1.1 = 0 then _ else none) = _
                rw [if_pos hr]
            · cases hrt
          · cases hrt
        · split at e
          · cases e
          · rename_i l hl
            have hν1 : ν[0]? = some (L : Int) := by
              obtain ⟨⟨ρ0, rfl⟩, -⟩ := ha
              rw [List.getElem?_append_left (List.getElem?_eq_some_iff.mp hLν).1]
              exact hLν
            have hx1 : ∀ j, j < L → g 546 (10000 + j) = xs j := fun j hj => by
              rcases ha.2.2.2.1 546 (10000 + j) with e | ⟨w, hw, w1, w2, w3⟩
              · exact e.trans (hx0 j hj)
              · have := hws w hw w1
                omega
            refine aa_nxX_ok hL hG hKs hT hν1 hx1 h ha.2.1 ha.2.2.1 hl _ fun pc' s' ρ g' lv' st' h1 h2 h3 h4 h5 => ?_
            have e1 := List.all_eq_true.mp e _ h1
            obtain ⟨⟨ρ0, rfl⟩, a1, a2, a3⟩ := ha
            exact aa_exX_ok hL hLν hx0 hws hG hKs hν0 n true cur pc' s' _ g' lv' st' e1 h2 ⟨⟨ρ0 ++ ρ, by rw [List.append_assoc]⟩, h3, h4, a3.tr h5⟩ (fun f hf => aa_ev_app (hb f hf)) hc
end AX
theorem aa_chkX_ok {Φ : aa_G → Prop} {fr : aa_W} {hk : aa_Hk} {sp : Nat → Bool} {Ks : List aa_K} {K : aa_K} {L : Nat} {xs : Nat → Int32} (hL : L < 2147483648) {ν0 : List Int} (hLν : ν0[0]? = some (L : Int)) (hν0 : ν0.length = K.1.2.1) (hG : aa_good Φ fr hk) (hKs : ∀ K ∈ Ks, aa_met Φ K) {n : Nat} {g0 : aa_G} (hx0 : ∀ j, j < L → g0 546 (10000 + j) = xs j) (hws : ∀ w ∈ K.1.2.2, w.1 = 41 → w.2.2 < 10000) (h4 : ∀ c ∈ K.2.2.2, aa_exX Ks K fr hk sp n false (some c.2.2) c.1 (c.2.1.1.1, (c.2.1.1.2.1, (c.2.1.1.2.2, []))) = true) : ∀ c ∈ K.2.2.2, ∀ y : Int, 0 ≤ y → aa_hereX Φ L xs K ν0 g0 c y := by
  have loop : ∀ (N : Nat), ∀ c ∈ K.2.2.2, ∀ y : Int, 0 ≤ y → y < N → aa_hereX Φ L xs K ν0 g0 c y := by
    intro N
    induction N with
    | zero => intro c _ y q1 q2; omega
    | succ N ih =>
      intro c hc y q1 q2 τ g lv t1 t2 t3 t4 t5 t6
      refine aa_exX_ok (b := y) hL hLν hx0 hws hG hKs hν0 n false (some c.2.2) c.1 _ τ g lv [] (h4 c hc) ⟨t1, t2, t3, t4, trivial⟩ t5 (fun f hf => by cases hf; exact t6) ?_
      intro c' hc' y' p1 p2
      have := p2 _ rfl
      exact ih c' hc' y' p1 (by omega)
  intro c hc y p1
  exact loop (y.toNat + 1) c hc y p1 (by omega)
