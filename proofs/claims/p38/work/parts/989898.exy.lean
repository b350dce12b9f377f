/-! THE LAW'S WALK, with any end -/
section AY
variable {Φ : aa_G → Prop} {fr : aa_W} {hk : aa_Hk} {Ks : List aa_K} {K : aa_K} {ν0 : List Int} {g0 : aa_G} {L : Nat} {xs : Nat → Int32} {sp : Nat → Bool} {φ : Option Value → zz_H → Prop}
/-- at this place of a loop, with so much left: an end is come to -/
def aa_hereY (Φ : aa_G → Prop) (L : Nat) (xs : Nat → Int32) (K : aa_K) (ν0 : List Int) (g0 : aa_G) (φ : Option Value → zz_H → Prop) (c : Nat × (aa_T × aa_Wh) × aa_F) (y : Int) : Prop := ∀ (τ : List Int) (g : aa_G) (lv : zz_V), aa_vb c.2.1.1.1.1 τ → aa_vc c.2.1.1.1.2 τ → aa_vh c.2.1.1.2.1 τ g → aa_ml τ c.2.1.1.2.2 lv → aa_at Φ K ν0 g0 τ g → aa_ev τ c.2.2 = some y → zz_fin (some (L, xs)) K.1.1 (c.1, lv, [], aa_H g) φ
theorem aa_arvY_ok (hν0 : ν0.length = K.1.2.1) {cur : Option aa_F} {s : aa_S} {c : Nat × (aa_T × aa_Wh) × aa_F} {ν : List Int} {g : aa_G} {lv : zz_V} {st : List Value} {b : Int} (h : aa_ok s ν g lv st) (ha : aa_at Φ K ν0 g0 ν g) (hb : ∀ f, cur = some f → aa_ev ν f = some b) (hc : ∀ y, 0 ≤ y → (∀ f, cur = some f → y < b) → aa_hereY Φ L xs K ν0 g0 φ c y) (e : aa_arv K cur s c = true) : zz_fin (some (L, xs)) K.1.1 (c.1, lv, [], aa_H g) φ := by
  unfold aa_arv at e
  dsimp only at e
  generalize hσ : aa_fnd s s.2.2.1 c.2.1.1 c.2.1.2 (aa_ids 0 K.1.2.1) = σ at e
  simp only [Bool.and_eq_true] at e
  obtain ⟨e1, e2, e3⟩ := e
  obtain ⟨τ, t1, t2, t3, t4, t5⟩ := aa_mt_ok h.1 h.2.1 h.2.2.1 e1
  obtain ⟨⟨ρ0, rfl⟩, a1, a2, a3⟩ := ha
  rw [← hν0] at e2
  obtain ⟨ρ, rfl⟩ := aa_pfx_ok e2 t1
  split at e3
  · cases e3
  · rename_i μ hμ
    rw [Bool.and_eq_true, decide_eq_true_eq] at e3
    obtain ⟨y, y1, y2⟩ := aa_sub_ok t1 hμ
    have b1 := aa_lo_ok h.1 h.2.1 y2
    refine hc y (by omega) ?_ _ g lv t2 t3 t4 (aa_mav_ml t1 t5 h.2.2.2.1) ⟨⟨ρ, rfl⟩, a1, a2, a3⟩ y1
    rintro f rfl
    have b2 := aa_lo_ok h.1 h.2.1 (aa_add_ev (k := -1) (hb f rfl) y2)
    have b3 := of_decide_eq_true e3.2
    omega
theorem aa_exY_ok (hφq : ∀ v h, aa_post Φ K ν0 g0 v h → φ v h) (hL : L < 2147483648) (hLν : ν0[0]? = some (L : Int)) (hx0 : ∀ j, j < L → g0 546 (10000 + j) = xs j) (hws : ∀ w ∈ K.1.2.2, w.1 = 41 → w.2.2 < 10000) (hG : aa_good Φ fr hk) (hKs : ∀ K ∈ Ks, aa_met Φ K) (hν0 : ν0.length = K.1.2.1) {b : Int} : ∀ (n : Nat) (mv : Bool) (cur : Option aa_F) (pc : Nat) (s : aa_S) (ν : List Int) (g : aa_G) (lv : zz_V) (st : List Value), aa_exX Ks K fr hk sp n mv cur pc s = true → aa_ok s ν g lv st → aa_at Φ K ν0 g0 ν g → (∀ f, cur = some f → aa_ev ν f = some b) → (∀ c ∈ K.2.2.2, ∀ y, 0 ≤ y → (∀ f, cur = some f → y < b) → aa_hereY Φ L xs K ν0 g0 φ c y) → zz_fin (some (L, xs)) K.1.1 (pc, lv, st, aa_H g) φ
  | 0, _, _, _, _, _, _, _, _, h, _, _, _, _ => by cases h
  | n + 1, mv, cur, pc, s, ν, g, lv, st, e, h, ha, hb, hc => by
    rw [aa_exX] at e
    split at e
    · rename_i c r hcut
      have hmem : ∀ c' ∈ c :: r, c' ∈ K.2.2.2 ∧ c'.1 = pc := fun c' hc' => by
        rw [← hcut] at hc'
        cases mv with
        | false => cases hc'
        | true =>
          obtain ⟨k1, k2⟩ := List.mem_filter.mp hc'
          exact ⟨k1, Nat.eq_of_beq_eq_true k2⟩
      split at e
      · rename_i hst
        obtain ⟨c', hc', e1⟩ := List.any_eq_true.mp e
        obtain ⟨m1, m2⟩ := hmem c' hc'
        have hm := h.2.2.2.2
        rw [hst] at hm
        cases st with
        | cons v q => exact hm.elim
        | nil =>
          rw [← m2]
          exact aa_arvY_ok hν0 h ha hb (hc c' m1) e1
      · cases e
    · split at e
      · cases e
      · rename_i i hT
        split at e
        · rename_i bb hrt
          subst e
          have hm := h.2.2.2.2
          obtain ⟨i, ⟨x, y, u, w⟩, v, sw⟩ := i
          unfold aa_rt at hrt
          dsimp only at hrt
          split at hrt
          · have hrt := Option.some.inj hrt
            split at hrt
            · rename_i f hst
              rw [hst] at hm
              obtain ⟨a, q, rfl, h1, h2⟩ := aa_ms_int hm
              cases q with
              | cons _ _ => exact h2.elim
              | nil =>
                split at hrt
                · rename_i hr
                  have hr := Nat.eq_of_beq_eq_true hr
                  refine zz_fin.ret (v := some (.int a)) (q := pc) hT ?_ (hφq _ _ (aa_exit_ok (avs := [(1, f)]) hν0 h ha ⟨Nat.one_ne_zero, a, rfl, h1⟩ hrt))
                  show (if zz_rt K.1.1 = 1 ∨ (zz_rt K.1.1 = 2 ∧ (a = 0 ∨ a = 1)) then _ else none) = _
                  rw [if_pos (.inl hr)]
                · simp only [Bool.and_eq_true, decide_eq_true_eq] at hrt
                  obtain ⟨r1, r2, r3, r4, r5⟩ := hrt
                  have hr := Nat.eq_of_beq_eq_true r1
                  have b1 := aa_lo_ok h.1 h.2.1 h1
                  have b2 := aa_hi_ok h.1 h.2.1 h1
                  have key : ∀ z : Int32, a = z → aa_exz K s f z.toInt = true → φ (some (.int a)) (aa_H g) := fun z hz hx => by
                    subst hz
                    unfold aa_exz at hx
                    obtain ⟨s', e3, h3⟩ := aa_as2_ok h (f := aa_plus f (-a.toInt)) (by rw [aa_plus_ev h1, Int.add_right_neg])
                    rw [e3] at hx
                    exact hφq _ _ (aa_exit_ok (avs := [(1, aa_c a.toInt)]) hν0 h3 ha ⟨Nat.one_ne_zero, a, rfl, aa_c_ev⟩ hx)
                  have h01 : a = 0 ∨ a = 1 := by
                    rcases (show a.toInt = 0 ∨ a.toInt = 1 by omega) with z | z
                    · exact .inl (Int32.toInt_inj.mp z)
                    · exact .inr (Int32.toInt_inj.mp z)
                  refine zz_fin.ret (v := some (.int a)) (q := pc) (h' := aa_H g) hT ?_ ?_
                  · show (if zz_rt K.1.1 = 1 ∨ (zz_rt K.1.1 = 2 ∧ (a = 0 ∨ a = 1)) then _ else none) = _
                    rw [if_pos (.inr ⟨hr, h01⟩)]
                  · rcases h01 with z | z
                    · exact key 0 z r4
                    · exact key 1 z r5
            · cases hrt
          · have hrt := Option.some.inj hrt
            split at hrt
            · rename_i f hst
              rw [Bool.and_eq_true] at hrt
              have hr := Nat.eq_of_beq_eq_true hrt.1
              rw [hst] at hm
              obtain ⟨a, q, rfl, h1, h2⟩ := aa_ms_ref hm
              cases q with
              | cons _ _ => exact h2.elim
              | nil =>
                refine zz_fin.ret (v := some (.ref a)) (q := pc) hT ?_ (hφq _ _ (aa_exit_ok (avs := [(3, f)]) hν0 h ha ⟨Nat.succ_ne_zero _, a, rfl, h1⟩ hrt.2))
                show (if zz_rt K.1.1 = 3 then _ else none) = _
                rw [if_pos hr]
            · rename_i f hst
              rw [Bool.and_eq_true] at hrt
              have hr := Nat.eq_of_beq_eq_true hrt.1
              rw [hst] at hm
              obtain ⟨q, rfl, h2⟩ := aa_ms_null hm
              cases q with
              | cons _ _ => exact h2.elim
              | nil =>
                refine zz_fin.ret (v := some .null) (q := pc) hT ?_ (hφq _ _ (aa_exit_ok (avs := [(4, f)]) hν0 h ha ⟨Nat.succ_ne_zero _, rfl⟩ hrt.2))
                show (if zz_rt K.1.1 = 3 then _ else none) = _
                rw [if_pos hr]
            · cases hrt
          · have hrt := Option.some.inj hrt
            split at hrt
            · rename_i hst
              rw [Bool.and_eq_true] at hrt
              have hr := Nat.eq_of_beq_eq_true hrt.1
              rw [hst] at hm
              cases st with
              | cons _ _ => exact hm.elim
              | nil =>
                refine zz_fin.ret (v := none) (q := pc) hT ?_ (hφq _ _ (aa_exit_ok (avs := []) hν0 h ha trivial hrt.2))
                show (if zz_rt K.1.1 = 0 then _ else none) = _
                rw [if_pos hr]
            · cases hrt
          · cases hrt
        · split at e
          · cases e
          · rename_i l hl
            have hν1 : ν[0]? = some (L : Int) := by
              obtain ⟨⟨ρ0, rfl⟩, -⟩ := ha
              rw [List.getElem?_append_left (List.getElem?_eq_some_iff.mp hLν).1]
              exact hLν
            have hx1 : ∀ j, j < L → g 546 (10000 + j) = xs j := fun j hj => by
              rcases ha.2.2.2.1 546 (10000 + j) with e | ⟨w, hw, w1, w2, w3⟩
              · exact e.trans (hx0 j hj)
              · have := hws w hw w1
                omega
            refine aa_nxX_ok hL hG hKs hT hν1 hx1 h ha.2.1 ha.2.2.1 hl _ fun pc' s' ρ g' lv' st' h1 h2 h3 h4 h5 => ?_
            have e1 := List.all_eq_true.mp e _ h1
            obtain ⟨⟨ρ0, rfl⟩, a1, a2, a3⟩ := ha
            exact aa_exY_ok hφq hL hLν hx0 hws hG hKs hν0 n true cur pc' s' _ g' lv' st' e1 h2 ⟨⟨ρ0 ++ ρ, by rw [List.append_assoc]⟩, h3, h4, a3.tr h5⟩ (fun f hf => aa_ev_app (hb f hf)) hc
end AY
