/-! AN ANALYSER OF METHODS: cells -/
abbrev aa_W : Type := List (Nat × Int × Int)
def aa_H (g : aa_G) : zz_H := (zz_hs.1, (zz_ly, g))
theorem aa_fit_at {k : Nat} (h : aa_gc k ≠ 0) : k ≤ zz_hs.1.1 ∧ k ≠ 0 ∧ aa_fit (zz_ly k) (aa_gi (aa_gc k)) = true := by
  have h1 : k ≤ zz_hs.1.1 := by
    by_cases hk : k ≤ zz_hs.1.1
    · exact hk
    · refine absurd ?_ h
      unfold aa_gc
      rw [show Nat.ble k 553 = false from by
        cases e : Nat.ble k 553 with
        | false => rfl
        | true => exact absurd (Nat.le_of_ble_eq_true e) hk]
      rfl
  refine ⟨h1, fun e => h (by rw [e]; rfl), ?_⟩
  have h2 := List.all_eq_true.mp aa_fit_all k (List.mem_range.mpr (Nat.lt_succ_of_le h1))
  rw [Bool.or_eq_true] at h2
  rcases h2 with h2 | h2
  · exact absurd (Nat.eq_of_beq_eq_true h2) h
  · exact h2
theorem aa_lay_at {k : Nat} (g : aa_G) (h : aa_gc k ≠ 0) : zz_lay (aa_H g) k = some (zz_ly k) := by
  unfold zz_lay
  exact if_pos (aa_fit_at h).1
theorem aa_slots_ok : ∀ {ts : List Nat} {fs : List (Option (Option Nat))}, aa_slots ts fs = true → ∀ (y : Nat), (ts[y]? = some 0 → fs[y]? = some none) ∧ (∀ t, ts[y]? = some (t + 1) → ∃ q, fs[y]? = some (some (some q)) ∧ aa_gc q = t + 1)
  | [], [], _, y => ⟨fun h => (by cases h), fun t h => (by cases h)⟩
  | [], _ :: _, h, _ => by cases h
  | t :: ts, [], h, _ => by cases t <;> cases h
  | 0 :: ts, some _ :: fs, h, _ => by cases h
  | (t + 1) :: ts, none :: fs, h, _ => by cases h
  | (t + 1) :: ts, some none :: fs, h, _ => by cases h
  | 0 :: ts, none :: fs, h, 0 => ⟨fun _ => rfl, fun t h => by cases h⟩
  | 0 :: ts, none :: fs, h, y + 1 => aa_slots_ok (ts := ts) (fs := fs) h y
  | (t + 1) :: ts, some (some q) :: fs, h, 0 => by
    have h : (Nat.beq (aa_gc q) (t + 1) && aa_slots ts fs) = true := h
    rw [Bool.and_eq_true] at h
    refine ⟨fun h => (by cases h), fun u hu => ⟨q, rfl, ?_⟩⟩
    cases hu
    exact Nat.eq_of_beq_eq_true h.1
  | (t + 1) :: ts, some (some q) :: fs, h, y + 1 => by
    have h : (Nat.beq (aa_gc q) (t + 1) && aa_slots ts fs) = true := h
    rw [Bool.and_eq_true] at h
    exact aa_slots_ok (ts := ts) (fs := fs) h.2 y
theorem aa_obj {k c : Nat} {n : Nat} {ts : List Nat} (g : aa_G) (h0 : aa_gc k ≠ 0) (h : aa_gi (aa_gc k) = (0, c, n, ts)) : ∃ fs, zz_ly k = .inr (.inr (c, fs)) ∧ zz_obj (aa_H g) k c = some fs ∧ aa_slots ts fs = true := by
  have h1 := (aa_fit_at h0).2.2
  rw [h] at h1
  have h2 := aa_lay_at g h0
  unfold zz_obj
  rw [h2]
  revert h1
  cases hq : zz_ly k with
  | inl q => intro h1; cases h1
  | inr q =>
    cases q with
    | inl q => intro h1; cases h1
    | inr q =>
      obtain ⟨d, fs⟩ := q
      intro h1
      have h1 : (Nat.beq d c && aa_slots ts fs) = true := h1
      rw [Bool.and_eq_true] at h1
      have e := Nat.eq_of_beq_eq_true h1.1
      subst e
      exact ⟨fs, rfl, by dsimp only; rw [if_pos rfl], h1.2⟩
theorem aa_arr {k t n : Nat} {ts : List Nat} (g : aa_G) (h0 : aa_gc k ≠ 0) (h : aa_gi (aa_gc k) = (1, t, n, ts)) : zz_ly k = .inl (t, n) ∧ zz_lay (aa_H g) k = some (.inl (t, n)) ∧ zz_arr (aa_H g) k t = some n ∧ ∀ u, u ≠ t → zz_arr (aa_H g) k u = none := by
  have h1 := (aa_fit_at h0).2.2
  rw [h] at h1
  have h2 := aa_lay_at g h0
  unfold zz_arr
  rw [h2]
  revert h1
  cases hq : zz_ly k with
  | inr q =>
    cases q with
    | inl q => intro h1; cases h1
    | inr q => intro h1; cases h1
  | inl q =>
    obtain ⟨d, l⟩ := q
    intro h1
    have h1 : (Nat.beq d t && Nat.beq l n) = true := h1
    rw [Bool.and_eq_true] at h1
    have e := Nat.eq_of_beq_eq_true h1.1
    have e2 := Nat.eq_of_beq_eq_true h1.2
    subst e
    subst e2
    exact ⟨rfl, rfl, by dsimp only; rw [if_pos rfl], fun u hu => by dsimp only; rw [if_neg (Ne.symm hu)]⟩
theorem aa_rar {k t n : Nat} {tg : Nat} {ts : List Nat} (g : aa_G) (h0 : aa_gc k ≠ 0) (h : aa_gi (aa_gc k) = (2, t, n, tg :: ts)) : ∃ rs, zz_rar (aa_H g) k = some (t, rs) ∧ rs.length = n ∧ (t = 3 ∨ t = 4) ∧ ∀ r ∈ rs, ∃ q, r = some q ∧ aa_gc q = tg := by
  have h1 := (aa_fit_at h0).2.2
  rw [h] at h1
  have h2 := aa_lay_at g h0
  unfold zz_rar
  rw [h2]
  revert h1
  cases hq : zz_ly k with
  | inl q => intro h1; cases h1
  | inr q =>
    cases q with
    | inr q => intro h1; cases h1
    | inl q =>
      obtain ⟨d, rs⟩ := q
      intro h1
      have h1 : (Nat.beq d t && (Nat.beq rs.length n && ((Nat.beq t 3 || Nat.beq t 4) && rs.all (fun r => match r with
        | some q => Nat.beq (aa_gc q) tg
        | none => false)))) = true := h1
      simp only [Bool.and_eq_true, Bool.or_eq_true] at h1
      have e := Nat.eq_of_beq_eq_true h1.1
      subst e
      refine ⟨rs, rfl, Nat.eq_of_beq_eq_true h1.2.1, h1.2.2.1.imp Nat.eq_of_beq_eq_true Nat.eq_of_beq_eq_true, fun r hr => ?_⟩
      have h3 := List.all_eq_true.mp h1.2.2.2 r hr
      cases r with
      | none => cases h3
      | some q => exact ⟨q, rfl, Nat.eq_of_beq_eq_true h3⟩
def aa_inv (g : aa_G) : Prop := ∀ k j, (aa_iv (aa_gc k) j).1 ≤ (g k j).toInt ∧ (g k j).toInt ≤ (aa_iv (aa_gc k) j).2
/-- only cells of these places have changed -/
def aa_fr (ws : aa_W) (g g' : aa_G) : Prop := (∀ (k j : Nat), g' k j = g k j ∨ ∃ w ∈ ws, w.1 = aa_gc k ∧ w.2.1 ≤ (j : Int) ∧ (j : Int) ≤ w.2.2) ∧ (aa_dep g' = aa_dep g ∨ ∃ w ∈ ws, w.1 = 900)
theorem aa_fr.rf {ws : aa_W} {g : aa_G} : aa_fr ws g g := ⟨fun _ _ => .inl rfl, .inl rfl⟩
theorem aa_fr.tr {ws : aa_W} {g g1 g2 : aa_G} (h1 : aa_fr ws g g1) (h2 : aa_fr ws g1 g2) : aa_fr ws g g2 := by
  refine ⟨fun k j => ?_, ?_⟩
  · rcases h2.1 k j with h | h
    · rcases h1.1 k j with q | q
      · exact .inl (h.trans q)
      · exact .inr q
    · exact .inr h
  · rcases h2.2 with h | h
    · rcases h1.2 with q | q
      · exact .inl (h.trans q)
      · exact .inr q
    · exact .inr h
def aa_eqT : List (Nat × Int) → List (Nat × Int) → Bool
  | [], [] => true
  | (i, c) :: r, (j, d) :: q => Nat.beq i j && (decide (c = d) && aa_eqT r q)
  | _, _ => false
theorem aa_eqT_ok : ∀ {a b : List (Nat × Int)}, aa_eqT a b = true → a = b
  | [], [], _ => rfl
  | [], _ :: _, h => by cases h
  | _ :: _, [], h => by cases h
  | (i, c) :: r, (j, d) :: q, h => by
    have h : (Nat.beq i j && (decide (c = d) && aa_eqT r q)) = true := h
    simp only [Bool.and_eq_true, decide_eq_true_eq] at h
    rw [Nat.eq_of_beq_eq_true h.1, h.2.1, aa_eqT_ok h.2.2]
def aa_eqf (f g : aa_F) : Bool := decide (f.1 = g.1) && aa_eqT f.2 g.2
theorem aa_eqf_ok {f g : aa_F} (h : aa_eqf f g = true) : f = g := by
  unfold aa_eqf at h
  rw [Bool.and_eq_true, decide_eq_true_eq] at h
  obtain ⟨a, b⟩ := f
  obtain ⟨c, d⟩ := g
  have e1 : a = c := h.1
  have e2 : b = d := aa_eqT_ok h.2
  rw [e1, e2]
def aa_lk (r sl : aa_F) : aa_C → Option aa_F
  | [] => none
  | q :: l => if (aa_eqf q.1.1 r && aa_eqf q.1.2 sl) = true then some q.2 else aa_lk r sl l
theorem aa_lk_ok {r sl f : aa_F} : ∀ {l : aa_C}, aa_lk r sl l = some f → ((r, sl), f) ∈ l
  | q :: l, h => by
    rw [aa_lk] at h
    split at h
    · rename_i h0
      cases h
      rw [Bool.and_eq_true] at h0
      obtain ⟨⟨a, b⟩, c⟩ := q
      have e1 : a = r := aa_eqf_ok h0.1
      have e2 : b = sl := aa_eqf_ok h0.2
      rw [e1, e2]
      exact List.mem_cons_self
    · exact List.mem_cons_of_mem _ (aa_lk_ok h)
/-- the numbers that a form can be -/
def aa_vals (iv : List aa_I) : List (Nat × Int) → List Int → Option (List Int)
  | [], acc => some acc
  | (i, c) :: r, acc => match iv[i]? with
    | none => none
    | some q => if 6000 < (q.2.1 - q.1 + 1) * acc.length then none else aa_vals iv r (acc.flatMap fun v => (List.range (q.2.1 - q.1 + 1).toNat).map fun (j : Nat) => v + c * (q.1 + (j : Int)))
theorem aa_vals_ok {iv : List aa_I} {ν : List Int} (hb : aa_vb iv ν) : ∀ (l : List (Nat × Int)) (acc : List Int) (x a : Int) (vs : List Int), aa_tm ν l = some x → a ∈ acc → aa_vals iv l acc = some vs → a + x ∈ vs
  | [], acc, x, a, vs, h, ha, hv => by
    cases h
    cases hv
    rw [Int.add_zero]
    exact ha
  | (i, c) :: r, acc, x, a, vs, h, ha, hv => by
    obtain ⟨v, y, h1, h2, rfl⟩ := aa_tm_cons.mp h
    rw [aa_vals] at hv
    split at hv
    · cases hv
    · rename_i q hq
      split at hv
      · cases hv
      · have hbq := hb.2 i q v hq h1
        have := aa_vals_ok hb r _ y (a + c * v) vs h2 ?_ hv
        · rwa [Int.add_assoc] at this
        · refine List.mem_flatMap.mpr ⟨a, ha, List.mem_map.mpr ⟨(v - q.1).toNat, List.mem_range.mpr (by omega), ?_⟩⟩
          rw [show q.1 + (((v - q.1).toNat : Nat) : Int) = v by omega]
/-- bounds of what stands at these places of a group's cells -/
def aa_hullL (gr : Nat) : List Int → Int × Int → Int × Int
  | [], a => a
  | v :: r, a => let q := aa_iv gr v.toNat; aa_hullL gr r (if q.1 < a.1 then q.1 else a.1, if a.2 < q.2 then q.2 else a.2)
theorem aa_hullL_ok {gr : Nat} {x : Int} : ∀ (vs : List Int) (a : Int × Int), (a.1 ≤ x ∧ x ≤ a.2) ∨ (∃ v ∈ vs, (aa_iv gr v.toNat).1 ≤ x ∧ x ≤ (aa_iv gr v.toNat).2) → (aa_hullL gr vs a).1 ≤ x ∧ x ≤ (aa_hullL gr vs a).2
  | [], a, h => by
    rcases h with h | ⟨v, hv, -⟩
    · exact h
    · cases hv
  | v :: r, a, h => by
    rw [aa_hullL]
    refine aa_hullL_ok r _ ?_
    rcases h with h | ⟨w, hw, h1, h2⟩
    · left
      dsimp only
      constructor
      · split <;> omega
      · split <;> omega
    · rcases List.mem_cons.mp hw with rfl | hw
      · left
        dsimp only
        constructor
        · split <;> omega
        · split <;> omega
      · exact .inr ⟨w, hw, h1, h2⟩
def aa_hull (gr : Nat) (iv : List aa_I) (f : aa_F) : Option (Int × Int) := if Nat.beq gr aa_all = true ∨ f.2 = [] then (match aa_vals iv f.2 [f.1] with
    | some (v :: r) => some (aa_hullL gr r (aa_iv gr v.toNat))
    | _ => none) else if aa_flat gr = true then some (aa_iv gr 0) else none
theorem aa_hull_ok {gr : Nat} {iv : List aa_I} {ν : List Int} (hb : aa_vb iv ν) {f : aa_F} {j : Nat} (hf : aa_ev ν f = some (j : Int)) {q : Int × Int} (h : aa_hull gr iv f = some q) {x : Int} (hx : (aa_iv gr j).1 ≤ x ∧ x ≤ (aa_iv gr j).2) : q.1 ≤ x ∧ x ≤ q.2 := by
  unfold aa_hull at h
  split at h
  · obtain ⟨y, hy, e⟩ := aa_ev_some.mp hf
    split at h
    · rename_i v r hv
      cases h
      have hm := aa_vals_ok hb f.2 [f.1] y f.1 _ hy List.mem_cons_self hv
      rw [← e] at hm
      refine aa_hullL_ok r _ ?_
      rcases List.mem_cons.mp hm with hm | hm
      · left
        rw [← hm]
        exact hx
      · exact .inr ⟨_, hm, hx⟩
    · cases h
  · split at h
    · rename_i hfl
      cases h
      rw [aa_flat_ok hfl 0 j]
      exact hx
    · cases h
def aa_vir (r : aa_F) : Bool := match r.2 with
  | [] => decide (r.1 = 600)
  | _ => false
theorem aa_vir_ok {r : aa_F} (h : aa_vir r = true) : r = aa_c 600 := by
  obtain ⟨a, b⟩ := r
  unfold aa_vir at h
  dsimp only at h
  split at h
  · have := of_decide_eq_true h
    subst this
    rfl
  · cases h
/-- the group whose writes touch a cell -/
def aa_gk (iv : List aa_I) (r : aa_F) : Nat := match r.2 with
  | [] => if r.1 = 601 then 38 else aa_gp iv r
  | _ => aa_gp iv r
theorem aa_gk_ok {iv : List aa_I} {ν : List Int} (hb : aa_vb iv ν) {r : aa_F} {a : Nat} (h : aa_ev ν r = some (a : Int)) (h0 : aa_gk iv r ≠ 0) : ∃ a', aa_gc a' = aa_gk iv r ∧ ((a' = a ∧ aa_gc a ≠ 0) ∨ (a = 601 ∧ a' = 543)) ∧ ∀ (g g' : aa_G) (b : Nat), g' a' b = g a' b → aa_rd g' a b = aa_rd g a b := by
  unfold aa_gk at h0 ⊢
  split at h0
  · rename_i hr
    split at h0
    · rename_i h1
      rw [if_pos h1]
      obtain ⟨y, hy, e⟩ := aa_ev_some.mp h
      rw [hr] at hy
      cases hy
      have ha : a = 601 := by omega
      subst ha
      refine ⟨543, rfl, .inr ⟨rfl, rfl⟩, fun g g' b hg => ?_⟩
      show (g' 543 b).toInt % 256 = (g 543 b).toInt % 256
      rw [hg]
    · rename_i h1
      rw [if_neg h1]
      have hg := aa_gp_ok hb h h0
      have hn : aa_gc a ≠ 0 := by rw [hg]; exact h0
      exact ⟨a, hg, .inl ⟨rfl, hn⟩, fun g g' b hgg => by rw [aa_rd_of hn, aa_rd_of hn, hgg]⟩
  · have hg := aa_gp_ok hb h h0
    have hn : aa_gc a ≠ 0 := by rw [hg]; exact h0
    exact ⟨a, hg, .inl ⟨rfl, hn⟩, fun g g' b hgg => by rw [aa_rd_of hn, aa_rd_of hn, hgg]⟩
/-- no codes yet: no depth -/
def aa_ldv (s : aa_S) (sl : aa_F) : Option (aa_F × aa_S) := match aa_lk (aa_c 540) (aa_c 10) s.2.1, aa_lk (aa_c 540) (aa_c 11) s.2.1 with
  | some nb, some b => (match aa_lk (aa_c 544) (aa_plus (aa_scale nb 7) 5) s.2.1 with
    | some a => if aa_eqf a b = true ∧ 0 ≤ aa_lo s.1.1 s.1.2 nb then some (aa_c 0, (s.1, (((aa_c 600, sl), aa_c 0) :: s.2.1, s.2.2))) else none
    | none => none)
  | _, _ => none
def aa_ld (s : aa_S) (r sl : aa_F) : Option (aa_F × aa_S) := match aa_lk r sl s.2.1 with
  | some f => some (f, s)
  | none => if aa_vir r = true then aa_ldv s sl else if Nat.beq (aa_gp s.1.1 r) 0 = true then none else match aa_hull (aa_gp s.1.1 r) s.1.1 sl with
    | none => none
    | some q => if q.1 = q.2 then some (aa_c q.1, (s.1, (((r, sl), aa_c q.1) :: s.2.1, s.2.2))) else some (aa_id s.1.1.length, ((s.1.1 ++ [(q.1, q.2, 0)], s.1.2), (((r, sl), aa_id s.1.1.length) :: s.2.1, s.2.2)))
theorem aa_vh_cons {ch : aa_C} {ν : List Int} {g : aa_G} (h : aa_vh ch ν g) {r sl f : aa_F} {a b : Nat} {x : Int} (h1 : aa_ev ν r = some (a : Int)) (h2 : aa_ev ν sl = some (b : Int)) (h3 : aa_ev ν f = some x) (h4 : aa_rd g a b = x) : aa_vh (((r, sl), f) :: ch) ν g := fun q hq => by
  rcases List.mem_cons.mp hq with rfl | hq
  · exact ⟨a, b, x, h1, h2, h3, h4⟩
  · exact h q hq
theorem aa_ld_ok {s : aa_S} {ν : List Int} {g : aa_G} {lv : zz_V} {st : List Value} (h : aa_ok s ν g lv st) (hi : aa_inv g) {r sl f : aa_F} {s' : aa_S} (e : aa_ld s r sl = some (f, s')) {k j : Nat} (hr : aa_ev ν r = some (k : Int)) (hs : aa_ev ν sl = some (j : Int)) : s'.2.2 = s.2.2 ∧ ∃ ρ, aa_ok s' (ν ++ ρ) g lv st ∧ aa_ev (ν ++ ρ) f = some (aa_rd g k j) := by
  unfold aa_ld at e
  split at e
  · rename_i f0 hl
    cases e
    obtain ⟨a, b, x, h1, h2, h3, h4⟩ := h.2.2.1 _ (aa_lk_ok hl)
    have h1 : aa_ev ν r = some (a : Int) := h1
    have h2 : aa_ev ν sl = some (b : Int) := h2
    rw [hr] at h1
    rw [hs] at h2
    have e1 : k = a := Int.ofNat.inj (Option.some.inj h1)
    have e2 : j = b := Int.ofNat.inj (Option.some.inj h2)
    refine ⟨rfl, [], by rw [List.append_nil]; exact h, ?_⟩
    rw [List.append_nil, e1, e2, h4]
    exact h3
  · split at e
    · rename_i hv
      have hv := aa_vir_ok hv
      subst hv
      rw [aa_c_ev] at hr
      have hk : k = 600 := by
        have := Option.some.inj hr
        omega
      subst hk
      unfold aa_ldv at e
      split at e
      · rename_i nb b hnb hb
        split at e
        · rename_i a ha
          split at e
          · rename_i hc
            obtain ⟨hc, hc0⟩ := hc
            have hc := aa_eqf_ok hc
            subst hc
            cases e
            have read : ∀ {r0 s0 f0 : aa_F} {k0 : Int}, aa_lk r0 s0 s.2.1 = some f0 → r0 = aa_c k0 → k0 = 540 ∨ k0 = 544 → ∀ y : Int, aa_ev ν s0 = some y → ∃ x, aa_ev ν f0 = some x ∧ (g k0.toNat y.toNat).toInt = x := by
              intro r0 s0 f0 k0 hl hr0 hk0 y hy
              obtain ⟨a1, b1, x1, h1, h2, h3, h4⟩ := h.2.2.1 _ (aa_lk_ok hl)
              subst hr0
              have h1 : aa_ev ν (aa_c k0) = some (a1 : Int) := h1
              have h2 : aa_ev ν s0 = some (b1 : Int) := h2
              rw [aa_c_ev] at h1
              rw [hy] at h2
              have e1 := Option.some.inj h1
              have e2 := Option.some.inj h2
              have e3 : a1 = 540 ∨ a1 = 544 := by omega
              refine ⟨x1, h3, ?_⟩
              rw [show k0.toNat = a1 by omega, show y.toNat = b1 by omega, ← h4]
              refine (aa_rd_of ?_).symm
              rcases e3 with rfl | rfl <;> exact Nat.succ_ne_zero _
            obtain ⟨x1, n1, n2⟩ := read hnb rfl (.inl rfl) 10 aa_c_ev
            obtain ⟨x2, n3, n4⟩ := read hb rfl (.inl rfl) 11 aa_c_ev
            have c0 := aa_lo_ok h.1 h.2.1 n1
            obtain ⟨x3, n5, n6⟩ := read ha rfl (.inr rfl) (7 * x1 + 5) (aa_plus_ev (aa_scale_ev n1))
            rw [n3] at n5
            cases n5
            have n2 : (g 540 10).toInt = x1 := n2
            have n4 : (g 540 11).toInt = x2 := n4
            have n6 : (g 544 (7 * x1 + 5).toNat).toInt = x2 := n6
            have hd : aa_dep g = 0 := by
              have hb : aa_beg g = x2.toNat := by
                unfold aa_beg
                rw [n2, show 7 * x1.toNat + 5 = (7 * x1 + 5).toNat by omega, n6]
              unfold aa_dep
              rw [hb, n4, Nat.sub_self, if_neg (Nat.lt_irrefl _)]
              rfl
            refine ⟨rfl, [], ?_, ?_⟩
            · rw [List.append_nil]
              exact ⟨h.1, h.2.1, aa_vh_cons h.2.2.1 (b := j) (a := 600) aa_c_ev hs aa_c_ev hd, h.2.2.2.1, h.2.2.2.2⟩
            · rw [List.append_nil]
              show aa_ev ν (aa_c 0) = some (aa_dep g)
              rw [hd]
              exact aa_c_ev
          · cases e
        · cases e
      · cases e
    · split at e
      · cases e
      · rename_i hg
        have hg : aa_gp s.1.1 r ≠ 0 := fun q => hg (by rw [q]; rfl)
        split at e
        · cases e
        · rename_i q hq
          have hgc := aa_gp_ok h.1 hr hg
          have hrd : aa_rd g k j = (g k j).toInt := aa_rd_of (by rw [hgc]; exact hg)
          rw [hrd]
          have hv := aa_hull_ok h.1 hs hq (x := (g k j).toInt) (by rw [← hgc]; exact hi k j)
          split at e
          · rename_i hqe
            cases e
            have hx : (g k j).toInt = q.1 := by omega
            refine ⟨rfl, [], ?_, ?_⟩
            · rw [List.append_nil]
              exact ⟨h.1, h.2.1, aa_vh_cons h.2.2.1 hr hs aa_c_ev (hrd.trans hx), h.2.2.2.1, h.2.2.2.2⟩
            · rw [List.append_nil, hx]
              exact aa_c_ev
          · cases e
            have hn := aa_ok_new h hv.1 hv.2 (gr := 0) (fun q => absurd rfl q)
            exact ⟨rfl, [(g k j).toInt], ⟨hn.1, hn.2.1, aa_vh_cons hn.2.2.1 (aa_ev_app hr) (aa_ev_app hs) (aa_ev_new h.1) hrd, hn.2.2.2.1, hn.2.2.2.2⟩, aa_ev_new h.1⟩
theorem aa_ld_at {s : aa_S} {ν : List Int} {g : aa_G} {lv : zz_V} {st : List Value} (h : aa_ok s ν g lv st) (hi : aa_inv g) {r sl f : aa_F} {s' : aa_S} (e : aa_ld s r sl = some (f, s')) {k j : Nat} (hr : aa_ev ν r = some (k : Int)) (hs : aa_ev ν sl = some (j : Int)) (hk : aa_gc k ≠ 0) : s'.2.2 = s.2.2 ∧ ∃ ρ, aa_ok s' (ν ++ ρ) g lv st ∧ aa_ev (ν ++ ρ) f = some (g k j).toInt := by
  have := aa_ld_ok h hi e hr hs
  rwa [aa_rd_of hk] at this
/-- a place that these writes may touch -/
def aa_inw (gr : Nat) (lo hi : Int) : aa_W → Bool
  | [] => false
  | w :: r => (Nat.beq w.1 gr && (decide (w.2.1 ≤ lo) && decide (hi ≤ w.2.2))) || aa_inw gr lo hi r
theorem aa_inw_ok {gr : Nat} {lo hi : Int} : ∀ {ws : aa_W}, aa_inw gr lo hi ws = true → ∃ w ∈ ws, w.1 = gr ∧ w.2.1 ≤ lo ∧ hi ≤ w.2.2
  | w :: r, h => by
    rw [aa_inw, Bool.or_eq_true] at h
    rcases h with h | h
    · simp only [Bool.and_eq_true, decide_eq_true_eq] at h
      exact ⟨w, List.mem_cons_self, Nat.eq_of_beq_eq_true h.1, h.2⟩
    · obtain ⟨v, hv, q⟩ := aa_inw_ok h
      exact ⟨v, List.mem_cons_of_mem _ hv, q⟩
/-- within the bounds of every place -/
def aa_fitL (gr : Nat) (lo hi : Int) : List Int → Bool
  | [] => true
  | v :: r => (decide ((aa_iv gr v.toNat).1 ≤ lo) && decide (hi ≤ (aa_iv gr v.toNat).2)) && aa_fitL gr lo hi r
theorem aa_fitL_ok {gr : Nat} {lo hi : Int} : ∀ {vs : List Int}, aa_fitL gr lo hi vs = true → ∀ v ∈ vs, (aa_iv gr v.toNat).1 ≤ lo ∧ hi ≤ (aa_iv gr v.toNat).2
  | v :: r, h, w, hw => by
    rw [aa_fitL] at h
    simp only [Bool.and_eq_true, decide_eq_true_eq] at h
    rcases List.mem_cons.mp hw with rfl | hw
    · exact h.1
    · exact aa_fitL_ok h.2 w hw
def aa_fits (gr : Nat) (iv : List aa_I) (sl : aa_F) (lo hi : Int) : Bool := if Nat.beq gr aa_all = true ∨ sl.2 = [] then (match aa_vals iv sl.2 [sl.1] with
    | some vs => aa_fitL gr lo hi vs
    | none => false) else aa_flat gr && aa_fitL gr lo hi [0]
theorem aa_fits_ok {gr : Nat} {iv : List aa_I} {ν : List Int} (hb : aa_vb iv ν) {sl : aa_F} {j : Nat} (hs : aa_ev ν sl = some (j : Int)) {lo hi : Int} (h : aa_fits gr iv sl lo hi = true) : (aa_iv gr j).1 ≤ lo ∧ hi ≤ (aa_iv gr j).2 := by
  unfold aa_fits at h
  split at h
  · obtain ⟨y, hy, e⟩ := aa_ev_some.mp hs
    split at h
    · rename_i vs hv
      have hm := aa_vals_ok hb sl.2 [sl.1] y sl.1 _ hy List.mem_cons_self hv
      rw [← e] at hm
      exact aa_fitL_ok h _ hm
    · cases h
  · rw [Bool.and_eq_true] at h
    rw [← aa_flat_ok h.1 0 j]
    exact aa_fitL_ok h.2 0 List.mem_cons_self
/-- this write leaves the ghost as it is -/
def aa_vst (iv : List aa_I) (cs : List aa_F) (ch : aa_C) (gr : Nat) (sl : aa_F) : Bool := !(aa_vdep gr (aa_lo iv cs sl) (aa_hi iv cs sl)) || (Nat.beq gr 39 && (match aa_lk (aa_c 540) (aa_c 10) ch with
  | some nb => decide (0 ≤ aa_lo iv cs nb) && (decide (0 < aa_lo iv cs (aa_add sl (aa_plus (aa_scale nb 7) 5) (-1))) || decide (aa_hi iv cs (aa_add sl (aa_plus (aa_scale nb 7) 5) (-1)) < 0))
  | none => false))
def aa_kp (iv : List aa_I) (cs : List aa_F) (ch : aa_C) (gr : Nat) (r sl : aa_F) (q : (aa_F × aa_F) × aa_F) : Bool :=
  let p := aa_gk iv q.1.1
  if aa_vir q.1.1 = true then aa_vst iv cs ch gr sl else !(Nat.beq p 0) && (!(Nat.beq p gr) || (decide (0 < aa_lo iv cs (aa_add q.1.2 sl (-1))) || (decide (aa_hi iv cs (aa_add q.1.2 sl (-1)) < 0) || (match r.2, q.1.1.2 with
    | [], [] => decide (r.1 ≠ q.1.1.1) && decide (q.1.1.1 ≠ 601)
    | _, _ => false))))
/-- every place that a form can be is one that may be written -/
def aa_inwF (gr : Nat) (iv : List aa_I) (cs : List aa_F) (sl : aa_F) (ws : aa_W) : Bool := if Nat.beq gr aa_all = true then (match aa_vals iv sl.2 [sl.1] with
  | some vs => vs.all fun v => aa_inw gr v v ws
  | none => false) else aa_inw gr (aa_lo iv cs sl) (aa_hi iv cs sl) ws
theorem aa_inwF_ok {gr : Nat} {iv : List aa_I} {cs : List aa_F} {ν : List Int} (hb : aa_vb iv ν) (hc : aa_vc cs ν) {sl : aa_F} {j : Nat} (hs : aa_ev ν sl = some (j : Int)) {ws : aa_W} (h : aa_inwF gr iv cs sl ws = true) : ∃ w ∈ ws, w.1 = gr ∧ w.2.1 ≤ (j : Int) ∧ (j : Int) ≤ w.2.2 := by
  unfold aa_inwF at h
  split at h
  · obtain ⟨y, hy, e⟩ := aa_ev_some.mp hs
    split at h
    · rename_i vs hv
      have hm := aa_vals_ok hb sl.2 [sl.1] y sl.1 _ hy List.mem_cons_self hv
      rw [← e] at hm
      exact aa_inw_ok (List.all_eq_true.mp h _ hm)
    · cases h
  · have c1 := aa_lo_ok hb hc hs
    have c2 := aa_hi_ok hb hc hs
    obtain ⟨w, hw, w1, w2, w3⟩ := aa_inw_ok h
    exact ⟨w, hw, w1, by omega, by omega⟩
/-- what may be written outside 'fr': told by a test of what is known there -/
abbrev aa_Hk : Type := aa_S → aa_F → aa_F → aa_F → Bool
def aa_sto (ws fr : aa_W) (hk : aa_Hk) (s : aa_S) (r sl f : aa_F) : Option aa_S :=
  let gr := aa_gp s.1.1 r
  if (!(Nat.beq gr 0) && (aa_fits gr s.1.1 sl (aa_lo s.1.1 s.1.2 f) (aa_hi s.1.1 s.1.2 f) && (aa_inwF gr s.1.1 s.1.2 sl ws && ((aa_inwF gr s.1.1 s.1.2 sl fr && (!(aa_vdep gr (aa_lo s.1.1 s.1.2 sl) (aa_hi s.1.1 s.1.2 sl)) || aa_inw 900 0 0 fr) || hk s r sl f) && (!(aa_vdep gr (aa_lo s.1.1 s.1.2 sl) (aa_hi s.1.1 s.1.2 sl)) || aa_inw 900 0 0 ws))))) = true then some (s.1, (((r, sl), f) :: s.2.1.filter (aa_kp s.1.1 s.1.2 s.2.1 gr r sl), s.2.2)) else none
theorem aa_w_at (g : aa_G) (k j : Nat) (v : Int32) : zz_w g k j v k j = v := by
  rw [zz_w_self]
  unfold upd
  rw [if_pos rfl]
theorem aa_w_ne (g : aa_G) {k j a b : Nat} (v : Int32) (h : ¬ (a = k ∧ b = j)) : zz_w g k j v a b = g a b := by
  by_cases hc : a = k
  · subst hc
    rw [zz_w_self]
    unfold upd
    rw [if_neg fun e => h ⟨rfl, e⟩]
  · rw [zz_w_other _ _ _ hc]
/-- Φ bears what is written in 'fr', and what the test lets through -/
def aa_good (Φ : aa_G → Prop) (fr : aa_W) (hk : aa_Hk) : Prop := (∀ g g', Φ g → aa_fr fr g g' → Φ g') ∧ (∀ (s : aa_S) (ν : List Int) (g : aa_G) (lv : zz_V) (st : List Value) (r sl f : aa_F) (k j : Nat) (v : Int32), aa_ok s ν g lv st → aa_inv g → Φ g → aa_ev ν r = some (k : Int) → aa_ev ν sl = some (j : Int) → aa_ev ν f = some v.toInt → aa_gc k = aa_gp s.1.1 r → hk s r sl f = true → Φ (zz_w g k j v))
theorem aa_dep_w {g : aa_G} {k j : Nat} {v : Int32} (h : ¬ (k = 540 ∧ ((j : Int) = 10 ∨ (j : Int) = 11)) ∧ k ≠ 544 ∧ k ≠ 545) : aa_dep (zz_w g k j v) = aa_dep g := by
  obtain ⟨h1, h2, h3⟩ := h
  refine aa_dep_eq (aa_w_ne _ _ fun e => h1 ⟨e.1.symm, by omega⟩) (aa_w_ne _ _ fun e => h1 ⟨e.1.symm, by omega⟩) (zz_w_other _ _ _ (Ne.symm h2)) (zz_w_other _ _ _ (Ne.symm h3))
theorem aa_gc39 {k : Nat} (h : aa_gc k = 39) : k = 544 := by
  have h1 := (aa_fit_at (k := k) (by rw [h]; exact Nat.succ_ne_zero _)).1
  have h2 : (List.range 554).all (fun k => !(Nat.beq (aa_gc k) 39) || Nat.beq k 544) = true := by decide +kernel
  have h3 := List.all_eq_true.mp h2 k (List.mem_range.mpr (Nat.lt_succ_of_le h1))
  rw [h] at h3
  exact Nat.eq_of_beq_eq_true h3
theorem aa_vst_ok {iv : List aa_I} {cs : List aa_F} {ch : aa_C} {gr k j : Nat} {sl : aa_F} {ν : List Int} {g : aa_G} {v : Int32} (hb : aa_vb iv ν) (hc : aa_vc cs ν) (hh : aa_vh ch ν g) (hs : aa_ev ν sl = some (j : Int)) (hg : aa_gc k = gr) (h : aa_vst iv cs ch gr sl = true) : aa_dep (zz_w g k j v) = aa_dep g := by
  have s1 := aa_lo_ok hb hc hs
  have s2 := aa_hi_ok hb hc hs
  unfold aa_vst at h
  rw [Bool.or_eq_true] at h
  rcases h with h | h
  · rw [Bool.not_eq_true', ← hg] at h
    exact aa_dep_w (aa_vdep_no h s1 s2)
  · rw [Bool.and_eq_true] at h
    have e := Nat.eq_of_beq_eq_true h.1
    rw [e] at hg
    have hk := aa_gc39 hg
    subst hk
    have h2 := h.2
    split at h2
    · rename_i nb hnb
      simp only [Bool.and_eq_true, Bool.or_eq_true, decide_eq_true_eq] at h2
      obtain ⟨a, b, x, e1, e2, e3, e4⟩ := hh _ (aa_lk_ok hnb)
      have e1 : aa_ev ν (aa_c 540) = some (a : Int) := e1
      have e2 : aa_ev ν (aa_c 10) = some (b : Int) := e2
      have e3 : aa_ev ν nb = some x := e3
      rw [aa_c_ev] at e1 e2
      have ha : a = 540 := by have := Option.some.inj e1; omega
      have hb' : b = 10 := by have := Option.some.inj e2; omega
      subst ha
      subst hb'
      have e4 : (g 540 10).toInt = x := e4
      have c0 := aa_lo_ok hb hc e3
      have hd := aa_add_ev (k := -1) hs (aa_plus_ev (n := 5) (aa_scale_ev (k := 7) e3))
      have d1 := aa_lo_ok hb hc hd
      have d2 := aa_hi_ok hb hc hd
      have hj : j ≠ 7 * x.toNat + 5 := by
        rcases h2.2 with z | z
        · omega
        · omega
      have e5 : (zz_w g 544 j v) 540 = g 540 := zz_w_other _ _ _ (by decide)
      have e6 : (zz_w g 544 j v) 545 = g 545 := zz_w_other _ _ _ (by decide)
      have hbeg : aa_beg (zz_w g 544 j v) = aa_beg g := by
        unfold aa_beg
        rw [e5, e4, aa_w_ne _ _ (fun z => hj z.2.symm)]
      unfold aa_dep
      rw [hbeg, e5, e6]
    · cases h2
theorem aa_sto_ok {Φ : aa_G → Prop} {ws fr : aa_W} {hk : aa_Hk} (hG : aa_good Φ fr hk) {s : aa_S} {ν : List Int} {g : aa_G} {lv : zz_V} {st : List Value} (h : aa_ok s ν g lv st) (hi : aa_inv g) {r sl f : aa_F} {s' : aa_S} (e : aa_sto ws fr hk s r sl f = some s') {k j : Nat} {v : Int32} (hr : aa_ev ν r = some (k : Int)) (hs : aa_ev ν sl = some (j : Int)) (hf : aa_ev ν f = some v.toInt) : s'.2.2 = s.2.2 ∧ aa_ok s' ν (zz_w g k j v) lv st ∧ aa_inv (zz_w g k j v) ∧ aa_fr ws g (zz_w g k j v) ∧ (Φ g → Φ (zz_w g k j v)) := by
  unfold aa_sto at e
  dsimp only at e
  split at e
  · rename_i hc
    simp only [Bool.and_eq_true, Bool.or_eq_true, Bool.not_eq_true'] at hc
    obtain ⟨hg, hfit, hw1, hw2, hw3⟩ := hc
    have hg : aa_gp s.1.1 r ≠ 0 := fun q => by rw [q] at hg; cases hg
    have hgc := aa_gp_ok h.1 hr hg
    have hfit := aa_fits_ok h.1 hs hfit
    have b1 := aa_lo_ok h.1 h.2.1 hf
    have b2 := aa_hi_ok h.1 h.2.1 hf
    have s1 := aa_lo_ok h.1 h.2.1 hs
    have s2 := aa_hi_ok h.1 h.2.1 hs
    have hvd : aa_vdep (aa_gp s.1.1 r) (aa_lo s.1.1 s.1.2 sl) (aa_hi s.1.1 s.1.2 sl) = false → aa_dep (zz_w g k j v) = aa_dep g := fun q => by
      rw [← hgc] at q
      exact aa_dep_w (aa_vdep_no q s1 s2)
    have hfr : ∀ w : aa_W, aa_inwF (aa_gp s.1.1 r) s.1.1 s.1.2 sl w = true → (aa_vdep (aa_gp s.1.1 r) (aa_lo s.1.1 s.1.2 sl) (aa_hi s.1.1 s.1.2 sl) = false ∨ aa_inw 900 0 0 w = true) → aa_fr w g (zz_w g k j v) := fun w hw hv => by
      refine ⟨fun a b => ?_, ?_⟩
      · by_cases hab : a = k ∧ b = j
        · obtain ⟨rfl, rfl⟩ := hab
          obtain ⟨z, hz, z1, z2, z3⟩ := aa_inwF_ok h.1 h.2.1 hs hw
          exact .inr ⟨z, hz, by rw [z1, hgc], z2, z3⟩
        · exact .inl (aa_w_ne _ _ hab)
      · rcases hv with hv | hv
        · exact .inl (hvd hv)
        · obtain ⟨z, hz, z1, -⟩ := aa_inw_ok hv
          exact .inr ⟨z, hz, z1⟩
    cases e
    refine ⟨rfl, ⟨h.1, h.2.1, aa_vh_cons ?_ hr hs hf (by rw [aa_rd_of (by rw [hgc]; exact hg), aa_w_at]), h.2.2.2.1, h.2.2.2.2⟩, fun a b => ?_, hfr _ hw1 hw3, fun hφ => ?_⟩
    · intro q hq
      obtain ⟨hq, hk⟩ := List.mem_filter.mp hq
      obtain ⟨a, b, x, h1, h2, h3, h4⟩ := h.2.2.1 q hq
      refine ⟨a, b, x, h1, h2, h3, ?_⟩
      unfold aa_kp at hk
      dsimp only at hk
      split at hk
      · rename_i hv
        have hv := aa_vir_ok hv
        rw [hv, aa_c_ev] at h1
        have ha : a = 600 := by
          have := Option.some.inj h1
          omega
        subst ha
        rw [← h4]
        exact aa_vst_ok h.1 h.2.1 h.2.2.1 hs hgc hk
      · rename_i hv
        simp only [Bool.or_eq_true, Bool.and_eq_true, Bool.not_eq_true', decide_eq_true_eq] at hk
        obtain ⟨k1, hk⟩ := hk
        have k1 : aa_gk s.1.1 q.1.1 ≠ 0 := fun z => by rw [z] at k1; cases k1
        obtain ⟨a', hga, hcase, hrd⟩ := aa_gk_ok h.1 h1 k1
        have hd := aa_add_ev (k := -1) h2 hs
        have d1 := aa_lo_ok h.1 h.2.1 hd
        have d2 := aa_hi_ok h.1 h.2.1 hd
        have hne : ¬ (a' = k ∧ b = j) := by
          rintro ⟨rfl, rfl⟩
          rcases hk with k2 | k1 | k1 | k1
          · rw [hgc] at hga
            rw [hga] at k2
            rw [show Nat.beq (aa_gk s.1.1 q.1.1) (aa_gk s.1.1 q.1.1) = true from Nat.beq_refl _] at k2
            cases k2
          · omega
          · omega
          · split at k1
            · rename_i e1 e2
              obtain ⟨y1, hy1, z1⟩ := aa_ev_some.mp hr
              obtain ⟨y2, hy2, z2⟩ := aa_ev_some.mp h1
              rw [e1] at hy1
              rw [e2] at hy2
              cases hy1
              cases hy2
              rw [Bool.and_eq_true] at k1
              have := of_decide_eq_true k1.1
              have := of_decide_eq_true k1.2
              rcases hcase with ⟨c1, c2⟩ | ⟨c1, c2⟩
              · omega
              · omega
            · cases k1
        rw [← h4]
        exact hrd _ _ _ (aa_w_ne _ _ hne)
    · by_cases hab : a = k ∧ b = j
      · obtain ⟨rfl, rfl⟩ := hab
        rw [aa_w_at, hgc]
        omega
      · rw [aa_w_ne _ _ hab]
        exact hi a b
    · rcases hw2 with ⟨w2, w3⟩ | w2
      · exact hG.1 _ _ hφ (hfr fr w2 w3)
      · exact hG.2 s ν g lv st r sl f k j v h hi hφ hr hs hf hgc w2
  · cases e
/-- what a call that writes these places leaves of the known cells -/
def aa_kl (iv : List aa_I) (cs : List aa_F) (ws : aa_W) (q : (aa_F × aa_F) × aa_F) : Bool :=
  let p := aa_gk iv q.1.1
  if aa_vir q.1.1 = true then ws.all (fun w => !(Nat.beq w.1 900)) else !(Nat.beq p 0) && ws.all (fun w => !(Nat.beq w.1 p) || (decide (aa_hi iv cs q.1.2 < w.2.1) || decide (w.2.2 < aa_lo iv cs q.1.2)))
theorem aa_kl_ok {iv : List aa_I} {cs : List aa_F} {ws : aa_W} {ν : List Int} (hb : aa_vb iv ν) (hc : aa_vc cs ν) {ch : aa_C} {g g' : aa_G} (h : aa_vh ch ν g) (hf : aa_fr ws g g') : aa_vh (ch.filter (aa_kl iv cs ws)) ν g' := fun q hq => by
  obtain ⟨hq, hk⟩ := List.mem_filter.mp hq
  obtain ⟨a, b, x, h1, h2, h3, h4⟩ := h q hq
  refine ⟨a, b, x, h1, h2, h3, ?_⟩
  unfold aa_kl at hk
  dsimp only at hk
  split at hk
  · rename_i hv
    have hv := aa_vir_ok hv
    rw [hv, aa_c_ev] at h1
    have ha : a = 600 := by
      have := Option.some.inj h1
      omega
    subst ha
    rcases hf.2 with e | ⟨w, hw, e⟩
    · rw [← h4]; exact e
    · have := List.all_eq_true.mp hk w hw
      rw [e] at this
      cases this
  rw [Bool.and_eq_true, Bool.not_eq_true'] at hk
  have hp : aa_gk iv q.1.1 ≠ 0 := fun z => by rw [z] at hk; cases hk.1
  obtain ⟨a', e, -, hrd⟩ := aa_gk_ok hb h1 hp
  rw [← h4]
  refine hrd _ _ _ ?_
  rcases hf.1 a' b with e' | ⟨w, hw, w1, w2, w3⟩
  · exact e'
  · have := List.all_eq_true.mp hk.2 w hw
    simp only [Bool.or_eq_true, Bool.not_eq_true', decide_eq_true_eq] at this
    have d1 := aa_lo_ok hb hc h2
    have d2 := aa_hi_ok hb hc h2
    rcases this with z | z | z
    · rw [w1, e, show Nat.beq (aa_gk iv q.1.1) (aa_gk iv q.1.1) = true from Nat.beq_refl _] at z
      cases z
    · omega
    · omega
