/-! the model's LIGHT, NIGHT; the world of both sides -/
/-- a town's points in the model's row -/
def av_t (a : Nat → Int32) (t : Nat) : Nat → Nat → Int := fun o i => (a (50 * t + 4 * i + 4 + o)).toInt
def av_c (a : Nat → Int32) (t : Nat) : Nat := (a (50 * t + 4)).toInt.toNat
/-- a LIGHT (0), NIGHT (1) of a DAY of a town: where it begins, how long it is -/
def hv_t (a : Nat → Int32) (t : Nat) (d h : Int) : Option (Int × Int) := tw_H (av_t a t) (av_c a t) d h
def pv_t (a : Nat → Int32) (t : Nat) (v : Int) : Int := tw_P (av_t a t) v (av_c a t)
theorem hl_all {g : aa_G} {t c : Nat} {d h : Int32} (ht : t < 4) (hw : tw_ok (mw_t g t) c) (h1 : g 541 (50 * t + 4) = Int32.ofNat c) (hl : g 540 16 = -1) (hh : h = 0 ∨ h = 1) {v : Int32} {g' : aa_G} (hg : fn_194 g (Int32.ofNat t) d h = (v, g')) :
    (∀ k j, ¬ (k = 540 ∧ 13 ≤ j ∧ j ≤ 18 ∧ j ≠ 16) → g' k j = g k j) ∧ (match tw_H (mw_t g t) c d.toInt h.toInt with
      | none => v = 0
      | some (b, l) => v = 1 ∧ (g' 540 17).toInt = b ∧ (g' 540 18).toInt = l) := by
  have hh1 : h.toInt = 1 ↔ h = 1 := ⟨fun z => ti_eq.mpr z, fun z => by rw [z]; rfl⟩
  have hfst : ∀ {x y : Int32} {a b : aa_G}, (x, a) = (y, b) → x = y ∧ a = b := fun e => by cases e; exact ⟨rfl, rfl⟩
  unfold fn_194 at hg
  unfold tw_H
  by_cases hday : 0 ≤ d.toInt ∧ d.toInt ≤ 35999
  · rw [if_neg (ti_193n.mpr hday)] at hg
    rw [if_neg (c := ¬ (0 ≤ d.toInt ∧ d.toInt ≤ 35999)) (fun z => z hday)]
    have hdd : (d + 1).toInt = d.toInt + 1 := aa_add32 (by rw [show (1 : Int32).toInt = 1 from rfl]; omega) (by rw [show (1 : Int32).toInt = 1 from rfl]; omega)
    by_cases hll : h.toInt = 1 ∧ d.toInt = 35999
    · have hd : d = 35999 := ti_eq.mpr (by rw [hll.2]; rfl)
      rw [if_pos hll]
      rw [if_neg (c := h ≠ 1) (fun z => z (hh1.mp hll.1)), if_neg (c := d ≠ 35999) (fun z => z hd)] at hg
      obtain ⟨rfl, rfl⟩ := hfst hg
      exact ⟨fun _ _ _ => rfl, rfl⟩
    · rw [if_neg (c := h.toInt = 1 ∧ d.toInt = 35999) hll]
      have e20 : fn_194_20 g (Int32.ofNat t) d h = (v, g') := by
        by_cases e : h = 1
        · rw [if_neg (c := h ≠ 1) (fun z => z e), if_pos (c := d ≠ 35999) (fun z => hll ⟨hh1.mpr e, by rw [z]; rfl⟩)] at hg
          exact hg
        · rw [if_pos (c := h ≠ 1) e] at hg
          exact hg
      clear hg
      -- behind the first laying: the day itself
      have tail : ∀ (g1 : aa_G) (x : Int32), (∀ k j, ¬ (k = 540 ∧ 13 ≤ j ∧ j ≤ 15) → g1 k j = g k j) → fn_194_50 g1 (Int32.ofNat t) d h x = (v, g') → (h = 1 → ∃ z : Int, x.toInt = 86400 + z ∧ 0 ≤ z ∧ z ≤ 86399) →
          (∀ k j, ¬ (k = 540 ∧ 13 ≤ j ∧ j ≤ 18 ∧ j ≠ 16) → g' k j = g k j) ∧ (match (if tw_P (mw_t g t) (d.toInt % 360) c ≠ -1 then none else some (if h = 1 then (tw_D (mw_t g t) (d.toInt % 360) c 3, x.toInt - tw_D (mw_t g t) (d.toInt % 360) c 3) else (tw_D (mw_t g t) (d.toInt % 360) c 2, tw_D (mw_t g t) (d.toInt % 360) c 3 - tw_D (mw_t g t) (d.toInt % 360) c 2)) : Option (Int × Int)) with
            | none => v = 0
            | some (b, l) => v = 1 ∧ (g' 540 17).toInt = b ∧ (g' 540 18).toInt = l) := by
        intro g1 x f1 e50 hx
        have mwe : mw_t g1 t = mw_t g t := by
          funext o i
          unfold mw_t
          rw [f1 _ _ (by omega)]
        unfold fn_194_50 at e50
        obtain ⟨w2, g2, hlay⟩ : ∃ w2 g2, fn_195 g1 (Int32.ofNat t) d = (w2, g2) := ⟨_, _, rfl⟩
        rw [hlay] at e50
        obtain ⟨m1, m2, m3, m4⟩ := ml_all ht (by rw [mwe]; exact hw) ((f1 _ _ (by omega)).trans h1) ((f1 _ _ (by omega)).trans hl) hday.1 hlay
        rw [mwe] at m2 m3 m4
        dsimp only at e50
        unfold fn_194_56 at e50
        have f2 : ∀ k j, ¬ (k = 540 ∧ 13 ≤ j ∧ j ≤ 15) → g2 k j = g k j := fun k j z => (m1 k j z).trans (f1 k j z)
        by_cases hP : tw_P (mw_t g t) (d.toInt % 360) c = -1
        · have hc := tw_P0 hP
          obtain ⟨d2, d3⟩ := m4 hP
          have bnd := tw_D_b hw hc (v := d.toInt % 360) ⟨by omega, by omega⟩ hP
          rw [if_pos ⟨by omega, hP⟩] at m3
          rw [m3, if_pos (c := (1 : Int32) ≠ 0) (by decide)] at e50
          rw [if_neg (c := tw_P (mw_t g t) (d.toInt % 360) c ≠ -1) (fun z => z hP)]
          unfold fn_194_77 at e50
          rcases hh with rfl | rfl
          · rw [if_neg (c := (0 : Int32) ≠ 0) (fun z => z rfl), if_neg (c := (0 : Int32) ≠ 0) (fun z => z rfl)] at e50
            obtain ⟨rfl, rfl⟩ := hfst e50
            refine ⟨fun k j z => ?_, rfl, ?_, ?_⟩
            · rw [aa_w_ne _ _ (by omega), aa_w_ne _ _ (by omega)]
              exact f2 k j (by omega)
            · rw [aa_w_ne _ _ (by omega), aa_w_at]
              exact d2
            · rw [aa_w_at]
              show (g2 540 15 - g2 540 14).toInt = tw_D (mw_t g t) (d.toInt % 360) c 3 - tw_D (mw_t g t) (d.toInt % 360) c 2
              rw [aa_sub32 (by omega) (by omega), d2, d3]
          · obtain ⟨z, hz1, hz2, hz3⟩ := hx rfl
            rw [if_pos (c := (1 : Int32) ≠ 0) (by decide), if_pos (c := (1 : Int32) ≠ 0) (by decide)] at e50
            obtain ⟨rfl, rfl⟩ := hfst e50
            refine ⟨fun k j z => ?_, rfl, ?_, ?_⟩
            · rw [aa_w_ne _ _ (by omega), aa_w_ne _ _ (by omega)]
              exact f2 k j (by omega)
            · rw [aa_w_ne _ _ (by omega), aa_w_at]
              exact d3
            · rw [aa_w_at]
              show (x - g2 540 15).toInt = x.toInt - tw_D (mw_t g t) (d.toInt % 360) c 3
              rw [aa_sub32 (by omega) (by omega), d3]
        · rw [if_neg (fun z => hP z.2)] at m3
          rw [m3, if_neg (c := (0 : Int32) ≠ 0) (fun z => z rfl)] at e50
          obtain ⟨rfl, rfl⟩ := hfst e50
          rw [if_pos (c := tw_P (mw_t g t) (d.toInt % 360) c ≠ -1) hP]
          exact ⟨fun k j z => f2 k j (by omega), rfl⟩
      unfold fn_194_20 at e20
      rcases hh with rfl | rfl
      · rw [if_pos (c := (0 : Int32) ≠ 1) (by decide)] at e20
        have k := tail g 0 (fun _ _ _ => rfl) e20 (fun z => absurd z (by decide))
        rw [if_neg (c := (0 : Int32) = 1) (by decide)] at k
        rw [if_neg (c := (0 : Int32).toInt = 1) (by decide)]
        exact k
      · rw [if_neg (c := (1 : Int32) ≠ 1) (fun z => z rfl)] at e20
        rw [if_pos (c := (1 : Int32).toInt = 1) rfl]
        obtain ⟨w2, g2, hlay⟩ : ∃ w2 g2, fn_195 g (Int32.ofNat t) (d + 1) = (w2, g2) := ⟨_, _, rfl⟩
        rw [hlay] at e20
        obtain ⟨m1, m2, m3, m4⟩ := ml_all ht hw h1 hl (by rw [hdd]; omega) hlay
        rw [hdd] at m2 m3 m4
        dsimp only at e20
        unfold fn_194_36 at e20
        by_cases hP : tw_P (mw_t g t) ((d.toInt + 1) % 360) c = -1
        · have hc := tw_P0 hP
          obtain ⟨d2, d3⟩ := m4 hP
          have bnd := tw_D_b hw hc (v := (d.toInt + 1) % 360) ⟨by omega, by omega⟩ hP
          rw [if_pos ⟨by omega, hP⟩] at m3
          rw [m3, if_pos (c := (1 : Int32) ≠ 0) (by decide)] at e20
          have e86 : (86400 + g2 540 14).toInt = 86400 + (g2 540 14).toInt := aa_add32 (by rw [show (86400 : Int32).toInt = 86400 from rfl]; omega) (by rw [show (86400 : Int32).toInt = 86400 from rfl]; omega)
          have k := tail g2 _ m1 e20 (fun _ => ⟨(g2 540 14).toInt, e86, by omega, by omega⟩)
          rw [if_pos (c := (1 : Int32) = 1) rfl, e86, d2] at k
          rw [if_neg (c := tw_P (mw_t g t) ((d.toInt + 1) % 360) c ≠ -1) (fun z => z hP)]
          exact k
        · rw [if_neg (fun z => hP z.2)] at m3
          rw [m3, if_neg (c := (0 : Int32) ≠ 0) (fun z => z rfl)] at e20
          obtain ⟨rfl, rfl⟩ := hfst e20
          rw [if_pos (c := tw_P (mw_t g t) ((d.toInt + 1) % 360) c ≠ -1) hP]
          refine ⟨fun k j z => m1 k j (by omega), ?_⟩
          split
          · rfl
          · rename_i e
            split at e <;> cases e
  · rw [if_pos (ti_193z.mpr hday)] at hg
    obtain ⟨rfl, rfl⟩ := hfst hg
    rw [if_pos (c := ¬ (0 ≤ d.toInt ∧ d.toInt ≤ 35999)) hday]
    exact ⟨fun _ _ _ => rfl, rfl⟩
/-- a town of both sides, as it is asked -/
def wd_t (g : aa_G) (t : Nat) : Prop := g (5 * t + 14) 0 = g 541 (50 * t + 3) ∧ g (5 * t + 14) 1 = g 541 (50 * t + 4) ∧ (-43200 ≤ (g 541 (50 * t + 3)).toInt ∧ (g 541 (50 * t + 3)).toInt ≤ 43200) ∧ 0 ≤ (g 541 (50 * t + 4)).toInt ∧ tw_ok (av_t (g 541) t) (av_c (g 541) t) ∧ ∀ o i, 1 ≤ o → o ≤ 4 → i < av_c (g 541) t → g (5 * t + 14 + o) i = g 541 (50 * t + 4 * i + 4 + o)
/-- what the asking methods stand on -/
def wd_g (g : aa_G) : Prop := (0 ≤ (g 541 0).toInt ∧ (g 541 0).toInt ≤ 4) ∧ (1 ≤ (g 541 1).toInt ∧ (g 541 1).toInt ≤ 3600) ∧ g 2 0 = g 541 0 ∧ g 2 1 = g 541 1 ∧ g 540 16 = -1 ∧ ∀ t : Nat, (t : Int) < (g 541 0).toInt → wd_t g t
theorem wd_of {g g' : aa_G} (h : wd_g g) (f : ∀ k j, k ≤ 33 ∨ k = 541 ∨ (k = 540 ∧ j = 16) → g' k j = g k j) : wd_g g' := by
  obtain ⟨a1, a2, a3, a4, a5, a6⟩ := h
  have e541 : g' 541 = g 541 := funext fun j => f 541 j (.inr (.inl rfl))
  unfold wd_g
  rw [e541, f 2 0 (by omega), f 2 1 (by omega), f 540 16 (by omega)]
  refine ⟨a1, a2, a3, a4, a5, fun t ht => ?_⟩
  have b := a6 t ht
  unfold wd_t at b ⊢
  rw [e541, f _ 0 (by omega), f _ 1 (by omega)]
  refine ⟨b.1, b.2.1, b.2.2.1, b.2.2.2.1, b.2.2.2.2.1, fun o i o1 o2 hi => ?_⟩
  rw [f _ i (by omega)]
  exact b.2.2.2.2.2 o i o1 o2 hi
theorem wd_c {g : aa_G} {t : Nat} (h : wd_t g t) : av_c (g 541) t ≤ 12 ∧ g 541 (50 * t + 4) = Int32.ofNat (av_c (g 541) t) ∧ g (5 * t + 14) 1 = Int32.ofNat (av_c (g 541) t) := by
  obtain ⟨b1, b2, b3, b4, b5, b6⟩ := h
  have hc := b5.1
  have e : g 541 (50 * t + 4) = Int32.ofNat (av_c (g 541) t) := by
    refine ti_eq.mpr ?_
    rw [zz_ofN (by omega)]
    unfold av_c
    omega
  exact ⟨hc, e, b2.trans e⟩
theorem wd_cw {g : aa_G} {t : Nat} (h : wd_t g t) : ∀ o i, 1 ≤ o → o ≤ 4 → i < av_c (g 541) t → cw_t g (5 * t + 14) o i = av_t (g 541) t o i := fun o i o1 o2 hi => by
  unfold cw_t av_t
  rw [h.2.2.2.2.2 o i o1 o2 hi]
theorem tw_ok_cg {w w' : Nat → Nat → Int} {c : Nat} (h : ∀ o i, 1 ≤ o → o ≤ 4 → i < c → w' o i = w o i) (k : tw_ok w c) : tw_ok w' c := by
  obtain ⟨k1, k2, k3, k4⟩ := k
  refine ⟨k1, fun i hi => ?_, fun i hi => ?_, fun i hi => ?_⟩
  · rw [h 1 i (by omega) (by omega) hi]; exact k2 i hi
  · rw [h 1 i (by omega) (by omega) (by omega), h 1 (i + 1) (by omega) (by omega) hi]; exact k3 i hi
  · rw [h 2 i (by omega) (by omega) hi, h 3 i (by omega) (by omega) hi, h 4 i (by omega) (by omega) hi]; exact k4 i hi
/-- look of a town -/
theorem ck_look {g : aa_G} {P t : Nat} {d h : Int32} (W : wd_g g) (ht : (t : Int) < (g 541 0).toInt) (hP : 461 ≤ P) (hh : h = 0 ∨ h = 1) : lk_ok g (fn_78 g P (some (5 * t + 14)) d h) P d h (hv_t (g 541) t d.toInt h.toInt) ∧ (0 ≤ d.toInt → d.toInt ≤ 35999 → h = 0 → (fn_78 g P (some (5 * t + 14)) d h P 5).toInt = pv_t (g 541) t (d.toInt % 360)) := by
  have w := W.2.2.2.2.2 t ht
  have n4 := W.1
  obtain ⟨hc, e1, e2⟩ := wd_c w
  have k := lk_all (g := g) (P := P) (T := 5 * t + 14) (d := d) (h := h) (.inr (by omega)) e2 (tw_ok_cg (wd_cw w) w.2.2.2.2.1) hh
  unfold hv_t pv_t
  rw [← tw_H_cg (wd_cw w), ← tw_P_cg (wd_cw w)]
  exact k
theorem mk_half {g : aa_G} {t : Nat} {d h : Int32} (W : wd_g g) (ht : (t : Int) < (g 541 0).toInt) (hh : h = 0 ∨ h = 1) {v : Int32} {g' : aa_G} (hg : fn_194 g (Int32.ofNat t) d h = (v, g')) : (∀ k j, ¬ (k = 540 ∧ 13 ≤ j ∧ j ≤ 18 ∧ j ≠ 16) → g' k j = g k j) ∧ (match hv_t (g 541) t d.toInt h.toInt with
      | none => v = 0
      | some (b, l) => v = 1 ∧ (g' 540 17).toInt = b ∧ (g' 540 18).toInt = l) := by
  have w := W.2.2.2.2.2 t ht
  have n4 := W.1
  obtain ⟨hc, e1, e2⟩ := wd_c w
  exact hl_all (by omega) w.2.2.2.2.1 e1 W.2.2.2.2.1 hh hg
theorem mk_lay {g : aa_G} {t : Nat} {d : Int32} (W : wd_g g) (ht : (t : Int) < (g 541 0).toInt) (hd : 0 ≤ d.toInt ∧ d.toInt ≤ 35999) {v : Int32} {g' : aa_G} (hg : fn_195 g (Int32.ofNat t) d = (v, g')) : (∀ k j, ¬ (k = 540 ∧ 13 ≤ j ∧ j ≤ 15) → g' k j = g k j) ∧ (g' 540 13).toInt = pv_t (g 541) t (d.toInt % 360) ∧ (match hv_t (g 541) t d.toInt 0 with
      | none => v = 0
      | some (b, l) => v = 1 ∧ (g' 540 14).toInt = b ∧ (g' 540 15).toInt = b + l) := by
  have w := W.2.2.2.2.2 t ht
  have n4 := W.1
  obtain ⟨hc, e1, e2⟩ := wd_c w
  obtain ⟨m1, m2, m3, m4⟩ := ml_all (by omega) w.2.2.2.2.1 e1 W.2.2.2.2.1 hd.1 hg
  refine ⟨m1, m2, ?_⟩
  unfold hv_t tw_H
  rw [if_neg (c := ¬ (0 ≤ d.toInt ∧ d.toInt ≤ 35999)) (fun z => z hd), if_neg (c := (0 : Int) = 1 ∧ d.toInt = 35999) (fun z => absurd z.1 (by decide)), if_neg (c := (0 : Int) = 1) (by decide)]
  by_cases hP : tw_P (av_t (g 541) t) (d.toInt % 360) (av_c (g 541) t) = -1
  · have hcp := tw_P0 hP
    obtain ⟨d2, d3⟩ := m4 hP
    rw [if_neg (c := tw_P (av_t (g 541) t) (d.toInt % 360) (av_c (g 541) t) ≠ -1) (fun z => z hP)]
    refine ⟨m3.trans (if_pos ⟨by omega, hP⟩), d2, ?_⟩
    rw [d3]
    show _ = tw_D (av_t (g 541) t) (d.toInt % 360) (av_c (g 541) t) 2 + (tw_D (av_t (g 541) t) (d.toInt % 360) (av_c (g 541) t) 3 - tw_D (av_t (g 541) t) (d.toInt % 360) (av_c (g 541) t) 2)
    have e : tw_D (mw_t g t) (d.toInt % 360) (av_c (g 541) t) 3 = tw_D (av_t (g 541) t) (d.toInt % 360) (av_c (g 541) t) 3 := rfl
    omega
  · rw [if_pos (c := tw_P (av_t (g 541) t) (d.toInt % 360) (av_c (g 541) t) ≠ -1) hP]
    exact m3.trans (if_neg fun z => hP z.2)
/-- the bounds of a LIGHT, NIGHT -/
theorem hv_b {g : aa_G} {t : Nat} (W : wd_g g) (ht : (t : Int) < (g 541 0).toInt) {d h b l : Int} (e : hv_t (g 541) t d h = some (b, l)) : 0 ≤ b ∧ b ≤ 86399 ∧ 1 ≤ l ∧ (h ≠ 1 → b + l ≤ 86399) ∧ (h = 1 → 1 ≤ b ∧ 86400 ≤ b + l ∧ b + l ≤ 172798) := tw_H_b (W.2.2.2.2.2 t ht).2.2.2.2.1 e
/-- which town is asked of -/
theorem ct_at {g : aa_G} (W : wd_g g) (a : Int32) : (∃ t : Nat, t < 4 ∧ a = Int32.ofNat t ∧ (t : Int) < (g 541 0).toInt ∧ fn_31 g a = some (5 * t + 14) ∧ fn_192 g a = 1) ∨ (¬ (0 ≤ a.toInt ∧ a.toInt < (g 541 0).toInt) ∧ fn_31 g a = none ∧ fn_192 g a = 0) := by
  obtain ⟨n4, -, e0, -⟩ := W
  have es : (g 541 0 - 1).toInt = (g 541 0).toInt - 1 := aa_sub32 (by rw [show (1 : Int32).toInt = 1 from rfl]; omega) (by rw [show (1 : Int32).toInt = 1 from rfl]; omega)
  have e192 : fn_192 g a = fn_154 a 0 (g 541 0 - 1) := rfl
  unfold fn_31
  rw [e192, e0]
  by_cases h : 0 ≤ a.toInt ∧ a.toInt < (g 541 0).toInt
  · left
    obtain ⟨t, t1, rfl, t3⟩ := ti_nat h.1
    refine ⟨t, by omega, rfl, by omega, ?_, ?_⟩
    · rw [if_neg (ti_14n.mpr (by rw [es]; exact ⟨h.1, by omega⟩)), zz_toN t1]
    · rw [ti_154, if_pos (by rw [es]; exact ⟨h.1, by omega⟩)]
  · right
    refine ⟨h, ?_, ?_⟩
    · rw [if_pos (ti_14z.mpr (by rw [es]; exact fun z => h ⟨z.1, by omega⟩))]
    · rw [ti_154, if_neg (by rw [es]; exact fun z => h ⟨z.1, by omega⟩)]
