/-! a LIGHT, a NIGHT of a DAY: what look lays down -/
/-- where it begins and how long it is, if it is there -/
def tw_H (w : Nat → Nat → Int) (c : Nat) (day half : Int) : Option (Int × Int) :=
  if ¬ (0 ≤ day ∧ day ≤ 35999) then none else if half = 1 ∧ day = 35999 then none else if tw_P w (day % 360) c ≠ -1 then none else
    if half = 1 then (if tw_P w ((day + 1) % 360) c ≠ -1 then none else some (tw_D w (day % 360) c 3, 86400 + tw_D w ((day + 1) % 360) c 2 - tw_D w (day % 360) c 3))
    else some (tw_D w (day % 360) c 2, tw_D w (day % 360) c 3 - tw_D w (day % 360) c 2)
theorem tw_P0 {w : Nat → Nat → Int} {v : Int} {c : Nat} (h : tw_P w v c = -1) : 0 < c := by
  rcases Nat.eq_zero_or_pos c with z | z
  · unfold tw_P at h
    rw [if_pos z] at h
    exact absurd h (by decide)
  · exact z
theorem tw_H_b {w : Nat → Nat → Int} {c : Nat} (h : tw_ok w c) {day half b l : Int} (e : tw_H w c day half = some (b, l)) : 0 ≤ b ∧ b ≤ 86399 ∧ 1 ≤ l ∧ (half ≠ 1 → b + l ≤ 86399) ∧ (half = 1 → 1 ≤ b ∧ 86400 ≤ b + l ∧ b + l ≤ 172798) := by
  unfold tw_H at e
  split at e
  · cases e
  · split at e
    · cases e
    · split at e
      · cases e
      · rename_i e1 e2 e3
        have e3 : tw_P w (day % 360) c = -1 := Decidable.not_not.mp e3
        have q := tw_D_b h (tw_P0 e3) (v := day % 360) ⟨by omega, by omega⟩ e3
        split at e
        · rename_i hh
          split at e
          · cases e
          · rename_i e4
            have e4 : tw_P w ((day + 1) % 360) c = -1 := Decidable.not_not.mp e4
            have q2 := tw_D_b h (tw_P0 e3) (v := (day + 1) % 360) ⟨by omega, by omega⟩ e4
            have e := Option.some.inj e
            have e5 := congrArg Prod.fst e
            have e6 := congrArg Prod.snd e
            dsimp only at e5 e6
            exact ⟨by omega, by omega, by omega, fun z => absurd hh z, fun _ => ⟨by omega, by omega, by omega⟩⟩
        · rename_i hh
          have e := Option.some.inj e
          have e5 := congrArg Prod.fst e
          have e6 := congrArg Prod.snd e
          dsimp only at e5 e6
          exact ⟨by omega, by omega, by omega, fun _ => by omega, fun z => absurd z hh⟩
theorem tw_H_cg {w w' : Nat → Nat → Int} {c : Nat} (h : ∀ o i, 1 ≤ o → o ≤ 4 → i < c → w' o i = w o i) {day half : Int} : tw_H w' c day half = tw_H w c day half := by
  unfold tw_H
  rw [tw_P_cg h, tw_P_cg h]
  by_cases e : tw_P w (day % 360) c = -1
  · have hc := tw_P0 e
    rw [tw_D_cg hc (.inl rfl) h, tw_D_cg hc (.inr rfl) h, tw_D_cg hc (.inl rfl) h]
  · rw [if_pos e, if_pos e]
/-- what look has laid down in a span -/
def lk_ok (g g' : aa_G) (P : Nat) (d h : Int32) (r : Option (Int × Int)) : Prop := (∀ k j, ¬ (k = P ∧ j ≤ 7) → g' k j = g k j) ∧ g' P 1 = d ∧ g' P 2 = h ∧
  (match r with
    | none => g' P 0 = 0 ∧ g' P 3 = 0 ∧ g' P 4 = 0
    | some (b, l) => g' P 0 = 1 ∧ (g' P 3).toInt = b ∧ (g' P 4).toInt = l)
theorem lk_none {g : aa_G} {P : Nat} {d h : Int32} : lk_ok g (fn_78 g P none d h) P d h none := by
  unfold fn_78
  dsimp only
  refine ⟨fun k j z => ?_, ?_, ?_, ?_, ?_, ?_⟩
  · rw [aa_w_ne _ _ (by omega), aa_w_ne _ _ (by omega), aa_w_ne _ _ (by omega), aa_w_ne _ _ (by omega), aa_w_ne _ _ (by omega)]
  · rw [aa_w_ne _ _ (by omega), aa_w_ne _ _ (by omega), aa_w_ne _ _ (by omega), aa_w_at]
  · rw [aa_w_ne _ _ (by omega), aa_w_ne _ _ (by omega), aa_w_at]
  · rw [aa_w_ne _ _ (by omega), aa_w_ne _ _ (by omega), aa_w_ne _ _ (by omega), aa_w_ne _ _ (by omega), aa_w_at]
  · rw [aa_w_ne _ _ (by omega), aa_w_at]
  · rw [aa_w_at]
theorem lk_e360 : (360 : Int32).toInt = 360 := rfl
theorem lk_rem {d : Int32} (h : 0 ≤ d.toInt) : (d - d / 360 * 360).toInt = d.toInt % 360 := ti_rem h (by decide)
theorem lk_all {g : aa_G} {P T c : Nat} {d h : Int32} (hd : P < T ∨ T + 4 < P) (h1 : g T 1 = Int32.ofNat c) (hw : tw_ok (cw_t g T) c) (hh : h = 0 ∨ h = 1) : lk_ok g (fn_78 g P (some T) d h) P d h (tw_H (cw_t g T) c d.toInt h.toInt) ∧ (0 ≤ d.toInt → d.toInt ≤ 35999 → h = 0 → (fn_78 g P (some T) d h P 5).toInt = tw_P (cw_t g T) (d.toInt % 360) c) := by
  have hh1 : h.toInt = 1 ↔ h = 1 := ⟨fun z => ti_eq.mpr z, fun z => by rw [z]; rfl⟩
  unfold fn_78
  dsimp only
  generalize hg0 : zz_w (zz_w (zz_w (zz_w (zz_w g P 0 0) P 1 d) P 2 h) P 3 0) P 4 0 = g0
  have f0 : ∀ k j, ¬ (k = P ∧ j ≤ 4) → g0 k j = g k j := fun k j z => by
    rw [← hg0, aa_w_ne _ _ (by omega), aa_w_ne _ _ (by omega), aa_w_ne _ _ (by omega), aa_w_ne _ _ (by omega), aa_w_ne _ _ (by omega)]
  have p0 : g0 P 0 = 0 := by rw [← hg0, aa_w_ne _ _ (by omega), aa_w_ne _ _ (by omega), aa_w_ne _ _ (by omega), aa_w_ne _ _ (by omega), aa_w_at]
  have p1 : g0 P 1 = d := by rw [← hg0, aa_w_ne _ _ (by omega), aa_w_ne _ _ (by omega), aa_w_ne _ _ (by omega), aa_w_at]
  have p2 : g0 P 2 = h := by rw [← hg0, aa_w_ne _ _ (by omega), aa_w_ne _ _ (by omega), aa_w_at]
  have p3 : g0 P 3 = 0 := by rw [← hg0, aa_w_ne _ _ (by omega), aa_w_at]
  have p4 : g0 P 4 = 0 := by rw [← hg0, aa_w_at]
  have cwe : ∀ g1 : aa_G, (∀ k j, ¬ (k = P ∧ j ≤ 7) → g1 k j = g k j) → (g1 T 1 = Int32.ofNat c ∧ ∀ o, 1 ≤ o → o ≤ 4 → cw_t g1 T o = cw_t g T o) := fun g1 f => ⟨(f _ _ (by omega)).trans h1, fun o o1 o2 => by
    funext i
    unfold cw_t
    rw [f _ _ (by omega)]⟩
  have okc : ∀ g1 : aa_G, (∀ k j, ¬ (k = P ∧ j ≤ 7) → g1 k j = g k j) → tw_ok (cw_t g1 T) c := fun g1 f => by
    obtain ⟨-, q⟩ := cwe g1 f
    unfold tw_ok
    rw [q 1 (by omega) (by omega), q 2 (by omega) (by omega), q 3 (by omega) (by omega), q 4 (by omega) (by omega)]
    exact hw
  have Pc : ∀ g1 : aa_G, (∀ k j, ¬ (k = P ∧ j ≤ 7) → g1 k j = g k j) → ∀ v, tw_P (cw_t g1 T) v c = tw_P (cw_t g T) v c := fun g1 f v => tw_P_cg fun o i o1 o2 _ => congrFun ((cwe g1 f).2 o o1 o2) i
  have Dc : ∀ g1 : aa_G, (∀ k j, ¬ (k = P ∧ j ≤ 7) → g1 k j = g k j) → 0 < c → ∀ v o, (o = 2 ∨ o = 3) → tw_D (cw_t g1 T) v c o = tw_D (cw_t g T) v c o := fun g1 f hc v o ho => tw_D_cg hc ho fun o i o1 o2 _ => congrFun ((cwe g1 f).2 o o1 o2) i
  have f07 : ∀ k j, ¬ (k = P ∧ j ≤ 7) → g0 k j = g k j := fun k j z => f0 k j (by omega)
  have none0 : lk_ok g g0 P d h none := ⟨f07, p1, p2, p0, p3, p4⟩
  unfold fn_78_30
  rw [p1, p2]
  by_cases hday : 0 ≤ d.toInt ∧ d.toInt ≤ 35999
  · rw [if_neg (ti_77n.mpr hday)]
    have hdd : (d + 1).toInt = d.toInt + 1 := aa_add32 (by rw [show (1 : Int32).toInt = 1 from rfl]; omega) (by rw [show (1 : Int32).toInt = 1 from rfl]; omega)
    have hb : (¬ (h.toInt = 1 ∧ d.toInt = 35999)) → (if h ≠ 1 then fn_78_60 g0 P T else if fn_77 (d + 1) ≠ 0 then fn_78_60 g0 P T else g0) = fn_78_60 g0 P T := by
      intro z
      by_cases e : h = 1
      · rw [if_neg (fun z => z e), if_pos (ti_77n.mpr (by rw [hdd]; have q2 : d.toInt ≠ 35999 := fun q => z ⟨hh1.mpr e, q⟩; omega))]
      · rw [if_pos e]
    have main : lk_ok g (fn_78_60 g0 P T) P d h (if tw_P (cw_t g T) (d.toInt % 360) c ≠ -1 then none else
    if h.toInt = 1 then (if tw_P (cw_t g T) ((d.toInt + 1) % 360) c ≠ -1 then none else some (tw_D (cw_t g T) (d.toInt % 360) c 3, 86400 + tw_D (cw_t g T) ((d.toInt + 1) % 360) c 2 - tw_D (cw_t g T) (d.toInt % 360) c 3))
    else some (tw_D (cw_t g T) (d.toInt % 360) c 2, tw_D (cw_t g T) (d.toInt % 360) c 3 - tw_D (cw_t g T) (d.toInt % 360) c 2)) ∧ (h = 0 → (fn_78_60 g0 P T P 5).toInt = tw_P (cw_t g T) (d.toInt % 360) c) := by
      unfold fn_78_60
      rw [p1]
      have er : (d - d / 360 * 360).toInt = d.toInt % 360 := lk_rem hday.1
      have hr := rt_all (P := P) (y := d - d / 360 * 360) hd (cwe g0 f07).1 (okc g0 f07) (by rw [er]; omega) rfl
      rw [er, Pc g0 f07] at hr
      generalize fn_79 g0 P T (d - d / 360 * 360) = g1 at hr ⊢
      obtain ⟨r1, r2, r3⟩ := hr
      have f1 : ∀ k j, ¬ (k = P ∧ j ≤ 7) → g1 k j = g k j := fun k j z => (r2 k j (by omega)).trans (f07 k j z)
      have k0 : ∀ j, j ≤ 4 → g1 P j = g0 P j := fun j hj => r2 P j (by omega)
      unfold fn_78_73
      by_cases hP : tw_P (cw_t g T) (d.toInt % 360) c = -1
      · have hP5 : g1 P 5 = -1 := ti_eq.mpr (by rw [r1, hP]; rfl)
        have hc := tw_P0 hP
        obtain ⟨d6, d7⟩ := r3 (by rw [r1, hP])
        rw [Dc g0 f07 hc _ _ (.inl rfl)] at d6
        rw [Dc g0 f07 hc _ _ (.inr rfl)] at d7
        have bnd := tw_D_b hw hc (v := d.toInt % 360) ⟨by omega, by omega⟩ hP
        rw [if_pos hP5, k0 2 (by omega), p2, if_neg (c := tw_P (cw_t g T) (d.toInt % 360) c ≠ -1) (fun z => z hP)]
        rcases hh with rfl | rfl
        · rw [if_neg (c := (0 : Int32) ≠ 0) (fun z => z rfl), if_neg (c := (0 : Int32).toInt = 1) (by decide)]
          unfold fn_78_100
          rw [k0 2 (by omega), p2, if_pos (c := (0 : Int32) ≠ 1) (by decide)]
          unfold fn_78_149
          refine ⟨⟨fun k j z => ?_, ?_, ?_, ?_, ?_, ?_⟩, fun _ => ?_⟩
          · rw [aa_w_ne _ _ (by omega), aa_w_ne _ _ (by omega), aa_w_ne _ _ (by omega)]
            exact f1 k j z
          · rw [aa_w_ne _ _ (by omega), aa_w_ne _ _ (by omega), aa_w_ne _ _ (by omega), k0 1 (by omega), p1]
          · rw [aa_w_ne _ _ (by omega), aa_w_ne _ _ (by omega), aa_w_ne _ _ (by omega), k0 2 (by omega), p2]
          · rw [aa_w_ne _ _ (by omega), aa_w_ne _ _ (by omega), aa_w_at]
          · rw [aa_w_ne _ _ (by omega), aa_w_at, d6]
          · rw [aa_w_at, aa_sub32 (by omega) (by omega), d6, d7]
          · rw [aa_w_ne _ _ (by omega), aa_w_ne _ _ (by omega), aa_w_ne _ _ (by omega), r1]
        · rw [if_pos (c := (1 : Int32) ≠ 0) (by decide), if_pos (c := (1 : Int32).toInt = 1) rfl]
          unfold fn_78_100
          rw [k0 2 (by omega), p2, if_neg (c := (1 : Int32) ≠ 1) (fun z => z rfl), k0 1 (by omega), p1]
          have er2 : ((d + 1) - (d + 1) / 360 * 360).toInt = (d.toInt + 1) % 360 := by rw [lk_rem (by rw [hdd]; omega), hdd]
          have hr2 := rt_all (P := P) (y := (d + 1) - (d + 1) / 360 * 360) hd (cwe g1 f1).1 (okc g1 f1) (by rw [er2]; omega) rfl
          rw [er2, Pc g1 f1] at hr2
          generalize fn_79 g1 P T ((d + 1) - (d + 1) / 360 * 360) = g2 at hr2 ⊢
          obtain ⟨s1, s2, s3⟩ := hr2
          have f2 : ∀ k j, ¬ (k = P ∧ j ≤ 7) → g2 k j = g k j := fun k j z => (s2 k j (by omega)).trans (f1 k j z)
          have k2 : ∀ j, j ≤ 4 → g2 P j = g0 P j := fun j hj => (s2 P j (by omega)).trans (k0 j hj)
          unfold fn_78_131
          by_cases hP2 : tw_P (cw_t g T) ((d.toInt + 1) % 360) c = -1
          · have hP52 : g2 P 5 = -1 := ti_eq.mpr (by rw [s1, hP2]; rfl)
            obtain ⟨d6', -⟩ := s3 (by rw [s1, hP2])
            rw [Dc g1 f1 hc _ _ (.inl rfl)] at d6'
            have bnd2 := tw_D_b hw hc (v := (d.toInt + 1) % 360) ⟨by omega, by omega⟩ hP2
            rw [if_pos hP52, if_neg (c := tw_P (cw_t g T) ((d.toInt + 1) % 360) c ≠ -1) (fun z => z hP2)]
            unfold fn_78_149
            have e86 : (86400 + g2 P 6).toInt = 86400 + (g2 P 6).toInt := aa_add32 (by rw [show (86400 : Int32).toInt = 86400 from rfl]; omega) (by rw [show (86400 : Int32).toInt = 86400 from rfl]; omega)
            refine ⟨⟨fun k j z => ?_, ?_, ?_, ?_, ?_, ?_⟩, fun z => absurd z (by decide)⟩
            · rw [aa_w_ne _ _ (by omega), aa_w_ne _ _ (by omega), aa_w_ne _ _ (by omega)]
              exact f2 k j z
            · rw [aa_w_ne _ _ (by omega), aa_w_ne _ _ (by omega), aa_w_ne _ _ (by omega), k2 1 (by omega), p1]
            · rw [aa_w_ne _ _ (by omega), aa_w_ne _ _ (by omega), aa_w_ne _ _ (by omega), k2 2 (by omega), p2]
            · rw [aa_w_ne _ _ (by omega), aa_w_ne _ _ (by omega), aa_w_at]
            · rw [aa_w_ne _ _ (by omega), aa_w_at, d7]
            · rw [aa_w_at, aa_sub32 (by omega) (by omega), e86, d6', d7]
          · have hP52 : g2 P 5 ≠ -1 := fun z => hP2 (by rw [← s1, z]; rfl)
            rw [if_neg hP52, if_pos (c := tw_P (cw_t g T) ((d.toInt + 1) % 360) c ≠ -1) hP2]
            exact ⟨⟨f2, (k2 1 (by omega)).trans p1, (k2 2 (by omega)).trans p2, (k2 0 (by omega)).trans p0, (k2 3 (by omega)).trans p3, (k2 4 (by omega)).trans p4⟩, fun z => absurd z (by decide)⟩
      · have hP5 : g1 P 5 ≠ -1 := fun z => hP (by rw [← r1, z]; rfl)
        rw [if_neg hP5, if_pos (c := tw_P (cw_t g T) (d.toInt % 360) c ≠ -1) hP]
        exact ⟨⟨f1, (k0 1 (by omega)).trans p1, (k0 2 (by omega)).trans p2, (k0 0 (by omega)).trans p0, (k0 3 (by omega)).trans p3, (k0 4 (by omega)).trans p4⟩, fun _ => r1⟩
    unfold tw_H
    rw [if_neg (c := ¬ (0 ≤ d.toInt ∧ d.toInt ≤ 35999)) (fun z => z hday)]
    by_cases hl : h.toInt = 1 ∧ d.toInt = 35999
    · rw [if_pos hl, if_neg (c := h ≠ 1) (fun z => z (hh1.mp hl.1)), if_neg (c := fn_77 (d + 1) ≠ 0) (fun z => by have := ti_77n.mp z; rw [hdd] at this; omega)]
      exact ⟨none0, fun _ _ z => by rw [z] at hl; exact absurd hl.1 (show ¬ ((0 : Int32).toInt = 1) by decide)⟩
    · rw [if_neg (c := h.toInt = 1 ∧ d.toInt = 35999) hl, hb hl]
      exact ⟨main.1, fun _ _ => main.2⟩
  · rw [if_pos (ti_77z.mpr hday)]
    unfold tw_H
    rw [if_pos (c := ¬ (0 ≤ d.toInt ∧ d.toInt ≤ 35999)) hday]
    exact ⟨none0, fun z1 z2 _ => absurd ⟨z1, z2⟩ hday⟩
