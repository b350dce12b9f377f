/-! THE LAW ASKS OF ONE DAY (279), in pieces (printed by wip/p54/w10.py) -/
theorem hv_n1 {a : Nat → Int32} {t : Nat} {d : Int} (e : hv_t a t d 0 = none) : hv_t a t d 1 = none := by
  cases e1 : hv_t a t d 1 with
  | none => rfl
  | some p =>
    obtain ⟨b, l⟩ := p
    obtain ⟨⟨b0, l0, g1, -⟩, -⟩ := tw_H_1 e1
    have g1 : hv_t a t d 0 = some (b0, l0) := g1
    rw [e] at g1
    cases g1
theorem hv_pn {a : Nat → Int32} {t : Nat} {d : Int} (hd : 0 ≤ d ∧ d ≤ 35999) (e : hv_t a t d 0 = none) : pv_t a t (d % 360) ≠ -1 := fun z => by
  unfold hv_t tw_H at e
  unfold pv_t at z
  rw [if_neg (by omega), if_neg (by omega), if_neg (fun q => q z)] at e
  cases e
theorem s_11_e {a : Nat → Int32} {t : Nat} {day : Int} : s_11 a t day 0 = y_el (hv_t a t day 0) (-2) (fun u _ => u) ∧ s_11 a t day 1 = y_el (hv_t a t day 0) (-2) (fun u l => u + l) ∧ s_11 a t day 2 = y_el (hv_t a t day 0) (-2) (fun u l => u + l - u) ∧ s_11 a t day 3 = y_el (hv_t a t day 1) (-2) (fun u l => u + l - u) ∧ s_11 a t day 4 = pv_t a t (day % 360) ∧ s_11 a t day 5 = -1 := by
  refine ⟨?_, ?_, ?_, ?_, rfl, rfl⟩
  · show (match hv_t a t day 0 with | none => (-2 : Int) | some (u, l) => if (0 : Int) = 0 then u else if (0 : Int) = 1 then u + l else l) = _
    cases hv_t a t day 0 with
    | none => rfl
    | some p => rfl
  · show (match hv_t a t day 0 with | none => (-2 : Int) | some (u, l) => if (1 : Int) = 0 then u else if (1 : Int) = 1 then u + l else l) = _
    cases hv_t a t day 0 with
    | none => rfl
    | some p => rfl
  · show (match hv_t a t day 0 with | none => (-2 : Int) | some (u, l) => if (2 : Int) = 0 then u else if (2 : Int) = 1 then u + l else l) = _
    cases hv_t a t day 0 with
    | none => rfl
    | some p =>
      show p.2 = p.1 + p.2 - p.1
      omega
  · show (match hv_t a t day 1 with | none => (-2 : Int) | some (u, l) => if (3 : Int) = 0 then u else if (3 : Int) = 1 then u + l else l) = _
    cases hv_t a t day 1 with
    | none => rfl
    | some p =>
      show p.2 = p.1 + p.2 - p.1
      omega
def y_tn (o : Option (Int × Int × Int × Int)) (f : Int → Int → Int → Int → Int) : Int := match o with
  | none => -2
  | some (d, x, b, l) => f d x b l
theorem s_12_e {a : Nat → Int32} {t : Nat} {day s : Int} : s_12 a t day s 0 = y_tn (wt_T a t day s) (fun d _ _ _ => d) ∧ s_12 a t day s 1 = y_tn (wt_T a t day s) (fun _ x _ _ => x) ∧ s_12 a t day s 2 = y_tn (wt_T a t day s) (fun d _ b l => (s + 86400 * (day - d) - b) * 12 * (a 1).toInt / l / (a 1).toInt) ∧ s_12 a t day s 3 = y_tn (wt_T a t day s) (fun d _ b l => (s + 86400 * (day - d) - b) * 12 * (a 1).toInt / l % (a 1).toInt) ∧ s_12 a t day s 4 = y_tn (wt_T a t day s) (fun d _ b l => (s + 86400 * (day - d) - b) * 12 * (a 1).toInt / l) ∧ s_12 a t day s 5 = y_tn (wt_T a t day s) (fun d _ b _ => s + 86400 * (day - d) - b) := by
  unfold s_12
  cases wt_T a t day s with
  | none => exact ⟨rfl, rfl, rfl, rfl, rfl, rfl⟩
  | some p => exact ⟨rfl, rfl, rfl, rfl, rfl, rfl⟩
theorem s_95_e {a : Nat → Int32} {t : Nat} {day s : Int} : s_95 a t day s 0 = day ∧ s_95 a t day s 1 = y_el (hv_t a t day 0) (-2) (fun u _ => if s < u then day - 1 else day) ∧ s_95 a t day s 2 = y_el (hv_t a t day 0) (-2) (fun u l => if s < u + l then day else day + 1) ∧ s_95 a t day s 3 = (if s < 43200 then day - 1 else day) ∧ s_95 a t day s 4 = -1 := by
  unfold s_95
  cases hv_t a t day 0 with
  | none => exact ⟨rfl, rfl, rfl, rfl, rfl⟩
  | some p => exact ⟨rfl, rfl, rfl, rfl, rfl⟩
section YD10
variable {X : yy_X} {own : yOwn} {w t L : Nat} {xs : Nat → Int32} {lst : List (yBell × List fl_T)} {g0 g : aa_G} {h : zz_H} {day fr s : Int} {φ : Option Value → zz_H → Prop}
theorem yl_d1 (F : yCf own w lst g0) (ht : (t : Int) < (g0 541 0).toInt) (hd : 0 ≤ day ∧ day ≤ 35999) (C : yCx own w lst g0 h g) (hB : h.1.1 + 200 < yy_B) (kk : ∀ h' g' k6 k7 p8 k9 i10, yCx own w lst g0 h' g' → yx (yAk w) 20 60 h h' → yHr h' w k6 (hv_t (g0 541) t day 0) → yHr h' w k7 (hv_t (g0 541) t day 1) → yy_fin X 279 (172, [some (.ref 1), some (.ref w), some (.ref 0), some (.int (Int32.ofInt fr)), some (.int (Int32.ofInt (t : Int))), some (.int (Int32.ofInt day)), some (zz_val k6), some (zz_val k7), some (.int (Int32.ofInt p8)), some (.ref k9), some (.int (Int32.ofInt i10)), none, none, none, none, none, none, none, none, none, none, none, none, none, none], [], h') φ) : yy_fin X 279 (0, zz_in [.ref 1, .ref w, .ref 0, .int (Int32.ofInt fr), .int (Int32.ofInt (t : Int)), .int (Int32.ofInt day)] (zz_nl 279), [], h) φ := by
  have n4 := F.2.2.2.1
  have hq := F.2.2.2.2.1
  have Y : yx (yAk w) 0 0 h h := yx.rf
  have hY := Y.1
  have hg := C.2.1.2
  refine yy_fin.steps (n := 4) (s' := (6, [some (.ref 1), some (.ref w), some (.ref 0), some (.int (Int32.ofInt fr)), some (.int (Int32.ofInt (t : Int))), some (.int (Int32.ofInt day)), none, none, none, none, none, none, none, none, none, none, none, none, none, none, none, none, none, none, none], [.int (Int32.ofInt 0), .int (Int32.ofInt day), .int (Int32.ofInt (t : Int)), .ref w], h)) rfl ?_
  obtain ⟨fw1, oW1⟩ := C.ow
  refine yy_fin.cv (as := [.int (Int32.ofInt (t : Int)), .int (Int32.ofInt day), .int (Int32.ofInt 0)]) rfl rfl rfl oW1 (Nat.le_of_ble_eq_true rfl) (Nat.le_of_ble_eq_true rfl) (yc_half F C ht (day := day) (half := 0) (by omega) (Or.inl rfl) (by omega)) ?_
  rintro v h1 ⟨C, x1, z1⟩
  replace Y := Y.tr x1 (fun _ _ e => e)
  replace hY := Y.1
  have H6 : ∃ q, v = some (zz_val q) ∧ yHr h1 w q (hv_t (g0 541) t day 0) := by
    cases eo : hv_t (g0 541) t day 0 with
    | none => rw [eo] at z1; exact ⟨none, z1, Or.inl ⟨rfl, rfl⟩⟩
    | some p => obtain ⟨u, l⟩ := p; rw [eo] at z1; obtain ⟨q, z1, z2⟩ := z1; exact ⟨some q, z1, Or.inr ⟨q, u, l, rfl, rfl, z2⟩⟩
  obtain ⟨k6, rfl, H6⟩ := H6
  refine yy_fin.steps (n := 5) (s' := (17, [some (.ref 1), some (.ref w), some (.ref 0), some (.int (Int32.ofInt fr)), some (.int (Int32.ofInt (t : Int))), some (.int (Int32.ofInt day)), some (zz_val k6), none, none, none, none, none, none, none, none, none, none, none, none, none, none, none, none, none, none], [.int (Int32.ofInt 1), .int (Int32.ofInt day), .int (Int32.ofInt (t : Int)), .ref w], h1)) rfl ?_
  obtain ⟨fw2, oW2⟩ := C.ow
  refine yy_fin.cv (as := [.int (Int32.ofInt (t : Int)), .int (Int32.ofInt day), .int (Int32.ofInt 1)]) rfl rfl rfl oW2 (Nat.le_of_ble_eq_true rfl) (Nat.le_of_ble_eq_true rfl) (yc_half F C ht (day := day) (half := 1) (by omega) (Or.inr rfl) (by omega)) ?_
  rintro v h2 ⟨C, x2, z2⟩
  replace H6 := H6.k x2
  replace Y := Y.tr x2 (fun _ _ e => e)
  replace hY := Y.1
  have H7 : ∃ q, v = some (zz_val q) ∧ yHr h2 w q (hv_t (g0 541) t day 1) := by
    cases eo : hv_t (g0 541) t day 1 with
    | none => rw [eo] at z2; exact ⟨none, z2, Or.inl ⟨rfl, rfl⟩⟩
    | some p => obtain ⟨u, l⟩ := p; rw [eo] at z2; obtain ⟨q, z1, z2⟩ := z2; exact ⟨some q, z1, Or.inr ⟨q, u, l, rfl, rfl, z2⟩⟩
  obtain ⟨k7, rfl, H7⟩ := H7
  refine yy_fin.steps (n := 2) (s' := (24, [some (.ref 1), some (.ref w), some (.ref 0), some (.int (Int32.ofInt fr)), some (.int (Int32.ofInt (t : Int))), some (.int (Int32.ofInt day)), some (zz_val k6), some (zz_val k7), none, none, none, none, none, none, none, none, none, none, none, none, none, none, none, none, none], [zz_val k6], h2)) rfl ?_
  suffices J3 : ∀ (v3 : Int) (h' : zz_H), v3 = pv_t (g0 541) t (day % 360) → yCx own w lst g0 h' g → yx (yAk w) 1 2 h2 h' → yy_fin X 279 (41, [some (.ref 1), some (.ref w), some (.ref 0), some (.int (Int32.ofInt fr)), some (.int (Int32.ofInt (t : Int))), some (.int (Int32.ofInt day)), some (zz_val k6), some (zz_val k7), none, none, none, none, none, none, none, none, none, none, none, none, none, none, none, none, none], [.int (Int32.ofInt v3)], h') φ by
    have Y : yx (yAk w) 0 0 h2 h2 := yx.rf
    have hZ := hY
    have hY := Y.1
    rcases H6 with ⟨rfl, eo4⟩ | ⟨q4, u4, l4, rfl, eo4, R4⟩
    · refine yy_fin.steps (n := 4) (s' := (32, [some (.ref 1), some (.ref w), some (.ref 0), some (.int (Int32.ofInt fr)), some (.int (Int32.ofInt (t : Int))), some (.int (Int32.ofInt day)), some (.null), some (zz_val k7), none, none, none, none, none, none, none, none, none, none, none, none, none, none, none, none, none], [.int (Int32.ofInt day), .int (Int32.ofInt (t : Int)), .ref w], h2)) rfl ?_
      have hpn := hv_pn hd eo4
      obtain ⟨fw5, oW5⟩ := C.ow
      refine yy_fin.cv (as := [.int (Int32.ofInt (t : Int)), .int (Int32.ofInt day)]) rfl rfl rfl oW5 (Nat.le_of_ble_eq_true rfl) (Nat.le_of_ble_eq_true rfl) (yc_table F C ht (day := day) (by omega) (by omega)) ?_
      rintro v h5 ⟨C, x5, k5, rfl, T5⟩
      replace H7 := H7.k x5
      replace Y := Y.tr x5 (fun _ _ e => e)
      replace hY := Y.1
      rw [if_neg hpn] at T5
      refine yy_fin.steps (n := 1) (s' := (36, [some (.ref 1), some (.ref w), some (.ref 0), some (.int (Int32.ofInt fr)), some (.int (Int32.ofInt (t : Int))), some (.int (Int32.ofInt day)), some (.null), some (zz_val k7), none, none, none, none, none, none, none, none, none, none, none, none, none, none, none, none, none], [.int (Int32.ofInt 0), .ref k5], h5)) rfl ?_
      refine yy_fin.lp (j := 0) rfl T5.2 (by decide) (by decide) rfl ?_
      refine yy_fin.steps (n := 1) (s' := (41, [some (.ref 1), some (.ref w), some (.ref 0), some (.int (Int32.ofInt fr)), some (.int (Int32.ofInt (t : Int))), some (.int (Int32.ofInt day)), some (.null), some (zz_val k7), none, none, none, none, none, none, none, none, none, none, none, none, none, none, none, none, none], [.int (Int32.ofInt (pv_t (g0 541) t (day % 360)))], h5)) rfl ?_
      exact J3 _ _ rfl C (Y.le (by omega) (by omega))
    · have hb4 := hv_bnd2 F.2.2.2 ht eo4
      refine yy_fin.steps (n := 2) (s' := (41, [some (.ref 1), some (.ref w), some (.ref 0), some (.int (Int32.ofInt fr)), some (.int (Int32.ofInt (t : Int))), some (.int (Int32.ofInt day)), some (.ref q4), some (zz_val k7), none, none, none, none, none, none, none, none, none, none, none, none, none, none, none, none, none], [.int (Int32.ofInt (-1))], h2)) rfl ?_
      exact J3 _ _ (hv_pv eo4).symm C (Y.le (by omega) (by omega))
  intro v3 h3 ev3 C x3
  replace H6 := H6.k x3
  replace H7 := H7.k x3
  replace Y := Y.tr x3 (fun _ _ e => e)
  replace hY := Y.1
  refine yy_fin.steps (n := 2) (s' := (45, [some (.ref 1), some (.ref w), some (.ref 0), some (.int (Int32.ofInt fr)), some (.int (Int32.ofInt (t : Int))), some (.int (Int32.ofInt day)), some (zz_val k6), some (zz_val k7), some (.int (Int32.ofInt v3)), none, none, none, none, none, none, none, none, none, none, none, none, none, none, none, none], [.int (Int32.ofInt 6)], h3)) rfl ?_
  refine yy_fin.ni (n := 6) rfl (by decide) (by decide) (by decide) (by omega) C.2.2.2.2 fun h6 x6 e6 i6 z6 => ?_
  have Q : yQ h6 (h3.1.1 + 1) 6 [] := ⟨i6, fun j v e => nomatch e⟩
  have NQ : yx yF 1 6 h3 h6 := x6
  refine yy_fin.steps (n := 3) (s' := (51, [some (.ref 1), some (.ref w), some (.ref 0), some (.int (Int32.ofInt fr)), some (.int (Int32.ofInt (t : Int))), some (.int (Int32.ofInt day)), some (zz_val k6), some (zz_val k7), some (.int (Int32.ofInt v3)), none, none, none, none, none, none, none, none, none, none, none, none, none, none, none, none], [zz_val k6, .int (Int32.ofInt 0), .ref (h3.1.1 + 1), .ref (h3.1.1 + 1)], h6)) rfl ?_
  suffices J7 : ∀ v7 : Int, v7 = y_el (hv_t (g0 541) t day 0) (-2) (fun u _ => u) → yy_fin X 279 (63, [some (.ref 1), some (.ref w), some (.ref 0), some (.int (Int32.ofInt fr)), some (.int (Int32.ofInt (t : Int))), some (.int (Int32.ofInt day)), some (zz_val k6), some (zz_val k7), some (.int (Int32.ofInt v3)), none, none, none, none, none, none, none, none, none, none, none, none, none, none, none, none], [.int (Int32.ofInt v7), .int (Int32.ofInt 0), .ref (h3.1.1 + 1), .ref (h3.1.1 + 1)], h6) φ by
    rcases H6 with ⟨rfl, eo8⟩ | ⟨q8, u8, l8, rfl, eo8, R8⟩
    · refine yy_fin.steps (n := 3) (s' := (63, [some (.ref 1), some (.ref w), some (.ref 0), some (.int (Int32.ofInt fr)), some (.int (Int32.ofInt (t : Int))), some (.int (Int32.ofInt day)), some (.null), some (zz_val k7), some (.int (Int32.ofInt v3)), none, none, none, none, none, none, none, none, none, none, none, none, none, none, none, none], [.int (Int32.ofInt (-2)), .int (Int32.ofInt 0), .ref (h3.1.1 + 1), .ref (h3.1.1 + 1)], h6)) rfl ?_
      exact J7 _ (by rw [eo8]; rfl)
    · have hb8 := hv_bnd2 F.2.2.2 ht eo8
      refine yy_fin.steps (n := 3) (s' := (62, [some (.ref 1), some (.ref w), some (.ref 0), some (.int (Int32.ofInt fr)), some (.int (Int32.ofInt (t : Int))), some (.int (Int32.ofInt day)), some (.ref q8), some (zz_val k7), some (.int (Int32.ofInt v3)), none, none, none, none, none, none, none, none, none, none, none, none, none, none, none, none], [.int (Int32.ofInt 0), .ref q8, .int (Int32.ofInt 0), .ref (h3.1.1 + 1), .ref (h3.1.1 + 1)], h6)) rfl ?_
      refine yy_fin.lp (j := 0) rfl (R8.k NQ.ak).2 (by decide) (by decide) rfl ?_
      exact J7 _ (by rw [eo8]; rfl)
  intro v7 ev7
  refine yy_fin.sq rfl Q (by decide) (by decide) fun h9 x9 q9 => ?_
  replace Q := q9
  replace NQ := (NQ.tr x9 (fun q hq e => by have e : q = _ := e; have hq : q ≤ h3.1.1 := hq; omega)).le (a2 := 1) (d2 := 6) (Nat.le_refl _) (Nat.le_refl _)
  refine yy_fin.steps (n := 3) (s' := (68, [some (.ref 1), some (.ref w), some (.ref 0), some (.int (Int32.ofInt fr)), some (.int (Int32.ofInt (t : Int))), some (.int (Int32.ofInt day)), some (zz_val k6), some (zz_val k7), some (.int (Int32.ofInt v3)), none, none, none, none, none, none, none, none, none, none, none, none, none, none, none, none], [zz_val k6, .int (Int32.ofInt 1), .ref (h3.1.1 + 1), .ref (h3.1.1 + 1)], h9)) rfl ?_
  suffices J10 : ∀ v10 : Int, v10 = y_el (hv_t (g0 541) t day 0) (-2) (fun u l => u + l) → yy_fin X 279 (80, [some (.ref 1), some (.ref w), some (.ref 0), some (.int (Int32.ofInt fr)), some (.int (Int32.ofInt (t : Int))), some (.int (Int32.ofInt day)), some (zz_val k6), some (zz_val k7), some (.int (Int32.ofInt v3)), none, none, none, none, none, none, none, none, none, none, none, none, none, none, none, none], [.int (Int32.ofInt v10), .int (Int32.ofInt 1), .ref (h3.1.1 + 1), .ref (h3.1.1 + 1)], h9) φ by
    rcases H6 with ⟨rfl, eo11⟩ | ⟨q11, u11, l11, rfl, eo11, R11⟩
    · refine yy_fin.steps (n := 3) (s' := (80, [some (.ref 1), some (.ref w), some (.ref 0), some (.int (Int32.ofInt fr)), some (.int (Int32.ofInt (t : Int))), some (.int (Int32.ofInt day)), some (.null), some (zz_val k7), some (.int (Int32.ofInt v3)), none, none, none, none, none, none, none, none, none, none, none, none, none, none, none, none], [.int (Int32.ofInt (-2)), .int (Int32.ofInt 1), .ref (h3.1.1 + 1), .ref (h3.1.1 + 1)], h9)) rfl ?_
      exact J10 _ (by rw [eo11]; rfl)
    · have hb11 := hv_bnd2 F.2.2.2 ht eo11
      refine yy_fin.steps (n := 3) (s' := (79, [some (.ref 1), some (.ref w), some (.ref 0), some (.int (Int32.ofInt fr)), some (.int (Int32.ofInt (t : Int))), some (.int (Int32.ofInt day)), some (.ref q11), some (zz_val k7), some (.int (Int32.ofInt v3)), none, none, none, none, none, none, none, none, none, none, none, none, none, none, none, none], [.int (Int32.ofInt 1), .ref q11, .int (Int32.ofInt 1), .ref (h3.1.1 + 1), .ref (h3.1.1 + 1)], h9)) rfl ?_
      refine yy_fin.lp (j := 1) rfl (R11.k NQ.ak).2 (by decide) (by decide) rfl ?_
      exact J10 _ (by rw [eo11]; rfl)
  intro v10 ev10
  refine yy_fin.sq rfl Q (by decide) (by decide) fun h12 x12 q12 => ?_
  replace Q := q12
  replace NQ := (NQ.tr x12 (fun q hq e => by have e : q = _ := e; have hq : q ≤ h3.1.1 := hq; omega)).le (a2 := 1) (d2 := 6) (Nat.le_refl _) (Nat.le_refl _)
  refine yy_fin.steps (n := 3) (s' := (85, [some (.ref 1), some (.ref w), some (.ref 0), some (.int (Int32.ofInt fr)), some (.int (Int32.ofInt (t : Int))), some (.int (Int32.ofInt day)), some (zz_val k6), some (zz_val k7), some (.int (Int32.ofInt v3)), none, none, none, none, none, none, none, none, none, none, none, none, none, none, none, none], [zz_val k6, .int (Int32.ofInt 2), .ref (h3.1.1 + 1), .ref (h3.1.1 + 1)], h12)) rfl ?_
  suffices J13 : ∀ v13 : Int, v13 = y_el (hv_t (g0 541) t day 0) (-2) (fun u l => u + l - u) → yy_fin X 279 (102, [some (.ref 1), some (.ref w), some (.ref 0), some (.int (Int32.ofInt fr)), some (.int (Int32.ofInt (t : Int))), some (.int (Int32.ofInt day)), some (zz_val k6), some (zz_val k7), some (.int (Int32.ofInt v3)), none, none, none, none, none, none, none, none, none, none, none, none, none, none, none, none], [.int (Int32.ofInt v13), .int (Int32.ofInt 2), .ref (h3.1.1 + 1), .ref (h3.1.1 + 1)], h12) φ by
    rcases H6 with ⟨rfl, eo14⟩ | ⟨q14, u14, l14, rfl, eo14, R14⟩
    · refine yy_fin.steps (n := 3) (s' := (102, [some (.ref 1), some (.ref w), some (.ref 0), some (.int (Int32.ofInt fr)), some (.int (Int32.ofInt (t : Int))), some (.int (Int32.ofInt day)), some (.null), some (zz_val k7), some (.int (Int32.ofInt v3)), none, none, none, none, none, none, none, none, none, none, none, none, none, none, none, none], [.int (Int32.ofInt (-2)), .int (Int32.ofInt 2), .ref (h3.1.1 + 1), .ref (h3.1.1 + 1)], h12)) rfl ?_
      exact J13 _ (by rw [eo14]; rfl)
    · have hb14 := hv_bnd2 F.2.2.2 ht eo14
      refine yy_fin.steps (n := 3) (s' := (96, [some (.ref 1), some (.ref w), some (.ref 0), some (.int (Int32.ofInt fr)), some (.int (Int32.ofInt (t : Int))), some (.int (Int32.ofInt day)), some (.ref q14), some (zz_val k7), some (.int (Int32.ofInt v3)), none, none, none, none, none, none, none, none, none, none, none, none, none, none, none, none], [.int (Int32.ofInt 1), .ref q14, .int (Int32.ofInt 2), .ref (h3.1.1 + 1), .ref (h3.1.1 + 1)], h12)) rfl ?_
      refine yy_fin.lp (j := 1) rfl (R14.k NQ.ak).2 (by decide) (by decide) rfl ?_
      refine yy_fin.steps (n := 2) (s' := (100, [some (.ref 1), some (.ref w), some (.ref 0), some (.int (Int32.ofInt fr)), some (.int (Int32.ofInt (t : Int))), some (.int (Int32.ofInt day)), some (.ref q14), some (zz_val k7), some (.int (Int32.ofInt v3)), none, none, none, none, none, none, none, none, none, none, none, none, none, none, none, none], [.int (Int32.ofInt 0), .ref q14, .int (Int32.ofInt (u14 + l14)), .int (Int32.ofInt 2), .ref (h3.1.1 + 1), .ref (h3.1.1 + 1)], h12)) rfl ?_
      refine yy_fin.lp (j := 0) rfl (R14.k NQ.ak).2 (by decide) (by decide) rfl ?_
      refine yy_fin.steps (n := 1) (s' := (102, [some (.ref 1), some (.ref w), some (.ref 0), some (.int (Int32.ofInt fr)), some (.int (Int32.ofInt (t : Int))), some (.int (Int32.ofInt day)), some (.ref q14), some (zz_val k7), some (.int (Int32.ofInt v3)), none, none, none, none, none, none, none, none, none, none, none, none, none, none, none, none], [.int ((Int32.ofInt (u14 + l14)) - (Int32.ofInt u14)), .int (Int32.ofInt 2), .ref (h3.1.1 + 1), .ref (h3.1.1 + 1)], h12)) rfl ?_
      rw [yi_sub (u14 + l14) u14]
      exact J13 _ (by rw [eo14]; rfl)
  intro v13 ev13
  refine yy_fin.sq rfl Q (by decide) (by decide) fun h15 x15 q15 => ?_
  replace Q := q15
  replace NQ := (NQ.tr x15 (fun q hq e => by have e : q = _ := e; have hq : q ≤ h3.1.1 := hq; omega)).le (a2 := 1) (d2 := 6) (Nat.le_refl _) (Nat.le_refl _)
  refine yy_fin.steps (n := 3) (s' := (107, [some (.ref 1), some (.ref w), some (.ref 0), some (.int (Int32.ofInt fr)), some (.int (Int32.ofInt (t : Int))), some (.int (Int32.ofInt day)), some (zz_val k6), some (zz_val k7), some (.int (Int32.ofInt v3)), none, none, none, none, none, none, none, none, none, none, none, none, none, none, none, none], [zz_val k7, .int (Int32.ofInt 3), .ref (h3.1.1 + 1), .ref (h3.1.1 + 1)], h15)) rfl ?_
  suffices J16 : ∀ v16 : Int, v16 = y_el (hv_t (g0 541) t day 1) (-2) (fun u l => u + l - u) → yy_fin X 279 (124, [some (.ref 1), some (.ref w), some (.ref 0), some (.int (Int32.ofInt fr)), some (.int (Int32.ofInt (t : Int))), some (.int (Int32.ofInt day)), some (zz_val k6), some (zz_val k7), some (.int (Int32.ofInt v3)), none, none, none, none, none, none, none, none, none, none, none, none, none, none, none, none], [.int (Int32.ofInt v16), .int (Int32.ofInt 3), .ref (h3.1.1 + 1), .ref (h3.1.1 + 1)], h15) φ by
    rcases H7 with ⟨rfl, eo17⟩ | ⟨q17, u17, l17, rfl, eo17, R17⟩
    · refine yy_fin.steps (n := 3) (s' := (124, [some (.ref 1), some (.ref w), some (.ref 0), some (.int (Int32.ofInt fr)), some (.int (Int32.ofInt (t : Int))), some (.int (Int32.ofInt day)), some (zz_val k6), some (.null), some (.int (Int32.ofInt v3)), none, none, none, none, none, none, none, none, none, none, none, none, none, none, none, none], [.int (Int32.ofInt (-2)), .int (Int32.ofInt 3), .ref (h3.1.1 + 1), .ref (h3.1.1 + 1)], h15)) rfl ?_
      exact J16 _ (by rw [eo17]; rfl)
    · have hb17 := hv_bnd2 F.2.2.2 ht eo17
      refine yy_fin.steps (n := 3) (s' := (118, [some (.ref 1), some (.ref w), some (.ref 0), some (.int (Int32.ofInt fr)), some (.int (Int32.ofInt (t : Int))), some (.int (Int32.ofInt day)), some (zz_val k6), some (.ref q17), some (.int (Int32.ofInt v3)), none, none, none, none, none, none, none, none, none, none, none, none, none, none, none, none], [.int (Int32.ofInt 1), .ref q17, .int (Int32.ofInt 3), .ref (h3.1.1 + 1), .ref (h3.1.1 + 1)], h15)) rfl ?_
      refine yy_fin.lp (j := 1) rfl (R17.k NQ.ak).2 (by decide) (by decide) rfl ?_
      refine yy_fin.steps (n := 2) (s' := (122, [some (.ref 1), some (.ref w), some (.ref 0), some (.int (Int32.ofInt fr)), some (.int (Int32.ofInt (t : Int))), some (.int (Int32.ofInt day)), some (zz_val k6), some (.ref q17), some (.int (Int32.ofInt v3)), none, none, none, none, none, none, none, none, none, none, none, none, none, none, none, none], [.int (Int32.ofInt 0), .ref q17, .int (Int32.ofInt (u17 + l17)), .int (Int32.ofInt 3), .ref (h3.1.1 + 1), .ref (h3.1.1 + 1)], h15)) rfl ?_
      refine yy_fin.lp (j := 0) rfl (R17.k NQ.ak).2 (by decide) (by decide) rfl ?_
      refine yy_fin.steps (n := 1) (s' := (124, [some (.ref 1), some (.ref w), some (.ref 0), some (.int (Int32.ofInt fr)), some (.int (Int32.ofInt (t : Int))), some (.int (Int32.ofInt day)), some (zz_val k6), some (.ref q17), some (.int (Int32.ofInt v3)), none, none, none, none, none, none, none, none, none, none, none, none, none, none, none, none], [.int ((Int32.ofInt (u17 + l17)) - (Int32.ofInt u17)), .int (Int32.ofInt 3), .ref (h3.1.1 + 1), .ref (h3.1.1 + 1)], h15)) rfl ?_
      rw [yi_sub (u17 + l17) u17]
      exact J16 _ (by rw [eo17]; rfl)
  intro v16 ev16
  refine yy_fin.sq rfl Q (by decide) (by decide) fun h18 x18 q18 => ?_
  replace Q := q18
  replace NQ := (NQ.tr x18 (fun q hq e => by have e : q = _ := e; have hq : q ≤ h3.1.1 := hq; omega)).le (a2 := 1) (d2 := 6) (Nat.le_refl _) (Nat.le_refl _)
  refine yy_fin.steps (n := 3) (s' := (129, [some (.ref 1), some (.ref w), some (.ref 0), some (.int (Int32.ofInt fr)), some (.int (Int32.ofInt (t : Int))), some (.int (Int32.ofInt day)), some (zz_val k6), some (zz_val k7), some (.int (Int32.ofInt v3)), none, none, none, none, none, none, none, none, none, none, none, none, none, none, none, none], [.int (Int32.ofInt v3), .int (Int32.ofInt 4), .ref (h3.1.1 + 1), .ref (h3.1.1 + 1)], h18)) rfl ?_
  refine yy_fin.sq rfl Q (by decide) (by decide) fun h19 x19 q19 => ?_
  replace Q := q19
  replace NQ := (NQ.tr x19 (fun q hq e => by have e : q = _ := e; have hq : q ≤ h3.1.1 := hq; omega)).le (a2 := 1) (d2 := 6) (Nat.le_refl _) (Nat.le_refl _)
  refine yy_fin.steps (n := 3) (s' := (133, [some (.ref 1), some (.ref w), some (.ref 0), some (.int (Int32.ofInt fr)), some (.int (Int32.ofInt (t : Int))), some (.int (Int32.ofInt day)), some (zz_val k6), some (zz_val k7), some (.int (Int32.ofInt v3)), none, none, none, none, none, none, none, none, none, none, none, none, none, none, none, none], [.int (Int32.ofInt (-1)), .int (Int32.ofInt 5), .ref (h3.1.1 + 1), .ref (h3.1.1 + 1)], h19)) rfl ?_
  refine yy_fin.sq rfl Q (by decide) (by decide) fun h20 x20 q20 => ?_
  replace Q := q20
  replace NQ := (NQ.tr x20 (fun q hq e => by have e : q = _ := e; have hq : q ≤ h3.1.1 := hq; omega)).le (a2 := 1) (d2 := 6) (Nat.le_refl _) (Nat.le_refl _)
  have x21 : yx (yAk w) 1 6 h3 h20 := NQ.ak
  have hn21 : 539 < h3.1.1 + 1 := by have := C.2.1.2; omega
  have hw21 : h3.1.1 + 1 ≠ w := by have := C.wle; omega
  replace C := C.f NQ
  have T9 : yRw h20 w (h3.1.1 + 1) [(Int32.ofInt v7), (Int32.ofInt v10), (Int32.ofInt v13), (Int32.ofInt v16), (Int32.ofInt v3), (Int32.ofInt (-1))] := ⟨⟨hn21, hw21⟩, Q⟩
  replace H6 := H6.k x21
  replace H7 := H7.k x21
  replace Y := Y.tr x21 (fun _ _ e => e)
  replace hY := Y.1
  refine yy_fin.steps (n := 5) (s' := (143, [some (.ref 1), some (.ref w), some (.ref 0), some (.int (Int32.ofInt fr)), some (.int (Int32.ofInt (t : Int))), some (.int (Int32.ofInt day)), some (zz_val k6), some (zz_val k7), some (.int (Int32.ofInt v3)), some (.ref (h3.1.1 + 1)), some (.int (Int32.ofInt 0)), none, none, none, none, none, none, none, none, none, none, none, none, none, none], [.int (Int32.ofInt 6), .int (Int32.ofInt 0)], h20)) rfl ?_
  refine yy_fin.ic rfl (fun cK => absurd cK (by decide)) (fun cK => ?_)
  refine yy_fin.steps (n := 4) (s' := (153, [some (.ref 1), some (.ref w), some (.ref 0), some (.int (Int32.ofInt fr)), some (.int (Int32.ofInt (t : Int))), some (.int (Int32.ofInt day)), some (zz_val k6), some (zz_val k7), some (.int (Int32.ofInt v3)), some (.ref (h3.1.1 + 1)), some (.int (Int32.ofInt 0)), none, none, none, none, none, none, none, none, none, none, none, none, none, none], [.int (Int32.ofInt 0), .int (Int32.ofInt day), .int (Int32.ofInt (t : Int)), .ref 1], h20)) rfl ?_
  obtain ⟨g22, r22⟩ := qi_76 F C ht hd (i := 0) (by omega)
  obtain ⟨fs22, oo22⟩ := C.o
  refine yy_fin.cv (as := [.int (Int32.ofInt (t : Int)), .int (Int32.ofInt day), .int (Int32.ofInt 0)]) rfl rfl rfl oo22 (Nat.le_of_ble_eq_true rfl) (Nat.le_of_ble_eq_true rfl) r22 ?_
  rintro v h22 ⟨rfl, C, x22⟩
  replace T9 := T9.k x22
  replace H6 := H6.k x22
  replace H7 := H7.k x22
  replace Y := Y.tr x22 (fun _ _ e => e)
  replace hY := Y.1
  refine yy_fin.steps (n := 2) (s' := (160, [some (.ref 1), some (.ref w), some (.ref 0), some (.int (Int32.ofInt fr)), some (.int (Int32.ofInt (t : Int))), some (.int (Int32.ofInt day)), some (zz_val k6), some (zz_val k7), some (.int (Int32.ofInt v3)), some (.ref (h3.1.1 + 1)), some (.int (Int32.ofInt 0)), none, none, none, none, none, none, none, none, none, none, none, none, none, none], [.int (Int32.ofInt 0), .ref (h3.1.1 + 1), .int (Int32.ofInt (s_11 (g0 541) t day 0))], h22)) rfl ?_
  refine yy_fin.lp (j := 0) rfl T9.2 (by decide) (by decide) rfl ?_
  have q0 : s_11 (g0 541) t day 0 = v7 := (s_11_e.1).trans ev7.symm
  refine yy_fin.ic rfl (fun _ => ?_) (fun cz => absurd (y_ceq (congrArg Int32.ofInt q0)) cz)
  refine yy_fin.steps (n := 4) (s' := (143, [some (.ref 1), some (.ref w), some (.ref 0), some (.int (Int32.ofInt fr)), some (.int (Int32.ofInt (t : Int))), some (.int (Int32.ofInt day)), some (zz_val k6), some (zz_val k7), some (.int (Int32.ofInt v3)), some (.ref (h3.1.1 + 1)), some (.int ((Int32.ofInt 0) + (Int32.ofInt 1))), none, none, none, none, none, none, none, none, none, none, none, none, none, none], [.int (Int32.ofInt 6), .int ((Int32.ofInt 0) + (Int32.ofInt 1))], h22)) rfl ?_
  rw [show (Int32.ofInt 0) + (Int32.ofInt 1) = Int32.ofInt 1 from by decide]
  refine yy_fin.ic rfl (fun cK => absurd cK (by decide)) (fun cK => ?_)
  refine yy_fin.steps (n := 4) (s' := (153, [some (.ref 1), some (.ref w), some (.ref 0), some (.int (Int32.ofInt fr)), some (.int (Int32.ofInt (t : Int))), some (.int (Int32.ofInt day)), some (zz_val k6), some (zz_val k7), some (.int (Int32.ofInt v3)), some (.ref (h3.1.1 + 1)), some (.int (Int32.ofInt 1)), none, none, none, none, none, none, none, none, none, none, none, none, none, none], [.int (Int32.ofInt 1), .int (Int32.ofInt day), .int (Int32.ofInt (t : Int)), .ref 1], h22)) rfl ?_
  obtain ⟨g23, r23⟩ := qi_76 F C ht hd (i := 1) (by omega)
  obtain ⟨fs23, oo23⟩ := C.o
  refine yy_fin.cv (as := [.int (Int32.ofInt (t : Int)), .int (Int32.ofInt day), .int (Int32.ofInt 1)]) rfl rfl rfl oo23 (Nat.le_of_ble_eq_true rfl) (Nat.le_of_ble_eq_true rfl) r23 ?_
  rintro v h23 ⟨rfl, C, x23⟩
  replace T9 := T9.k x23
  replace H6 := H6.k x23
  replace H7 := H7.k x23
  replace Y := Y.tr x23 (fun _ _ e => e)
  replace hY := Y.1
  refine yy_fin.steps (n := 2) (s' := (160, [some (.ref 1), some (.ref w), some (.ref 0), some (.int (Int32.ofInt fr)), some (.int (Int32.ofInt (t : Int))), some (.int (Int32.ofInt day)), some (zz_val k6), some (zz_val k7), some (.int (Int32.ofInt v3)), some (.ref (h3.1.1 + 1)), some (.int (Int32.ofInt 1)), none, none, none, none, none, none, none, none, none, none, none, none, none, none], [.int (Int32.ofInt 1), .ref (h3.1.1 + 1), .int (Int32.ofInt (s_11 (g0 541) t day 1))], h23)) rfl ?_
  refine yy_fin.lp (j := 1) rfl T9.2 (by decide) (by decide) rfl ?_
  have q1 : s_11 (g0 541) t day 1 = v10 := (s_11_e.2.1).trans ev10.symm
  refine yy_fin.ic rfl (fun _ => ?_) (fun cz => absurd (y_ceq (congrArg Int32.ofInt q1)) cz)
  refine yy_fin.steps (n := 4) (s' := (143, [some (.ref 1), some (.ref w), some (.ref 0), some (.int (Int32.ofInt fr)), some (.int (Int32.ofInt (t : Int))), some (.int (Int32.ofInt day)), some (zz_val k6), some (zz_val k7), some (.int (Int32.ofInt v3)), some (.ref (h3.1.1 + 1)), some (.int ((Int32.ofInt 1) + (Int32.ofInt 1))), none, none, none, none, none, none, none, none, none, none, none, none, none, none], [.int (Int32.ofInt 6), .int ((Int32.ofInt 1) + (Int32.ofInt 1))], h23)) rfl ?_
  rw [show (Int32.ofInt 1) + (Int32.ofInt 1) = Int32.ofInt 2 from by decide]
  refine yy_fin.ic rfl (fun cK => absurd cK (by decide)) (fun cK => ?_)
  refine yy_fin.steps (n := 4) (s' := (153, [some (.ref 1), some (.ref w), some (.ref 0), some (.int (Int32.ofInt fr)), some (.int (Int32.ofInt (t : Int))), some (.int (Int32.ofInt day)), some (zz_val k6), some (zz_val k7), some (.int (Int32.ofInt v3)), some (.ref (h3.1.1 + 1)), some (.int (Int32.ofInt 2)), none, none, none, none, none, none, none, none, none, none, none, none, none, none], [.int (Int32.ofInt 2), .int (Int32.ofInt day), .int (Int32.ofInt (t : Int)), .ref 1], h23)) rfl ?_
  obtain ⟨g24, r24⟩ := qi_76 F C ht hd (i := 2) (by omega)
  obtain ⟨fs24, oo24⟩ := C.o
  refine yy_fin.cv (as := [.int (Int32.ofInt (t : Int)), .int (Int32.ofInt day), .int (Int32.ofInt 2)]) rfl rfl rfl oo24 (Nat.le_of_ble_eq_true rfl) (Nat.le_of_ble_eq_true rfl) r24 ?_
  rintro v h24 ⟨rfl, C, x24⟩
  replace T9 := T9.k x24
  replace H6 := H6.k x24
  replace H7 := H7.k x24
  replace Y := Y.tr x24 (fun _ _ e => e)
  replace hY := Y.1
  refine yy_fin.steps (n := 2) (s' := (160, [some (.ref 1), some (.ref w), some (.ref 0), some (.int (Int32.ofInt fr)), some (.int (Int32.ofInt (t : Int))), some (.int (Int32.ofInt day)), some (zz_val k6), some (zz_val k7), some (.int (Int32.ofInt v3)), some (.ref (h3.1.1 + 1)), some (.int (Int32.ofInt 2)), none, none, none, none, none, none, none, none, none, none, none, none, none, none], [.int (Int32.ofInt 2), .ref (h3.1.1 + 1), .int (Int32.ofInt (s_11 (g0 541) t day 2))], h24)) rfl ?_
  refine yy_fin.lp (j := 2) rfl T9.2 (by decide) (by decide) rfl ?_
  have q2 : s_11 (g0 541) t day 2 = v13 := (s_11_e.2.2.1).trans ev13.symm
  refine yy_fin.ic rfl (fun _ => ?_) (fun cz => absurd (y_ceq (congrArg Int32.ofInt q2)) cz)
  refine yy_fin.steps (n := 4) (s' := (143, [some (.ref 1), some (.ref w), some (.ref 0), some (.int (Int32.ofInt fr)), some (.int (Int32.ofInt (t : Int))), some (.int (Int32.ofInt day)), some (zz_val k6), some (zz_val k7), some (.int (Int32.ofInt v3)), some (.ref (h3.1.1 + 1)), some (.int ((Int32.ofInt 2) + (Int32.ofInt 1))), none, none, none, none, none, none, none, none, none, none, none, none, none, none], [.int (Int32.ofInt 6), .int ((Int32.ofInt 2) + (Int32.ofInt 1))], h24)) rfl ?_
  rw [show (Int32.ofInt 2) + (Int32.ofInt 1) = Int32.ofInt 3 from by decide]
  refine yy_fin.ic rfl (fun cK => absurd cK (by decide)) (fun cK => ?_)
  refine yy_fin.steps (n := 4) (s' := (153, [some (.ref 1), some (.ref w), some (.ref 0), some (.int (Int32.ofInt fr)), some (.int (Int32.ofInt (t : Int))), some (.int (Int32.ofInt day)), some (zz_val k6), some (zz_val k7), some (.int (Int32.ofInt v3)), some (.ref (h3.1.1 + 1)), some (.int (Int32.ofInt 3)), none, none, none, none, none, none, none, none, none, none, none, none, none, none], [.int (Int32.ofInt 3), .int (Int32.ofInt day), .int (Int32.ofInt (t : Int)), .ref 1], h24)) rfl ?_
  obtain ⟨g25, r25⟩ := qi_76 F C ht hd (i := 3) (by omega)
  obtain ⟨fs25, oo25⟩ := C.o
  refine yy_fin.cv (as := [.int (Int32.ofInt (t : Int)), .int (Int32.ofInt day), .int (Int32.ofInt 3)]) rfl rfl rfl oo25 (Nat.le_of_ble_eq_true rfl) (Nat.le_of_ble_eq_true rfl) r25 ?_
  rintro v h25 ⟨rfl, C, x25⟩
  replace T9 := T9.k x25
  replace H6 := H6.k x25
  replace H7 := H7.k x25
  replace Y := Y.tr x25 (fun _ _ e => e)
  replace hY := Y.1
  refine yy_fin.steps (n := 2) (s' := (160, [some (.ref 1), some (.ref w), some (.ref 0), some (.int (Int32.ofInt fr)), some (.int (Int32.ofInt (t : Int))), some (.int (Int32.ofInt day)), some (zz_val k6), some (zz_val k7), some (.int (Int32.ofInt v3)), some (.ref (h3.1.1 + 1)), some (.int (Int32.ofInt 3)), none, none, none, none, none, none, none, none, none, none, none, none, none, none], [.int (Int32.ofInt 3), .ref (h3.1.1 + 1), .int (Int32.ofInt (s_11 (g0 541) t day 3))], h25)) rfl ?_
  refine yy_fin.lp (j := 3) rfl T9.2 (by decide) (by decide) rfl ?_
  have q3 : s_11 (g0 541) t day 3 = v16 := (s_11_e.2.2.2.1).trans ev16.symm
  refine yy_fin.ic rfl (fun _ => ?_) (fun cz => absurd (y_ceq (congrArg Int32.ofInt q3)) cz)
  refine yy_fin.steps (n := 4) (s' := (143, [some (.ref 1), some (.ref w), some (.ref 0), some (.int (Int32.ofInt fr)), some (.int (Int32.ofInt (t : Int))), some (.int (Int32.ofInt day)), some (zz_val k6), some (zz_val k7), some (.int (Int32.ofInt v3)), some (.ref (h3.1.1 + 1)), some (.int ((Int32.ofInt 3) + (Int32.ofInt 1))), none, none, none, none, none, none, none, none, none, none, none, none, none, none], [.int (Int32.ofInt 6), .int ((Int32.ofInt 3) + (Int32.ofInt 1))], h25)) rfl ?_
  rw [show (Int32.ofInt 3) + (Int32.ofInt 1) = Int32.ofInt 4 from by decide]
  refine yy_fin.ic rfl (fun cK => absurd cK (by decide)) (fun cK => ?_)
  refine yy_fin.steps (n := 4) (s' := (153, [some (.ref 1), some (.ref w), some (.ref 0), some (.int (Int32.ofInt fr)), some (.int (Int32.ofInt (t : Int))), some (.int (Int32.ofInt day)), some (zz_val k6), some (zz_val k7), some (.int (Int32.ofInt v3)), some (.ref (h3.1.1 + 1)), some (.int (Int32.ofInt 4)), none, none, none, none, none, none, none, none, none, none, none, none, none, none], [.int (Int32.ofInt 4), .int (Int32.ofInt day), .int (Int32.ofInt (t : Int)), .ref 1], h25)) rfl ?_
  obtain ⟨g26, r26⟩ := qi_76 F C ht hd (i := 4) (by omega)
  obtain ⟨fs26, oo26⟩ := C.o
  refine yy_fin.cv (as := [.int (Int32.ofInt (t : Int)), .int (Int32.ofInt day), .int (Int32.ofInt 4)]) rfl rfl rfl oo26 (Nat.le_of_ble_eq_true rfl) (Nat.le_of_ble_eq_true rfl) r26 ?_
  rintro v h26 ⟨rfl, C, x26⟩
  replace T9 := T9.k x26
  replace H6 := H6.k x26
  replace H7 := H7.k x26
  replace Y := Y.tr x26 (fun _ _ e => e)
  replace hY := Y.1
  refine yy_fin.steps (n := 2) (s' := (160, [some (.ref 1), some (.ref w), some (.ref 0), some (.int (Int32.ofInt fr)), some (.int (Int32.ofInt (t : Int))), some (.int (Int32.ofInt day)), some (zz_val k6), some (zz_val k7), some (.int (Int32.ofInt v3)), some (.ref (h3.1.1 + 1)), some (.int (Int32.ofInt 4)), none, none, none, none, none, none, none, none, none, none, none, none, none, none], [.int (Int32.ofInt 4), .ref (h3.1.1 + 1), .int (Int32.ofInt (s_11 (g0 541) t day 4))], h26)) rfl ?_
  refine yy_fin.lp (j := 4) rfl T9.2 (by decide) (by decide) rfl ?_
  have q4 : s_11 (g0 541) t day 4 = v3 := (s_11_e.2.2.2.2.1).trans ev3.symm
  refine yy_fin.ic rfl (fun _ => ?_) (fun cz => absurd (y_ceq (congrArg Int32.ofInt q4)) cz)
  refine yy_fin.steps (n := 4) (s' := (143, [some (.ref 1), some (.ref w), some (.ref 0), some (.int (Int32.ofInt fr)), some (.int (Int32.ofInt (t : Int))), some (.int (Int32.ofInt day)), some (zz_val k6), some (zz_val k7), some (.int (Int32.ofInt v3)), some (.ref (h3.1.1 + 1)), some (.int ((Int32.ofInt 4) + (Int32.ofInt 1))), none, none, none, none, none, none, none, none, none, none, none, none, none, none], [.int (Int32.ofInt 6), .int ((Int32.ofInt 4) + (Int32.ofInt 1))], h26)) rfl ?_
  rw [show (Int32.ofInt 4) + (Int32.ofInt 1) = Int32.ofInt 5 from by decide]
  refine yy_fin.ic rfl (fun cK => absurd cK (by decide)) (fun cK => ?_)
  refine yy_fin.steps (n := 4) (s' := (153, [some (.ref 1), some (.ref w), some (.ref 0), some (.int (Int32.ofInt fr)), some (.int (Int32.ofInt (t : Int))), some (.int (Int32.ofInt day)), some (zz_val k6), some (zz_val k7), some (.int (Int32.ofInt v3)), some (.ref (h3.1.1 + 1)), some (.int (Int32.ofInt 5)), none, none, none, none, none, none, none, none, none, none, none, none, none, none], [.int (Int32.ofInt 5), .int (Int32.ofInt day), .int (Int32.ofInt (t : Int)), .ref 1], h26)) rfl ?_
  obtain ⟨g27, r27⟩ := qi_76 F C ht hd (i := 5) (by omega)
  obtain ⟨fs27, oo27⟩ := C.o
  refine yy_fin.cv (as := [.int (Int32.ofInt (t : Int)), .int (Int32.ofInt day), .int (Int32.ofInt 5)]) rfl rfl rfl oo27 (Nat.le_of_ble_eq_true rfl) (Nat.le_of_ble_eq_true rfl) r27 ?_
  rintro v h27 ⟨rfl, C, x27⟩
  replace T9 := T9.k x27
  replace H6 := H6.k x27
  replace H7 := H7.k x27
  replace Y := Y.tr x27 (fun _ _ e => e)
  replace hY := Y.1
  refine yy_fin.steps (n := 2) (s' := (160, [some (.ref 1), some (.ref w), some (.ref 0), some (.int (Int32.ofInt fr)), some (.int (Int32.ofInt (t : Int))), some (.int (Int32.ofInt day)), some (zz_val k6), some (zz_val k7), some (.int (Int32.ofInt v3)), some (.ref (h3.1.1 + 1)), some (.int (Int32.ofInt 5)), none, none, none, none, none, none, none, none, none, none, none, none, none, none], [.int (Int32.ofInt 5), .ref (h3.1.1 + 1), .int (Int32.ofInt (s_11 (g0 541) t day 5))], h27)) rfl ?_
  refine yy_fin.lp (j := 5) rfl T9.2 (by decide) (by decide) rfl ?_
  have q5 : s_11 (g0 541) t day 5 = -1 := s_11_e.2.2.2.2.2
  refine yy_fin.ic rfl (fun _ => ?_) (fun cz => absurd (y_ceq (congrArg Int32.ofInt q5)) cz)
  refine yy_fin.steps (n := 4) (s' := (143, [some (.ref 1), some (.ref w), some (.ref 0), some (.int (Int32.ofInt fr)), some (.int (Int32.ofInt (t : Int))), some (.int (Int32.ofInt day)), some (zz_val k6), some (zz_val k7), some (.int (Int32.ofInt v3)), some (.ref (h3.1.1 + 1)), some (.int ((Int32.ofInt 5) + (Int32.ofInt 1))), none, none, none, none, none, none, none, none, none, none, none, none, none, none], [.int (Int32.ofInt 6), .int ((Int32.ofInt 5) + (Int32.ofInt 1))], h27)) rfl ?_
  rw [show (Int32.ofInt 5) + (Int32.ofInt 1) = Int32.ofInt 6 from by decide]
  refine yy_fin.ic rfl (fun cK => ?_) (fun cK => absurd (by decide) cK)
  exact kk _ _ k6 k7 _ _ _ C (Y.le (by omega) (by omega)) H6 H7
theorem yl_d2 (F : yCf own w lst g0) (ht : (t : Int) < (g0 541 0).toInt) (hd : 0 ≤ day ∧ day ≤ 35999) (hX : X.1 = some (L, xs)) (hL : L ≤ 100000) (hfr : 0 ≤ fr ∧ fr ≤ 900000) (C : yCx own w lst g0 h g) (hB : h.1.1 + 200 < yy_B) {k6 k7 : Option Nat} (H6 : yHr h w k6 (hv_t (g0 541) t day 0)) (H7 : yHr h w k7 (hv_t (g0 541) t day 1)) {p8 i10 : Int} {k9 : Nat} (kk : ∀ h' g' y10 q11 p12 q13 i14, (0 ≤ y10 ∧ y10 ≤ 86399) → yCx own w lst g0 h' g' → yx (yAk w) 100 400 h h' → yHr h' w k6 (hv_t (g0 541) t day 0) → yHr h' w k7 (hv_t (g0 541) t day 1) → yy_fin X 279 (376, [some (.ref 1), some (.ref w), some (.ref 0), some (.int (Int32.ofInt fr)), some (.int (Int32.ofInt (t : Int))), some (.int (Int32.ofInt day)), some (zz_val k6), some (zz_val k7), some (.int (Int32.ofInt p8)), some (.ref k9), some (.int (Int32.ofInt y10)), some (zz_val q11), some (.int (Int32.ofInt p12)), some (.ref q13), some (.int (Int32.ofInt i14)), none, none, none, none, none, none, none, none, none, none], [], h') φ) : yy_fin X 279 (172, [some (.ref 1), some (.ref w), some (.ref 0), some (.int (Int32.ofInt fr)), some (.int (Int32.ofInt (t : Int))), some (.int (Int32.ofInt day)), some (zz_val k6), some (zz_val k7), some (.int (Int32.ofInt p8)), some (.ref k9), some (.int (Int32.ofInt i10)), none, none, none, none, none, none, none, none, none, none, none, none, none, none], [], h) φ := by
  have n4 := F.2.2.2.1
  have hq := F.2.2.2.2.1
  have Y : yx (yAk w) 0 0 h h := yx.rf
  have hY := Y.1
  have hg := C.2.1.2
  refine yy_fin.steps (n := 2) (s' := (174, [some (.ref 1), some (.ref w), some (.ref 0), some (.int (Int32.ofInt fr)), some (.int (Int32.ofInt (t : Int))), some (.int (Int32.ofInt day)), some (zz_val k6), some (zz_val k7), some (.int (Int32.ofInt p8)), some (.ref k9), some (.int (Int32.ofInt i10)), none, none, none, none, none, none, none, none, none, none, none, none, none, none], [.int (Int32.ofInt fr), .ref 0], h)) rfl ?_
  refine yy_fin.calls (as := [.ref 0, .int (Int32.ofInt fr)]) rfl (by decide) rfl rfl (Nat.le_of_ble_eq_true rfl) (Nat.le_of_ble_eq_true rfl) (yl_pick hX hL (k := fr) (by omega)) ?_
  rintro v h9 ⟨y1, rfl, ay1, by1, e9⟩
  obtain rfl := e9.symm
  refine yy_fin.steps (n := 1) (s' := (179, [some (.ref 1), some (.ref w), some (.ref 0), some (.int (Int32.ofInt fr)), some (.int (Int32.ofInt (t : Int))), some (.int (Int32.ofInt day)), some (zz_val k6), some (zz_val k7), some (.int (Int32.ofInt p8)), some (.ref k9), some (.int (Int32.ofInt i10)), none, none, none, none, none, none, none, none, none, none, none, none, none, none], [.int (Int32.ofInt 86400), .int (Int32.ofInt y1)], h)) rfl ?_
  refine yy_fin.rm rfl (by decide) ?_
  rw [yi_rem (a := y1) (b := 86400) (by omega) (by omega)]
  obtain ⟨s, es⟩ : ∃ z, z = y1 % 86400 := ⟨_, rfl⟩
  rw [← es]
  have hs : 0 ≤ s ∧ s ≤ 86399 := by omega
  refine yy_fin.steps (n := 5) (s' := (189, [some (.ref 1), some (.ref w), some (.ref 0), some (.int (Int32.ofInt fr)), some (.int (Int32.ofInt (t : Int))), some (.int (Int32.ofInt day)), some (zz_val k6), some (zz_val k7), some (.int (Int32.ofInt p8)), some (.ref k9), some (.int (Int32.ofInt s)), none, none, none, none, none, none, none, none, none, none, none, none, none, none], [.int (Int32.ofInt s), .int (Int32.ofInt day), .int (Int32.ofInt (t : Int)), .ref w], h)) rfl ?_
  obtain ⟨fw1, oW1⟩ := C.ow
  refine yy_fin.cv (as := [.int (Int32.ofInt (t : Int)), .int (Int32.ofInt day), .int (Int32.ofInt s)]) rfl rfl rfl oW1 (Nat.le_of_ble_eq_true rfl) (Nat.le_of_ble_eq_true rfl) (yc_bel F C ht (day := day) (s := s) (by omega) (by omega) (by omega)) ?_
  rintro v h1 ⟨C, x1, z1⟩
  replace H6 := H6.k x1
  replace H7 := H7.k x1
  replace Y := Y.tr x1 (fun _ _ e => e)
  replace hY := Y.1
  suffices J : ∀ (h' : zz_H) (q11 : Option Nat) (p12 : Int) (q13 : Nat), yCx own w lst g0 h' g → yx (yAk w) 20 60 h1 h' → yRw h' w q13 [Int32.ofInt (y_tn (wt_T (g0 541) t day s) (fun d _ _ _ => d)), Int32.ofInt (y_tn (wt_T (g0 541) t day s) (fun _ x _ _ => x)), Int32.ofInt (y_tn (wt_T (g0 541) t day s) (fun d _ b l => (s + 86400 * (day - d) - b) * 12 * (g0 541 1).toInt / l / (g0 541 1).toInt)), Int32.ofInt (y_tn (wt_T (g0 541) t day s) (fun d _ b l => (s + 86400 * (day - d) - b) * 12 * (g0 541 1).toInt / l % (g0 541 1).toInt)), Int32.ofInt (y_tn (wt_T (g0 541) t day s) (fun d _ b l => (s + 86400 * (day - d) - b) * 12 * (g0 541 1).toInt / l)), Int32.ofInt (y_tn (wt_T (g0 541) t day s) (fun d _ b _ => s + 86400 * (day - d) - b))] → yy_fin X 279 (338, [some (.ref 1), some (.ref w), some (.ref 0), some (.int (Int32.ofInt fr)), some (.int (Int32.ofInt (t : Int))), some (.int (Int32.ofInt day)), some (zz_val k6), some (zz_val k7), some (.int (Int32.ofInt p8)), some (.ref k9), some (.int (Int32.ofInt s)), some (zz_val q11), some (.int (Int32.ofInt p12)), some (.ref q13), none, none, none, none, none, none, none, none, none, none, none], [], h') φ by
    have Y : yx (yAk w) 0 0 h1 h1 := yx.rf
    have hZ := hY
    have hY := Y.1
    cases eb : wt_T (g0 541) t day s with
    | none =>
      rw [eb] at z1
      subst z1
      refine yy_fin.steps (n := 9) (s' := (251, [some (.ref 1), some (.ref w), some (.ref 0), some (.int (Int32.ofInt fr)), some (.int (Int32.ofInt (t : Int))), some (.int (Int32.ofInt day)), some (zz_val k6), some (zz_val k7), some (.int (Int32.ofInt p8)), some (.ref k9), some (.int (Int32.ofInt s)), some (.null), some (.int (Int32.ofInt 0)), none, none, none, none, none, none, none, none, none, none, none, none], [.int (Int32.ofInt 6)], h1)) rfl ?_
      refine yy_fin.ni (n := 6) rfl (by decide) (by decide) (by decide) (by omega) C.2.2.2.2 fun h2 x2 e2 i2 z2 => ?_
      have Q : yQ h2 (h1.1.1 + 1) 6 [] := ⟨i2, fun j v e => nomatch e⟩
      have NQ : yx yF 1 6 h1 h2 := x2
      refine yy_fin.steps (n := 3) (s' := (257, [some (.ref 1), some (.ref w), some (.ref 0), some (.int (Int32.ofInt fr)), some (.int (Int32.ofInt (t : Int))), some (.int (Int32.ofInt day)), some (zz_val k6), some (zz_val k7), some (.int (Int32.ofInt p8)), some (.ref k9), some (.int (Int32.ofInt s)), some (.null), some (.int (Int32.ofInt 0)), none, none, none, none, none, none, none, none, none, none, none, none], [.int (Int32.ofInt (-2)), .int (Int32.ofInt 0), .ref (h1.1.1 + 1), .ref (h1.1.1 + 1)], h2)) rfl ?_
      refine yy_fin.sq rfl Q (by decide) (by decide) fun h3 x3 q3 => ?_
      replace Q := q3
      replace NQ := (NQ.tr x3 (fun q hq e => by have e : q = _ := e; have hq : q ≤ h1.1.1 := hq; omega)).le (a2 := 1) (d2 := 6) (Nat.le_refl _) (Nat.le_refl _)
      refine yy_fin.steps (n := 3) (s' := (262, [some (.ref 1), some (.ref w), some (.ref 0), some (.int (Int32.ofInt fr)), some (.int (Int32.ofInt (t : Int))), some (.int (Int32.ofInt day)), some (zz_val k6), some (zz_val k7), some (.int (Int32.ofInt p8)), some (.ref k9), some (.int (Int32.ofInt s)), some (.null), some (.int (Int32.ofInt 0)), none, none, none, none, none, none, none, none, none, none, none, none], [.int (Int32.ofInt (-2)), .int (Int32.ofInt 1), .ref (h1.1.1 + 1), .ref (h1.1.1 + 1)], h3)) rfl ?_
      refine yy_fin.sq rfl Q (by decide) (by decide) fun h4 x4 q4 => ?_
      replace Q := q4
      replace NQ := (NQ.tr x4 (fun q hq e => by have e : q = _ := e; have hq : q ≤ h1.1.1 := hq; omega)).le (a2 := 1) (d2 := 6) (Nat.le_refl _) (Nat.le_refl _)
      refine yy_fin.steps (n := 3) (s' := (267, [some (.ref 1), some (.ref w), some (.ref 0), some (.int (Int32.ofInt fr)), some (.int (Int32.ofInt (t : Int))), some (.int (Int32.ofInt day)), some (zz_val k6), some (zz_val k7), some (.int (Int32.ofInt p8)), some (.ref k9), some (.int (Int32.ofInt s)), some (.null), some (.int (Int32.ofInt 0)), none, none, none, none, none, none, none, none, none, none, none, none], [.int (Int32.ofInt (-2)), .int (Int32.ofInt 2), .ref (h1.1.1 + 1), .ref (h1.1.1 + 1)], h4)) rfl ?_
      refine yy_fin.sq rfl Q (by decide) (by decide) fun h5 x5 q5 => ?_
      replace Q := q5
      replace NQ := (NQ.tr x5 (fun q hq e => by have e : q = _ := e; have hq : q ≤ h1.1.1 := hq; omega)).le (a2 := 1) (d2 := 6) (Nat.le_refl _) (Nat.le_refl _)
      refine yy_fin.steps (n := 3) (s' := (272, [some (.ref 1), some (.ref w), some (.ref 0), some (.int (Int32.ofInt fr)), some (.int (Int32.ofInt (t : Int))), some (.int (Int32.ofInt day)), some (zz_val k6), some (zz_val k7), some (.int (Int32.ofInt p8)), some (.ref k9), some (.int (Int32.ofInt s)), some (.null), some (.int (Int32.ofInt 0)), none, none, none, none, none, none, none, none, none, none, none, none], [.int (Int32.ofInt (-2)), .int (Int32.ofInt 3), .ref (h1.1.1 + 1), .ref (h1.1.1 + 1)], h5)) rfl ?_
      refine yy_fin.sq rfl Q (by decide) (by decide) fun h6 x6 q6 => ?_
      replace Q := q6
      replace NQ := (NQ.tr x6 (fun q hq e => by have e : q = _ := e; have hq : q ≤ h1.1.1 := hq; omega)).le (a2 := 1) (d2 := 6) (Nat.le_refl _) (Nat.le_refl _)
      refine yy_fin.steps (n := 3) (s' := (277, [some (.ref 1), some (.ref w), some (.ref 0), some (.int (Int32.ofInt fr)), some (.int (Int32.ofInt (t : Int))), some (.int (Int32.ofInt day)), some (zz_val k6), some (zz_val k7), some (.int (Int32.ofInt p8)), some (.ref k9), some (.int (Int32.ofInt s)), some (.null), some (.int (Int32.ofInt 0)), none, none, none, none, none, none, none, none, none, none, none, none], [.int (Int32.ofInt (-2)), .int (Int32.ofInt 4), .ref (h1.1.1 + 1), .ref (h1.1.1 + 1)], h6)) rfl ?_
      refine yy_fin.sq rfl Q (by decide) (by decide) fun h7 x7 q7 => ?_
      replace Q := q7
      replace NQ := (NQ.tr x7 (fun q hq e => by have e : q = _ := e; have hq : q ≤ h1.1.1 := hq; omega)).le (a2 := 1) (d2 := 6) (Nat.le_refl _) (Nat.le_refl _)
      refine yy_fin.steps (n := 3) (s' := (282, [some (.ref 1), some (.ref w), some (.ref 0), some (.int (Int32.ofInt fr)), some (.int (Int32.ofInt (t : Int))), some (.int (Int32.ofInt day)), some (zz_val k6), some (zz_val k7), some (.int (Int32.ofInt p8)), some (.ref k9), some (.int (Int32.ofInt s)), some (.null), some (.int (Int32.ofInt 0)), none, none, none, none, none, none, none, none, none, none, none, none], [.int (Int32.ofInt (-2)), .int (Int32.ofInt 5), .ref (h1.1.1 + 1), .ref (h1.1.1 + 1)], h7)) rfl ?_
      refine yy_fin.sq rfl Q (by decide) (by decide) fun h8 x8 q8 => ?_
      replace Q := q8
      replace NQ := (NQ.tr x8 (fun q hq e => by have e : q = _ := e; have hq : q ≤ h1.1.1 := hq; omega)).le (a2 := 1) (d2 := 6) (Nat.le_refl _) (Nat.le_refl _)
      refine yy_fin.steps (n := 1) (s' := (336, [some (.ref 1), some (.ref w), some (.ref 0), some (.int (Int32.ofInt fr)), some (.int (Int32.ofInt (t : Int))), some (.int (Int32.ofInt day)), some (zz_val k6), some (zz_val k7), some (.int (Int32.ofInt p8)), some (.ref k9), some (.int (Int32.ofInt s)), some (.null), some (.int (Int32.ofInt 0)), none, none, none, none, none, none, none, none, none, none, none, none], [.ref (h1.1.1 + 1)], h8)) rfl ?_
      have x9 : yx (yAk w) 1 6 h1 h8 := NQ.ak
      have hn9 : 539 < h1.1.1 + 1 := by have := C.2.1.2; omega
      have hw9 : h1.1.1 + 1 ≠ w := by have := C.wle; omega
      replace C := C.f NQ
      have T13 : yRw h8 w (h1.1.1 + 1) [(Int32.ofInt (-2)), (Int32.ofInt (-2)), (Int32.ofInt (-2)), (Int32.ofInt (-2)), (Int32.ofInt (-2)), (Int32.ofInt (-2))] := ⟨⟨hn9, hw9⟩, Q⟩
      replace H6 := H6.k x9
      replace H7 := H7.k x9
      replace Y := Y.tr x9 (fun _ _ e => e)
      replace hY := Y.1
      refine yy_fin.steps (n := 1) (s' := (338, [some (.ref 1), some (.ref w), some (.ref 0), some (.int (Int32.ofInt fr)), some (.int (Int32.ofInt (t : Int))), some (.int (Int32.ofInt day)), some (zz_val k6), some (zz_val k7), some (.int (Int32.ofInt p8)), some (.ref k9), some (.int (Int32.ofInt s)), some (.null), some (.int (Int32.ofInt 0)), some (.ref (h1.1.1 + 1)), none, none, none, none, none, none, none, none, none, none, none], [], h8)) rfl ?_
      refine J h8 none _ _ C (Y.le (by omega) (by omega)) ?_
      rw [eb]
      exact T13
    | some p =>
      obtain ⟨d, f, b, l⟩ := p
      rw [eb] at z1
      obtain ⟨kb, rfl, RB⟩ := z1
      obtain ⟨w1, w2, w3, w4, w5, w6, w7⟩ := wt_bnd F.2.2.2 ht hs eb
      obtain ⟨e, ee⟩ : ∃ e, e = s + 86400 * (day - d) - b := ⟨_, rfl⟩
      rw [← ee] at RB w6 w7
      refine yy_fin.steps (n := 8) (s' := (210, [some (.ref 1), some (.ref w), some (.ref 0), some (.int (Int32.ofInt fr)), some (.int (Int32.ofInt (t : Int))), some (.int (Int32.ofInt day)), some (zz_val k6), some (zz_val k7), some (.int (Int32.ofInt p8)), some (.ref k9), some (.int (Int32.ofInt s)), some (.ref kb), none, none, none, none, none, none, none, none, none, none, none, none, none], [.int (Int32.ofInt 0), .ref kb, .int (Int32.ofInt (t : Int)), .ref w, .ref w], h1)) rfl ?_
      refine yy_fin.lp (j := 0) rfl RB.2 (by decide) (by decide) rfl ?_
      refine yy_fin.steps (n := 2) (s' := (214, [some (.ref 1), some (.ref w), some (.ref 0), some (.int (Int32.ofInt fr)), some (.int (Int32.ofInt (t : Int))), some (.int (Int32.ofInt day)), some (zz_val k6), some (zz_val k7), some (.int (Int32.ofInt p8)), some (.ref k9), some (.int (Int32.ofInt s)), some (.ref kb), none, none, none, none, none, none, none, none, none, none, none, none, none], [.int (Int32.ofInt 1), .ref kb, .int (Int32.ofInt d), .int (Int32.ofInt (t : Int)), .ref w, .ref w], h1)) rfl ?_
      refine yy_fin.lp (j := 1) rfl RB.2 (by decide) (by decide) rfl ?_
      obtain ⟨fw10, oW10⟩ := C.ow
      refine yy_fin.cv (as := [.int (Int32.ofInt (t : Int)), .int (Int32.ofInt d), .int (Int32.ofInt f)]) rfl rfl rfl oW10 (Nat.le_of_ble_eq_true rfl) (Nat.le_of_ble_eq_true rfl) (yc_half F C ht (day := d) (half := f) (by omega) w2 (by omega)) ?_
      rintro v h10 ⟨C, x10, z10⟩
      replace RB := RB.k x10
      replace H6 := H6.k x10
      replace H7 := H7.k x10
      replace Y := Y.tr x10 (fun _ _ e => e)
      replace hY := Y.1
      rw [w3] at z10
      obtain ⟨k10, rfl, R10⟩ := z10
      refine yy_fin.steps (n := 4) (s' := (224, [some (.ref 1), some (.ref w), some (.ref 0), some (.int (Int32.ofInt fr)), some (.int (Int32.ofInt (t : Int))), some (.int (Int32.ofInt day)), some (zz_val k6), some (zz_val k7), some (.int (Int32.ofInt p8)), some (.ref k9), some (.int (Int32.ofInt s)), some (.ref kb), none, none, none, none, none, none, none, none, none, none, none, none, none], [.int (Int32.ofInt 0), .ref kb, .int (Int32.ofInt (t : Int)), .ref w, .ref k10, .ref w], h10)) rfl ?_
      refine yy_fin.lp (j := 0) rfl RB.2 (by decide) (by decide) rfl ?_
      refine yy_fin.steps (n := 2) (s' := (228, [some (.ref 1), some (.ref w), some (.ref 0), some (.int (Int32.ofInt fr)), some (.int (Int32.ofInt (t : Int))), some (.int (Int32.ofInt day)), some (zz_val k6), some (zz_val k7), some (.int (Int32.ofInt p8)), some (.ref k9), some (.int (Int32.ofInt s)), some (.ref kb), none, none, none, none, none, none, none, none, none, none, none, none, none], [.int (Int32.ofInt 1), .ref kb, .int (Int32.ofInt d), .int (Int32.ofInt (t : Int)), .ref w, .ref k10, .ref w], h10)) rfl ?_
      refine yy_fin.lp (j := 1) rfl RB.2 (by decide) (by decide) rfl ?_
      obtain ⟨fw11, oW11⟩ := C.ow
      refine yy_fin.cv (as := [.int (Int32.ofInt (t : Int)), .int (Int32.ofInt d), .int (Int32.ofInt f)]) rfl rfl rfl oW11 (Nat.le_of_ble_eq_true rfl) (Nat.le_of_ble_eq_true rfl) (yc_half F C ht (day := d) (half := f) (by omega) w2 (by omega)) ?_
      rintro v h11 ⟨C, x11, z11⟩
      replace RB := RB.k x11
      replace R10 := R10.k x11
      replace H6 := H6.k x11
      replace H7 := H7.k x11
      replace Y := Y.tr x11 (fun _ _ e => e)
      replace hY := Y.1
      rw [w3] at z11
      obtain ⟨k11, rfl, R11⟩ := z11
      refine yy_fin.steps (n := 1) (s' := (233, [some (.ref 1), some (.ref w), some (.ref 0), some (.int (Int32.ofInt fr)), some (.int (Int32.ofInt (t : Int))), some (.int (Int32.ofInt day)), some (zz_val k6), some (zz_val k7), some (.int (Int32.ofInt p8)), some (.ref k9), some (.int (Int32.ofInt s)), some (.ref kb), none, none, none, none, none, none, none, none, none, none, none, none, none], [.int (Int32.ofInt 0), .ref k11, .ref k10, .ref w], h11)) rfl ?_
      refine yy_fin.lp (j := 0) rfl R11.2 (by decide) (by decide) rfl ?_
      refine yy_fin.steps (n := 2) (s' := (237, [some (.ref 1), some (.ref w), some (.ref 0), some (.int (Int32.ofInt fr)), some (.int (Int32.ofInt (t : Int))), some (.int (Int32.ofInt day)), some (zz_val k6), some (zz_val k7), some (.int (Int32.ofInt p8)), some (.ref k9), some (.int (Int32.ofInt s)), some (.ref kb), none, none, none, none, none, none, none, none, none, none, none, none, none], [.int (Int32.ofInt 2), .ref kb, .int (Int32.ofInt b), .ref k10, .ref w], h11)) rfl ?_
      refine yy_fin.lp (j := 2) rfl RB.2 (by decide) (by decide) rfl ?_
      refine yy_fin.steps (n := 1) (s' := (239, [some (.ref 1), some (.ref w), some (.ref 0), some (.int (Int32.ofInt fr)), some (.int (Int32.ofInt (t : Int))), some (.int (Int32.ofInt day)), some (zz_val k6), some (zz_val k7), some (.int (Int32.ofInt p8)), some (.ref k9), some (.int (Int32.ofInt s)), some (.ref kb), none, none, none, none, none, none, none, none, none, none, none, none, none], [.int ((Int32.ofInt b) + (Int32.ofInt e)), .ref k10, .ref w], h11)) rfl ?_
      rw [yi_add b e]
      obtain ⟨fw12, oW12⟩ := C.ow
      refine yy_fin.cv (as := [.ref k10, .int (Int32.ofInt (b + e))]) rfl rfl rfl oW12 (Nat.le_of_ble_eq_true rfl) (Nat.le_of_ble_eq_true rfl) (yc_place F C R10 (s := b + e) (by omega) (by omega) (by omega)) ?_
      rintro v h9 ⟨rfl, e9⟩
      obtain rfl := e9.symm
      rw [show (b + e - b) * 12 * (g0 541 1).toInt / l = e * 12 * (g0 541 1).toInt / l by rw [show b + e - b = e by omega]]
      have hpl := yp_b (q := (g0 541 1).toInt) (l := l) (s := e) hq w5.1 ⟨w6, by omega⟩
      obtain ⟨pl, epl⟩ : ∃ pl, pl = e * 12 * (g0 541 1).toInt / l := ⟨_, rfl⟩
      rw [← epl] at hpl ⊢
      refine yy_fin.steps (n := 4) (s' := (288, [some (.ref 1), some (.ref w), some (.ref 0), some (.int (Int32.ofInt fr)), some (.int (Int32.ofInt (t : Int))), some (.int (Int32.ofInt day)), some (zz_val k6), some (zz_val k7), some (.int (Int32.ofInt p8)), some (.ref k9), some (.int (Int32.ofInt s)), some (.ref kb), some (.int (Int32.ofInt pl)), none, none, none, none, none, none, none, none, none, none, none, none], [.int (Int32.ofInt 6)], h11)) rfl ?_
      refine yy_fin.ni (n := 6) rfl (by decide) (by decide) (by decide) (by omega) C.2.2.2.2 fun h13 x13 e13 i13 z13 => ?_
      have Q : yQ h13 (h11.1.1 + 1) 6 [] := ⟨i13, fun j v e => nomatch e⟩
      have NQ : yx yF 1 6 h11 h13 := x13
      refine yy_fin.steps (n := 4) (s' := (295, [some (.ref 1), some (.ref w), some (.ref 0), some (.int (Int32.ofInt fr)), some (.int (Int32.ofInt (t : Int))), some (.int (Int32.ofInt day)), some (zz_val k6), some (zz_val k7), some (.int (Int32.ofInt p8)), some (.ref k9), some (.int (Int32.ofInt s)), some (.ref kb), some (.int (Int32.ofInt pl)), none, none, none, none, none, none, none, none, none, none, none, none], [.int (Int32.ofInt 0), .ref kb, .int (Int32.ofInt 0), .ref (h11.1.1 + 1), .ref (h11.1.1 + 1)], h13)) rfl ?_
      refine yy_fin.lp (j := 0) rfl (RB.k NQ.ak).2 (by decide) (by decide) rfl ?_
      refine yy_fin.sq rfl Q (by decide) (by decide) fun h14 x14 q14 => ?_
      replace Q := q14
      replace NQ := (NQ.tr x14 (fun q hq e => by have e : q = _ := e; have hq : q ≤ h11.1.1 := hq; omega)).le (a2 := 1) (d2 := 6) (Nat.le_refl _) (Nat.le_refl _)
      refine yy_fin.steps (n := 4) (s' := (302, [some (.ref 1), some (.ref w), some (.ref 0), some (.int (Int32.ofInt fr)), some (.int (Int32.ofInt (t : Int))), some (.int (Int32.ofInt day)), some (zz_val k6), some (zz_val k7), some (.int (Int32.ofInt p8)), some (.ref k9), some (.int (Int32.ofInt s)), some (.ref kb), some (.int (Int32.ofInt pl)), none, none, none, none, none, none, none, none, none, none, none, none], [.int (Int32.ofInt 1), .ref kb, .int (Int32.ofInt 1), .ref (h11.1.1 + 1), .ref (h11.1.1 + 1)], h14)) rfl ?_
      refine yy_fin.lp (j := 1) rfl (RB.k NQ.ak).2 (by decide) (by decide) rfl ?_
      refine yy_fin.sq rfl Q (by decide) (by decide) fun h15 x15 q15 => ?_
      replace Q := q15
      replace NQ := (NQ.tr x15 (fun q hq e => by have e : q = _ := e; have hq : q ≤ h11.1.1 := hq; omega)).le (a2 := 1) (d2 := 6) (Nat.le_refl _) (Nat.le_refl _)
      refine yy_fin.steps (n := 4) (s' := (309, [some (.ref 1), some (.ref w), some (.ref 0), some (.int (Int32.ofInt fr)), some (.int (Int32.ofInt (t : Int))), some (.int (Int32.ofInt day)), some (zz_val k6), some (zz_val k7), some (.int (Int32.ofInt p8)), some (.ref k9), some (.int (Int32.ofInt s)), some (.ref kb), some (.int (Int32.ofInt pl)), none, none, none, none, none, none, none, none, none, none, none, none], [.ref w, .int (Int32.ofInt pl), .int (Int32.ofInt 2), .ref (h11.1.1 + 1), .ref (h11.1.1 + 1)], h15)) rfl ?_
      obtain ⟨o16, p16, b16, t16, oP16, eP16⟩ := (C.f NQ).wp
      refine yy_fin.fi rfl oP16 rfl eP16 ?_
      refine yy_fin.dv rfl (fun z => by have z := (yi_eq (a := (g0 541 1).toInt) (b := 0) (by omega) (by omega)).mp z; omega) ?_
      rw [yi_div (a := pl) (b := (g0 541 1).toInt) (by omega) (by omega)]
      refine yy_fin.sq rfl Q (by decide) (by decide) fun h17 x17 q17 => ?_
      replace Q := q17
      replace NQ := (NQ.tr x17 (fun q hq e => by have e : q = _ := e; have hq : q ≤ h11.1.1 := hq; omega)).le (a2 := 1) (d2 := 6) (Nat.le_refl _) (Nat.le_refl _)
      refine yy_fin.steps (n := 4) (s' := (319, [some (.ref 1), some (.ref w), some (.ref 0), some (.int (Int32.ofInt fr)), some (.int (Int32.ofInt (t : Int))), some (.int (Int32.ofInt day)), some (zz_val k6), some (zz_val k7), some (.int (Int32.ofInt p8)), some (.ref k9), some (.int (Int32.ofInt s)), some (.ref kb), some (.int (Int32.ofInt pl)), none, none, none, none, none, none, none, none, none, none, none, none], [.ref w, .int (Int32.ofInt pl), .int (Int32.ofInt 3), .ref (h11.1.1 + 1), .ref (h11.1.1 + 1)], h17)) rfl ?_
      obtain ⟨o18, p18, b18, t18, oP18, eP18⟩ := (C.f NQ).wp
      refine yy_fin.fi rfl oP18 rfl eP18 ?_
      refine yy_fin.rm rfl (fun z => by have z := (yi_eq (a := (g0 541 1).toInt) (b := 0) (by omega) (by omega)).mp z; omega) ?_
      rw [yi_rem (a := pl) (b := (g0 541 1).toInt) (by omega) (by omega)]
      refine yy_fin.sq rfl Q (by decide) (by decide) fun h19 x19 q19 => ?_
      replace Q := q19
      replace NQ := (NQ.tr x19 (fun q hq e => by have e : q = _ := e; have hq : q ≤ h11.1.1 := hq; omega)).le (a2 := 1) (d2 := 6) (Nat.le_refl _) (Nat.le_refl _)
      refine yy_fin.steps (n := 3) (s' := (328, [some (.ref 1), some (.ref w), some (.ref 0), some (.int (Int32.ofInt fr)), some (.int (Int32.ofInt (t : Int))), some (.int (Int32.ofInt day)), some (zz_val k6), some (zz_val k7), some (.int (Int32.ofInt p8)), some (.ref k9), some (.int (Int32.ofInt s)), some (.ref kb), some (.int (Int32.ofInt pl)), none, none, none, none, none, none, none, none, none, none, none, none], [.int (Int32.ofInt pl), .int (Int32.ofInt 4), .ref (h11.1.1 + 1), .ref (h11.1.1 + 1)], h19)) rfl ?_
      refine yy_fin.sq rfl Q (by decide) (by decide) fun h20 x20 q20 => ?_
      replace Q := q20
      replace NQ := (NQ.tr x20 (fun q hq e => by have e : q = _ := e; have hq : q ≤ h11.1.1 := hq; omega)).le (a2 := 1) (d2 := 6) (Nat.le_refl _) (Nat.le_refl _)
      refine yy_fin.steps (n := 4) (s' := (334, [some (.ref 1), some (.ref w), some (.ref 0), some (.int (Int32.ofInt fr)), some (.int (Int32.ofInt (t : Int))), some (.int (Int32.ofInt day)), some (zz_val k6), some (zz_val k7), some (.int (Int32.ofInt p8)), some (.ref k9), some (.int (Int32.ofInt s)), some (.ref kb), some (.int (Int32.ofInt pl)), none, none, none, none, none, none, none, none, none, none, none, none], [.int (Int32.ofInt 2), .ref kb, .int (Int32.ofInt 5), .ref (h11.1.1 + 1), .ref (h11.1.1 + 1)], h20)) rfl ?_
      refine yy_fin.lp (j := 2) rfl (RB.k NQ.ak).2 (by decide) (by decide) rfl ?_
      refine yy_fin.sq rfl Q (by decide) (by decide) fun h21 x21 q21 => ?_
      replace Q := q21
      replace NQ := (NQ.tr x21 (fun q hq e => by have e : q = _ := e; have hq : q ≤ h11.1.1 := hq; omega)).le (a2 := 1) (d2 := 6) (Nat.le_refl _) (Nat.le_refl _)
      have x22 : yx (yAk w) 1 6 h11 h21 := NQ.ak
      have hn22 : 539 < h11.1.1 + 1 := by have := C.2.1.2; omega
      have hw22 : h11.1.1 + 1 ≠ w := by have := C.wle; omega
      replace C := C.f NQ
      have T13 : yRw h21 w (h11.1.1 + 1) [(Int32.ofInt d), (Int32.ofInt f), (Int32.ofInt (pl / ((g0 541 1).toInt))), (Int32.ofInt (pl % ((g0 541 1).toInt))), (Int32.ofInt pl), (Int32.ofInt e)] := ⟨⟨hn22, hw22⟩, Q⟩
      replace RB := RB.k x22
      replace R10 := R10.k x22
      replace R11 := R11.k x22
      replace H6 := H6.k x22
      replace H7 := H7.k x22
      replace Y := Y.tr x22 (fun _ _ e => e)
      replace hY := Y.1
      refine yy_fin.steps (n := 1) (s' := (338, [some (.ref 1), some (.ref w), some (.ref 0), some (.int (Int32.ofInt fr)), some (.int (Int32.ofInt (t : Int))), some (.int (Int32.ofInt day)), some (zz_val k6), some (zz_val k7), some (.int (Int32.ofInt p8)), some (.ref k9), some (.int (Int32.ofInt s)), some (.ref kb), some (.int (Int32.ofInt pl)), some (.ref (h11.1.1 + 1)), none, none, none, none, none, none, none, none, none, none, none], [], h21)) rfl ?_
      refine J h21 (some _) _ _ C (Y.le (by omega) (by omega)) ?_
      rw [eb]
      rw [epl, ee] at T13
      exact T13
  intro h10 q11 p12 q13 C x10 T13
  replace H6 := H6.k x10
  replace H7 := H7.k x10
  replace Y := Y.tr x10 (fun _ _ e => e)
  replace hY := Y.1
  refine yy_fin.steps (n := 4) (s' := (345, [some (.ref 1), some (.ref w), some (.ref 0), some (.int (Int32.ofInt fr)), some (.int (Int32.ofInt (t : Int))), some (.int (Int32.ofInt day)), some (zz_val k6), some (zz_val k7), some (.int (Int32.ofInt p8)), some (.ref k9), some (.int (Int32.ofInt s)), some (zz_val q11), some (.int (Int32.ofInt p12)), some (.ref q13), some (.int (Int32.ofInt 0)), none, none, none, none, none, none, none, none, none, none], [.int (Int32.ofInt 6), .int (Int32.ofInt 0)], h10)) rfl ?_
  refine yy_fin.ic rfl (fun cK => absurd cK (by decide)) (fun cK => ?_)
  refine yy_fin.steps (n := 5) (s' := (357, [some (.ref 1), some (.ref w), some (.ref 0), some (.int (Int32.ofInt fr)), some (.int (Int32.ofInt (t : Int))), some (.int (Int32.ofInt day)), some (zz_val k6), some (zz_val k7), some (.int (Int32.ofInt p8)), some (.ref k9), some (.int (Int32.ofInt s)), some (zz_val q11), some (.int (Int32.ofInt p12)), some (.ref q13), some (.int (Int32.ofInt 0)), none, none, none, none, none, none, none, none, none, none], [.int (Int32.ofInt 0), .int (Int32.ofInt s), .int (Int32.ofInt day), .int (Int32.ofInt (t : Int)), .ref 1], h10)) rfl ?_
  obtain ⟨g23, r23⟩ := qi_85 F C ht hd hs (i := 0) (by omega)
  obtain ⟨fs23, oo23⟩ := C.o
  refine yy_fin.cv (as := [.int (Int32.ofInt (t : Int)), .int (Int32.ofInt day), .int (Int32.ofInt s), .int (Int32.ofInt 0)]) rfl rfl rfl oo23 (Nat.le_of_ble_eq_true rfl) (Nat.le_of_ble_eq_true rfl) r23 ?_
  rintro v h23 ⟨rfl, C, x23⟩
  replace T13 := T13.k x23
  replace H6 := H6.k x23
  replace H7 := H7.k x23
  replace Y := Y.tr x23 (fun _ _ e => e)
  replace hY := Y.1
  refine yy_fin.steps (n := 2) (s' := (364, [some (.ref 1), some (.ref w), some (.ref 0), some (.int (Int32.ofInt fr)), some (.int (Int32.ofInt (t : Int))), some (.int (Int32.ofInt day)), some (zz_val k6), some (zz_val k7), some (.int (Int32.ofInt p8)), some (.ref k9), some (.int (Int32.ofInt s)), some (zz_val q11), some (.int (Int32.ofInt p12)), some (.ref q13), some (.int (Int32.ofInt 0)), none, none, none, none, none, none, none, none, none, none], [.int (Int32.ofInt 0), .ref q13, .int (Int32.ofInt (s_12 (g0 541) t day s 0))], h23)) rfl ?_
  refine yy_fin.lp (j := 0) rfl T13.2 (by decide) (by decide) rfl ?_
  refine yy_fin.ic rfl (fun _ => ?_) (fun cz => absurd (y_ceq (congrArg Int32.ofInt (s_12_e.1))) cz)
  refine yy_fin.steps (n := 4) (s' := (345, [some (.ref 1), some (.ref w), some (.ref 0), some (.int (Int32.ofInt fr)), some (.int (Int32.ofInt (t : Int))), some (.int (Int32.ofInt day)), some (zz_val k6), some (zz_val k7), some (.int (Int32.ofInt p8)), some (.ref k9), some (.int (Int32.ofInt s)), some (zz_val q11), some (.int (Int32.ofInt p12)), some (.ref q13), some (.int ((Int32.ofInt 0) + (Int32.ofInt 1))), none, none, none, none, none, none, none, none, none, none], [.int (Int32.ofInt 6), .int ((Int32.ofInt 0) + (Int32.ofInt 1))], h23)) rfl ?_
  rw [show (Int32.ofInt 0) + (Int32.ofInt 1) = Int32.ofInt 1 from by decide]
  refine yy_fin.ic rfl (fun cK => absurd cK (by decide)) (fun cK => ?_)
  refine yy_fin.steps (n := 5) (s' := (357, [some (.ref 1), some (.ref w), some (.ref 0), some (.int (Int32.ofInt fr)), some (.int (Int32.ofInt (t : Int))), some (.int (Int32.ofInt day)), some (zz_val k6), some (zz_val k7), some (.int (Int32.ofInt p8)), some (.ref k9), some (.int (Int32.ofInt s)), some (zz_val q11), some (.int (Int32.ofInt p12)), some (.ref q13), some (.int (Int32.ofInt 1)), none, none, none, none, none, none, none, none, none, none], [.int (Int32.ofInt 1), .int (Int32.ofInt s), .int (Int32.ofInt day), .int (Int32.ofInt (t : Int)), .ref 1], h23)) rfl ?_
  obtain ⟨g24, r24⟩ := qi_85 F C ht hd hs (i := 1) (by omega)
  obtain ⟨fs24, oo24⟩ := C.o
  refine yy_fin.cv (as := [.int (Int32.ofInt (t : Int)), .int (Int32.ofInt day), .int (Int32.ofInt s), .int (Int32.ofInt 1)]) rfl rfl rfl oo24 (Nat.le_of_ble_eq_true rfl) (Nat.le_of_ble_eq_true rfl) r24 ?_
  rintro v h24 ⟨rfl, C, x24⟩
  replace T13 := T13.k x24
  replace H6 := H6.k x24
  replace H7 := H7.k x24
  replace Y := Y.tr x24 (fun _ _ e => e)
  replace hY := Y.1
  refine yy_fin.steps (n := 2) (s' := (364, [some (.ref 1), some (.ref w), some (.ref 0), some (.int (Int32.ofInt fr)), some (.int (Int32.ofInt (t : Int))), some (.int (Int32.ofInt day)), some (zz_val k6), some (zz_val k7), some (.int (Int32.ofInt p8)), some (.ref k9), some (.int (Int32.ofInt s)), some (zz_val q11), some (.int (Int32.ofInt p12)), some (.ref q13), some (.int (Int32.ofInt 1)), none, none, none, none, none, none, none, none, none, none], [.int (Int32.ofInt 1), .ref q13, .int (Int32.ofInt (s_12 (g0 541) t day s 1))], h24)) rfl ?_
  refine yy_fin.lp (j := 1) rfl T13.2 (by decide) (by decide) rfl ?_
  refine yy_fin.ic rfl (fun _ => ?_) (fun cz => absurd (y_ceq (congrArg Int32.ofInt (s_12_e.2.1))) cz)
  refine yy_fin.steps (n := 4) (s' := (345, [some (.ref 1), some (.ref w), some (.ref 0), some (.int (Int32.ofInt fr)), some (.int (Int32.ofInt (t : Int))), some (.int (Int32.ofInt day)), some (zz_val k6), some (zz_val k7), some (.int (Int32.ofInt p8)), some (.ref k9), some (.int (Int32.ofInt s)), some (zz_val q11), some (.int (Int32.ofInt p12)), some (.ref q13), some (.int ((Int32.ofInt 1) + (Int32.ofInt 1))), none, none, none, none, none, none, none, none, none, none], [.int (Int32.ofInt 6), .int ((Int32.ofInt 1) + (Int32.ofInt 1))], h24)) rfl ?_
  rw [show (Int32.ofInt 1) + (Int32.ofInt 1) = Int32.ofInt 2 from by decide]
  refine yy_fin.ic rfl (fun cK => absurd cK (by decide)) (fun cK => ?_)
  refine yy_fin.steps (n := 5) (s' := (357, [some (.ref 1), some (.ref w), some (.ref 0), some (.int (Int32.ofInt fr)), some (.int (Int32.ofInt (t : Int))), some (.int (Int32.ofInt day)), some (zz_val k6), some (zz_val k7), some (.int (Int32.ofInt p8)), some (.ref k9), some (.int (Int32.ofInt s)), some (zz_val q11), some (.int (Int32.ofInt p12)), some (.ref q13), some (.int (Int32.ofInt 2)), none, none, none, none, none, none, none, none, none, none], [.int (Int32.ofInt 2), .int (Int32.ofInt s), .int (Int32.ofInt day), .int (Int32.ofInt (t : Int)), .ref 1], h24)) rfl ?_
  obtain ⟨g25, r25⟩ := qi_85 F C ht hd hs (i := 2) (by omega)
  obtain ⟨fs25, oo25⟩ := C.o
  refine yy_fin.cv (as := [.int (Int32.ofInt (t : Int)), .int (Int32.ofInt day), .int (Int32.ofInt s), .int (Int32.ofInt 2)]) rfl rfl rfl oo25 (Nat.le_of_ble_eq_true rfl) (Nat.le_of_ble_eq_true rfl) r25 ?_
  rintro v h25 ⟨rfl, C, x25⟩
  replace T13 := T13.k x25
  replace H6 := H6.k x25
  replace H7 := H7.k x25
  replace Y := Y.tr x25 (fun _ _ e => e)
  replace hY := Y.1
  refine yy_fin.steps (n := 2) (s' := (364, [some (.ref 1), some (.ref w), some (.ref 0), some (.int (Int32.ofInt fr)), some (.int (Int32.ofInt (t : Int))), some (.int (Int32.ofInt day)), some (zz_val k6), some (zz_val k7), some (.int (Int32.ofInt p8)), some (.ref k9), some (.int (Int32.ofInt s)), some (zz_val q11), some (.int (Int32.ofInt p12)), some (.ref q13), some (.int (Int32.ofInt 2)), none, none, none, none, none, none, none, none, none, none], [.int (Int32.ofInt 2), .ref q13, .int (Int32.ofInt (s_12 (g0 541) t day s 2))], h25)) rfl ?_
  refine yy_fin.lp (j := 2) rfl T13.2 (by decide) (by decide) rfl ?_
  refine yy_fin.ic rfl (fun _ => ?_) (fun cz => absurd (y_ceq (congrArg Int32.ofInt (s_12_e.2.2.1))) cz)
  refine yy_fin.steps (n := 4) (s' := (345, [some (.ref 1), some (.ref w), some (.ref 0), some (.int (Int32.ofInt fr)), some (.int (Int32.ofInt (t : Int))), some (.int (Int32.ofInt day)), some (zz_val k6), some (zz_val k7), some (.int (Int32.ofInt p8)), some (.ref k9), some (.int (Int32.ofInt s)), some (zz_val q11), some (.int (Int32.ofInt p12)), some (.ref q13), some (.int ((Int32.ofInt 2) + (Int32.ofInt 1))), none, none, none, none, none, none, none, none, none, none], [.int (Int32.ofInt 6), .int ((Int32.ofInt 2) + (Int32.ofInt 1))], h25)) rfl ?_
  rw [show (Int32.ofInt 2) + (Int32.ofInt 1) = Int32.ofInt 3 from by decide]
  refine yy_fin.ic rfl (fun cK => absurd cK (by decide)) (fun cK => ?_)
  refine yy_fin.steps (n := 5) (s' := (357, [some (.ref 1), some (.ref w), some (.ref 0), some (.int (Int32.ofInt fr)), some (.int (Int32.ofInt (t : Int))), some (.int (Int32.ofInt day)), some (zz_val k6), some (zz_val k7), some (.int (Int32.ofInt p8)), some (.ref k9), some (.int (Int32.ofInt s)), some (zz_val q11), some (.int (Int32.ofInt p12)), some (.ref q13), some (.int (Int32.ofInt 3)), none, none, none, none, none, none, none, none, none, none], [.int (Int32.ofInt 3), .int (Int32.ofInt s), .int (Int32.ofInt day), .int (Int32.ofInt (t : Int)), .ref 1], h25)) rfl ?_
  obtain ⟨g26, r26⟩ := qi_85 F C ht hd hs (i := 3) (by omega)
  obtain ⟨fs26, oo26⟩ := C.o
  refine yy_fin.cv (as := [.int (Int32.ofInt (t : Int)), .int (Int32.ofInt day), .int (Int32.ofInt s), .int (Int32.ofInt 3)]) rfl rfl rfl oo26 (Nat.le_of_ble_eq_true rfl) (Nat.le_of_ble_eq_true rfl) r26 ?_
  rintro v h26 ⟨rfl, C, x26⟩
  replace T13 := T13.k x26
  replace H6 := H6.k x26
  replace H7 := H7.k x26
  replace Y := Y.tr x26 (fun _ _ e => e)
  replace hY := Y.1
  refine yy_fin.steps (n := 2) (s' := (364, [some (.ref 1), some (.ref w), some (.ref 0), some (.int (Int32.ofInt fr)), some (.int (Int32.ofInt (t : Int))), some (.int (Int32.ofInt day)), some (zz_val k6), some (zz_val k7), some (.int (Int32.ofInt p8)), some (.ref k9), some (.int (Int32.ofInt s)), some (zz_val q11), some (.int (Int32.ofInt p12)), some (.ref q13), some (.int (Int32.ofInt 3)), none, none, none, none, none, none, none, none, none, none], [.int (Int32.ofInt 3), .ref q13, .int (Int32.ofInt (s_12 (g0 541) t day s 3))], h26)) rfl ?_
  refine yy_fin.lp (j := 3) rfl T13.2 (by decide) (by decide) rfl ?_
  refine yy_fin.ic rfl (fun _ => ?_) (fun cz => absurd (y_ceq (congrArg Int32.ofInt (s_12_e.2.2.2.1))) cz)
  refine yy_fin.steps (n := 4) (s' := (345, [some (.ref 1), some (.ref w), some (.ref 0), some (.int (Int32.ofInt fr)), some (.int (Int32.ofInt (t : Int))), some (.int (Int32.ofInt day)), some (zz_val k6), some (zz_val k7), some (.int (Int32.ofInt p8)), some (.ref k9), some (.int (Int32.ofInt s)), some (zz_val q11), some (.int (Int32.ofInt p12)), some (.ref q13), some (.int ((Int32.ofInt 3) + (Int32.ofInt 1))), none, none, none, none, none, none, none, none, none, none], [.int (Int32.ofInt 6), .int ((Int32.ofInt 3) + (Int32.ofInt 1))], h26)) rfl ?_
  rw [show (Int32.ofInt 3) + (Int32.ofInt 1) = Int32.ofInt 4 from by decide]
  refine yy_fin.ic rfl (fun cK => absurd cK (by decide)) (fun cK => ?_)
  refine yy_fin.steps (n := 5) (s' := (357, [some (.ref 1), some (.ref w), some (.ref 0), some (.int (Int32.ofInt fr)), some (.int (Int32.ofInt (t : Int))), some (.int (Int32.ofInt day)), some (zz_val k6), some (zz_val k7), some (.int (Int32.ofInt p8)), some (.ref k9), some (.int (Int32.ofInt s)), some (zz_val q11), some (.int (Int32.ofInt p12)), some (.ref q13), some (.int (Int32.ofInt 4)), none, none, none, none, none, none, none, none, none, none], [.int (Int32.ofInt 4), .int (Int32.ofInt s), .int (Int32.ofInt day), .int (Int32.ofInt (t : Int)), .ref 1], h26)) rfl ?_
  obtain ⟨g27, r27⟩ := qi_85 F C ht hd hs (i := 4) (by omega)
  obtain ⟨fs27, oo27⟩ := C.o
  refine yy_fin.cv (as := [.int (Int32.ofInt (t : Int)), .int (Int32.ofInt day), .int (Int32.ofInt s), .int (Int32.ofInt 4)]) rfl rfl rfl oo27 (Nat.le_of_ble_eq_true rfl) (Nat.le_of_ble_eq_true rfl) r27 ?_
  rintro v h27 ⟨rfl, C, x27⟩
  replace T13 := T13.k x27
  replace H6 := H6.k x27
  replace H7 := H7.k x27
  replace Y := Y.tr x27 (fun _ _ e => e)
  replace hY := Y.1
  refine yy_fin.steps (n := 2) (s' := (364, [some (.ref 1), some (.ref w), some (.ref 0), some (.int (Int32.ofInt fr)), some (.int (Int32.ofInt (t : Int))), some (.int (Int32.ofInt day)), some (zz_val k6), some (zz_val k7), some (.int (Int32.ofInt p8)), some (.ref k9), some (.int (Int32.ofInt s)), some (zz_val q11), some (.int (Int32.ofInt p12)), some (.ref q13), some (.int (Int32.ofInt 4)), none, none, none, none, none, none, none, none, none, none], [.int (Int32.ofInt 4), .ref q13, .int (Int32.ofInt (s_12 (g0 541) t day s 4))], h27)) rfl ?_
  refine yy_fin.lp (j := 4) rfl T13.2 (by decide) (by decide) rfl ?_
  refine yy_fin.ic rfl (fun _ => ?_) (fun cz => absurd (y_ceq (congrArg Int32.ofInt (s_12_e.2.2.2.2.1))) cz)
  refine yy_fin.steps (n := 4) (s' := (345, [some (.ref 1), some (.ref w), some (.ref 0), some (.int (Int32.ofInt fr)), some (.int (Int32.ofInt (t : Int))), some (.int (Int32.ofInt day)), some (zz_val k6), some (zz_val k7), some (.int (Int32.ofInt p8)), some (.ref k9), some (.int (Int32.ofInt s)), some (zz_val q11), some (.int (Int32.ofInt p12)), some (.ref q13), some (.int ((Int32.ofInt 4) + (Int32.ofInt 1))), none, none, none, none, none, none, none, none, none, none], [.int (Int32.ofInt 6), .int ((Int32.ofInt 4) + (Int32.ofInt 1))], h27)) rfl ?_
  rw [show (Int32.ofInt 4) + (Int32.ofInt 1) = Int32.ofInt 5 from by decide]
  refine yy_fin.ic rfl (fun cK => absurd cK (by decide)) (fun cK => ?_)
  refine yy_fin.steps (n := 5) (s' := (357, [some (.ref 1), some (.ref w), some (.ref 0), some (.int (Int32.ofInt fr)), some (.int (Int32.ofInt (t : Int))), some (.int (Int32.ofInt day)), some (zz_val k6), some (zz_val k7), some (.int (Int32.ofInt p8)), some (.ref k9), some (.int (Int32.ofInt s)), some (zz_val q11), some (.int (Int32.ofInt p12)), some (.ref q13), some (.int (Int32.ofInt 5)), none, none, none, none, none, none, none, none, none, none], [.int (Int32.ofInt 5), .int (Int32.ofInt s), .int (Int32.ofInt day), .int (Int32.ofInt (t : Int)), .ref 1], h27)) rfl ?_
  obtain ⟨g28, r28⟩ := qi_85 F C ht hd hs (i := 5) (by omega)
  obtain ⟨fs28, oo28⟩ := C.o
  refine yy_fin.cv (as := [.int (Int32.ofInt (t : Int)), .int (Int32.ofInt day), .int (Int32.ofInt s), .int (Int32.ofInt 5)]) rfl rfl rfl oo28 (Nat.le_of_ble_eq_true rfl) (Nat.le_of_ble_eq_true rfl) r28 ?_
  rintro v h28 ⟨rfl, C, x28⟩
  replace T13 := T13.k x28
  replace H6 := H6.k x28
  replace H7 := H7.k x28
  replace Y := Y.tr x28 (fun _ _ e => e)
  replace hY := Y.1
  refine yy_fin.steps (n := 2) (s' := (364, [some (.ref 1), some (.ref w), some (.ref 0), some (.int (Int32.ofInt fr)), some (.int (Int32.ofInt (t : Int))), some (.int (Int32.ofInt day)), some (zz_val k6), some (zz_val k7), some (.int (Int32.ofInt p8)), some (.ref k9), some (.int (Int32.ofInt s)), some (zz_val q11), some (.int (Int32.ofInt p12)), some (.ref q13), some (.int (Int32.ofInt 5)), none, none, none, none, none, none, none, none, none, none], [.int (Int32.ofInt 5), .ref q13, .int (Int32.ofInt (s_12 (g0 541) t day s 5))], h28)) rfl ?_
  refine yy_fin.lp (j := 5) rfl T13.2 (by decide) (by decide) rfl ?_
  refine yy_fin.ic rfl (fun _ => ?_) (fun cz => absurd (y_ceq (congrArg Int32.ofInt (s_12_e.2.2.2.2.2))) cz)
  refine yy_fin.steps (n := 4) (s' := (345, [some (.ref 1), some (.ref w), some (.ref 0), some (.int (Int32.ofInt fr)), some (.int (Int32.ofInt (t : Int))), some (.int (Int32.ofInt day)), some (zz_val k6), some (zz_val k7), some (.int (Int32.ofInt p8)), some (.ref k9), some (.int (Int32.ofInt s)), some (zz_val q11), some (.int (Int32.ofInt p12)), some (.ref q13), some (.int ((Int32.ofInt 5) + (Int32.ofInt 1))), none, none, none, none, none, none, none, none, none, none], [.int (Int32.ofInt 6), .int ((Int32.ofInt 5) + (Int32.ofInt 1))], h28)) rfl ?_
  rw [show (Int32.ofInt 5) + (Int32.ofInt 1) = Int32.ofInt 6 from by decide]
  refine yy_fin.ic rfl (fun cK => ?_) (fun cK => absurd (by decide) cK)
  exact kk _ _ s q11 _ _ _ hs C (Y.le (by omega) (by omega)) H6 H7
theorem yl_d3 (F : yCf own w lst g0) (ht : (t : Int) < (g0 541 0).toInt) (hd : 0 ≤ day ∧ day ≤ 35999) (hs : 0 ≤ s ∧ s ≤ 86399) (C : yCx own w lst g0 h g) (hB : h.1.1 + 200 < yy_B) {k6 k7 : Option Nat} (H6 : yHr h w k6 (hv_t (g0 541) t day 0)) (H7 : yHr h w k7 (hv_t (g0 541) t day 1)) {p8 p12 i14 : Int} {k9 q13 : Nat} {q11 : Option Nat} (kk : ∀ h' g' q14 i15, yCx own w lst g0 h' g' → yx (yAk w) 20 60 h h' → yHr h' w k6 (hv_t (g0 541) t day 0) → yHr h' w k7 (hv_t (g0 541) t day 1) → yy_fin X 279 (508, [some (.ref 1), some (.ref w), some (.ref 0), some (.int (Int32.ofInt fr)), some (.int (Int32.ofInt (t : Int))), some (.int (Int32.ofInt day)), some (zz_val k6), some (zz_val k7), some (.int (Int32.ofInt p8)), some (.ref k9), some (.int (Int32.ofInt s)), some (zz_val q11), some (.int (Int32.ofInt p12)), some (.ref q13), some (.ref q14), some (.int (Int32.ofInt i15)), none, none, none, none, none, none, none, none, none], [], h') φ) : yy_fin X 279 (376, [some (.ref 1), some (.ref w), some (.ref 0), some (.int (Int32.ofInt fr)), some (.int (Int32.ofInt (t : Int))), some (.int (Int32.ofInt day)), some (zz_val k6), some (zz_val k7), some (.int (Int32.ofInt p8)), some (.ref k9), some (.int (Int32.ofInt s)), some (zz_val q11), some (.int (Int32.ofInt p12)), some (.ref q13), some (.int (Int32.ofInt i14)), none, none, none, none, none, none, none, none, none, none], [], h) φ := by
  have n4 := F.2.2.2.1
  have hq := F.2.2.2.2.1
  have Y : yx (yAk w) 0 0 h h := yx.rf
  have hY := Y.1
  have hg := C.2.1.2
  refine yy_fin.steps (n := 1) (s' := (377, [some (.ref 1), some (.ref w), some (.ref 0), some (.int (Int32.ofInt fr)), some (.int (Int32.ofInt (t : Int))), some (.int (Int32.ofInt day)), some (zz_val k6), some (zz_val k7), some (.int (Int32.ofInt p8)), some (.ref k9), some (.int (Int32.ofInt s)), some (zz_val q11), some (.int (Int32.ofInt p12)), some (.ref q13), some (.int (Int32.ofInt i14)), none, none, none, none, none, none, none, none, none, none], [.int (Int32.ofInt 5)], h)) rfl ?_
  refine yy_fin.ni (n := 5) rfl (by decide) (by decide) (by decide) (by omega) C.2.2.2.2 fun h1 x1 e1 i1 z1 => ?_
  have Q : yQ h1 (h.1.1 + 1) 5 [] := ⟨i1, fun j v e => nomatch e⟩
  have NQ : yx yF 1 5 h h1 := x1
  refine yy_fin.steps (n := 3) (s' := (383, [some (.ref 1), some (.ref w), some (.ref 0), some (.int (Int32.ofInt fr)), some (.int (Int32.ofInt (t : Int))), some (.int (Int32.ofInt day)), some (zz_val k6), some (zz_val k7), some (.int (Int32.ofInt p8)), some (.ref k9), some (.int (Int32.ofInt s)), some (zz_val q11), some (.int (Int32.ofInt p12)), some (.ref q13), some (.int (Int32.ofInt i14)), none, none, none, none, none, none, none, none, none, none], [.int (Int32.ofInt day), .int (Int32.ofInt 0), .ref (h.1.1 + 1), .ref (h.1.1 + 1)], h1)) rfl ?_
  refine yy_fin.sq rfl Q (by decide) (by decide) fun h2 x2 q2 => ?_
  replace Q := q2
  replace NQ := (NQ.tr x2 (fun q hq e => by have e : q = _ := e; have hq : q ≤ h.1.1 := hq; omega)).le (a2 := 1) (d2 := 5) (Nat.le_refl _) (Nat.le_refl _)
  refine yy_fin.steps (n := 3) (s' := (388, [some (.ref 1), some (.ref w), some (.ref 0), some (.int (Int32.ofInt fr)), some (.int (Int32.ofInt (t : Int))), some (.int (Int32.ofInt day)), some (zz_val k6), some (zz_val k7), some (.int (Int32.ofInt p8)), some (.ref k9), some (.int (Int32.ofInt s)), some (zz_val q11), some (.int (Int32.ofInt p12)), some (.ref q13), some (.int (Int32.ofInt i14)), none, none, none, none, none, none, none, none, none, none], [zz_val k6, .int (Int32.ofInt 1), .ref (h.1.1 + 1), .ref (h.1.1 + 1)], h2)) rfl ?_
  suffices J3 : ∀ v3 : Int, v3 = y_el (hv_t (g0 541) t day 0) (-2) (fun u _ => if s < u then day - 1 else day) → yy_fin X 279 (414, [some (.ref 1), some (.ref w), some (.ref 0), some (.int (Int32.ofInt fr)), some (.int (Int32.ofInt (t : Int))), some (.int (Int32.ofInt day)), some (zz_val k6), some (zz_val k7), some (.int (Int32.ofInt p8)), some (.ref k9), some (.int (Int32.ofInt s)), some (zz_val q11), some (.int (Int32.ofInt p12)), some (.ref q13), some (.int (Int32.ofInt i14)), none, none, none, none, none, none, none, none, none, none], [.int (Int32.ofInt v3), .int (Int32.ofInt 1), .ref (h.1.1 + 1), .ref (h.1.1 + 1)], h2) φ by
    rcases H6 with ⟨rfl, eo4⟩ | ⟨q4, u4, l4, rfl, eo4, R4⟩
    · refine yy_fin.steps (n := 3) (s' := (414, [some (.ref 1), some (.ref w), some (.ref 0), some (.int (Int32.ofInt fr)), some (.int (Int32.ofInt (t : Int))), some (.int (Int32.ofInt day)), some (.null), some (zz_val k7), some (.int (Int32.ofInt p8)), some (.ref k9), some (.int (Int32.ofInt s)), some (zz_val q11), some (.int (Int32.ofInt p12)), some (.ref q13), some (.int (Int32.ofInt i14)), none, none, none, none, none, none, none, none, none, none], [.int (Int32.ofInt (-2)), .int (Int32.ofInt 1), .ref (h.1.1 + 1), .ref (h.1.1 + 1)], h2)) rfl ?_
      exact J3 _ (by rw [eo4]; rfl)
    · have hb4 := hv_bnd2 F.2.2.2 ht eo4
      refine yy_fin.steps (n := 4) (s' := (401, [some (.ref 1), some (.ref w), some (.ref 0), some (.int (Int32.ofInt fr)), some (.int (Int32.ofInt (t : Int))), some (.int (Int32.ofInt day)), some (.ref q4), some (zz_val k7), some (.int (Int32.ofInt p8)), some (.ref k9), some (.int (Int32.ofInt s)), some (zz_val q11), some (.int (Int32.ofInt p12)), some (.ref q13), some (.int (Int32.ofInt i14)), none, none, none, none, none, none, none, none, none, none], [.int (Int32.ofInt 0), .ref q4, .int (Int32.ofInt s), .int (Int32.ofInt 1), .ref (h.1.1 + 1), .ref (h.1.1 + 1)], h2)) rfl ?_
      refine yy_fin.lp (j := 0) rfl (R4.k NQ.ak).2 (by decide) (by decide) rfl ?_
      refine yy_fin.ic rfl (fun c5 => ?_) (fun c5 => ?_)
      · have c5 := (yi_c_ge (a := s) (b := u4) (by omega) (by omega)).mp c5
        refine yy_fin.steps (n := 1) (s' := (414, [some (.ref 1), some (.ref w), some (.ref 0), some (.int (Int32.ofInt fr)), some (.int (Int32.ofInt (t : Int))), some (.int (Int32.ofInt day)), some (.ref q4), some (zz_val k7), some (.int (Int32.ofInt p8)), some (.ref k9), some (.int (Int32.ofInt s)), some (zz_val q11), some (.int (Int32.ofInt p12)), some (.ref q13), some (.int (Int32.ofInt i14)), none, none, none, none, none, none, none, none, none, none], [.int (Int32.ofInt day), .int (Int32.ofInt 1), .ref (h.1.1 + 1), .ref (h.1.1 + 1)], h2)) rfl ?_
        exact J3 _ (by rw [eo4]; exact (if_neg (by omega)).symm)
      · have c5 := mt (yi_c_ge (a := s) (b := u4) (by omega) (by omega)).mpr c5
        refine yy_fin.steps (n := 4) (s' := (414, [some (.ref 1), some (.ref w), some (.ref 0), some (.int (Int32.ofInt fr)), some (.int (Int32.ofInt (t : Int))), some (.int (Int32.ofInt day)), some (.ref q4), some (zz_val k7), some (.int (Int32.ofInt p8)), some (.ref k9), some (.int (Int32.ofInt s)), some (zz_val q11), some (.int (Int32.ofInt p12)), some (.ref q13), some (.int (Int32.ofInt i14)), none, none, none, none, none, none, none, none, none, none], [.int ((Int32.ofInt day) - (Int32.ofInt 1)), .int (Int32.ofInt 1), .ref (h.1.1 + 1), .ref (h.1.1 + 1)], h2)) rfl ?_
        rw [yi_sub day 1]
        exact J3 _ (by rw [eo4]; exact (if_pos (by omega)).symm)
  intro v3 ev3
  refine yy_fin.sq rfl Q (by decide) (by decide) fun h6 x6 q6 => ?_
  replace Q := q6
  replace NQ := (NQ.tr x6 (fun q hq e => by have e : q = _ := e; have hq : q ≤ h.1.1 := hq; omega)).le (a2 := 1) (d2 := 5) (Nat.le_refl _) (Nat.le_refl _)
  refine yy_fin.steps (n := 3) (s' := (419, [some (.ref 1), some (.ref w), some (.ref 0), some (.int (Int32.ofInt fr)), some (.int (Int32.ofInt (t : Int))), some (.int (Int32.ofInt day)), some (zz_val k6), some (zz_val k7), some (.int (Int32.ofInt p8)), some (.ref k9), some (.int (Int32.ofInt s)), some (zz_val q11), some (.int (Int32.ofInt p12)), some (.ref q13), some (.int (Int32.ofInt i14)), none, none, none, none, none, none, none, none, none, none], [zz_val k6, .int (Int32.ofInt 2), .ref (h.1.1 + 1), .ref (h.1.1 + 1)], h6)) rfl ?_
  suffices J7 : ∀ v7 : Int, v7 = y_el (hv_t (g0 541) t day 0) (-2) (fun u l => if s < u + l then day else day + 1) → yy_fin X 279 (445, [some (.ref 1), some (.ref w), some (.ref 0), some (.int (Int32.ofInt fr)), some (.int (Int32.ofInt (t : Int))), some (.int (Int32.ofInt day)), some (zz_val k6), some (zz_val k7), some (.int (Int32.ofInt p8)), some (.ref k9), some (.int (Int32.ofInt s)), some (zz_val q11), some (.int (Int32.ofInt p12)), some (.ref q13), some (.int (Int32.ofInt i14)), none, none, none, none, none, none, none, none, none, none], [.int (Int32.ofInt v7), .int (Int32.ofInt 2), .ref (h.1.1 + 1), .ref (h.1.1 + 1)], h6) φ by
    rcases H6 with ⟨rfl, eo8⟩ | ⟨q8, u8, l8, rfl, eo8, R8⟩
    · refine yy_fin.steps (n := 3) (s' := (445, [some (.ref 1), some (.ref w), some (.ref 0), some (.int (Int32.ofInt fr)), some (.int (Int32.ofInt (t : Int))), some (.int (Int32.ofInt day)), some (.null), some (zz_val k7), some (.int (Int32.ofInt p8)), some (.ref k9), some (.int (Int32.ofInt s)), some (zz_val q11), some (.int (Int32.ofInt p12)), some (.ref q13), some (.int (Int32.ofInt i14)), none, none, none, none, none, none, none, none, none, none], [.int (Int32.ofInt (-2)), .int (Int32.ofInt 2), .ref (h.1.1 + 1), .ref (h.1.1 + 1)], h6)) rfl ?_
      exact J7 _ (by rw [eo8]; rfl)
    · have hb8 := hv_bnd2 F.2.2.2 ht eo8
      refine yy_fin.steps (n := 4) (s' := (432, [some (.ref 1), some (.ref w), some (.ref 0), some (.int (Int32.ofInt fr)), some (.int (Int32.ofInt (t : Int))), some (.int (Int32.ofInt day)), some (.ref q8), some (zz_val k7), some (.int (Int32.ofInt p8)), some (.ref k9), some (.int (Int32.ofInt s)), some (zz_val q11), some (.int (Int32.ofInt p12)), some (.ref q13), some (.int (Int32.ofInt i14)), none, none, none, none, none, none, none, none, none, none], [.int (Int32.ofInt 1), .ref q8, .int (Int32.ofInt s), .int (Int32.ofInt 2), .ref (h.1.1 + 1), .ref (h.1.1 + 1)], h6)) rfl ?_
      refine yy_fin.lp (j := 1) rfl (R8.k NQ.ak).2 (by decide) (by decide) rfl ?_
      refine yy_fin.ic rfl (fun c9 => ?_) (fun c9 => ?_)
      · have c9 := (yi_c_ge (a := s) (b := u8 + l8) (by omega) (by omega)).mp c9
        refine yy_fin.steps (n := 3) (s' := (445, [some (.ref 1), some (.ref w), some (.ref 0), some (.int (Int32.ofInt fr)), some (.int (Int32.ofInt (t : Int))), some (.int (Int32.ofInt day)), some (.ref q8), some (zz_val k7), some (.int (Int32.ofInt p8)), some (.ref k9), some (.int (Int32.ofInt s)), some (zz_val q11), some (.int (Int32.ofInt p12)), some (.ref q13), some (.int (Int32.ofInt i14)), none, none, none, none, none, none, none, none, none, none], [.int ((Int32.ofInt day) + (Int32.ofInt 1)), .int (Int32.ofInt 2), .ref (h.1.1 + 1), .ref (h.1.1 + 1)], h6)) rfl ?_
        rw [yi_add day 1]
        exact J7 _ (by rw [eo8]; exact (if_neg (by omega)).symm)
      · have c9 := mt (yi_c_ge (a := s) (b := u8 + l8) (by omega) (by omega)).mpr c9
        refine yy_fin.steps (n := 2) (s' := (445, [some (.ref 1), some (.ref w), some (.ref 0), some (.int (Int32.ofInt fr)), some (.int (Int32.ofInt (t : Int))), some (.int (Int32.ofInt day)), some (.ref q8), some (zz_val k7), some (.int (Int32.ofInt p8)), some (.ref k9), some (.int (Int32.ofInt s)), some (zz_val q11), some (.int (Int32.ofInt p12)), some (.ref q13), some (.int (Int32.ofInt i14)), none, none, none, none, none, none, none, none, none, none], [.int (Int32.ofInt day), .int (Int32.ofInt 2), .ref (h.1.1 + 1), .ref (h.1.1 + 1)], h6)) rfl ?_
        exact J7 _ (by rw [eo8]; exact (if_pos (by omega)).symm)
  intro v7 ev7
  refine yy_fin.sq rfl Q (by decide) (by decide) fun h10 x10 q10 => ?_
  replace Q := q10
  replace NQ := (NQ.tr x10 (fun q hq e => by have e : q = _ := e; have hq : q ≤ h.1.1 := hq; omega)).le (a2 := 1) (d2 := 5) (Nat.le_refl _) (Nat.le_refl _)
  refine yy_fin.steps (n := 4) (s' := (452, [some (.ref 1), some (.ref w), some (.ref 0), some (.int (Int32.ofInt fr)), some (.int (Int32.ofInt (t : Int))), some (.int (Int32.ofInt day)), some (zz_val k6), some (zz_val k7), some (.int (Int32.ofInt p8)), some (.ref k9), some (.int (Int32.ofInt s)), some (zz_val q11), some (.int (Int32.ofInt p12)), some (.ref q13), some (.int (Int32.ofInt i14)), none, none, none, none, none, none, none, none, none, none], [.int (Int32.ofInt 43200), .int (Int32.ofInt s), .int (Int32.ofInt 3), .ref (h.1.1 + 1), .ref (h.1.1 + 1)], h10)) rfl ?_
  suffices J11 : ∀ v11 : Int, v11 = (if s < 43200 then day - 1 else day) → yy_fin X 279 (464, [some (.ref 1), some (.ref w), some (.ref 0), some (.int (Int32.ofInt fr)), some (.int (Int32.ofInt (t : Int))), some (.int (Int32.ofInt day)), some (zz_val k6), some (zz_val k7), some (.int (Int32.ofInt p8)), some (.ref k9), some (.int (Int32.ofInt s)), some (zz_val q11), some (.int (Int32.ofInt p12)), some (.ref q13), some (.int (Int32.ofInt i14)), none, none, none, none, none, none, none, none, none, none], [.int (Int32.ofInt v11), .int (Int32.ofInt 3), .ref (h.1.1 + 1), .ref (h.1.1 + 1)], h10) φ by
    refine yy_fin.ic rfl (fun c12 => ?_) (fun c12 => ?_)
    · have c12 := (yi_c_ge (a := s) (b := 43200) (by omega) (by omega)).mp c12
      refine yy_fin.steps (n := 1) (s' := (464, [some (.ref 1), some (.ref w), some (.ref 0), some (.int (Int32.ofInt fr)), some (.int (Int32.ofInt (t : Int))), some (.int (Int32.ofInt day)), some (zz_val k6), some (zz_val k7), some (.int (Int32.ofInt p8)), some (.ref k9), some (.int (Int32.ofInt s)), some (zz_val q11), some (.int (Int32.ofInt p12)), some (.ref q13), some (.int (Int32.ofInt i14)), none, none, none, none, none, none, none, none, none, none], [.int (Int32.ofInt day), .int (Int32.ofInt 3), .ref (h.1.1 + 1), .ref (h.1.1 + 1)], h10)) rfl ?_
      exact J11 _ (if_neg (by omega)).symm
    · have c12 := mt (yi_c_ge (a := s) (b := 43200) (by omega) (by omega)).mpr c12
      refine yy_fin.steps (n := 4) (s' := (464, [some (.ref 1), some (.ref w), some (.ref 0), some (.int (Int32.ofInt fr)), some (.int (Int32.ofInt (t : Int))), some (.int (Int32.ofInt day)), some (zz_val k6), some (zz_val k7), some (.int (Int32.ofInt p8)), some (.ref k9), some (.int (Int32.ofInt s)), some (zz_val q11), some (.int (Int32.ofInt p12)), some (.ref q13), some (.int (Int32.ofInt i14)), none, none, none, none, none, none, none, none, none, none], [.int ((Int32.ofInt day) - (Int32.ofInt 1)), .int (Int32.ofInt 3), .ref (h.1.1 + 1), .ref (h.1.1 + 1)], h10)) rfl ?_
      rw [yi_sub day 1]
      exact J11 _ (if_pos (by omega)).symm
  intro v11 ev11
  refine yy_fin.sq rfl Q (by decide) (by decide) fun h13 x13 q13 => ?_
  replace Q := q13
  replace NQ := (NQ.tr x13 (fun q hq e => by have e : q = _ := e; have hq : q ≤ h.1.1 := hq; omega)).le (a2 := 1) (d2 := 5) (Nat.le_refl _) (Nat.le_refl _)
  refine yy_fin.steps (n := 3) (s' := (468, [some (.ref 1), some (.ref w), some (.ref 0), some (.int (Int32.ofInt fr)), some (.int (Int32.ofInt (t : Int))), some (.int (Int32.ofInt day)), some (zz_val k6), some (zz_val k7), some (.int (Int32.ofInt p8)), some (.ref k9), some (.int (Int32.ofInt s)), some (zz_val q11), some (.int (Int32.ofInt p12)), some (.ref q13), some (.int (Int32.ofInt i14)), none, none, none, none, none, none, none, none, none, none], [.int (Int32.ofInt (-1)), .int (Int32.ofInt 4), .ref (h.1.1 + 1), .ref (h.1.1 + 1)], h13)) rfl ?_
  refine yy_fin.sq rfl Q (by decide) (by decide) fun h14 x14 q14 => ?_
  replace Q := q14
  replace NQ := (NQ.tr x14 (fun q hq e => by have e : q = _ := e; have hq : q ≤ h.1.1 := hq; omega)).le (a2 := 1) (d2 := 5) (Nat.le_refl _) (Nat.le_refl _)
  have x15 : yx (yAk w) 1 5 h h14 := NQ.ak
  have hn15 : 539 < h.1.1 + 1 := by have := C.2.1.2; omega
  have hw15 : h.1.1 + 1 ≠ w := by have := C.wle; omega
  replace C := C.f NQ
  have T14 : yRw h14 w (h.1.1 + 1) [(Int32.ofInt day), (Int32.ofInt v3), (Int32.ofInt v7), (Int32.ofInt v11), (Int32.ofInt (-1))] := ⟨⟨hn15, hw15⟩, Q⟩
  replace H6 := H6.k x15
  replace H7 := H7.k x15
  replace Y := Y.tr x15 (fun _ _ e => e)
  replace hY := Y.1
  refine yy_fin.steps (n := 5) (s' := (477, [some (.ref 1), some (.ref w), some (.ref 0), some (.int (Int32.ofInt fr)), some (.int (Int32.ofInt (t : Int))), some (.int (Int32.ofInt day)), some (zz_val k6), some (zz_val k7), some (.int (Int32.ofInt p8)), some (.ref k9), some (.int (Int32.ofInt s)), some (zz_val q11), some (.int (Int32.ofInt p12)), some (.ref q13), some (.ref (h.1.1 + 1)), some (.int (Int32.ofInt 0)), none, none, none, none, none, none, none, none, none], [.int (Int32.ofInt 5), .int (Int32.ofInt 0)], h14)) rfl ?_
  refine yy_fin.ic rfl (fun cK => absurd cK (by decide)) (fun cK => ?_)
  refine yy_fin.steps (n := 5) (s' := (489, [some (.ref 1), some (.ref w), some (.ref 0), some (.int (Int32.ofInt fr)), some (.int (Int32.ofInt (t : Int))), some (.int (Int32.ofInt day)), some (zz_val k6), some (zz_val k7), some (.int (Int32.ofInt p8)), some (.ref k9), some (.int (Int32.ofInt s)), some (zz_val q11), some (.int (Int32.ofInt p12)), some (.ref q13), some (.ref (h.1.1 + 1)), some (.int (Int32.ofInt 0)), none, none, none, none, none, none, none, none, none], [.int (Int32.ofInt 0), .int (Int32.ofInt s), .int (Int32.ofInt day), .int (Int32.ofInt (t : Int)), .ref 1], h14)) rfl ?_
  obtain ⟨g16, r16⟩ := qi_95 F C ht hd hs (k := 0) (by omega)
  obtain ⟨fs16, oo16⟩ := C.o
  refine yy_fin.cv (as := [.int (Int32.ofInt (t : Int)), .int (Int32.ofInt day), .int (Int32.ofInt s), .int (Int32.ofInt 0)]) rfl rfl rfl oo16 (Nat.le_of_ble_eq_true rfl) (Nat.le_of_ble_eq_true rfl) r16 ?_
  rintro v h16 ⟨rfl, C, x16⟩
  replace T14 := T14.k x16
  replace H6 := H6.k x16
  replace H7 := H7.k x16
  replace Y := Y.tr x16 (fun _ _ e => e)
  replace hY := Y.1
  refine yy_fin.steps (n := 2) (s' := (496, [some (.ref 1), some (.ref w), some (.ref 0), some (.int (Int32.ofInt fr)), some (.int (Int32.ofInt (t : Int))), some (.int (Int32.ofInt day)), some (zz_val k6), some (zz_val k7), some (.int (Int32.ofInt p8)), some (.ref k9), some (.int (Int32.ofInt s)), some (zz_val q11), some (.int (Int32.ofInt p12)), some (.ref q13), some (.ref (h.1.1 + 1)), some (.int (Int32.ofInt 0)), none, none, none, none, none, none, none, none, none], [.int (Int32.ofInt 0), .ref (h.1.1 + 1), .int (Int32.ofInt (s_95 (g0 541) t day s 0))], h16)) rfl ?_
  refine yy_fin.lp (j := 0) rfl T14.2 (by decide) (by decide) rfl ?_
  have q0 : s_95 (g0 541) t day s 0 = day := s_95_e.1
  refine yy_fin.ic rfl (fun _ => ?_) (fun cz => absurd (y_ceq (congrArg Int32.ofInt q0)) cz)
  refine yy_fin.steps (n := 4) (s' := (477, [some (.ref 1), some (.ref w), some (.ref 0), some (.int (Int32.ofInt fr)), some (.int (Int32.ofInt (t : Int))), some (.int (Int32.ofInt day)), some (zz_val k6), some (zz_val k7), some (.int (Int32.ofInt p8)), some (.ref k9), some (.int (Int32.ofInt s)), some (zz_val q11), some (.int (Int32.ofInt p12)), some (.ref q13), some (.ref (h.1.1 + 1)), some (.int ((Int32.ofInt 0) + (Int32.ofInt 1))), none, none, none, none, none, none, none, none, none], [.int (Int32.ofInt 5), .int ((Int32.ofInt 0) + (Int32.ofInt 1))], h16)) rfl ?_
  rw [show (Int32.ofInt 0) + (Int32.ofInt 1) = Int32.ofInt 1 from by decide]
  refine yy_fin.ic rfl (fun cK => absurd cK (by decide)) (fun cK => ?_)
  refine yy_fin.steps (n := 5) (s' := (489, [some (.ref 1), some (.ref w), some (.ref 0), some (.int (Int32.ofInt fr)), some (.int (Int32.ofInt (t : Int))), some (.int (Int32.ofInt day)), some (zz_val k6), some (zz_val k7), some (.int (Int32.ofInt p8)), some (.ref k9), some (.int (Int32.ofInt s)), some (zz_val q11), some (.int (Int32.ofInt p12)), some (.ref q13), some (.ref (h.1.1 + 1)), some (.int (Int32.ofInt 1)), none, none, none, none, none, none, none, none, none], [.int (Int32.ofInt 1), .int (Int32.ofInt s), .int (Int32.ofInt day), .int (Int32.ofInt (t : Int)), .ref 1], h16)) rfl ?_
  obtain ⟨g17, r17⟩ := qi_95 F C ht hd hs (k := 1) (by omega)
  obtain ⟨fs17, oo17⟩ := C.o
  refine yy_fin.cv (as := [.int (Int32.ofInt (t : Int)), .int (Int32.ofInt day), .int (Int32.ofInt s), .int (Int32.ofInt 1)]) rfl rfl rfl oo17 (Nat.le_of_ble_eq_true rfl) (Nat.le_of_ble_eq_true rfl) r17 ?_
  rintro v h17 ⟨rfl, C, x17⟩
  replace T14 := T14.k x17
  replace H6 := H6.k x17
  replace H7 := H7.k x17
  replace Y := Y.tr x17 (fun _ _ e => e)
  replace hY := Y.1
  refine yy_fin.steps (n := 2) (s' := (496, [some (.ref 1), some (.ref w), some (.ref 0), some (.int (Int32.ofInt fr)), some (.int (Int32.ofInt (t : Int))), some (.int (Int32.ofInt day)), some (zz_val k6), some (zz_val k7), some (.int (Int32.ofInt p8)), some (.ref k9), some (.int (Int32.ofInt s)), some (zz_val q11), some (.int (Int32.ofInt p12)), some (.ref q13), some (.ref (h.1.1 + 1)), some (.int (Int32.ofInt 1)), none, none, none, none, none, none, none, none, none], [.int (Int32.ofInt 1), .ref (h.1.1 + 1), .int (Int32.ofInt (s_95 (g0 541) t day s 1))], h17)) rfl ?_
  refine yy_fin.lp (j := 1) rfl T14.2 (by decide) (by decide) rfl ?_
  have q1 : s_95 (g0 541) t day s 1 = v3 := (s_95_e.2.1).trans ev3.symm
  refine yy_fin.ic rfl (fun _ => ?_) (fun cz => absurd (y_ceq (congrArg Int32.ofInt q1)) cz)
  refine yy_fin.steps (n := 4) (s' := (477, [some (.ref 1), some (.ref w), some (.ref 0), some (.int (Int32.ofInt fr)), some (.int (Int32.ofInt (t : Int))), some (.int (Int32.ofInt day)), some (zz_val k6), some (zz_val k7), some (.int (Int32.ofInt p8)), some (.ref k9), some (.int (Int32.ofInt s)), some (zz_val q11), some (.int (Int32.ofInt p12)), some (.ref q13), some (.ref (h.1.1 + 1)), some (.int ((Int32.ofInt 1) + (Int32.ofInt 1))), none, none, none, none, none, none, none, none, none], [.int (Int32.ofInt 5), .int ((Int32.ofInt 1) + (Int32.ofInt 1))], h17)) rfl ?_
  rw [show (Int32.ofInt 1) + (Int32.ofInt 1) = Int32.ofInt 2 from by decide]
  refine yy_fin.ic rfl (fun cK => absurd cK (by decide)) (fun cK => ?_)
  refine yy_fin.steps (n := 5) (s' := (489, [some (.ref 1), some (.ref w), some (.ref 0), some (.int (Int32.ofInt fr)), some (.int (Int32.ofInt (t : Int))), some (.int (Int32.ofInt day)), some (zz_val k6), some (zz_val k7), some (.int (Int32.ofInt p8)), some (.ref k9), some (.int (Int32.ofInt s)), some (zz_val q11), some (.int (Int32.ofInt p12)), some (.ref q13), some (.ref (h.1.1 + 1)), some (.int (Int32.ofInt 2)), none, none, none, none, none, none, none, none, none], [.int (Int32.ofInt 2), .int (Int32.ofInt s), .int (Int32.ofInt day), .int (Int32.ofInt (t : Int)), .ref 1], h17)) rfl ?_
  obtain ⟨g18, r18⟩ := qi_95 F C ht hd hs (k := 2) (by omega)
  obtain ⟨fs18, oo18⟩ := C.o
  refine yy_fin.cv (as := [.int (Int32.ofInt (t : Int)), .int (Int32.ofInt day), .int (Int32.ofInt s), .int (Int32.ofInt 2)]) rfl rfl rfl oo18 (Nat.le_of_ble_eq_true rfl) (Nat.le_of_ble_eq_true rfl) r18 ?_
  rintro v h18 ⟨rfl, C, x18⟩
  replace T14 := T14.k x18
  replace H6 := H6.k x18
  replace H7 := H7.k x18
  replace Y := Y.tr x18 (fun _ _ e => e)
  replace hY := Y.1
  refine yy_fin.steps (n := 2) (s' := (496, [some (.ref 1), some (.ref w), some (.ref 0), some (.int (Int32.ofInt fr)), some (.int (Int32.ofInt (t : Int))), some (.int (Int32.ofInt day)), some (zz_val k6), some (zz_val k7), some (.int (Int32.ofInt p8)), some (.ref k9), some (.int (Int32.ofInt s)), some (zz_val q11), some (.int (Int32.ofInt p12)), some (.ref q13), some (.ref (h.1.1 + 1)), some (.int (Int32.ofInt 2)), none, none, none, none, none, none, none, none, none], [.int (Int32.ofInt 2), .ref (h.1.1 + 1), .int (Int32.ofInt (s_95 (g0 541) t day s 2))], h18)) rfl ?_
  refine yy_fin.lp (j := 2) rfl T14.2 (by decide) (by decide) rfl ?_
  have q2 : s_95 (g0 541) t day s 2 = v7 := (s_95_e.2.2.1).trans ev7.symm
  refine yy_fin.ic rfl (fun _ => ?_) (fun cz => absurd (y_ceq (congrArg Int32.ofInt q2)) cz)
  refine yy_fin.steps (n := 4) (s' := (477, [some (.ref 1), some (.ref w), some (.ref 0), some (.int (Int32.ofInt fr)), some (.int (Int32.ofInt (t : Int))), some (.int (Int32.ofInt day)), some (zz_val k6), some (zz_val k7), some (.int (Int32.ofInt p8)), some (.ref k9), some (.int (Int32.ofInt s)), some (zz_val q11), some (.int (Int32.ofInt p12)), some (.ref q13), some (.ref (h.1.1 + 1)), some (.int ((Int32.ofInt 2) + (Int32.ofInt 1))), none, none, none, none, none, none, none, none, none], [.int (Int32.ofInt 5), .int ((Int32.ofInt 2) + (Int32.ofInt 1))], h18)) rfl ?_
  rw [show (Int32.ofInt 2) + (Int32.ofInt 1) = Int32.ofInt 3 from by decide]
  refine yy_fin.ic rfl (fun cK => absurd cK (by decide)) (fun cK => ?_)
  refine yy_fin.steps (n := 5) (s' := (489, [some (.ref 1), some (.ref w), some (.ref 0), some (.int (Int32.ofInt fr)), some (.int (Int32.ofInt (t : Int))), some (.int (Int32.ofInt day)), some (zz_val k6), some (zz_val k7), some (.int (Int32.ofInt p8)), some (.ref k9), some (.int (Int32.ofInt s)), some (zz_val q11), some (.int (Int32.ofInt p12)), some (.ref q13), some (.ref (h.1.1 + 1)), some (.int (Int32.ofInt 3)), none, none, none, none, none, none, none, none, none], [.int (Int32.ofInt 3), .int (Int32.ofInt s), .int (Int32.ofInt day), .int (Int32.ofInt (t : Int)), .ref 1], h18)) rfl ?_
  obtain ⟨g19, r19⟩ := qi_95 F C ht hd hs (k := 3) (by omega)
  obtain ⟨fs19, oo19⟩ := C.o
  refine yy_fin.cv (as := [.int (Int32.ofInt (t : Int)), .int (Int32.ofInt day), .int (Int32.ofInt s), .int (Int32.ofInt 3)]) rfl rfl rfl oo19 (Nat.le_of_ble_eq_true rfl) (Nat.le_of_ble_eq_true rfl) r19 ?_
  rintro v h19 ⟨rfl, C, x19⟩
  replace T14 := T14.k x19
  replace H6 := H6.k x19
  replace H7 := H7.k x19
  replace Y := Y.tr x19 (fun _ _ e => e)
  replace hY := Y.1
  refine yy_fin.steps (n := 2) (s' := (496, [some (.ref 1), some (.ref w), some (.ref 0), some (.int (Int32.ofInt fr)), some (.int (Int32.ofInt (t : Int))), some (.int (Int32.ofInt day)), some (zz_val k6), some (zz_val k7), some (.int (Int32.ofInt p8)), some (.ref k9), some (.int (Int32.ofInt s)), some (zz_val q11), some (.int (Int32.ofInt p12)), some (.ref q13), some (.ref (h.1.1 + 1)), some (.int (Int32.ofInt 3)), none, none, none, none, none, none, none, none, none], [.int (Int32.ofInt 3), .ref (h.1.1 + 1), .int (Int32.ofInt (s_95 (g0 541) t day s 3))], h19)) rfl ?_
  refine yy_fin.lp (j := 3) rfl T14.2 (by decide) (by decide) rfl ?_
  have q3 : s_95 (g0 541) t day s 3 = v11 := (s_95_e.2.2.2.1).trans ev11.symm
  refine yy_fin.ic rfl (fun _ => ?_) (fun cz => absurd (y_ceq (congrArg Int32.ofInt q3)) cz)
  refine yy_fin.steps (n := 4) (s' := (477, [some (.ref 1), some (.ref w), some (.ref 0), some (.int (Int32.ofInt fr)), some (.int (Int32.ofInt (t : Int))), some (.int (Int32.ofInt day)), some (zz_val k6), some (zz_val k7), some (.int (Int32.ofInt p8)), some (.ref k9), some (.int (Int32.ofInt s)), some (zz_val q11), some (.int (Int32.ofInt p12)), some (.ref q13), some (.ref (h.1.1 + 1)), some (.int ((Int32.ofInt 3) + (Int32.ofInt 1))), none, none, none, none, none, none, none, none, none], [.int (Int32.ofInt 5), .int ((Int32.ofInt 3) + (Int32.ofInt 1))], h19)) rfl ?_
  rw [show (Int32.ofInt 3) + (Int32.ofInt 1) = Int32.ofInt 4 from by decide]
  refine yy_fin.ic rfl (fun cK => absurd cK (by decide)) (fun cK => ?_)
  refine yy_fin.steps (n := 5) (s' := (489, [some (.ref 1), some (.ref w), some (.ref 0), some (.int (Int32.ofInt fr)), some (.int (Int32.ofInt (t : Int))), some (.int (Int32.ofInt day)), some (zz_val k6), some (zz_val k7), some (.int (Int32.ofInt p8)), some (.ref k9), some (.int (Int32.ofInt s)), some (zz_val q11), some (.int (Int32.ofInt p12)), some (.ref q13), some (.ref (h.1.1 + 1)), some (.int (Int32.ofInt 4)), none, none, none, none, none, none, none, none, none], [.int (Int32.ofInt 4), .int (Int32.ofInt s), .int (Int32.ofInt day), .int (Int32.ofInt (t : Int)), .ref 1], h19)) rfl ?_
  obtain ⟨g20, r20⟩ := qi_95 F C ht hd hs (k := 4) (by omega)
  obtain ⟨fs20, oo20⟩ := C.o
  refine yy_fin.cv (as := [.int (Int32.ofInt (t : Int)), .int (Int32.ofInt day), .int (Int32.ofInt s), .int (Int32.ofInt 4)]) rfl rfl rfl oo20 (Nat.le_of_ble_eq_true rfl) (Nat.le_of_ble_eq_true rfl) r20 ?_
  rintro v h20 ⟨rfl, C, x20⟩
  replace T14 := T14.k x20
  replace H6 := H6.k x20
  replace H7 := H7.k x20
  replace Y := Y.tr x20 (fun _ _ e => e)
  replace hY := Y.1
  refine yy_fin.steps (n := 2) (s' := (496, [some (.ref 1), some (.ref w), some (.ref 0), some (.int (Int32.ofInt fr)), some (.int (Int32.ofInt (t : Int))), some (.int (Int32.ofInt day)), some (zz_val k6), some (zz_val k7), some (.int (Int32.ofInt p8)), some (.ref k9), some (.int (Int32.ofInt s)), some (zz_val q11), some (.int (Int32.ofInt p12)), some (.ref q13), some (.ref (h.1.1 + 1)), some (.int (Int32.ofInt 4)), none, none, none, none, none, none, none, none, none], [.int (Int32.ofInt 4), .ref (h.1.1 + 1), .int (Int32.ofInt (s_95 (g0 541) t day s 4))], h20)) rfl ?_
  refine yy_fin.lp (j := 4) rfl T14.2 (by decide) (by decide) rfl ?_
  have q4 : s_95 (g0 541) t day s 4 = -1 := s_95_e.2.2.2.2
  refine yy_fin.ic rfl (fun _ => ?_) (fun cz => absurd (y_ceq (congrArg Int32.ofInt q4)) cz)
  refine yy_fin.steps (n := 4) (s' := (477, [some (.ref 1), some (.ref w), some (.ref 0), some (.int (Int32.ofInt fr)), some (.int (Int32.ofInt (t : Int))), some (.int (Int32.ofInt day)), some (zz_val k6), some (zz_val k7), some (.int (Int32.ofInt p8)), some (.ref k9), some (.int (Int32.ofInt s)), some (zz_val q11), some (.int (Int32.ofInt p12)), some (.ref q13), some (.ref (h.1.1 + 1)), some (.int ((Int32.ofInt 4) + (Int32.ofInt 1))), none, none, none, none, none, none, none, none, none], [.int (Int32.ofInt 5), .int ((Int32.ofInt 4) + (Int32.ofInt 1))], h20)) rfl ?_
  rw [show (Int32.ofInt 4) + (Int32.ofInt 1) = Int32.ofInt 5 from by decide]
  refine yy_fin.ic rfl (fun cK => ?_) (fun cK => absurd (by decide) cK)
  exact kk _ _ _ _ C (Y.le (by omega) (by omega)) H6 H7
theorem s_25_e {a : Nat → Int32} {t : Nat} {day f : Int} : s_25 a t day f 0 = y_el (hv_t a t day f) (-1000000) (fun u l => u + (u + l - u) / 2) := by
  unfold s_25
  cases hv_t a t day f with
  | none => rfl
  | some p =>
    show p.1 + p.2 / 2 = p.1 + (p.1 + p.2 - p.1) / 2
    rw [show p.1 + p.2 - p.1 = p.2 by omega]
theorem yl_ex {k6 k7 q11 q16 : Option Nat} {p8 p12 i15 n17 n18 v19 v20 m21 : Int} {k9 q13 q14 : Nat} {z22 : Int} (hz : 0 ≤ z22 ∧ z22 ≤ 200000) (kk : yy_fin X 279 (847, [some (.ref 1), some (.ref w), some (.ref 0), some (.int (Int32.ofInt fr)), some (.int (Int32.ofInt (t : Int))), some (.int (Int32.ofInt day)), some (zz_val k6), some (zz_val k7), some (.int (Int32.ofInt p8)), some (.ref k9), some (.int (Int32.ofInt s)), some (zz_val q11), some (.int (Int32.ofInt p12)), some (.ref q13), some (.ref q14), some (.int (Int32.ofInt i15)), some (zz_val q16), some (.int (Int32.ofInt n17)), some (.int (Int32.ofInt n18)), some (.int (Int32.ofInt v19)), some (.int (Int32.ofInt v20)), some (.int (Int32.ofInt m21)), some (.int (Int32.ofInt z22)), some (.int (Int32.ofInt (y_G z22))), none], [], h) φ) : ∀ (d : Nat) (b : Int), b = y_G z22 + d → b ≤ 12 → yy_fin X 279 (825, [some (.ref 1), some (.ref w), some (.ref 0), some (.int (Int32.ofInt fr)), some (.int (Int32.ofInt (t : Int))), some (.int (Int32.ofInt day)), some (zz_val k6), some (zz_val k7), some (.int (Int32.ofInt p8)), some (.ref k9), some (.int (Int32.ofInt s)), some (zz_val q11), some (.int (Int32.ofInt p12)), some (.ref q13), some (.ref q14), some (.int (Int32.ofInt i15)), some (zz_val q16), some (.int (Int32.ofInt n17)), some (.int (Int32.ofInt n18)), some (.int (Int32.ofInt v19)), some (.int (Int32.ofInt v20)), some (.int (Int32.ofInt m21)), some (.int (Int32.ofInt z22)), some (.int (Int32.ofInt b)), none], [], h) φ
  | 0, b, e, hb => by
    obtain ⟨G1, G2, G3⟩ := y_Gb z22
    have e9 : b = y_G z22 := by omega
    rw [← e9] at kk G1 G2
    obtain ⟨G4, G5⟩ := G2
    have G6 := Int.emod_nonneg z22 (show b ≠ 0 by omega)
    refine yy_fin.steps (n := 2) (s' := (829, [some (.ref 1), some (.ref w), some (.ref 0), some (.int (Int32.ofInt fr)), some (.int (Int32.ofInt (t : Int))), some (.int (Int32.ofInt day)), some (zz_val k6), some (zz_val k7), some (.int (Int32.ofInt p8)), some (.ref k9), some (.int (Int32.ofInt s)), some (zz_val q11), some (.int (Int32.ofInt p12)), some (.ref q13), some (.ref q14), some (.int (Int32.ofInt i15)), some (zz_val q16), some (.int (Int32.ofInt n17)), some (.int (Int32.ofInt n18)), some (.int (Int32.ofInt v19)), some (.int (Int32.ofInt v20)), some (.int (Int32.ofInt m21)), some (.int (Int32.ofInt z22)), some (.int (Int32.ofInt b)), none], [.int (Int32.ofInt b), .int (Int32.ofInt z22)], h)) rfl ?_
    refine yy_fin.rm rfl (fun z => by have z := (yi_eq (a := b) (b := 0) (by omega) (by omega)).mp z; omega) ?_
    rw [yi_rem (a := z22) (b := b) (by omega) (by omega)]
    refine yy_fin.if rfl (fun cq => absurd ((yi_z_ne (a := z22 % b) (by omega)).mp cq) (by omega)) (fun cq => ?_)
    have cq := mt (yi_z_ne (a := z22 % b) (by omega)).mpr cq
    refine yy_fin.steps (n := 2) (s' := (837, [some (.ref 1), some (.ref w), some (.ref 0), some (.int (Int32.ofInt fr)), some (.int (Int32.ofInt (t : Int))), some (.int (Int32.ofInt day)), some (zz_val k6), some (zz_val k7), some (.int (Int32.ofInt p8)), some (.ref k9), some (.int (Int32.ofInt s)), some (zz_val q11), some (.int (Int32.ofInt p12)), some (.ref q13), some (.ref q14), some (.int (Int32.ofInt i15)), some (zz_val q16), some (.int (Int32.ofInt n17)), some (.int (Int32.ofInt n18)), some (.int (Int32.ofInt v19)), some (.int (Int32.ofInt v20)), some (.int (Int32.ofInt m21)), some (.int (Int32.ofInt z22)), some (.int (Int32.ofInt b)), none], [.int (Int32.ofInt b), .int (Int32.ofInt 12)], h)) rfl ?_
    refine yy_fin.rm rfl (fun z => by have z := (yi_eq (a := b) (b := 0) (by omega) (by omega)).mp z; omega) ?_
    rw [yi_rem (a := 12) (b := b) (by omega) (by omega)]
    refine yy_fin.if rfl (fun cq => ?_) (fun cq => absurd ((yi_z_eq (a := 12 % b) (by omega)).mpr (by omega)) cq)
    have cq := (yi_z_eq (a := 12 % b) (by omega)).mp cq
    exact kk
  | d + 1, b, e, hb => by
    obtain ⟨G1, G2, G3⟩ := y_Gb z22
    have G7 := G3 b (by omega) hb
    have m1 := Int.emod_nonneg z22 (show b ≠ 0 by omega)
    have m2 := Int.emod_lt_of_pos z22 (show 0 < b by omega)
    have m3 := Int.emod_nonneg 12 (show b ≠ 0 by omega)
    have m4 := Int.emod_lt_of_pos 12 (show 0 < b by omega)
    obtain ⟨x1, ex1⟩ : ∃ x, x = z22 % b := ⟨_, rfl⟩
    obtain ⟨x2, ex2⟩ : ∃ x, x = 12 % b := ⟨_, rfl⟩
    rw [← ex1] at G7 m1 m2
    rw [← ex2] at G7 m3 m4
    refine yy_fin.steps (n := 2) (s' := (829, [some (.ref 1), some (.ref w), some (.ref 0), some (.int (Int32.ofInt fr)), some (.int (Int32.ofInt (t : Int))), some (.int (Int32.ofInt day)), some (zz_val k6), some (zz_val k7), some (.int (Int32.ofInt p8)), some (.ref k9), some (.int (Int32.ofInt s)), some (zz_val q11), some (.int (Int32.ofInt p12)), some (.ref q13), some (.ref q14), some (.int (Int32.ofInt i15)), some (zz_val q16), some (.int (Int32.ofInt n17)), some (.int (Int32.ofInt n18)), some (.int (Int32.ofInt v19)), some (.int (Int32.ofInt v20)), some (.int (Int32.ofInt m21)), some (.int (Int32.ofInt z22)), some (.int (Int32.ofInt b)), none], [.int (Int32.ofInt b), .int (Int32.ofInt z22)], h)) rfl ?_
    refine yy_fin.rm rfl (fun z => by have z := (yi_eq (a := b) (b := 0) (by omega) (by omega)).mp z; omega) ?_
    rw [yi_rem (a := z22) (b := b) (by omega) (by omega), ← ex1]
    refine yy_fin.if rfl (fun c1 => ?_) (fun c1 => ?_)
    · have c1 := (yi_z_ne (a := x1) (by omega)).mp c1
      refine yy_fin.steps (n := 2) (s' := (825, [some (.ref 1), some (.ref w), some (.ref 0), some (.int (Int32.ofInt fr)), some (.int (Int32.ofInt (t : Int))), some (.int (Int32.ofInt day)), some (zz_val k6), some (zz_val k7), some (.int (Int32.ofInt p8)), some (.ref k9), some (.int (Int32.ofInt s)), some (zz_val q11), some (.int (Int32.ofInt p12)), some (.ref q13), some (.ref q14), some (.int (Int32.ofInt i15)), some (zz_val q16), some (.int (Int32.ofInt n17)), some (.int (Int32.ofInt n18)), some (.int (Int32.ofInt v19)), some (.int (Int32.ofInt v20)), some (.int (Int32.ofInt m21)), some (.int (Int32.ofInt z22)), some (.int ((Int32.ofInt b) + (Int32.ofInt (-1)))), none], [], h)) rfl ?_
      rw [yi_add b (-1)]
      exact yl_ex hz kk d _ (by omega) (by omega)
    · have c1 := mt (yi_z_ne (a := x1) (by omega)).mpr c1
      refine yy_fin.steps (n := 2) (s' := (837, [some (.ref 1), some (.ref w), some (.ref 0), some (.int (Int32.ofInt fr)), some (.int (Int32.ofInt (t : Int))), some (.int (Int32.ofInt day)), some (zz_val k6), some (zz_val k7), some (.int (Int32.ofInt p8)), some (.ref k9), some (.int (Int32.ofInt s)), some (zz_val q11), some (.int (Int32.ofInt p12)), some (.ref q13), some (.ref q14), some (.int (Int32.ofInt i15)), some (zz_val q16), some (.int (Int32.ofInt n17)), some (.int (Int32.ofInt n18)), some (.int (Int32.ofInt v19)), some (.int (Int32.ofInt v20)), some (.int (Int32.ofInt m21)), some (.int (Int32.ofInt z22)), some (.int (Int32.ofInt b)), none], [.int (Int32.ofInt b), .int (Int32.ofInt 12)], h)) rfl ?_
      refine yy_fin.rm rfl (fun z => by have z := (yi_eq (a := b) (b := 0) (by omega) (by omega)).mp z; omega) ?_
      rw [yi_rem (a := 12) (b := b) (by omega) (by omega), ← ex2]
      refine yy_fin.if rfl (fun cq => absurd ((yi_z_eq (a := x2) (by omega)).mp cq) (by omega)) (fun cq => ?_)
      have cq := mt (yi_z_eq (a := x2) (by omega)).mpr cq
      refine yy_fin.steps (n := 2) (s' := (825, [some (.ref 1), some (.ref w), some (.ref 0), some (.int (Int32.ofInt fr)), some (.int (Int32.ofInt (t : Int))), some (.int (Int32.ofInt day)), some (zz_val k6), some (zz_val k7), some (.int (Int32.ofInt p8)), some (.ref k9), some (.int (Int32.ofInt s)), some (zz_val q11), some (.int (Int32.ofInt p12)), some (.ref q13), some (.ref q14), some (.int (Int32.ofInt i15)), some (zz_val q16), some (.int (Int32.ofInt n17)), some (.int (Int32.ofInt n18)), some (.int (Int32.ofInt v19)), some (.int (Int32.ofInt v20)), some (.int (Int32.ofInt m21)), some (.int (Int32.ofInt z22)), some (.int ((Int32.ofInt b) + (Int32.ofInt (-1)))), none], [], h)) rfl ?_
      rw [yi_add b (-1)]
      exact yl_ex hz kk d _ (by omega) (by omega)
theorem yl_d40 (F : yCf own w lst g0) (ht : (t : Int) < (g0 541 0).toInt) (hd : 0 ≤ day ∧ day ≤ 35999) (hX : X.1 = some (L, xs)) (hL : L ≤ 100000) (hfr : 0 ≤ fr ∧ fr ≤ 900000) (hs : 0 ≤ s ∧ s ≤ 86399) (C : yCx own w lst g0 h g) (hB : h.1.1 + 200 < yy_B) {k6 k7 : Option Nat} (H6 : yHr h w k6 (hv_t (g0 541) t day 0)) (H7 : yHr h w k7 (hv_t (g0 541) t day 1)) {p8 p12 : Int} {k9 q13 q14 : Nat} {q11 : Option Nat} (kk : ∀ h' g' (q16 : Option Nat) n17 n18 v19 v20 m21 z22 b23, yCx own w lst g0 h' g' → yx (yAk w) 20 60 h h' → yHr h' w k6 (hv_t (g0 541) t day 0) → yHr h' w k7 (hv_t (g0 541) t day 1) → yy_fin X 279 (511, [some (.ref 1), some (.ref w), some (.ref 0), some (.int (Int32.ofInt fr)), some (.int (Int32.ofInt (t : Int))), some (.int (Int32.ofInt day)), some (zz_val k6), some (zz_val k7), some (.int (Int32.ofInt p8)), some (.ref k9), some (.int (Int32.ofInt s)), some (zz_val q11), some (.int (Int32.ofInt p12)), some (.ref q13), some (.ref q14), some (.int (Int32.ofInt 1)), some (zz_val q16), some (.int (Int32.ofInt n17)), some (.int (Int32.ofInt n18)), some (.int (Int32.ofInt v19)), some (.int (Int32.ofInt v20)), some (.int (Int32.ofInt m21)), some (.int (Int32.ofInt z22)), some (.int (Int32.ofInt b23)), none], [], h') φ) : yy_fin X 279 (511, [some (.ref 1), some (.ref w), some (.ref 0), some (.int (Int32.ofInt fr)), some (.int (Int32.ofInt (t : Int))), some (.int (Int32.ofInt day)), some (zz_val k6), some (zz_val k7), some (.int (Int32.ofInt p8)), some (.ref k9), some (.int (Int32.ofInt s)), some (zz_val q11), some (.int (Int32.ofInt p12)), some (.ref q13), some (.ref q14), some (.int (Int32.ofInt 0)), none, none, none, none, none, none, none, none, none], [], h) φ := by
  have n4 := F.2.2.2.1
  have hq := F.2.2.2.2.1
  have Y : yx (yAk w) 0 0 h h := yx.rf
  have hY := Y.1
  have hg := C.2.1.2
  refine yy_fin.steps (n := 2) (s' := (514, [some (.ref 1), some (.ref w), some (.ref 0), some (.int (Int32.ofInt fr)), some (.int (Int32.ofInt (t : Int))), some (.int (Int32.ofInt day)), some (zz_val k6), some (zz_val k7), some (.int (Int32.ofInt p8)), some (.ref k9), some (.int (Int32.ofInt s)), some (zz_val q11), some (.int (Int32.ofInt p12)), some (.ref q13), some (.ref q14), some (.int (Int32.ofInt 0)), none, none, none, none, none, none, none, none, none], [.int (Int32.ofInt 2), .int (Int32.ofInt 0)], h)) rfl ?_
  refine yy_fin.ic rfl (fun cK => absurd cK (by decide)) (fun cK => ?_)
  refine yy_fin.steps (n := 1) (s' := (519, [some (.ref 1), some (.ref w), some (.ref 0), some (.int (Int32.ofInt fr)), some (.int (Int32.ofInt (t : Int))), some (.int (Int32.ofInt day)), some (zz_val k6), some (zz_val k7), some (.int (Int32.ofInt p8)), some (.ref k9), some (.int (Int32.ofInt s)), some (zz_val q11), some (.int (Int32.ofInt p12)), some (.ref q13), some (.ref q14), some (.int (Int32.ofInt 0)), none, none, none, none, none, none, none, none, none], [.int (Int32.ofInt 0)], h)) rfl ?_
  refine yy_fin.if rfl (fun cK => absurd cK (by decide)) (fun cK => ?_)
  refine yy_fin.steps (n := 9) (s' := (538, [some (.ref 1), some (.ref w), some (.ref 0), some (.int (Int32.ofInt fr)), some (.int (Int32.ofInt (t : Int))), some (.int (Int32.ofInt day)), some (zz_val k6), some (zz_val k7), some (.int (Int32.ofInt p8)), some (.ref k9), some (.int (Int32.ofInt s)), some (zz_val q11), some (.int (Int32.ofInt p12)), some (.ref q13), some (.ref q14), some (.int (Int32.ofInt 0)), some (zz_val k6), none, none, none, none, none, none, none, none], [.int (((Int32.ofInt fr) + (Int32.ofInt 1)) + (Int32.ofInt 0)), .ref 0], h)) rfl ?_
  rw [yi_add fr 1]
  rw [yi_add (fr + 1) 0]
  refine yy_fin.calls (as := [.ref 0, .int (Int32.ofInt ((fr + 1) + 0))]) rfl (by decide) rfl rfl (Nat.le_of_ble_eq_true rfl) (Nat.le_of_ble_eq_true rfl) (yl_pick hX hL (k := (fr + 1) + 0) (by omega)) ?_
  rintro v h9 ⟨y17, rfl, ay17, by17, e9⟩
  obtain rfl := e9.symm
  refine yy_fin.steps (n := 2) (s' := (544, [some (.ref 1), some (.ref w), some (.ref 0), some (.int (Int32.ofInt fr)), some (.int (Int32.ofInt (t : Int))), some (.int (Int32.ofInt day)), some (zz_val k6), some (zz_val k7), some (.int (Int32.ofInt p8)), some (.ref k9), some (.int (Int32.ofInt s)), some (zz_val q11), some (.int (Int32.ofInt p12)), some (.ref q13), some (.ref q14), some (.int (Int32.ofInt 0)), some (zz_val k6), none, none, none, none, none, none, none, none], [.ref w, .int (Int32.ofInt 12), .int (Int32.ofInt y17)], h)) rfl ?_
  obtain ⟨o1, p1, b1, t1, oP1, eP1⟩ := C.wp
  refine yy_fin.fi rfl oP1 rfl eP1 ?_
  refine yy_fin.steps (n := 1) (s' := (548, [some (.ref 1), some (.ref w), some (.ref 0), some (.int (Int32.ofInt fr)), some (.int (Int32.ofInt (t : Int))), some (.int (Int32.ofInt day)), some (zz_val k6), some (zz_val k7), some (.int (Int32.ofInt p8)), some (.ref k9), some (.int (Int32.ofInt s)), some (zz_val q11), some (.int (Int32.ofInt p12)), some (.ref q13), some (.ref q14), some (.int (Int32.ofInt 0)), some (zz_val k6), none, none, none, none, none, none, none, none], [.int ((Int32.ofInt 12) * (Int32.ofInt ((g0 541 1).toInt))), .int (Int32.ofInt y17)], h)) rfl ?_
  rw [yi_mul 12 ((g0 541 1).toInt)]
  refine yy_fin.rm rfl (fun z => by have z := (yi_eq (a := 12 * (g0 541 1).toInt) (b := 0) (by omega) (by omega)).mp z; omega) ?_
  rw [yi_rem (a := y17) (b := 12 * ((g0 541 1).toInt)) (by omega) (by omega)]
  have mn17_0 := Int.emod_nonneg y17 (show 12 * (g0 541 1).toInt ≠ 0 by omega)
  have nn17_0 := Int.emod_lt_of_pos y17 (show 0 < 12 * (g0 541 1).toInt by omega)
  obtain ⟨n17_0, en17_0⟩ : ∃ z, z = y17 % (12 * (g0 541 1).toInt) := ⟨_, rfl⟩
  rw [← en17_0] at mn17_0 nn17_0 ⊢
  refine yy_fin.steps (n := 7) (s' := (558, [some (.ref 1), some (.ref w), some (.ref 0), some (.int (Int32.ofInt fr)), some (.int (Int32.ofInt (t : Int))), some (.int (Int32.ofInt day)), some (zz_val k6), some (zz_val k7), some (.int (Int32.ofInt p8)), some (.ref k9), some (.int (Int32.ofInt s)), some (zz_val q11), some (.int (Int32.ofInt p12)), some (.ref q13), some (.ref q14), some (.int (Int32.ofInt 0)), some (zz_val k6), some (.int (Int32.ofInt n17_0)), none, none, none, none, none, none, none], [.int (((Int32.ofInt fr) + (Int32.ofInt 3)) + (Int32.ofInt 0)), .ref 0], h)) rfl ?_
  rw [yi_add fr 3]
  rw [yi_add (fr + 3) 0]
  refine yy_fin.calls (as := [.ref 0, .int (Int32.ofInt ((fr + 3) + 0))]) rfl (by decide) rfl rfl (Nat.le_of_ble_eq_true rfl) (Nat.le_of_ble_eq_true rfl) (yl_pick hX hL (k := (fr + 3) + 0) (by omega)) ?_
  rintro v h9 ⟨y18, rfl, ay18, by18, e9⟩
  obtain rfl := e9.symm
  refine yy_fin.steps (n := 2) (s' := (564, [some (.ref 1), some (.ref w), some (.ref 0), some (.int (Int32.ofInt fr)), some (.int (Int32.ofInt (t : Int))), some (.int (Int32.ofInt day)), some (zz_val k6), some (zz_val k7), some (.int (Int32.ofInt p8)), some (.ref k9), some (.int (Int32.ofInt s)), some (zz_val q11), some (.int (Int32.ofInt p12)), some (.ref q13), some (.ref q14), some (.int (Int32.ofInt 0)), some (zz_val k6), some (.int (Int32.ofInt n17_0)), none, none, none, none, none, none, none], [.ref w, .int (Int32.ofInt 12), .int (Int32.ofInt y18)], h)) rfl ?_
  obtain ⟨o2, p2, b2, t2, oP2, eP2⟩ := C.wp
  refine yy_fin.fi rfl oP2 rfl eP2 ?_
  refine yy_fin.steps (n := 1) (s' := (568, [some (.ref 1), some (.ref w), some (.ref 0), some (.int (Int32.ofInt fr)), some (.int (Int32.ofInt (t : Int))), some (.int (Int32.ofInt day)), some (zz_val k6), some (zz_val k7), some (.int (Int32.ofInt p8)), some (.ref k9), some (.int (Int32.ofInt s)), some (zz_val q11), some (.int (Int32.ofInt p12)), some (.ref q13), some (.ref q14), some (.int (Int32.ofInt 0)), some (zz_val k6), some (.int (Int32.ofInt n17_0)), none, none, none, none, none, none, none], [.int ((Int32.ofInt 12) * (Int32.ofInt ((g0 541 1).toInt))), .int (Int32.ofInt y18)], h)) rfl ?_
  rw [yi_mul 12 ((g0 541 1).toInt)]
  refine yy_fin.rm rfl (fun z => by have z := (yi_eq (a := 12 * (g0 541 1).toInt) (b := 0) (by omega) (by omega)).mp z; omega) ?_
  rw [yi_rem (a := y18) (b := 12 * ((g0 541 1).toInt)) (by omega) (by omega)]
  have mn18_0 := Int.emod_nonneg y18 (show 12 * (g0 541 1).toInt ≠ 0 by omega)
  have nn18_0 := Int.emod_lt_of_pos y18 (show 0 < 12 * (g0 541 1).toInt by omega)
  obtain ⟨n18_0, en18_0⟩ : ∃ z, z = y18 % (12 * (g0 541 1).toInt) := ⟨_, rfl⟩
  rw [← en18_0] at mn18_0 nn18_0 ⊢
  refine yy_fin.steps (n := 2) (s' := (573, [some (.ref 1), some (.ref w), some (.ref 0), some (.int (Int32.ofInt fr)), some (.int (Int32.ofInt (t : Int))), some (.int (Int32.ofInt day)), some (zz_val k6), some (zz_val k7), some (.int (Int32.ofInt p8)), some (.ref k9), some (.int (Int32.ofInt s)), some (zz_val q11), some (.int (Int32.ofInt p12)), some (.ref q13), some (.ref q14), some (.int (Int32.ofInt 0)), some (zz_val k6), some (.int (Int32.ofInt n17_0)), some (.int (Int32.ofInt n18_0)), none, none, none, none, none, none], [zz_val k6], h)) rfl ?_
  suffices J3 : ∀ v3 : Int, v3 = s_90 (g0 541) t day 0 n17_0 → yy_fin X 279 (604, [some (.ref 1), some (.ref w), some (.ref 0), some (.int (Int32.ofInt fr)), some (.int (Int32.ofInt (t : Int))), some (.int (Int32.ofInt day)), some (zz_val k6), some (zz_val k7), some (.int (Int32.ofInt p8)), some (.ref k9), some (.int (Int32.ofInt s)), some (zz_val q11), some (.int (Int32.ofInt p12)), some (.ref q13), some (.ref q14), some (.int (Int32.ofInt 0)), some (zz_val k6), some (.int (Int32.ofInt n17_0)), some (.int (Int32.ofInt n18_0)), none, none, none, none, none, none], [.int (Int32.ofInt v3)], h) φ by
    rcases H6 with ⟨rfl, eo4⟩ | ⟨q4, u4, l4, rfl, eo4, R4⟩
    · refine yy_fin.steps (n := 3) (s' := (604, [some (.ref 1), some (.ref w), some (.ref 0), some (.int (Int32.ofInt fr)), some (.int (Int32.ofInt (t : Int))), some (.int (Int32.ofInt day)), some (.null), some (zz_val k7), some (.int (Int32.ofInt p8)), some (.ref k9), some (.int (Int32.ofInt s)), some (zz_val q11), some (.int (Int32.ofInt p12)), some (.ref q13), some (.ref q14), some (.int (Int32.ofInt 0)), some (.null), some (.int (Int32.ofInt n17_0)), some (.int (Int32.ofInt n18_0)), none, none, none, none, none, none], [.int (Int32.ofInt (-2))], h)) rfl ?_
      exact J3 _ (by show _ = s_b _ _ _; rw [eo4]; rfl)
    · have hb4 := hv_bnd2 F.2.2.2 ht eo4
      refine yy_fin.steps (n := 4) (s' := (581, [some (.ref 1), some (.ref w), some (.ref 0), some (.int (Int32.ofInt fr)), some (.int (Int32.ofInt (t : Int))), some (.int (Int32.ofInt day)), some (.ref q4), some (zz_val k7), some (.int (Int32.ofInt p8)), some (.ref k9), some (.int (Int32.ofInt s)), some (zz_val q11), some (.int (Int32.ofInt p12)), some (.ref q13), some (.ref q14), some (.int (Int32.ofInt 0)), some (.ref q4), some (.int (Int32.ofInt n17_0)), some (.int (Int32.ofInt n18_0)), none, none, none, none, none, none], [.int (Int32.ofInt n17_0), .ref q4, .ref w], h)) rfl ?_
      have hk5 := yk_b (q := (g0 541 1).toInt) (n := n17_0) (l := l4) (by omega) (by omega) (by omega)
      obtain ⟨fw6, oW6⟩ := C.ow
      refine yy_fin.cv (as := [.ref q4, .int (Int32.ofInt n17_0)]) rfl rfl rfl oW6 (Nat.le_of_ble_eq_true rfl) (Nat.le_of_ble_eq_true rfl) (yc_back F C R4 (n := n17_0) (by omega) (by omega) (by omega)) ?_
      rintro v h9 ⟨rfl, e9⟩
      obtain rfl := e9.symm
      refine yy_fin.steps (n := 2) (s' := (587, [some (.ref 1), some (.ref w), some (.ref 0), some (.int (Int32.ofInt fr)), some (.int (Int32.ofInt (t : Int))), some (.int (Int32.ofInt day)), some (.ref q4), some (zz_val k7), some (.int (Int32.ofInt p8)), some (.ref k9), some (.int (Int32.ofInt s)), some (zz_val q11), some (.int (Int32.ofInt p12)), some (.ref q13), some (.ref q14), some (.int (Int32.ofInt 0)), some (.ref q4), some (.int (Int32.ofInt n17_0)), some (.int (Int32.ofInt n18_0)), none, none, none, none, none, none], [.int (Int32.ofInt 1), .ref q4, .int (Int32.ofInt (u4 + yk (g0 541 1).toInt n17_0 l4))], h)) rfl ?_
      refine yy_fin.lp (j := 1) rfl R4.2 (by decide) (by decide) rfl ?_
      refine yy_fin.ic rfl (fun c7 => ?_) (fun c7 => ?_)
      · have c7 := (yi_c_ne (a := u4 + yk (g0 541 1).toInt n17_0 l4) (b := u4 + l4) (by omega) (by omega)).mp c7
        refine yy_fin.steps (n := 3) (s' := (601, [some (.ref 1), some (.ref w), some (.ref 0), some (.int (Int32.ofInt fr)), some (.int (Int32.ofInt (t : Int))), some (.int (Int32.ofInt day)), some (.ref q4), some (zz_val k7), some (.int (Int32.ofInt p8)), some (.ref k9), some (.int (Int32.ofInt s)), some (zz_val q11), some (.int (Int32.ofInt p12)), some (.ref q13), some (.ref q14), some (.int (Int32.ofInt 0)), some (.ref q4), some (.int (Int32.ofInt n17_0)), some (.int (Int32.ofInt n18_0)), none, none, none, none, none, none], [.int (Int32.ofInt n17_0), .ref q4, .ref w], h)) rfl ?_
        have hk8 := yk_b (q := (g0 541 1).toInt) (n := n17_0) (l := l4) (by omega) (by omega) (by omega)
        obtain ⟨fw9, oW9⟩ := C.ow
        refine yy_fin.cv (as := [.ref q4, .int (Int32.ofInt n17_0)]) rfl rfl rfl oW9 (Nat.le_of_ble_eq_true rfl) (Nat.le_of_ble_eq_true rfl) (yc_back F C R4 (n := n17_0) (by omega) (by omega) (by omega)) ?_
        rintro v h9 ⟨rfl, e9⟩
        obtain rfl := e9.symm
        exact J3 _ (by show _ = s_b _ _ _; rw [eo4]; exact (if_neg (by omega)).symm)
      · have c7 := mt (yi_c_ne (a := u4 + yk (g0 541 1).toInt n17_0 l4) (b := u4 + l4) (by omega) (by omega)).mpr c7
        refine yy_fin.steps (n := 2) (s' := (604, [some (.ref 1), some (.ref w), some (.ref 0), some (.int (Int32.ofInt fr)), some (.int (Int32.ofInt (t : Int))), some (.int (Int32.ofInt day)), some (.ref q4), some (zz_val k7), some (.int (Int32.ofInt p8)), some (.ref k9), some (.int (Int32.ofInt s)), some (zz_val q11), some (.int (Int32.ofInt p12)), some (.ref q13), some (.ref q14), some (.int (Int32.ofInt 0)), some (.ref q4), some (.int (Int32.ofInt n17_0)), some (.int (Int32.ofInt n18_0)), none, none, none, none, none, none], [.int (Int32.ofInt (-2))], h)) rfl ?_
        exact J3 _ (by show _ = s_b _ _ _; rw [eo4]; exact (if_pos (by omega)).symm)
  intro v3 ev3
  have hb3 := s_90_b (day := day) (f := 0) (n := n17_0) F.2.2.2 ht (by omega)
  rw [← ev3] at hb3
  refine yy_fin.steps (n := 2) (s' := (608, [some (.ref 1), some (.ref w), some (.ref 0), some (.int (Int32.ofInt fr)), some (.int (Int32.ofInt (t : Int))), some (.int (Int32.ofInt day)), some (zz_val k6), some (zz_val k7), some (.int (Int32.ofInt p8)), some (.ref k9), some (.int (Int32.ofInt s)), some (zz_val q11), some (.int (Int32.ofInt p12)), some (.ref q13), some (.ref q14), some (.int (Int32.ofInt 0)), some (zz_val k6), some (.int (Int32.ofInt n17_0)), some (.int (Int32.ofInt n18_0)), some (.int (Int32.ofInt v3)), none, none, none, none, none], [zz_val k6], h)) rfl ?_
  suffices J10 : ∀ v10 : Int, v10 = s_90 (g0 541) t day 0 n18_0 → yy_fin X 279 (639, [some (.ref 1), some (.ref w), some (.ref 0), some (.int (Int32.ofInt fr)), some (.int (Int32.ofInt (t : Int))), some (.int (Int32.ofInt day)), some (zz_val k6), some (zz_val k7), some (.int (Int32.ofInt p8)), some (.ref k9), some (.int (Int32.ofInt s)), some (zz_val q11), some (.int (Int32.ofInt p12)), some (.ref q13), some (.ref q14), some (.int (Int32.ofInt 0)), some (zz_val k6), some (.int (Int32.ofInt n17_0)), some (.int (Int32.ofInt n18_0)), some (.int (Int32.ofInt v3)), none, none, none, none, none], [.int (Int32.ofInt v10)], h) φ by
    rcases H6 with ⟨rfl, eo11⟩ | ⟨q11, u11, l11, rfl, eo11, R11⟩
    · refine yy_fin.steps (n := 3) (s' := (639, [some (.ref 1), some (.ref w), some (.ref 0), some (.int (Int32.ofInt fr)), some (.int (Int32.ofInt (t : Int))), some (.int (Int32.ofInt day)), some (.null), some (zz_val k7), some (.int (Int32.ofInt p8)), some (.ref k9), some (.int (Int32.ofInt s)), some (zz_val q11), some (.int (Int32.ofInt p12)), some (.ref q13), some (.ref q14), some (.int (Int32.ofInt 0)), some (.null), some (.int (Int32.ofInt n17_0)), some (.int (Int32.ofInt n18_0)), some (.int (Int32.ofInt v3)), none, none, none, none, none], [.int (Int32.ofInt (-2))], h)) rfl ?_
      exact J10 _ (by show _ = s_b _ _ _; rw [eo11]; rfl)
    · have hb11 := hv_bnd2 F.2.2.2 ht eo11
      refine yy_fin.steps (n := 4) (s' := (616, [some (.ref 1), some (.ref w), some (.ref 0), some (.int (Int32.ofInt fr)), some (.int (Int32.ofInt (t : Int))), some (.int (Int32.ofInt day)), some (.ref q11), some (zz_val k7), some (.int (Int32.ofInt p8)), some (.ref k9), some (.int (Int32.ofInt s)), some (zz_val q11), some (.int (Int32.ofInt p12)), some (.ref q13), some (.ref q14), some (.int (Int32.ofInt 0)), some (.ref q11), some (.int (Int32.ofInt n17_0)), some (.int (Int32.ofInt n18_0)), some (.int (Int32.ofInt v3)), none, none, none, none, none], [.int (Int32.ofInt n18_0), .ref q11, .ref w], h)) rfl ?_
      have hk12 := yk_b (q := (g0 541 1).toInt) (n := n18_0) (l := l11) (by omega) (by omega) (by omega)
      obtain ⟨fw13, oW13⟩ := C.ow
      refine yy_fin.cv (as := [.ref q11, .int (Int32.ofInt n18_0)]) rfl rfl rfl oW13 (Nat.le_of_ble_eq_true rfl) (Nat.le_of_ble_eq_true rfl) (yc_back F C R11 (n := n18_0) (by omega) (by omega) (by omega)) ?_
      rintro v h9 ⟨rfl, e9⟩
      obtain rfl := e9.symm
      refine yy_fin.steps (n := 2) (s' := (622, [some (.ref 1), some (.ref w), some (.ref 0), some (.int (Int32.ofInt fr)), some (.int (Int32.ofInt (t : Int))), some (.int (Int32.ofInt day)), some (.ref q11), some (zz_val k7), some (.int (Int32.ofInt p8)), some (.ref k9), some (.int (Int32.ofInt s)), some (zz_val q11), some (.int (Int32.ofInt p12)), some (.ref q13), some (.ref q14), some (.int (Int32.ofInt 0)), some (.ref q11), some (.int (Int32.ofInt n17_0)), some (.int (Int32.ofInt n18_0)), some (.int (Int32.ofInt v3)), none, none, none, none, none], [.int (Int32.ofInt 1), .ref q11, .int (Int32.ofInt (u11 + yk (g0 541 1).toInt n18_0 l11))], h)) rfl ?_
      refine yy_fin.lp (j := 1) rfl R11.2 (by decide) (by decide) rfl ?_
      refine yy_fin.ic rfl (fun c14 => ?_) (fun c14 => ?_)
      · have c14 := (yi_c_ne (a := u11 + yk (g0 541 1).toInt n18_0 l11) (b := u11 + l11) (by omega) (by omega)).mp c14
        refine yy_fin.steps (n := 3) (s' := (636, [some (.ref 1), some (.ref w), some (.ref 0), some (.int (Int32.ofInt fr)), some (.int (Int32.ofInt (t : Int))), some (.int (Int32.ofInt day)), some (.ref q11), some (zz_val k7), some (.int (Int32.ofInt p8)), some (.ref k9), some (.int (Int32.ofInt s)), some (zz_val q11), some (.int (Int32.ofInt p12)), some (.ref q13), some (.ref q14), some (.int (Int32.ofInt 0)), some (.ref q11), some (.int (Int32.ofInt n17_0)), some (.int (Int32.ofInt n18_0)), some (.int (Int32.ofInt v3)), none, none, none, none, none], [.int (Int32.ofInt n18_0), .ref q11, .ref w], h)) rfl ?_
        have hk15 := yk_b (q := (g0 541 1).toInt) (n := n18_0) (l := l11) (by omega) (by omega) (by omega)
        obtain ⟨fw16, oW16⟩ := C.ow
        refine yy_fin.cv (as := [.ref q11, .int (Int32.ofInt n18_0)]) rfl rfl rfl oW16 (Nat.le_of_ble_eq_true rfl) (Nat.le_of_ble_eq_true rfl) (yc_back F C R11 (n := n18_0) (by omega) (by omega) (by omega)) ?_
        rintro v h9 ⟨rfl, e9⟩
        obtain rfl := e9.symm
        exact J10 _ (by show _ = s_b _ _ _; rw [eo11]; exact (if_neg (by omega)).symm)
      · have c14 := mt (yi_c_ne (a := u11 + yk (g0 541 1).toInt n18_0 l11) (b := u11 + l11) (by omega) (by omega)).mpr c14
        refine yy_fin.steps (n := 2) (s' := (639, [some (.ref 1), some (.ref w), some (.ref 0), some (.int (Int32.ofInt fr)), some (.int (Int32.ofInt (t : Int))), some (.int (Int32.ofInt day)), some (.ref q11), some (zz_val k7), some (.int (Int32.ofInt p8)), some (.ref k9), some (.int (Int32.ofInt s)), some (zz_val q11), some (.int (Int32.ofInt p12)), some (.ref q13), some (.ref q14), some (.int (Int32.ofInt 0)), some (.ref q11), some (.int (Int32.ofInt n17_0)), some (.int (Int32.ofInt n18_0)), some (.int (Int32.ofInt v3)), none, none, none, none, none], [.int (Int32.ofInt (-2))], h)) rfl ?_
        exact J10 _ (by show _ = s_b _ _ _; rw [eo11]; exact (if_pos (by omega)).symm)
  intro v10 ev10
  have hb10 := s_90_b (day := day) (f := 0) (n := n18_0) F.2.2.2 ht (by omega)
  rw [← ev10] at hb10
  refine yy_fin.steps (n := 2) (s' := (643, [some (.ref 1), some (.ref w), some (.ref 0), some (.int (Int32.ofInt fr)), some (.int (Int32.ofInt (t : Int))), some (.int (Int32.ofInt day)), some (zz_val k6), some (zz_val k7), some (.int (Int32.ofInt p8)), some (.ref k9), some (.int (Int32.ofInt s)), some (zz_val q11), some (.int (Int32.ofInt p12)), some (.ref q13), some (.ref q14), some (.int (Int32.ofInt 0)), some (zz_val k6), some (.int (Int32.ofInt n17_0)), some (.int (Int32.ofInt n18_0)), some (.int (Int32.ofInt v3)), some (.int (Int32.ofInt v10)), none, none, none, none], [zz_val k6], h)) rfl ?_
  suffices J17 : ∀ v17 : Int, v17 = y_el (hv_t (g0 541) t day 0) (-1000000) (fun u l => u + (u + l - u) / 2) → yy_fin X 279 (667, [some (.ref 1), some (.ref w), some (.ref 0), some (.int (Int32.ofInt fr)), some (.int (Int32.ofInt (t : Int))), some (.int (Int32.ofInt day)), some (zz_val k6), some (zz_val k7), some (.int (Int32.ofInt p8)), some (.ref k9), some (.int (Int32.ofInt s)), some (zz_val q11), some (.int (Int32.ofInt p12)), some (.ref q13), some (.ref q14), some (.int (Int32.ofInt 0)), some (zz_val k6), some (.int (Int32.ofInt n17_0)), some (.int (Int32.ofInt n18_0)), some (.int (Int32.ofInt v3)), some (.int (Int32.ofInt v10)), none, none, none, none], [.int (Int32.ofInt v17)], h) φ by
    rcases H6 with ⟨rfl, eo18⟩ | ⟨q18, u18, l18, rfl, eo18, R18⟩
    · refine yy_fin.steps (n := 3) (s' := (667, [some (.ref 1), some (.ref w), some (.ref 0), some (.int (Int32.ofInt fr)), some (.int (Int32.ofInt (t : Int))), some (.int (Int32.ofInt day)), some (.null), some (zz_val k7), some (.int (Int32.ofInt p8)), some (.ref k9), some (.int (Int32.ofInt s)), some (zz_val q11), some (.int (Int32.ofInt p12)), some (.ref q13), some (.ref q14), some (.int (Int32.ofInt 0)), some (.null), some (.int (Int32.ofInt n17_0)), some (.int (Int32.ofInt n18_0)), some (.int (Int32.ofInt v3)), some (.int (Int32.ofInt v10)), none, none, none, none], [.int (Int32.ofInt (-1000000))], h)) rfl ?_
      exact J17 _ (by rw [eo18]; rfl)
    · have hb18 := hv_bnd2 F.2.2.2 ht eo18
      refine yy_fin.steps (n := 3) (s' := (654, [some (.ref 1), some (.ref w), some (.ref 0), some (.int (Int32.ofInt fr)), some (.int (Int32.ofInt (t : Int))), some (.int (Int32.ofInt day)), some (.ref q18), some (zz_val k7), some (.int (Int32.ofInt p8)), some (.ref k9), some (.int (Int32.ofInt s)), some (zz_val q11), some (.int (Int32.ofInt p12)), some (.ref q13), some (.ref q14), some (.int (Int32.ofInt 0)), some (.ref q18), some (.int (Int32.ofInt n17_0)), some (.int (Int32.ofInt n18_0)), some (.int (Int32.ofInt v3)), some (.int (Int32.ofInt v10)), none, none, none, none], [.int (Int32.ofInt 0), .ref q18], h)) rfl ?_
      refine yy_fin.lp (j := 0) rfl R18.2 (by decide) (by decide) rfl ?_
      refine yy_fin.steps (n := 2) (s' := (658, [some (.ref 1), some (.ref w), some (.ref 0), some (.int (Int32.ofInt fr)), some (.int (Int32.ofInt (t : Int))), some (.int (Int32.ofInt day)), some (.ref q18), some (zz_val k7), some (.int (Int32.ofInt p8)), some (.ref k9), some (.int (Int32.ofInt s)), some (zz_val q11), some (.int (Int32.ofInt p12)), some (.ref q13), some (.ref q14), some (.int (Int32.ofInt 0)), some (.ref q18), some (.int (Int32.ofInt n17_0)), some (.int (Int32.ofInt n18_0)), some (.int (Int32.ofInt v3)), some (.int (Int32.ofInt v10)), none, none, none, none], [.int (Int32.ofInt 1), .ref q18, .int (Int32.ofInt u18)], h)) rfl ?_
      refine yy_fin.lp (j := 1) rfl R18.2 (by decide) (by decide) rfl ?_
      refine yy_fin.steps (n := 2) (s' := (662, [some (.ref 1), some (.ref w), some (.ref 0), some (.int (Int32.ofInt fr)), some (.int (Int32.ofInt (t : Int))), some (.int (Int32.ofInt day)), some (.ref q18), some (zz_val k7), some (.int (Int32.ofInt p8)), some (.ref k9), some (.int (Int32.ofInt s)), some (zz_val q11), some (.int (Int32.ofInt p12)), some (.ref q13), some (.ref q14), some (.int (Int32.ofInt 0)), some (.ref q18), some (.int (Int32.ofInt n17_0)), some (.int (Int32.ofInt n18_0)), some (.int (Int32.ofInt v3)), some (.int (Int32.ofInt v10)), none, none, none, none], [.int (Int32.ofInt 0), .ref q18, .int (Int32.ofInt (u18 + l18)), .int (Int32.ofInt u18)], h)) rfl ?_
      refine yy_fin.lp (j := 0) rfl R18.2 (by decide) (by decide) rfl ?_
      refine yy_fin.steps (n := 2) (s' := (665, [some (.ref 1), some (.ref w), some (.ref 0), some (.int (Int32.ofInt fr)), some (.int (Int32.ofInt (t : Int))), some (.int (Int32.ofInt day)), some (.ref q18), some (zz_val k7), some (.int (Int32.ofInt p8)), some (.ref k9), some (.int (Int32.ofInt s)), some (zz_val q11), some (.int (Int32.ofInt p12)), some (.ref q13), some (.ref q14), some (.int (Int32.ofInt 0)), some (.ref q18), some (.int (Int32.ofInt n17_0)), some (.int (Int32.ofInt n18_0)), some (.int (Int32.ofInt v3)), some (.int (Int32.ofInt v10)), none, none, none, none], [.int (Int32.ofInt 2), .int ((Int32.ofInt (u18 + l18)) - (Int32.ofInt u18)), .int (Int32.ofInt u18)], h)) rfl ?_
      rw [yi_sub (u18 + l18) u18]
      refine yy_fin.dv rfl (by decide) ?_
      rw [yi_div (a := (u18 + l18) - u18) (b := 2) (by omega) (by omega)]
      refine yy_fin.steps (n := 1) (s' := (667, [some (.ref 1), some (.ref w), some (.ref 0), some (.int (Int32.ofInt fr)), some (.int (Int32.ofInt (t : Int))), some (.int (Int32.ofInt day)), some (.ref q18), some (zz_val k7), some (.int (Int32.ofInt p8)), some (.ref k9), some (.int (Int32.ofInt s)), some (zz_val q11), some (.int (Int32.ofInt p12)), some (.ref q13), some (.ref q14), some (.int (Int32.ofInt 0)), some (.ref q18), some (.int (Int32.ofInt n17_0)), some (.int (Int32.ofInt n18_0)), some (.int (Int32.ofInt v3)), some (.int (Int32.ofInt v10)), none, none, none, none], [.int ((Int32.ofInt u18) + (Int32.ofInt (((u18 + l18) - u18) / 2)))], h)) rfl ?_
      rw [yi_add u18 (((u18 + l18) - u18) / 2)]
      exact J17 _ (by rw [eo18]; rfl)
  intro v17 ev17
  refine yy_fin.steps (n := 6) (s' := (678, [some (.ref 1), some (.ref w), some (.ref 0), some (.int (Int32.ofInt fr)), some (.int (Int32.ofInt (t : Int))), some (.int (Int32.ofInt day)), some (zz_val k6), some (zz_val k7), some (.int (Int32.ofInt p8)), some (.ref k9), some (.int (Int32.ofInt s)), some (zz_val q11), some (.int (Int32.ofInt p12)), some (.ref q13), some (.ref q14), some (.int (Int32.ofInt 0)), some (zz_val k6), some (.int (Int32.ofInt n17_0)), some (.int (Int32.ofInt n18_0)), some (.int (Int32.ofInt v3)), some (.int (Int32.ofInt v10)), some (.int (Int32.ofInt v17)), none, none, none], [.int (Int32.ofInt n17_0), .int (Int32.ofInt 0), .int (Int32.ofInt day), .int (Int32.ofInt (t : Int)), .ref 1], h)) rfl ?_
  obtain ⟨g19, r19⟩ := qi_90 F C ht hd (f := 0) (Or.inl rfl) (n := n17_0) (by omega)
  obtain ⟨fs19, oo19⟩ := C.o
  refine yy_fin.cv (as := [.int (Int32.ofInt (t : Int)), .int (Int32.ofInt day), .int (Int32.ofInt 0), .int (Int32.ofInt n17_0)]) rfl rfl rfl oo19 (Nat.le_of_ble_eq_true rfl) (Nat.le_of_ble_eq_true rfl) r19 ?_
  rintro v h19 ⟨rfl, C, x19⟩
  replace H6 := H6.k x19
  replace H7 := H7.k x19
  replace Y := Y.tr x19 (fun _ _ e => e)
  replace hY := Y.1
  refine yy_fin.steps (n := 1) (s' := (683, [some (.ref 1), some (.ref w), some (.ref 0), some (.int (Int32.ofInt fr)), some (.int (Int32.ofInt (t : Int))), some (.int (Int32.ofInt day)), some (zz_val k6), some (zz_val k7), some (.int (Int32.ofInt p8)), some (.ref k9), some (.int (Int32.ofInt s)), some (zz_val q11), some (.int (Int32.ofInt p12)), some (.ref q13), some (.ref q14), some (.int (Int32.ofInt 0)), some (zz_val k6), some (.int (Int32.ofInt n17_0)), some (.int (Int32.ofInt n18_0)), some (.int (Int32.ofInt v3)), some (.int (Int32.ofInt v10)), some (.int (Int32.ofInt v17)), none, none, none], [.int (Int32.ofInt v3), .int (Int32.ofInt (s_90 (g0 541) t day 0 n17_0))], h19)) rfl ?_
  refine yy_fin.ic rfl (fun cz => absurd (congrArg Int32.ofInt ev3.symm) (y_cne cz)) (fun _ => ?_)
  refine yy_fin.steps (n := 5) (s' := (695, [some (.ref 1), some (.ref w), some (.ref 0), some (.int (Int32.ofInt fr)), some (.int (Int32.ofInt (t : Int))), some (.int (Int32.ofInt day)), some (zz_val k6), some (zz_val k7), some (.int (Int32.ofInt p8)), some (.ref k9), some (.int (Int32.ofInt s)), some (zz_val q11), some (.int (Int32.ofInt p12)), some (.ref q13), some (.ref q14), some (.int (Int32.ofInt 0)), some (zz_val k6), some (.int (Int32.ofInt n17_0)), some (.int (Int32.ofInt n18_0)), some (.int (Int32.ofInt v3)), some (.int (Int32.ofInt v10)), some (.int (Int32.ofInt v17)), none, none, none], [.int (Int32.ofInt n18_0), .int (Int32.ofInt 0), .int (Int32.ofInt day), .int (Int32.ofInt (t : Int)), .ref 1], h19)) rfl ?_
  obtain ⟨g20, r20⟩ := qi_90 F C ht hd (f := 0) (Or.inl rfl) (n := n18_0) (by omega)
  obtain ⟨fs20, oo20⟩ := C.o
  refine yy_fin.cv (as := [.int (Int32.ofInt (t : Int)), .int (Int32.ofInt day), .int (Int32.ofInt 0), .int (Int32.ofInt n18_0)]) rfl rfl rfl oo20 (Nat.le_of_ble_eq_true rfl) (Nat.le_of_ble_eq_true rfl) r20 ?_
  rintro v h20 ⟨rfl, C, x20⟩
  replace H6 := H6.k x20
  replace H7 := H7.k x20
  replace Y := Y.tr x20 (fun _ _ e => e)
  replace hY := Y.1
  refine yy_fin.steps (n := 1) (s' := (700, [some (.ref 1), some (.ref w), some (.ref 0), some (.int (Int32.ofInt fr)), some (.int (Int32.ofInt (t : Int))), some (.int (Int32.ofInt day)), some (zz_val k6), some (zz_val k7), some (.int (Int32.ofInt p8)), some (.ref k9), some (.int (Int32.ofInt s)), some (zz_val q11), some (.int (Int32.ofInt p12)), some (.ref q13), some (.ref q14), some (.int (Int32.ofInt 0)), some (zz_val k6), some (.int (Int32.ofInt n17_0)), some (.int (Int32.ofInt n18_0)), some (.int (Int32.ofInt v3)), some (.int (Int32.ofInt v10)), some (.int (Int32.ofInt v17)), none, none, none], [.int (Int32.ofInt v10), .int (Int32.ofInt (s_90 (g0 541) t day 0 n18_0))], h20)) rfl ?_
  refine yy_fin.ic rfl (fun cz => absurd (congrArg Int32.ofInt ev10.symm) (y_cne cz)) (fun _ => ?_)
  refine yy_fin.steps (n := 6) (s' := (714, [some (.ref 1), some (.ref w), some (.ref 0), some (.int (Int32.ofInt fr)), some (.int (Int32.ofInt (t : Int))), some (.int (Int32.ofInt day)), some (zz_val k6), some (zz_val k7), some (.int (Int32.ofInt p8)), some (.ref k9), some (.int (Int32.ofInt s)), some (zz_val q11), some (.int (Int32.ofInt p12)), some (.ref q13), some (.ref q14), some (.int (Int32.ofInt 0)), some (zz_val k6), some (.int (Int32.ofInt n17_0)), some (.int (Int32.ofInt n18_0)), some (.int (Int32.ofInt v3)), some (.int (Int32.ofInt v10)), some (.int (Int32.ofInt v17)), none, none, none], [.int (Int32.ofInt n18_0), .int (Int32.ofInt n17_0), .int (Int32.ofInt 0), .int (Int32.ofInt day), .int (Int32.ofInt (t : Int)), .ref 1], h20)) rfl ?_
  obtain ⟨g21, r21⟩ := qi_97 F C ht hd (f := 0) (Or.inl rfl) (n := n17_0) (m := n18_0) (by omega) (by omega)
  obtain ⟨fs21, oo21⟩ := C.o
  refine yy_fin.cv (as := [.int (Int32.ofInt (t : Int)), .int (Int32.ofInt day), .int (Int32.ofInt 0), .int (Int32.ofInt n17_0), .int (Int32.ofInt n18_0)]) rfl rfl rfl oo21 (Nat.le_of_ble_eq_true rfl) (Nat.le_of_ble_eq_true rfl) r21 ?_
  rintro v h21 ⟨rfl, C, x21⟩
  replace H6 := H6.k x21
  replace H7 := H7.k x21
  replace Y := Y.tr x21 (fun _ _ e => e)
  replace hY := Y.1
  refine yy_fin.steps (n := 2) (s' := (721, [some (.ref 1), some (.ref w), some (.ref 0), some (.int (Int32.ofInt fr)), some (.int (Int32.ofInt (t : Int))), some (.int (Int32.ofInt day)), some (zz_val k6), some (zz_val k7), some (.int (Int32.ofInt p8)), some (.ref k9), some (.int (Int32.ofInt s)), some (zz_val q11), some (.int (Int32.ofInt p12)), some (.ref q13), some (.ref q14), some (.int (Int32.ofInt 0)), some (zz_val k6), some (.int (Int32.ofInt n17_0)), some (.int (Int32.ofInt n18_0)), some (.int (Int32.ofInt v3)), some (.int (Int32.ofInt v10)), some (.int (Int32.ofInt v17)), none, none, none], [.int (Int32.ofInt (-2)), .int (Int32.ofInt v3), .int (Int32.ofInt (s_26 (g0 541) t day 0 n17_0 n18_0))], h21)) rfl ?_
  suffices J9 : ∀ v9 : Int, v9 = s_26 (g0 541) t day 0 n17_0 n18_0 → yy_fin X 279 (741, [some (.ref 1), some (.ref w), some (.ref 0), some (.int (Int32.ofInt fr)), some (.int (Int32.ofInt (t : Int))), some (.int (Int32.ofInt day)), some (zz_val k6), some (zz_val k7), some (.int (Int32.ofInt p8)), some (.ref k9), some (.int (Int32.ofInt s)), some (zz_val q11), some (.int (Int32.ofInt p12)), some (.ref q13), some (.ref q14), some (.int (Int32.ofInt 0)), some (zz_val k6), some (.int (Int32.ofInt n17_0)), some (.int (Int32.ofInt n18_0)), some (.int (Int32.ofInt v3)), some (.int (Int32.ofInt v10)), some (.int (Int32.ofInt v17)), none, none, none], [.int (Int32.ofInt v9), .int (Int32.ofInt (s_26 (g0 541) t day 0 n17_0 n18_0))], h21) φ by
    refine yy_fin.ic rfl (fun c22 => ?_) (fun c22 => ?_)
    · have c22 := (yi_c_eq (a := v3) (b := -2) (by omega) (by omega)).mp c22
      refine yy_fin.steps (n := 2) (s' := (741, [some (.ref 1), some (.ref w), some (.ref 0), some (.int (Int32.ofInt fr)), some (.int (Int32.ofInt (t : Int))), some (.int (Int32.ofInt day)), some (zz_val k6), some (zz_val k7), some (.int (Int32.ofInt p8)), some (.ref k9), some (.int (Int32.ofInt s)), some (zz_val q11), some (.int (Int32.ofInt p12)), some (.ref q13), some (.ref q14), some (.int (Int32.ofInt 0)), some (zz_val k6), some (.int (Int32.ofInt n17_0)), some (.int (Int32.ofInt n18_0)), some (.int (Int32.ofInt v3)), some (.int (Int32.ofInt v10)), some (.int (Int32.ofInt v17)), none, none, none], [.int (Int32.ofInt (-1000000)), .int (Int32.ofInt (s_26 (g0 541) t day 0 n17_0 n18_0))], h21)) rfl ?_
      exact J9 _ (by unfold s_26; rw [← ev3, ← ev10]; rw [if_pos (by omega)])
    · have c22 := mt (yi_c_eq (a := v3) (b := -2) (by omega) (by omega)).mpr c22
      refine yy_fin.steps (n := 2) (s' := (728, [some (.ref 1), some (.ref w), some (.ref 0), some (.int (Int32.ofInt fr)), some (.int (Int32.ofInt (t : Int))), some (.int (Int32.ofInt day)), some (zz_val k6), some (zz_val k7), some (.int (Int32.ofInt p8)), some (.ref k9), some (.int (Int32.ofInt s)), some (zz_val q11), some (.int (Int32.ofInt p12)), some (.ref q13), some (.ref q14), some (.int (Int32.ofInt 0)), some (zz_val k6), some (.int (Int32.ofInt n17_0)), some (.int (Int32.ofInt n18_0)), some (.int (Int32.ofInt v3)), some (.int (Int32.ofInt v10)), some (.int (Int32.ofInt v17)), none, none, none], [.int (Int32.ofInt (-2)), .int (Int32.ofInt v10), .int (Int32.ofInt (s_26 (g0 541) t day 0 n17_0 n18_0))], h21)) rfl ?_
      refine yy_fin.ic rfl (fun c23 => ?_) (fun c23 => ?_)
      · have c23 := (yi_c_ne (a := v10) (b := -2) (by omega) (by omega)).mp c23
        refine yy_fin.steps (n := 3) (s' := (741, [some (.ref 1), some (.ref w), some (.ref 0), some (.int (Int32.ofInt fr)), some (.int (Int32.ofInt (t : Int))), some (.int (Int32.ofInt day)), some (zz_val k6), some (zz_val k7), some (.int (Int32.ofInt p8)), some (.ref k9), some (.int (Int32.ofInt s)), some (zz_val q11), some (.int (Int32.ofInt p12)), some (.ref q13), some (.ref q14), some (.int (Int32.ofInt 0)), some (zz_val k6), some (.int (Int32.ofInt n17_0)), some (.int (Int32.ofInt n18_0)), some (.int (Int32.ofInt v3)), some (.int (Int32.ofInt v10)), some (.int (Int32.ofInt v17)), none, none, none], [.int ((Int32.ofInt v10) - (Int32.ofInt v3)), .int (Int32.ofInt (s_26 (g0 541) t day 0 n17_0 n18_0))], h21)) rfl ?_
        rw [yi_sub v10 v3]
        exact J9 _ (by unfold s_26; rw [← ev3, ← ev10]; rw [if_neg (by omega), if_pos (by omega)])
      · have c23 := mt (yi_c_ne (a := v10) (b := -2) (by omega) (by omega)).mpr c23
        refine yy_fin.steps (n := 2) (s' := (741, [some (.ref 1), some (.ref w), some (.ref 0), some (.int (Int32.ofInt fr)), some (.int (Int32.ofInt (t : Int))), some (.int (Int32.ofInt day)), some (zz_val k6), some (zz_val k7), some (.int (Int32.ofInt p8)), some (.ref k9), some (.int (Int32.ofInt s)), some (zz_val q11), some (.int (Int32.ofInt p12)), some (.ref q13), some (.ref q14), some (.int (Int32.ofInt 0)), some (zz_val k6), some (.int (Int32.ofInt n17_0)), some (.int (Int32.ofInt n18_0)), some (.int (Int32.ofInt v3)), some (.int (Int32.ofInt v10)), some (.int (Int32.ofInt v17)), none, none, none], [.int (Int32.ofInt (-1000000)), .int (Int32.ofInt (s_26 (g0 541) t day 0 n17_0 n18_0))], h21)) rfl ?_
        exact J9 _ (by unfold s_26; rw [← ev3, ← ev10]; rw [if_neg (by omega), if_neg (by omega)])
  intro v9 ev9
  refine yy_fin.ic rfl (fun cz => absurd (congrArg Int32.ofInt ev9.symm) (y_cne cz)) (fun _ => ?_)
  refine yy_fin.steps (n := 5) (s' := (752, [some (.ref 1), some (.ref w), some (.ref 0), some (.int (Int32.ofInt fr)), some (.int (Int32.ofInt (t : Int))), some (.int (Int32.ofInt day)), some (zz_val k6), some (zz_val k7), some (.int (Int32.ofInt p8)), some (.ref k9), some (.int (Int32.ofInt s)), some (zz_val q11), some (.int (Int32.ofInt p12)), some (.ref q13), some (.ref q14), some (.int (Int32.ofInt 0)), some (zz_val k6), some (.int (Int32.ofInt n17_0)), some (.int (Int32.ofInt n18_0)), some (.int (Int32.ofInt v3)), some (.int (Int32.ofInt v10)), some (.int (Int32.ofInt v17)), none, none, none], [.int (Int32.ofInt 0), .int (Int32.ofInt 0), .int (Int32.ofInt day), .int (Int32.ofInt (t : Int)), .ref 1], h21)) rfl ?_
  obtain ⟨g24, r24⟩ := qi_96 F C ht hd (f := 0) (Or.inl rfl) (k := 0) (Or.inl rfl)
  obtain ⟨fs24, oo24⟩ := C.o
  refine yy_fin.cv (as := [.int (Int32.ofInt (t : Int)), .int (Int32.ofInt day), .int (Int32.ofInt 0), .int (Int32.ofInt 0)]) rfl rfl rfl oo24 (Nat.le_of_ble_eq_true rfl) (Nat.le_of_ble_eq_true rfl) r24 ?_
  rintro v h24 ⟨rfl, C, x24⟩
  replace H6 := H6.k x24
  replace H7 := H7.k x24
  replace Y := Y.tr x24 (fun _ _ e => e)
  replace hY := Y.1
  refine yy_fin.steps (n := 1) (s' := (757, [some (.ref 1), some (.ref w), some (.ref 0), some (.int (Int32.ofInt fr)), some (.int (Int32.ofInt (t : Int))), some (.int (Int32.ofInt day)), some (zz_val k6), some (zz_val k7), some (.int (Int32.ofInt p8)), some (.ref k9), some (.int (Int32.ofInt s)), some (zz_val q11), some (.int (Int32.ofInt p12)), some (.ref q13), some (.ref q14), some (.int (Int32.ofInt 0)), some (zz_val k6), some (.int (Int32.ofInt n17_0)), some (.int (Int32.ofInt n18_0)), some (.int (Int32.ofInt v3)), some (.int (Int32.ofInt v10)), some (.int (Int32.ofInt v17)), none, none, none], [.int (Int32.ofInt v17), .int (Int32.ofInt (s_25 (g0 541) t day 0 0))], h24)) rfl ?_
  refine yy_fin.ic rfl (fun cz => absurd (congrArg Int32.ofInt (s_25_e.trans ev17.symm)) (y_cne cz)) (fun _ => ?_)
  refine yy_fin.steps (n := 5) (s' := (768, [some (.ref 1), some (.ref w), some (.ref 0), some (.int (Int32.ofInt fr)), some (.int (Int32.ofInt (t : Int))), some (.int (Int32.ofInt day)), some (zz_val k6), some (zz_val k7), some (.int (Int32.ofInt p8)), some (.ref k9), some (.int (Int32.ofInt s)), some (zz_val q11), some (.int (Int32.ofInt p12)), some (.ref q13), some (.ref q14), some (.int (Int32.ofInt 0)), some (zz_val k6), some (.int (Int32.ofInt n17_0)), some (.int (Int32.ofInt n18_0)), some (.int (Int32.ofInt v3)), some (.int (Int32.ofInt v10)), some (.int (Int32.ofInt v17)), none, none, none], [.int (Int32.ofInt 1), .int (Int32.ofInt 0), .int (Int32.ofInt day), .int (Int32.ofInt (t : Int)), .ref 1], h24)) rfl ?_
  obtain ⟨g25, r25⟩ := qi_96 F C ht hd (f := 0) (Or.inl rfl) (k := 1) (Or.inr rfl)
  obtain ⟨fs25, oo25⟩ := C.o
  refine yy_fin.cv (as := [.int (Int32.ofInt (t : Int)), .int (Int32.ofInt day), .int (Int32.ofInt 0), .int (Int32.ofInt 1)]) rfl rfl rfl oo25 (Nat.le_of_ble_eq_true rfl) (Nat.le_of_ble_eq_true rfl) r25 ?_
  rintro v h25 ⟨rfl, C, x25⟩
  replace H6 := H6.k x25
  replace H7 := H7.k x25
  replace Y := Y.tr x25 (fun _ _ e => e)
  replace hY := Y.1
  refine yy_fin.steps (n := 1) (s' := (773, [some (.ref 1), some (.ref w), some (.ref 0), some (.int (Int32.ofInt fr)), some (.int (Int32.ofInt (t : Int))), some (.int (Int32.ofInt day)), some (zz_val k6), some (zz_val k7), some (.int (Int32.ofInt p8)), some (.ref k9), some (.int (Int32.ofInt s)), some (zz_val q11), some (.int (Int32.ofInt p12)), some (.ref q13), some (.ref q14), some (.int (Int32.ofInt 0)), some (zz_val k6), some (.int (Int32.ofInt n17_0)), some (.int (Int32.ofInt n18_0)), some (.int (Int32.ofInt v3)), some (.int (Int32.ofInt v10)), some (.int (Int32.ofInt v17)), none, none, none], [zz_val k6, .int (Int32.ofInt (s_25 (g0 541) t day 0 1))], h25)) rfl ?_
  suffices J26 : ∀ v26 : Int, v26 = s_25 (g0 541) t day 0 1 → yy_fin X 279 (796, [some (.ref 1), some (.ref w), some (.ref 0), some (.int (Int32.ofInt fr)), some (.int (Int32.ofInt (t : Int))), some (.int (Int32.ofInt day)), some (zz_val k6), some (zz_val k7), some (.int (Int32.ofInt p8)), some (.ref k9), some (.int (Int32.ofInt s)), some (zz_val q11), some (.int (Int32.ofInt p12)), some (.ref q13), some (.ref q14), some (.int (Int32.ofInt 0)), some (zz_val k6), some (.int (Int32.ofInt n17_0)), some (.int (Int32.ofInt n18_0)), some (.int (Int32.ofInt v3)), some (.int (Int32.ofInt v10)), some (.int (Int32.ofInt v17)), none, none, none], [.int (Int32.ofInt v26), .int (Int32.ofInt (s_25 (g0 541) t day 0 1))], h25) φ by
    rcases H6 with ⟨rfl, eo27⟩ | ⟨q27, u27, l27, rfl, eo27, R27⟩
    · refine yy_fin.steps (n := 3) (s' := (796, [some (.ref 1), some (.ref w), some (.ref 0), some (.int (Int32.ofInt fr)), some (.int (Int32.ofInt (t : Int))), some (.int (Int32.ofInt day)), some (.null), some (zz_val k7), some (.int (Int32.ofInt p8)), some (.ref k9), some (.int (Int32.ofInt s)), some (zz_val q11), some (.int (Int32.ofInt p12)), some (.ref q13), some (.ref q14), some (.int (Int32.ofInt 0)), some (.null), some (.int (Int32.ofInt n17_0)), some (.int (Int32.ofInt n18_0)), some (.int (Int32.ofInt v3)), some (.int (Int32.ofInt v10)), some (.int (Int32.ofInt v17)), none, none, none], [.int (Int32.ofInt v17), .int (Int32.ofInt (s_25 (g0 541) t day 0 1))], h25)) rfl ?_
      exact J26 _ (by unfold s_25; rw [ev17, eo27]; rfl)
    · have hb27 := hv_bnd2 F.2.2.2 ht eo27
      refine yy_fin.steps (n := 3) (s' := (785, [some (.ref 1), some (.ref w), some (.ref 0), some (.int (Int32.ofInt fr)), some (.int (Int32.ofInt (t : Int))), some (.int (Int32.ofInt day)), some (.ref q27), some (zz_val k7), some (.int (Int32.ofInt p8)), some (.ref k9), some (.int (Int32.ofInt s)), some (zz_val q11), some (.int (Int32.ofInt p12)), some (.ref q13), some (.ref q14), some (.int (Int32.ofInt 0)), some (.ref q27), some (.int (Int32.ofInt n17_0)), some (.int (Int32.ofInt n18_0)), some (.int (Int32.ofInt v3)), some (.int (Int32.ofInt v10)), some (.int (Int32.ofInt v17)), none, none, none], [.int (Int32.ofInt 0), .int (Int32.ofInt v17), .int (Int32.ofInt (s_25 (g0 541) t day 0 1))], h25)) rfl ?_
      refine yy_fin.if rfl (fun cK => absurd cK (by decide)) (fun cK => ?_)
      refine yy_fin.steps (n := 3) (s' := (796, [some (.ref 1), some (.ref w), some (.ref 0), some (.int (Int32.ofInt fr)), some (.int (Int32.ofInt (t : Int))), some (.int (Int32.ofInt day)), some (.ref q27), some (zz_val k7), some (.int (Int32.ofInt p8)), some (.ref k9), some (.int (Int32.ofInt s)), some (zz_val q11), some (.int (Int32.ofInt p12)), some (.ref q13), some (.ref q14), some (.int (Int32.ofInt 0)), some (.ref q27), some (.int (Int32.ofInt n17_0)), some (.int (Int32.ofInt n18_0)), some (.int (Int32.ofInt v3)), some (.int (Int32.ofInt v10)), some (.int (Int32.ofInt v17)), none, none, none], [.int ((Int32.ofInt v17) - (Int32.ofInt 43200)), .int (Int32.ofInt (s_25 (g0 541) t day 0 1))], h25)) rfl ?_
      rw [yi_sub v17 43200]
      exact J26 _ (by unfold s_25; rw [ev17, eo27]; show u27 + (u27 + l27 - u27) / 2 - 43200 = u27 + l27 / 2 - 43200; rw [show u27 + l27 - u27 = l27 by omega])
  intro v26 ev26
  refine yy_fin.ic rfl (fun _ => ?_) (fun cz => absurd (y_ceq (congrArg Int32.ofInt ev26.symm)) cz)
  refine yy_fin.steps (n := 1) (s' := (803, [some (.ref 1), some (.ref w), some (.ref 0), some (.int (Int32.ofInt fr)), some (.int (Int32.ofInt (t : Int))), some (.int (Int32.ofInt day)), some (zz_val k6), some (zz_val k7), some (.int (Int32.ofInt p8)), some (.ref k9), some (.int (Int32.ofInt s)), some (zz_val q11), some (.int (Int32.ofInt p12)), some (.ref q13), some (.ref q14), some (.int (Int32.ofInt 0)), some (zz_val k6), some (.int (Int32.ofInt n17_0)), some (.int (Int32.ofInt n18_0)), some (.int (Int32.ofInt v3)), some (.int (Int32.ofInt v10)), some (.int (Int32.ofInt v17)), none, none, none], [zz_val k6], h25)) rfl ?_
  suffices J28 : ∀ v28 : Int, v28 = y_el (hv_t (g0 541) t day 0) 0 (fun u l => u + l - u) → yy_fin X 279 (819, [some (.ref 1), some (.ref w), some (.ref 0), some (.int (Int32.ofInt fr)), some (.int (Int32.ofInt (t : Int))), some (.int (Int32.ofInt day)), some (zz_val k6), some (zz_val k7), some (.int (Int32.ofInt p8)), some (.ref k9), some (.int (Int32.ofInt s)), some (zz_val q11), some (.int (Int32.ofInt p12)), some (.ref q13), some (.ref q14), some (.int (Int32.ofInt 0)), some (zz_val k6), some (.int (Int32.ofInt n17_0)), some (.int (Int32.ofInt n18_0)), some (.int (Int32.ofInt v3)), some (.int (Int32.ofInt v10)), some (.int (Int32.ofInt v17)), none, none, none], [.int (Int32.ofInt v28)], h25) φ by
    rcases H6 with ⟨rfl, eo29⟩ | ⟨q29, u29, l29, rfl, eo29, R29⟩
    · refine yy_fin.steps (n := 3) (s' := (819, [some (.ref 1), some (.ref w), some (.ref 0), some (.int (Int32.ofInt fr)), some (.int (Int32.ofInt (t : Int))), some (.int (Int32.ofInt day)), some (.null), some (zz_val k7), some (.int (Int32.ofInt p8)), some (.ref k9), some (.int (Int32.ofInt s)), some (zz_val q11), some (.int (Int32.ofInt p12)), some (.ref q13), some (.ref q14), some (.int (Int32.ofInt 0)), some (.null), some (.int (Int32.ofInt n17_0)), some (.int (Int32.ofInt n18_0)), some (.int (Int32.ofInt v3)), some (.int (Int32.ofInt v10)), some (.int (Int32.ofInt v17)), none, none, none], [.int (Int32.ofInt 0)], h25)) rfl ?_
      exact J28 _ (by rw [eo29]; rfl)
    · have hb29 := hv_bnd2 F.2.2.2 ht eo29
      refine yy_fin.steps (n := 3) (s' := (813, [some (.ref 1), some (.ref w), some (.ref 0), some (.int (Int32.ofInt fr)), some (.int (Int32.ofInt (t : Int))), some (.int (Int32.ofInt day)), some (.ref q29), some (zz_val k7), some (.int (Int32.ofInt p8)), some (.ref k9), some (.int (Int32.ofInt s)), some (zz_val q11), some (.int (Int32.ofInt p12)), some (.ref q13), some (.ref q14), some (.int (Int32.ofInt 0)), some (.ref q29), some (.int (Int32.ofInt n17_0)), some (.int (Int32.ofInt n18_0)), some (.int (Int32.ofInt v3)), some (.int (Int32.ofInt v10)), some (.int (Int32.ofInt v17)), none, none, none], [.int (Int32.ofInt 1), .ref q29], h25)) rfl ?_
      refine yy_fin.lp (j := 1) rfl R29.2 (by decide) (by decide) rfl ?_
      refine yy_fin.steps (n := 2) (s' := (817, [some (.ref 1), some (.ref w), some (.ref 0), some (.int (Int32.ofInt fr)), some (.int (Int32.ofInt (t : Int))), some (.int (Int32.ofInt day)), some (.ref q29), some (zz_val k7), some (.int (Int32.ofInt p8)), some (.ref k9), some (.int (Int32.ofInt s)), some (zz_val q11), some (.int (Int32.ofInt p12)), some (.ref q13), some (.ref q14), some (.int (Int32.ofInt 0)), some (.ref q29), some (.int (Int32.ofInt n17_0)), some (.int (Int32.ofInt n18_0)), some (.int (Int32.ofInt v3)), some (.int (Int32.ofInt v10)), some (.int (Int32.ofInt v17)), none, none, none], [.int (Int32.ofInt 0), .ref q29, .int (Int32.ofInt (u29 + l29))], h25)) rfl ?_
      refine yy_fin.lp (j := 0) rfl R29.2 (by decide) (by decide) rfl ?_
      refine yy_fin.steps (n := 1) (s' := (819, [some (.ref 1), some (.ref w), some (.ref 0), some (.int (Int32.ofInt fr)), some (.int (Int32.ofInt (t : Int))), some (.int (Int32.ofInt day)), some (.ref q29), some (zz_val k7), some (.int (Int32.ofInt p8)), some (.ref k9), some (.int (Int32.ofInt s)), some (zz_val q11), some (.int (Int32.ofInt p12)), some (.ref q13), some (.ref q14), some (.int (Int32.ofInt 0)), some (.ref q29), some (.int (Int32.ofInt n17_0)), some (.int (Int32.ofInt n18_0)), some (.int (Int32.ofInt v3)), some (.int (Int32.ofInt v10)), some (.int (Int32.ofInt v17)), none, none, none], [.int ((Int32.ofInt (u29 + l29)) - (Int32.ofInt u29))], h25)) rfl ?_
      rw [yi_sub (u29 + l29) u29]
      exact J28 _ (by rw [eo29]; rfl)
  intro v28 ev28
  have hz28 : 0 ≤ v28 ∧ v28 ≤ 200000 := by
    rw [ev28]
    cases eo : hv_t (g0 541) t day 0 with
    | none => exact ⟨Int.le_refl _, by decide⟩
    | some p => obtain ⟨u, l⟩ := p; have := hv_bnd2 F.2.2.2 ht eo; show 0 ≤ u + l - u ∧ u + l - u ≤ 200000; omega
  have hG := (y_Gb v28).1
  refine yy_fin.steps (n := 3) (s' := (825, [some (.ref 1), some (.ref w), some (.ref 0), some (.int (Int32.ofInt fr)), some (.int (Int32.ofInt (t : Int))), some (.int (Int32.ofInt day)), some (zz_val k6), some (zz_val k7), some (.int (Int32.ofInt p8)), some (.ref k9), some (.int (Int32.ofInt s)), some (zz_val q11), some (.int (Int32.ofInt p12)), some (.ref q13), some (.ref q14), some (.int (Int32.ofInt 0)), some (zz_val k6), some (.int (Int32.ofInt n17_0)), some (.int (Int32.ofInt n18_0)), some (.int (Int32.ofInt v3)), some (.int (Int32.ofInt v10)), some (.int (Int32.ofInt v17)), some (.int (Int32.ofInt v28)), some (.int (Int32.ofInt 12)), none], [], h25)) rfl ?_
  refine yl_ex hz28 ?_ (12 - y_G v28).toNat 12 (by omega) (by omega)
  refine yy_fin.steps (n := 5) (s' := (855, [some (.ref 1), some (.ref w), some (.ref 0), some (.int (Int32.ofInt fr)), some (.int (Int32.ofInt (t : Int))), some (.int (Int32.ofInt day)), some (zz_val k6), some (zz_val k7), some (.int (Int32.ofInt p8)), some (.ref k9), some (.int (Int32.ofInt s)), some (zz_val q11), some (.int (Int32.ofInt p12)), some (.ref q13), some (.ref q14), some (.int (Int32.ofInt 0)), some (zz_val k6), some (.int (Int32.ofInt n17_0)), some (.int (Int32.ofInt n18_0)), some (.int (Int32.ofInt v3)), some (.int (Int32.ofInt v10)), some (.int (Int32.ofInt v17)), some (.int (Int32.ofInt v28)), some (.int (Int32.ofInt (y_G v28))), none], [.int (Int32.ofInt 0), .int (Int32.ofInt 0), .int (Int32.ofInt day), .int (Int32.ofInt (t : Int)), .ref 1], h25)) rfl ?_
  obtain ⟨g30, r30⟩ := qi_98 F C ht hd (f := 0) (Or.inl rfl) (i := 0) (Or.inl rfl)
  obtain ⟨fs30, oo30⟩ := C.o
  refine yy_fin.cv (as := [.int (Int32.ofInt (t : Int)), .int (Int32.ofInt day), .int (Int32.ofInt 0), .int (Int32.ofInt 0)]) rfl rfl rfl oo30 (Nat.le_of_ble_eq_true rfl) (Nat.le_of_ble_eq_true rfl) r30 ?_
  rintro v h30 ⟨rfl, C, x30⟩
  replace H6 := H6.k x30
  replace H7 := H7.k x30
  replace Y := Y.tr x30 (fun _ _ e => e)
  replace hY := Y.1
  refine yy_fin.steps (n := 1) (s' := (860, [some (.ref 1), some (.ref w), some (.ref 0), some (.int (Int32.ofInt fr)), some (.int (Int32.ofInt (t : Int))), some (.int (Int32.ofInt day)), some (zz_val k6), some (zz_val k7), some (.int (Int32.ofInt p8)), some (.ref k9), some (.int (Int32.ofInt s)), some (zz_val q11), some (.int (Int32.ofInt p12)), some (.ref q13), some (.ref q14), some (.int (Int32.ofInt 0)), some (zz_val k6), some (.int (Int32.ofInt n17_0)), some (.int (Int32.ofInt n18_0)), some (.int (Int32.ofInt v3)), some (.int (Int32.ofInt v10)), some (.int (Int32.ofInt v17)), some (.int (Int32.ofInt v28)), some (.int (Int32.ofInt (y_G v28))), none], [zz_val k6, .int (Int32.ofInt (s_98 (g0 541) t day 0 0))], h30)) rfl ?_
  suffices J31 : ∀ v31 : Int, v31 = s_98 (g0 541) t day 0 0 → yy_fin X 279 (873, [some (.ref 1), some (.ref w), some (.ref 0), some (.int (Int32.ofInt fr)), some (.int (Int32.ofInt (t : Int))), some (.int (Int32.ofInt day)), some (zz_val k6), some (zz_val k7), some (.int (Int32.ofInt p8)), some (.ref k9), some (.int (Int32.ofInt s)), some (zz_val q11), some (.int (Int32.ofInt p12)), some (.ref q13), some (.ref q14), some (.int (Int32.ofInt 0)), some (zz_val k6), some (.int (Int32.ofInt n17_0)), some (.int (Int32.ofInt n18_0)), some (.int (Int32.ofInt v3)), some (.int (Int32.ofInt v10)), some (.int (Int32.ofInt v17)), some (.int (Int32.ofInt v28)), some (.int (Int32.ofInt (y_G v28))), none], [.int (Int32.ofInt v31), .int (Int32.ofInt (s_98 (g0 541) t day 0 0))], h30) φ by
    rcases H6 with ⟨rfl, eo32⟩ | ⟨q32, u32, l32, rfl, eo32, R32⟩
    · refine yy_fin.steps (n := 3) (s' := (873, [some (.ref 1), some (.ref w), some (.ref 0), some (.int (Int32.ofInt fr)), some (.int (Int32.ofInt (t : Int))), some (.int (Int32.ofInt day)), some (.null), some (zz_val k7), some (.int (Int32.ofInt p8)), some (.ref k9), some (.int (Int32.ofInt s)), some (zz_val q11), some (.int (Int32.ofInt p12)), some (.ref q13), some (.ref q14), some (.int (Int32.ofInt 0)), some (.null), some (.int (Int32.ofInt n17_0)), some (.int (Int32.ofInt n18_0)), some (.int (Int32.ofInt v3)), some (.int (Int32.ofInt v10)), some (.int (Int32.ofInt v17)), some (.int (Int32.ofInt v28)), some (.int (Int32.ofInt (y_G v28))), none], [.int (Int32.ofInt (-2)), .int (Int32.ofInt (s_98 (g0 541) t day 0 0))], h30)) rfl ?_
      exact J31 _ (by unfold s_98; rw [eo32])
    · have hb32 := hv_bnd2 F.2.2.2 ht eo32
      refine yy_fin.steps (n := 3) (s' := (872, [some (.ref 1), some (.ref w), some (.ref 0), some (.int (Int32.ofInt fr)), some (.int (Int32.ofInt (t : Int))), some (.int (Int32.ofInt day)), some (.ref q32), some (zz_val k7), some (.int (Int32.ofInt p8)), some (.ref k9), some (.int (Int32.ofInt s)), some (zz_val q11), some (.int (Int32.ofInt p12)), some (.ref q13), some (.ref q14), some (.int (Int32.ofInt 0)), some (.ref q32), some (.int (Int32.ofInt n17_0)), some (.int (Int32.ofInt n18_0)), some (.int (Int32.ofInt v3)), some (.int (Int32.ofInt v10)), some (.int (Int32.ofInt v17)), some (.int (Int32.ofInt v28)), some (.int (Int32.ofInt (y_G v28))), none], [.int (Int32.ofInt (y_G v28)), .int (Int32.ofInt v28), .int (Int32.ofInt (s_98 (g0 541) t day 0 0))], h30)) rfl ?_
      refine yy_fin.dv rfl (fun z => by have z := (yi_eq (a := y_G v28) (b := 0) (by omega) (by omega)).mp z; omega) ?_
      rw [yi_div (a := v28) (b := y_G v28) (by omega) (by omega)]
      exact J31 _ (by unfold s_98; rw [eo32]; show v28 / y_G v28 = _; rw [ev28, eo32]; show (u32 + l32 - u32) / y_G (u32 + l32 - u32) = l32 / y_G l32; rw [show u32 + l32 - u32 = l32 by omega])
  intro v31 ev31
  refine yy_fin.ic rfl (fun cz => absurd (congrArg Int32.ofInt ev31.symm) (y_cne cz)) (fun _ => ?_)
  refine yy_fin.steps (n := 5) (s' := (884, [some (.ref 1), some (.ref w), some (.ref 0), some (.int (Int32.ofInt fr)), some (.int (Int32.ofInt (t : Int))), some (.int (Int32.ofInt day)), some (zz_val k6), some (zz_val k7), some (.int (Int32.ofInt p8)), some (.ref k9), some (.int (Int32.ofInt s)), some (zz_val q11), some (.int (Int32.ofInt p12)), some (.ref q13), some (.ref q14), some (.int (Int32.ofInt 0)), some (zz_val k6), some (.int (Int32.ofInt n17_0)), some (.int (Int32.ofInt n18_0)), some (.int (Int32.ofInt v3)), some (.int (Int32.ofInt v10)), some (.int (Int32.ofInt v17)), some (.int (Int32.ofInt v28)), some (.int (Int32.ofInt (y_G v28))), none], [.int (Int32.ofInt 1), .int (Int32.ofInt 0), .int (Int32.ofInt day), .int (Int32.ofInt (t : Int)), .ref 1], h30)) rfl ?_
  obtain ⟨g33, r33⟩ := qi_98 F C ht hd (f := 0) (Or.inl rfl) (i := 1) (Or.inr rfl)
  obtain ⟨fs33, oo33⟩ := C.o
  refine yy_fin.cv (as := [.int (Int32.ofInt (t : Int)), .int (Int32.ofInt day), .int (Int32.ofInt 0), .int (Int32.ofInt 1)]) rfl rfl rfl oo33 (Nat.le_of_ble_eq_true rfl) (Nat.le_of_ble_eq_true rfl) r33 ?_
  rintro v h33 ⟨rfl, C, x33⟩
  replace H6 := H6.k x33
  replace H7 := H7.k x33
  replace Y := Y.tr x33 (fun _ _ e => e)
  replace hY := Y.1
  refine yy_fin.steps (n := 1) (s' := (889, [some (.ref 1), some (.ref w), some (.ref 0), some (.int (Int32.ofInt fr)), some (.int (Int32.ofInt (t : Int))), some (.int (Int32.ofInt day)), some (zz_val k6), some (zz_val k7), some (.int (Int32.ofInt p8)), some (.ref k9), some (.int (Int32.ofInt s)), some (zz_val q11), some (.int (Int32.ofInt p12)), some (.ref q13), some (.ref q14), some (.int (Int32.ofInt 0)), some (zz_val k6), some (.int (Int32.ofInt n17_0)), some (.int (Int32.ofInt n18_0)), some (.int (Int32.ofInt v3)), some (.int (Int32.ofInt v10)), some (.int (Int32.ofInt v17)), some (.int (Int32.ofInt v28)), some (.int (Int32.ofInt (y_G v28))), none], [zz_val k6, .int (Int32.ofInt (s_98 (g0 541) t day 0 1))], h33)) rfl ?_
  suffices J34 : ∀ v34 : Int, v34 = s_98 (g0 541) t day 0 1 → yy_fin X 279 (902, [some (.ref 1), some (.ref w), some (.ref 0), some (.int (Int32.ofInt fr)), some (.int (Int32.ofInt (t : Int))), some (.int (Int32.ofInt day)), some (zz_val k6), some (zz_val k7), some (.int (Int32.ofInt p8)), some (.ref k9), some (.int (Int32.ofInt s)), some (zz_val q11), some (.int (Int32.ofInt p12)), some (.ref q13), some (.ref q14), some (.int (Int32.ofInt 0)), some (zz_val k6), some (.int (Int32.ofInt n17_0)), some (.int (Int32.ofInt n18_0)), some (.int (Int32.ofInt v3)), some (.int (Int32.ofInt v10)), some (.int (Int32.ofInt v17)), some (.int (Int32.ofInt v28)), some (.int (Int32.ofInt (y_G v28))), none], [.int (Int32.ofInt v34), .int (Int32.ofInt (s_98 (g0 541) t day 0 1))], h33) φ by
    rcases H6 with ⟨rfl, eo35⟩ | ⟨q35, u35, l35, rfl, eo35, R35⟩
    · refine yy_fin.steps (n := 3) (s' := (902, [some (.ref 1), some (.ref w), some (.ref 0), some (.int (Int32.ofInt fr)), some (.int (Int32.ofInt (t : Int))), some (.int (Int32.ofInt day)), some (.null), some (zz_val k7), some (.int (Int32.ofInt p8)), some (.ref k9), some (.int (Int32.ofInt s)), some (zz_val q11), some (.int (Int32.ofInt p12)), some (.ref q13), some (.ref q14), some (.int (Int32.ofInt 0)), some (.null), some (.int (Int32.ofInt n17_0)), some (.int (Int32.ofInt n18_0)), some (.int (Int32.ofInt v3)), some (.int (Int32.ofInt v10)), some (.int (Int32.ofInt v17)), some (.int (Int32.ofInt v28)), some (.int (Int32.ofInt (y_G v28))), none], [.int (Int32.ofInt (-2)), .int (Int32.ofInt (s_98 (g0 541) t day 0 1))], h33)) rfl ?_
      exact J34 _ (by unfold s_98; rw [eo35])
    · have hb35 := hv_bnd2 F.2.2.2 ht eo35
      refine yy_fin.steps (n := 3) (s' := (901, [some (.ref 1), some (.ref w), some (.ref 0), some (.int (Int32.ofInt fr)), some (.int (Int32.ofInt (t : Int))), some (.int (Int32.ofInt day)), some (.ref q35), some (zz_val k7), some (.int (Int32.ofInt p8)), some (.ref k9), some (.int (Int32.ofInt s)), some (zz_val q11), some (.int (Int32.ofInt p12)), some (.ref q13), some (.ref q14), some (.int (Int32.ofInt 0)), some (.ref q35), some (.int (Int32.ofInt n17_0)), some (.int (Int32.ofInt n18_0)), some (.int (Int32.ofInt v3)), some (.int (Int32.ofInt v10)), some (.int (Int32.ofInt v17)), some (.int (Int32.ofInt v28)), some (.int (Int32.ofInt (y_G v28))), none], [.int (Int32.ofInt (y_G v28)), .int (Int32.ofInt 12), .int (Int32.ofInt (s_98 (g0 541) t day 0 1))], h33)) rfl ?_
      refine yy_fin.dv rfl (fun z => by have z := (yi_eq (a := y_G v28) (b := 0) (by omega) (by omega)).mp z; omega) ?_
      rw [yi_div (a := 12) (b := y_G v28) (by omega) (by omega)]
      exact J34 _ (by unfold s_98; rw [eo35]; show 12 / y_G v28 = _; rw [ev28, eo35]; show 12 / y_G (u35 + l35 - u35) = 12 / y_G l35; rw [show u35 + l35 - u35 = l35 by omega])
  intro v34 ev34
  refine yy_fin.ic rfl (fun _ => ?_) (fun cz => absurd (y_ceq (congrArg Int32.ofInt ev34.symm)) cz)
  refine yy_fin.steps (n := 2) (s' := (511, [some (.ref 1), some (.ref w), some (.ref 0), some (.int (Int32.ofInt fr)), some (.int (Int32.ofInt (t : Int))), some (.int (Int32.ofInt day)), some (zz_val k6), some (zz_val k7), some (.int (Int32.ofInt p8)), some (.ref k9), some (.int (Int32.ofInt s)), some (zz_val q11), some (.int (Int32.ofInt p12)), some (.ref q13), some (.ref q14), some (.int ((Int32.ofInt 0) + (Int32.ofInt 1))), some (zz_val k6), some (.int (Int32.ofInt n17_0)), some (.int (Int32.ofInt n18_0)), some (.int (Int32.ofInt v3)), some (.int (Int32.ofInt v10)), some (.int (Int32.ofInt v17)), some (.int (Int32.ofInt v28)), some (.int (Int32.ofInt (y_G v28))), none], [], h33)) rfl ?_
  rw [show (Int32.ofInt 0) + (Int32.ofInt 1) = Int32.ofInt 1 from by decide]
  exact kk _ _ k6 _ _ _ _ _ _ _ C (Y.le (by omega) (by omega)) H6 H7
theorem yl_d41 (F : yCf own w lst g0) (ht : (t : Int) < (g0 541 0).toInt) (hd : 0 ≤ day ∧ day ≤ 35999) (hX : X.1 = some (L, xs)) (hL : L ≤ 100000) (hfr : 0 ≤ fr ∧ fr ≤ 900000) (hs : 0 ≤ s ∧ s ≤ 86399) (C : yCx own w lst g0 h g) (hB : h.1.1 + 200 < yy_B) {k6 k7 : Option Nat} (H6 : yHr h w k6 (hv_t (g0 541) t day 0)) (H7 : yHr h w k7 (hv_t (g0 541) t day 1)) {p8 p12 : Int} {k9 q13 q14 : Nat} {q11 : Option Nat} {q16 : Option Nat} {n17 n18 v19 v20 m21 z22 b23 : Int} (kk : ∀ h' g' (q16 : Option Nat) n17 n18 v19 v20 m21 z22 b23, yCx own w lst g0 h' g' → yx (yAk w) 20 60 h h' → yHr h' w k6 (hv_t (g0 541) t day 0) → yHr h' w k7 (hv_t (g0 541) t day 1) → yy_fin X 279 (511, [some (.ref 1), some (.ref w), some (.ref 0), some (.int (Int32.ofInt fr)), some (.int (Int32.ofInt (t : Int))), some (.int (Int32.ofInt day)), some (zz_val k6), some (zz_val k7), some (.int (Int32.ofInt p8)), some (.ref k9), some (.int (Int32.ofInt s)), some (zz_val q11), some (.int (Int32.ofInt p12)), some (.ref q13), some (.ref q14), some (.int (Int32.ofInt 2)), some (zz_val q16), some (.int (Int32.ofInt n17)), some (.int (Int32.ofInt n18)), some (.int (Int32.ofInt v19)), some (.int (Int32.ofInt v20)), some (.int (Int32.ofInt m21)), some (.int (Int32.ofInt z22)), some (.int (Int32.ofInt b23)), none], [], h') φ) : yy_fin X 279 (511, [some (.ref 1), some (.ref w), some (.ref 0), some (.int (Int32.ofInt fr)), some (.int (Int32.ofInt (t : Int))), some (.int (Int32.ofInt day)), some (zz_val k6), some (zz_val k7), some (.int (Int32.ofInt p8)), some (.ref k9), some (.int (Int32.ofInt s)), some (zz_val q11), some (.int (Int32.ofInt p12)), some (.ref q13), some (.ref q14), some (.int (Int32.ofInt 1)), some (zz_val q16), some (.int (Int32.ofInt n17)), some (.int (Int32.ofInt n18)), some (.int (Int32.ofInt v19)), some (.int (Int32.ofInt v20)), some (.int (Int32.ofInt m21)), some (.int (Int32.ofInt z22)), some (.int (Int32.ofInt b23)), none], [], h) φ := by
  have n4 := F.2.2.2.1
  have hq := F.2.2.2.2.1
  have Y : yx (yAk w) 0 0 h h := yx.rf
  have hY := Y.1
  have hg := C.2.1.2
  refine yy_fin.steps (n := 2) (s' := (514, [some (.ref 1), some (.ref w), some (.ref 0), some (.int (Int32.ofInt fr)), some (.int (Int32.ofInt (t : Int))), some (.int (Int32.ofInt day)), some (zz_val k6), some (zz_val k7), some (.int (Int32.ofInt p8)), some (.ref k9), some (.int (Int32.ofInt s)), some (zz_val q11), some (.int (Int32.ofInt p12)), some (.ref q13), some (.ref q14), some (.int (Int32.ofInt 1)), some (zz_val q16), some (.int (Int32.ofInt n17)), some (.int (Int32.ofInt n18)), some (.int (Int32.ofInt v19)), some (.int (Int32.ofInt v20)), some (.int (Int32.ofInt m21)), some (.int (Int32.ofInt z22)), some (.int (Int32.ofInt b23)), none], [.int (Int32.ofInt 2), .int (Int32.ofInt 1)], h)) rfl ?_
  refine yy_fin.ic rfl (fun cK => absurd cK (by decide)) (fun cK => ?_)
  refine yy_fin.steps (n := 1) (s' := (519, [some (.ref 1), some (.ref w), some (.ref 0), some (.int (Int32.ofInt fr)), some (.int (Int32.ofInt (t : Int))), some (.int (Int32.ofInt day)), some (zz_val k6), some (zz_val k7), some (.int (Int32.ofInt p8)), some (.ref k9), some (.int (Int32.ofInt s)), some (zz_val q11), some (.int (Int32.ofInt p12)), some (.ref q13), some (.ref q14), some (.int (Int32.ofInt 1)), some (zz_val q16), some (.int (Int32.ofInt n17)), some (.int (Int32.ofInt n18)), some (.int (Int32.ofInt v19)), some (.int (Int32.ofInt v20)), some (.int (Int32.ofInt m21)), some (.int (Int32.ofInt z22)), some (.int (Int32.ofInt b23)), none], [.int (Int32.ofInt 1)], h)) rfl ?_
  refine yy_fin.if rfl (fun cK => ?_) (fun cK => absurd (by decide) cK)
  refine yy_fin.steps (n := 8) (s' := (538, [some (.ref 1), some (.ref w), some (.ref 0), some (.int (Int32.ofInt fr)), some (.int (Int32.ofInt (t : Int))), some (.int (Int32.ofInt day)), some (zz_val k6), some (zz_val k7), some (.int (Int32.ofInt p8)), some (.ref k9), some (.int (Int32.ofInt s)), some (zz_val q11), some (.int (Int32.ofInt p12)), some (.ref q13), some (.ref q14), some (.int (Int32.ofInt 1)), some (zz_val k7), some (.int (Int32.ofInt n17)), some (.int (Int32.ofInt n18)), some (.int (Int32.ofInt v19)), some (.int (Int32.ofInt v20)), some (.int (Int32.ofInt m21)), some (.int (Int32.ofInt z22)), some (.int (Int32.ofInt b23)), none], [.int (((Int32.ofInt fr) + (Int32.ofInt 1)) + (Int32.ofInt 1)), .ref 0], h)) rfl ?_
  rw [yi_add fr 1]
  rw [yi_add (fr + 1) 1]
  refine yy_fin.calls (as := [.ref 0, .int (Int32.ofInt ((fr + 1) + 1))]) rfl (by decide) rfl rfl (Nat.le_of_ble_eq_true rfl) (Nat.le_of_ble_eq_true rfl) (yl_pick hX hL (k := (fr + 1) + 1) (by omega)) ?_
  rintro v h9 ⟨y17, rfl, ay17, by17, e9⟩
  obtain rfl := e9.symm
  refine yy_fin.steps (n := 2) (s' := (544, [some (.ref 1), some (.ref w), some (.ref 0), some (.int (Int32.ofInt fr)), some (.int (Int32.ofInt (t : Int))), some (.int (Int32.ofInt day)), some (zz_val k6), some (zz_val k7), some (.int (Int32.ofInt p8)), some (.ref k9), some (.int (Int32.ofInt s)), some (zz_val q11), some (.int (Int32.ofInt p12)), some (.ref q13), some (.ref q14), some (.int (Int32.ofInt 1)), some (zz_val k7), some (.int (Int32.ofInt n17)), some (.int (Int32.ofInt n18)), some (.int (Int32.ofInt v19)), some (.int (Int32.ofInt v20)), some (.int (Int32.ofInt m21)), some (.int (Int32.ofInt z22)), some (.int (Int32.ofInt b23)), none], [.ref w, .int (Int32.ofInt 12), .int (Int32.ofInt y17)], h)) rfl ?_
  obtain ⟨o1, p1, b1, t1, oP1, eP1⟩ := C.wp
  refine yy_fin.fi rfl oP1 rfl eP1 ?_
  refine yy_fin.steps (n := 1) (s' := (548, [some (.ref 1), some (.ref w), some (.ref 0), some (.int (Int32.ofInt fr)), some (.int (Int32.ofInt (t : Int))), some (.int (Int32.ofInt day)), some (zz_val k6), some (zz_val k7), some (.int (Int32.ofInt p8)), some (.ref k9), some (.int (Int32.ofInt s)), some (zz_val q11), some (.int (Int32.ofInt p12)), some (.ref q13), some (.ref q14), some (.int (Int32.ofInt 1)), some (zz_val k7), some (.int (Int32.ofInt n17)), some (.int (Int32.ofInt n18)), some (.int (Int32.ofInt v19)), some (.int (Int32.ofInt v20)), some (.int (Int32.ofInt m21)), some (.int (Int32.ofInt z22)), some (.int (Int32.ofInt b23)), none], [.int ((Int32.ofInt 12) * (Int32.ofInt ((g0 541 1).toInt))), .int (Int32.ofInt y17)], h)) rfl ?_
  rw [yi_mul 12 ((g0 541 1).toInt)]
  refine yy_fin.rm rfl (fun z => by have z := (yi_eq (a := 12 * (g0 541 1).toInt) (b := 0) (by omega) (by omega)).mp z; omega) ?_
  rw [yi_rem (a := y17) (b := 12 * ((g0 541 1).toInt)) (by omega) (by omega)]
  have mn17_1 := Int.emod_nonneg y17 (show 12 * (g0 541 1).toInt ≠ 0 by omega)
  have nn17_1 := Int.emod_lt_of_pos y17 (show 0 < 12 * (g0 541 1).toInt by omega)
  obtain ⟨n17_1, en17_1⟩ : ∃ z, z = y17 % (12 * (g0 541 1).toInt) := ⟨_, rfl⟩
  rw [← en17_1] at mn17_1 nn17_1 ⊢
  refine yy_fin.steps (n := 7) (s' := (558, [some (.ref 1), some (.ref w), some (.ref 0), some (.int (Int32.ofInt fr)), some (.int (Int32.ofInt (t : Int))), some (.int (Int32.ofInt day)), some (zz_val k6), some (zz_val k7), some (.int (Int32.ofInt p8)), some (.ref k9), some (.int (Int32.ofInt s)), some (zz_val q11), some (.int (Int32.ofInt p12)), some (.ref q13), some (.ref q14), some (.int (Int32.ofInt 1)), some (zz_val k7), some (.int (Int32.ofInt n17_1)), some (.int (Int32.ofInt n18)), some (.int (Int32.ofInt v19)), some (.int (Int32.ofInt v20)), some (.int (Int32.ofInt m21)), some (.int (Int32.ofInt z22)), some (.int (Int32.ofInt b23)), none], [.int (((Int32.ofInt fr) + (Int32.ofInt 3)) + (Int32.ofInt 1)), .ref 0], h)) rfl ?_
  rw [yi_add fr 3]
  rw [yi_add (fr + 3) 1]
  refine yy_fin.calls (as := [.ref 0, .int (Int32.ofInt ((fr + 3) + 1))]) rfl (by decide) rfl rfl (Nat.le_of_ble_eq_true rfl) (Nat.le_of_ble_eq_true rfl) (yl_pick hX hL (k := (fr + 3) + 1) (by omega)) ?_
  rintro v h9 ⟨y18, rfl, ay18, by18, e9⟩
  obtain rfl := e9.symm
  refine yy_fin.steps (n := 2) (s' := (564, [some (.ref 1), some (.ref w), some (.ref 0), some (.int (Int32.ofInt fr)), some (.int (Int32.ofInt (t : Int))), some (.int (Int32.ofInt day)), some (zz_val k6), some (zz_val k7), some (.int (Int32.ofInt p8)), some (.ref k9), some (.int (Int32.ofInt s)), some (zz_val q11), some (.int (Int32.ofInt p12)), some (.ref q13), some (.ref q14), some (.int (Int32.ofInt 1)), some (zz_val k7), some (.int (Int32.ofInt n17_1)), some (.int (Int32.ofInt n18)), some (.int (Int32.ofInt v19)), some (.int (Int32.ofInt v20)), some (.int (Int32.ofInt m21)), some (.int (Int32.ofInt z22)), some (.int (Int32.ofInt b23)), none], [.ref w, .int (Int32.ofInt 12), .int (Int32.ofInt y18)], h)) rfl ?_
  obtain ⟨o2, p2, b2, t2, oP2, eP2⟩ := C.wp
  refine yy_fin.fi rfl oP2 rfl eP2 ?_
  refine yy_fin.steps (n := 1) (s' := (568, [some (.ref 1), some (.ref w), some (.ref 0), some (.int (Int32.ofInt fr)), some (.int (Int32.ofInt (t : Int))), some (.int (Int32.ofInt day)), some (zz_val k6), some (zz_val k7), some (.int (Int32.ofInt p8)), some (.ref k9), some (.int (Int32.ofInt s)), some (zz_val q11), some (.int (Int32.ofInt p12)), some (.ref q13), some (.ref q14), some (.int (Int32.ofInt 1)), some (zz_val k7), some (.int (Int32.ofInt n17_1)), some (.int (Int32.ofInt n18)), some (.int (Int32.ofInt v19)), some (.int (Int32.ofInt v20)), some (.int (Int32.ofInt m21)), some (.int (Int32.ofInt z22)), some (.int (Int32.ofInt b23)), none], [.int ((Int32.ofInt 12) * (Int32.ofInt ((g0 541 1).toInt))), .int (Int32.ofInt y18)], h)) rfl ?_
  rw [yi_mul 12 ((g0 541 1).toInt)]
  refine yy_fin.rm rfl (fun z => by have z := (yi_eq (a := 12 * (g0 541 1).toInt) (b := 0) (by omega) (by omega)).mp z; omega) ?_
  rw [yi_rem (a := y18) (b := 12 * ((g0 541 1).toInt)) (by omega) (by omega)]
  have mn18_1 := Int.emod_nonneg y18 (show 12 * (g0 541 1).toInt ≠ 0 by omega)
  have nn18_1 := Int.emod_lt_of_pos y18 (show 0 < 12 * (g0 541 1).toInt by omega)
  obtain ⟨n18_1, en18_1⟩ : ∃ z, z = y18 % (12 * (g0 541 1).toInt) := ⟨_, rfl⟩
  rw [← en18_1] at mn18_1 nn18_1 ⊢
  refine yy_fin.steps (n := 2) (s' := (573, [some (.ref 1), some (.ref w), some (.ref 0), some (.int (Int32.ofInt fr)), some (.int (Int32.ofInt (t : Int))), some (.int (Int32.ofInt day)), some (zz_val k6), some (zz_val k7), some (.int (Int32.ofInt p8)), some (.ref k9), some (.int (Int32.ofInt s)), some (zz_val q11), some (.int (Int32.ofInt p12)), some (.ref q13), some (.ref q14), some (.int (Int32.ofInt 1)), some (zz_val k7), some (.int (Int32.ofInt n17_1)), some (.int (Int32.ofInt n18_1)), some (.int (Int32.ofInt v19)), some (.int (Int32.ofInt v20)), some (.int (Int32.ofInt m21)), some (.int (Int32.ofInt z22)), some (.int (Int32.ofInt b23)), none], [zz_val k7], h)) rfl ?_
  suffices J3 : ∀ v3 : Int, v3 = s_90 (g0 541) t day 1 n17_1 → yy_fin X 279 (604, [some (.ref 1), some (.ref w), some (.ref 0), some (.int (Int32.ofInt fr)), some (.int (Int32.ofInt (t : Int))), some (.int (Int32.ofInt day)), some (zz_val k6), some (zz_val k7), some (.int (Int32.ofInt p8)), some (.ref k9), some (.int (Int32.ofInt s)), some (zz_val q11), some (.int (Int32.ofInt p12)), some (.ref q13), some (.ref q14), some (.int (Int32.ofInt 1)), some (zz_val k7), some (.int (Int32.ofInt n17_1)), some (.int (Int32.ofInt n18_1)), some (.int (Int32.ofInt v19)), some (.int (Int32.ofInt v20)), some (.int (Int32.ofInt m21)), some (.int (Int32.ofInt z22)), some (.int (Int32.ofInt b23)), none], [.int (Int32.ofInt v3)], h) φ by
    rcases H7 with ⟨rfl, eo4⟩ | ⟨q4, u4, l4, rfl, eo4, R4⟩
    · refine yy_fin.steps (n := 3) (s' := (604, [some (.ref 1), some (.ref w), some (.ref 0), some (.int (Int32.ofInt fr)), some (.int (Int32.ofInt (t : Int))), some (.int (Int32.ofInt day)), some (zz_val k6), some (.null), some (.int (Int32.ofInt p8)), some (.ref k9), some (.int (Int32.ofInt s)), some (zz_val q11), some (.int (Int32.ofInt p12)), some (.ref q13), some (.ref q14), some (.int (Int32.ofInt 1)), some (.null), some (.int (Int32.ofInt n17_1)), some (.int (Int32.ofInt n18_1)), some (.int (Int32.ofInt v19)), some (.int (Int32.ofInt v20)), some (.int (Int32.ofInt m21)), some (.int (Int32.ofInt z22)), some (.int (Int32.ofInt b23)), none], [.int (Int32.ofInt (-2))], h)) rfl ?_
      exact J3 _ (by show _ = s_b _ _ _; rw [eo4]; rfl)
    · have hb4 := hv_bnd2 F.2.2.2 ht eo4
      refine yy_fin.steps (n := 4) (s' := (581, [some (.ref 1), some (.ref w), some (.ref 0), some (.int (Int32.ofInt fr)), some (.int (Int32.ofInt (t : Int))), some (.int (Int32.ofInt day)), some (zz_val k6), some (.ref q4), some (.int (Int32.ofInt p8)), some (.ref k9), some (.int (Int32.ofInt s)), some (zz_val q11), some (.int (Int32.ofInt p12)), some (.ref q13), some (.ref q14), some (.int (Int32.ofInt 1)), some (.ref q4), some (.int (Int32.ofInt n17_1)), some (.int (Int32.ofInt n18_1)), some (.int (Int32.ofInt v19)), some (.int (Int32.ofInt v20)), some (.int (Int32.ofInt m21)), some (.int (Int32.ofInt z22)), some (.int (Int32.ofInt b23)), none], [.int (Int32.ofInt n17_1), .ref q4, .ref w], h)) rfl ?_
      have hk5 := yk_b (q := (g0 541 1).toInt) (n := n17_1) (l := l4) (by omega) (by omega) (by omega)
      obtain ⟨fw6, oW6⟩ := C.ow
      refine yy_fin.cv (as := [.ref q4, .int (Int32.ofInt n17_1)]) rfl rfl rfl oW6 (Nat.le_of_ble_eq_true rfl) (Nat.le_of_ble_eq_true rfl) (yc_back F C R4 (n := n17_1) (by omega) (by omega) (by omega)) ?_
      rintro v h9 ⟨rfl, e9⟩
      obtain rfl := e9.symm
      refine yy_fin.steps (n := 2) (s' := (587, [some (.ref 1), some (.ref w), some (.ref 0), some (.int (Int32.ofInt fr)), some (.int (Int32.ofInt (t : Int))), some (.int (Int32.ofInt day)), some (zz_val k6), some (.ref q4), some (.int (Int32.ofInt p8)), some (.ref k9), some (.int (Int32.ofInt s)), some (zz_val q11), some (.int (Int32.ofInt p12)), some (.ref q13), some (.ref q14), some (.int (Int32.ofInt 1)), some (.ref q4), some (.int (Int32.ofInt n17_1)), some (.int (Int32.ofInt n18_1)), some (.int (Int32.ofInt v19)), some (.int (Int32.ofInt v20)), some (.int (Int32.ofInt m21)), some (.int (Int32.ofInt z22)), some (.int (Int32.ofInt b23)), none], [.int (Int32.ofInt 1), .ref q4, .int (Int32.ofInt (u4 + yk (g0 541 1).toInt n17_1 l4))], h)) rfl ?_
      refine yy_fin.lp (j := 1) rfl R4.2 (by decide) (by decide) rfl ?_
      refine yy_fin.ic rfl (fun c7 => ?_) (fun c7 => ?_)
      · have c7 := (yi_c_ne (a := u4 + yk (g0 541 1).toInt n17_1 l4) (b := u4 + l4) (by omega) (by omega)).mp c7
        refine yy_fin.steps (n := 3) (s' := (601, [some (.ref 1), some (.ref w), some (.ref 0), some (.int (Int32.ofInt fr)), some (.int (Int32.ofInt (t : Int))), some (.int (Int32.ofInt day)), some (zz_val k6), some (.ref q4), some (.int (Int32.ofInt p8)), some (.ref k9), some (.int (Int32.ofInt s)), some (zz_val q11), some (.int (Int32.ofInt p12)), some (.ref q13), some (.ref q14), some (.int (Int32.ofInt 1)), some (.ref q4), some (.int (Int32.ofInt n17_1)), some (.int (Int32.ofInt n18_1)), some (.int (Int32.ofInt v19)), some (.int (Int32.ofInt v20)), some (.int (Int32.ofInt m21)), some (.int (Int32.ofInt z22)), some (.int (Int32.ofInt b23)), none], [.int (Int32.ofInt n17_1), .ref q4, .ref w], h)) rfl ?_
        have hk8 := yk_b (q := (g0 541 1).toInt) (n := n17_1) (l := l4) (by omega) (by omega) (by omega)
        obtain ⟨fw9, oW9⟩ := C.ow
        refine yy_fin.cv (as := [.ref q4, .int (Int32.ofInt n17_1)]) rfl rfl rfl oW9 (Nat.le_of_ble_eq_true rfl) (Nat.le_of_ble_eq_true rfl) (yc_back F C R4 (n := n17_1) (by omega) (by omega) (by omega)) ?_
        rintro v h9 ⟨rfl, e9⟩
        obtain rfl := e9.symm
        exact J3 _ (by show _ = s_b _ _ _; rw [eo4]; exact (if_neg (by omega)).symm)
      · have c7 := mt (yi_c_ne (a := u4 + yk (g0 541 1).toInt n17_1 l4) (b := u4 + l4) (by omega) (by omega)).mpr c7
        refine yy_fin.steps (n := 2) (s' := (604, [some (.ref 1), some (.ref w), some (.ref 0), some (.int (Int32.ofInt fr)), some (.int (Int32.ofInt (t : Int))), some (.int (Int32.ofInt day)), some (zz_val k6), some (.ref q4), some (.int (Int32.ofInt p8)), some (.ref k9), some (.int (Int32.ofInt s)), some (zz_val q11), some (.int (Int32.ofInt p12)), some (.ref q13), some (.ref q14), some (.int (Int32.ofInt 1)), some (.ref q4), some (.int (Int32.ofInt n17_1)), some (.int (Int32.ofInt n18_1)), some (.int (Int32.ofInt v19)), some (.int (Int32.ofInt v20)), some (.int (Int32.ofInt m21)), some (.int (Int32.ofInt z22)), some (.int (Int32.ofInt b23)), none], [.int (Int32.ofInt (-2))], h)) rfl ?_
        exact J3 _ (by show _ = s_b _ _ _; rw [eo4]; exact (if_pos (by omega)).symm)
  intro v3 ev3
  have hb3 := s_90_b (day := day) (f := 1) (n := n17_1) F.2.2.2 ht (by omega)
  rw [← ev3] at hb3
  refine yy_fin.steps (n := 2) (s' := (608, [some (.ref 1), some (.ref w), some (.ref 0), some (.int (Int32.ofInt fr)), some (.int (Int32.ofInt (t : Int))), some (.int (Int32.ofInt day)), some (zz_val k6), some (zz_val k7), some (.int (Int32.ofInt p8)), some (.ref k9), some (.int (Int32.ofInt s)), some (zz_val q11), some (.int (Int32.ofInt p12)), some (.ref q13), some (.ref q14), some (.int (Int32.ofInt 1)), some (zz_val k7), some (.int (Int32.ofInt n17_1)), some (.int (Int32.ofInt n18_1)), some (.int (Int32.ofInt v3)), some (.int (Int32.ofInt v20)), some (.int (Int32.ofInt m21)), some (.int (Int32.ofInt z22)), some (.int (Int32.ofInt b23)), none], [zz_val k7], h)) rfl ?_
  suffices J10 : ∀ v10 : Int, v10 = s_90 (g0 541) t day 1 n18_1 → yy_fin X 279 (639, [some (.ref 1), some (.ref w), some (.ref 0), some (.int (Int32.ofInt fr)), some (.int (Int32.ofInt (t : Int))), some (.int (Int32.ofInt day)), some (zz_val k6), some (zz_val k7), some (.int (Int32.ofInt p8)), some (.ref k9), some (.int (Int32.ofInt s)), some (zz_val q11), some (.int (Int32.ofInt p12)), some (.ref q13), some (.ref q14), some (.int (Int32.ofInt 1)), some (zz_val k7), some (.int (Int32.ofInt n17_1)), some (.int (Int32.ofInt n18_1)), some (.int (Int32.ofInt v3)), some (.int (Int32.ofInt v20)), some (.int (Int32.ofInt m21)), some (.int (Int32.ofInt z22)), some (.int (Int32.ofInt b23)), none], [.int (Int32.ofInt v10)], h) φ by
    rcases H7 with ⟨rfl, eo11⟩ | ⟨q11, u11, l11, rfl, eo11, R11⟩
    · refine yy_fin.steps (n := 3) (s' := (639, [some (.ref 1), some (.ref w), some (.ref 0), some (.int (Int32.ofInt fr)), some (.int (Int32.ofInt (t : Int))), some (.int (Int32.ofInt day)), some (zz_val k6), some (.null), some (.int (Int32.ofInt p8)), some (.ref k9), some (.int (Int32.ofInt s)), some (zz_val q11), some (.int (Int32.ofInt p12)), some (.ref q13), some (.ref q14), some (.int (Int32.ofInt 1)), some (.null), some (.int (Int32.ofInt n17_1)), some (.int (Int32.ofInt n18_1)), some (.int (Int32.ofInt v3)), some (.int (Int32.ofInt v20)), some (.int (Int32.ofInt m21)), some (.int (Int32.ofInt z22)), some (.int (Int32.ofInt b23)), none], [.int (Int32.ofInt (-2))], h)) rfl ?_
      exact J10 _ (by show _ = s_b _ _ _; rw [eo11]; rfl)
    · have hb11 := hv_bnd2 F.2.2.2 ht eo11
      refine yy_fin.steps (n := 4) (s' := (616, [some (.ref 1), some (.ref w), some (.ref 0), some (.int (Int32.ofInt fr)), some (.int (Int32.ofInt (t : Int))), some (.int (Int32.ofInt day)), some (zz_val k6), some (.ref q11), some (.int (Int32.ofInt p8)), some (.ref k9), some (.int (Int32.ofInt s)), some (zz_val q11), some (.int (Int32.ofInt p12)), some (.ref q13), some (.ref q14), some (.int (Int32.ofInt 1)), some (.ref q11), some (.int (Int32.ofInt n17_1)), some (.int (Int32.ofInt n18_1)), some (.int (Int32.ofInt v3)), some (.int (Int32.ofInt v20)), some (.int (Int32.ofInt m21)), some (.int (Int32.ofInt z22)), some (.int (Int32.ofInt b23)), none], [.int (Int32.ofInt n18_1), .ref q11, .ref w], h)) rfl ?_
      have hk12 := yk_b (q := (g0 541 1).toInt) (n := n18_1) (l := l11) (by omega) (by omega) (by omega)
      obtain ⟨fw13, oW13⟩ := C.ow
      refine yy_fin.cv (as := [.ref q11, .int (Int32.ofInt n18_1)]) rfl rfl rfl oW13 (Nat.le_of_ble_eq_true rfl) (Nat.le_of_ble_eq_true rfl) (yc_back F C R11 (n := n18_1) (by omega) (by omega) (by omega)) ?_
      rintro v h9 ⟨rfl, e9⟩
      obtain rfl := e9.symm
      refine yy_fin.steps (n := 2) (s' := (622, [some (.ref 1), some (.ref w), some (.ref 0), some (.int (Int32.ofInt fr)), some (.int (Int32.ofInt (t : Int))), some (.int (Int32.ofInt day)), some (zz_val k6), some (.ref q11), some (.int (Int32.ofInt p8)), some (.ref k9), some (.int (Int32.ofInt s)), some (zz_val q11), some (.int (Int32.ofInt p12)), some (.ref q13), some (.ref q14), some (.int (Int32.ofInt 1)), some (.ref q11), some (.int (Int32.ofInt n17_1)), some (.int (Int32.ofInt n18_1)), some (.int (Int32.ofInt v3)), some (.int (Int32.ofInt v20)), some (.int (Int32.ofInt m21)), some (.int (Int32.ofInt z22)), some (.int (Int32.ofInt b23)), none], [.int (Int32.ofInt 1), .ref q11, .int (Int32.ofInt (u11 + yk (g0 541 1).toInt n18_1 l11))], h)) rfl ?_
      refine yy_fin.lp (j := 1) rfl R11.2 (by decide) (by decide) rfl ?_
      refine yy_fin.ic rfl (fun c14 => ?_) (fun c14 => ?_)
      · have c14 := (yi_c_ne (a := u11 + yk (g0 541 1).toInt n18_1 l11) (b := u11 + l11) (by omega) (by omega)).mp c14
        refine yy_fin.steps (n := 3) (s' := (636, [some (.ref 1), some (.ref w), some (.ref 0), some (.int (Int32.ofInt fr)), some (.int (Int32.ofInt (t : Int))), some (.int (Int32.ofInt day)), some (zz_val k6), some (.ref q11), some (.int (Int32.ofInt p8)), some (.ref k9), some (.int (Int32.ofInt s)), some (zz_val q11), some (.int (Int32.ofInt p12)), some (.ref q13), some (.ref q14), some (.int (Int32.ofInt 1)), some (.ref q11), some (.int (Int32.ofInt n17_1)), some (.int (Int32.ofInt n18_1)), some (.int (Int32.ofInt v3)), some (.int (Int32.ofInt v20)), some (.int (Int32.ofInt m21)), some (.int (Int32.ofInt z22)), some (.int (Int32.ofInt b23)), none], [.int (Int32.ofInt n18_1), .ref q11, .ref w], h)) rfl ?_
        have hk15 := yk_b (q := (g0 541 1).toInt) (n := n18_1) (l := l11) (by omega) (by omega) (by omega)
        obtain ⟨fw16, oW16⟩ := C.ow
        refine yy_fin.cv (as := [.ref q11, .int (Int32.ofInt n18_1)]) rfl rfl rfl oW16 (Nat.le_of_ble_eq_true rfl) (Nat.le_of_ble_eq_true rfl) (yc_back F C R11 (n := n18_1) (by omega) (by omega) (by omega)) ?_
        rintro v h9 ⟨rfl, e9⟩
        obtain rfl := e9.symm
        exact J10 _ (by show _ = s_b _ _ _; rw [eo11]; exact (if_neg (by omega)).symm)
      · have c14 := mt (yi_c_ne (a := u11 + yk (g0 541 1).toInt n18_1 l11) (b := u11 + l11) (by omega) (by omega)).mpr c14
        refine yy_fin.steps (n := 2) (s' := (639, [some (.ref 1), some (.ref w), some (.ref 0), some (.int (Int32.ofInt fr)), some (.int (Int32.ofInt (t : Int))), some (.int (Int32.ofInt day)), some (zz_val k6), some (.ref q11), some (.int (Int32.ofInt p8)), some (.ref k9), some (.int (Int32.ofInt s)), some (zz_val q11), some (.int (Int32.ofInt p12)), some (.ref q13), some (.ref q14), some (.int (Int32.ofInt 1)), some (.ref q11), some (.int (Int32.ofInt n17_1)), some (.int (Int32.ofInt n18_1)), some (.int (Int32.ofInt v3)), some (.int (Int32.ofInt v20)), some (.int (Int32.ofInt m21)), some (.int (Int32.ofInt z22)), some (.int (Int32.ofInt b23)), none], [.int (Int32.ofInt (-2))], h)) rfl ?_
        exact J10 _ (by show _ = s_b _ _ _; rw [eo11]; exact (if_pos (by omega)).symm)
  intro v10 ev10
  have hb10 := s_90_b (day := day) (f := 1) (n := n18_1) F.2.2.2 ht (by omega)
  rw [← ev10] at hb10
  refine yy_fin.steps (n := 2) (s' := (643, [some (.ref 1), some (.ref w), some (.ref 0), some (.int (Int32.ofInt fr)), some (.int (Int32.ofInt (t : Int))), some (.int (Int32.ofInt day)), some (zz_val k6), some (zz_val k7), some (.int (Int32.ofInt p8)), some (.ref k9), some (.int (Int32.ofInt s)), some (zz_val q11), some (.int (Int32.ofInt p12)), some (.ref q13), some (.ref q14), some (.int (Int32.ofInt 1)), some (zz_val k7), some (.int (Int32.ofInt n17_1)), some (.int (Int32.ofInt n18_1)), some (.int (Int32.ofInt v3)), some (.int (Int32.ofInt v10)), some (.int (Int32.ofInt m21)), some (.int (Int32.ofInt z22)), some (.int (Int32.ofInt b23)), none], [zz_val k7], h)) rfl ?_
  suffices J17 : ∀ v17 : Int, v17 = y_el (hv_t (g0 541) t day 1) (-1000000) (fun u l => u + (u + l - u) / 2) → yy_fin X 279 (667, [some (.ref 1), some (.ref w), some (.ref 0), some (.int (Int32.ofInt fr)), some (.int (Int32.ofInt (t : Int))), some (.int (Int32.ofInt day)), some (zz_val k6), some (zz_val k7), some (.int (Int32.ofInt p8)), some (.ref k9), some (.int (Int32.ofInt s)), some (zz_val q11), some (.int (Int32.ofInt p12)), some (.ref q13), some (.ref q14), some (.int (Int32.ofInt 1)), some (zz_val k7), some (.int (Int32.ofInt n17_1)), some (.int (Int32.ofInt n18_1)), some (.int (Int32.ofInt v3)), some (.int (Int32.ofInt v10)), some (.int (Int32.ofInt m21)), some (.int (Int32.ofInt z22)), some (.int (Int32.ofInt b23)), none], [.int (Int32.ofInt v17)], h) φ by
    rcases H7 with ⟨rfl, eo18⟩ | ⟨q18, u18, l18, rfl, eo18, R18⟩
    · refine yy_fin.steps (n := 3) (s' := (667, [some (.ref 1), some (.ref w), some (.ref 0), some (.int (Int32.ofInt fr)), some (.int (Int32.ofInt (t : Int))), some (.int (Int32.ofInt day)), some (zz_val k6), some (.null), some (.int (Int32.ofInt p8)), some (.ref k9), some (.int (Int32.ofInt s)), some (zz_val q11), some (.int (Int32.ofInt p12)), some (.ref q13), some (.ref q14), some (.int (Int32.ofInt 1)), some (.null), some (.int (Int32.ofInt n17_1)), some (.int (Int32.ofInt n18_1)), some (.int (Int32.ofInt v3)), some (.int (Int32.ofInt v10)), some (.int (Int32.ofInt m21)), some (.int (Int32.ofInt z22)), some (.int (Int32.ofInt b23)), none], [.int (Int32.ofInt (-1000000))], h)) rfl ?_
      exact J17 _ (by rw [eo18]; rfl)
    · have hb18 := hv_bnd2 F.2.2.2 ht eo18
      refine yy_fin.steps (n := 3) (s' := (654, [some (.ref 1), some (.ref w), some (.ref 0), some (.int (Int32.ofInt fr)), some (.int (Int32.ofInt (t : Int))), some (.int (Int32.ofInt day)), some (zz_val k6), some (.ref q18), some (.int (Int32.ofInt p8)), some (.ref k9), some (.int (Int32.ofInt s)), some (zz_val q11), some (.int (Int32.ofInt p12)), some (.ref q13), some (.ref q14), some (.int (Int32.ofInt 1)), some (.ref q18), some (.int (Int32.ofInt n17_1)), some (.int (Int32.ofInt n18_1)), some (.int (Int32.ofInt v3)), some (.int (Int32.ofInt v10)), some (.int (Int32.ofInt m21)), some (.int (Int32.ofInt z22)), some (.int (Int32.ofInt b23)), none], [.int (Int32.ofInt 0), .ref q18], h)) rfl ?_
      refine yy_fin.lp (j := 0) rfl R18.2 (by decide) (by decide) rfl ?_
      refine yy_fin.steps (n := 2) (s' := (658, [some (.ref 1), some (.ref w), some (.ref 0), some (.int (Int32.ofInt fr)), some (.int (Int32.ofInt (t : Int))), some (.int (Int32.ofInt day)), some (zz_val k6), some (.ref q18), some (.int (Int32.ofInt p8)), some (.ref k9), some (.int (Int32.ofInt s)), some (zz_val q11), some (.int (Int32.ofInt p12)), some (.ref q13), some (.ref q14), some (.int (Int32.ofInt 1)), some (.ref q18), some (.int (Int32.ofInt n17_1)), some (.int (Int32.ofInt n18_1)), some (.int (Int32.ofInt v3)), some (.int (Int32.ofInt v10)), some (.int (Int32.ofInt m21)), some (.int (Int32.ofInt z22)), some (.int (Int32.ofInt b23)), none], [.int (Int32.ofInt 1), .ref q18, .int (Int32.ofInt u18)], h)) rfl ?_
      refine yy_fin.lp (j := 1) rfl R18.2 (by decide) (by decide) rfl ?_
      refine yy_fin.steps (n := 2) (s' := (662, [some (.ref 1), some (.ref w), some (.ref 0), some (.int (Int32.ofInt fr)), some (.int (Int32.ofInt (t : Int))), some (.int (Int32.ofInt day)), some (zz_val k6), some (.ref q18), some (.int (Int32.ofInt p8)), some (.ref k9), some (.int (Int32.ofInt s)), some (zz_val q11), some (.int (Int32.ofInt p12)), some (.ref q13), some (.ref q14), some (.int (Int32.ofInt 1)), some (.ref q18), some (.int (Int32.ofInt n17_1)), some (.int (Int32.ofInt n18_1)), some (.int (Int32.ofInt v3)), some (.int (Int32.ofInt v10)), some (.int (Int32.ofInt m21)), some (.int (Int32.ofInt z22)), some (.int (Int32.ofInt b23)), none], [.int (Int32.ofInt 0), .ref q18, .int (Int32.ofInt (u18 + l18)), .int (Int32.ofInt u18)], h)) rfl ?_
      refine yy_fin.lp (j := 0) rfl R18.2 (by decide) (by decide) rfl ?_
      refine yy_fin.steps (n := 2) (s' := (665, [some (.ref 1), some (.ref w), some (.ref 0), some (.int (Int32.ofInt fr)), some (.int (Int32.ofInt (t : Int))), some (.int (Int32.ofInt day)), some (zz_val k6), some (.ref q18), some (.int (Int32.ofInt p8)), some (.ref k9), some (.int (Int32.ofInt s)), some (zz_val q11), some (.int (Int32.ofInt p12)), some (.ref q13), some (.ref q14), some (.int (Int32.ofInt 1)), some (.ref q18), some (.int (Int32.ofInt n17_1)), some (.int (Int32.ofInt n18_1)), some (.int (Int32.ofInt v3)), some (.int (Int32.ofInt v10)), some (.int (Int32.ofInt m21)), some (.int (Int32.ofInt z22)), some (.int (Int32.ofInt b23)), none], [.int (Int32.ofInt 2), .int ((Int32.ofInt (u18 + l18)) - (Int32.ofInt u18)), .int (Int32.ofInt u18)], h)) rfl ?_
      rw [yi_sub (u18 + l18) u18]
      refine yy_fin.dv rfl (by decide) ?_
      rw [yi_div (a := (u18 + l18) - u18) (b := 2) (by omega) (by omega)]
      refine yy_fin.steps (n := 1) (s' := (667, [some (.ref 1), some (.ref w), some (.ref 0), some (.int (Int32.ofInt fr)), some (.int (Int32.ofInt (t : Int))), some (.int (Int32.ofInt day)), some (zz_val k6), some (.ref q18), some (.int (Int32.ofInt p8)), some (.ref k9), some (.int (Int32.ofInt s)), some (zz_val q11), some (.int (Int32.ofInt p12)), some (.ref q13), some (.ref q14), some (.int (Int32.ofInt 1)), some (.ref q18), some (.int (Int32.ofInt n17_1)), some (.int (Int32.ofInt n18_1)), some (.int (Int32.ofInt v3)), some (.int (Int32.ofInt v10)), some (.int (Int32.ofInt m21)), some (.int (Int32.ofInt z22)), some (.int (Int32.ofInt b23)), none], [.int ((Int32.ofInt u18) + (Int32.ofInt (((u18 + l18) - u18) / 2)))], h)) rfl ?_
      rw [yi_add u18 (((u18 + l18) - u18) / 2)]
      exact J17 _ (by rw [eo18]; rfl)
  intro v17 ev17
  refine yy_fin.steps (n := 6) (s' := (678, [some (.ref 1), some (.ref w), some (.ref 0), some (.int (Int32.ofInt fr)), some (.int (Int32.ofInt (t : Int))), some (.int (Int32.ofInt day)), some (zz_val k6), some (zz_val k7), some (.int (Int32.ofInt p8)), some (.ref k9), some (.int (Int32.ofInt s)), some (zz_val q11), some (.int (Int32.ofInt p12)), some (.ref q13), some (.ref q14), some (.int (Int32.ofInt 1)), some (zz_val k7), some (.int (Int32.ofInt n17_1)), some (.int (Int32.ofInt n18_1)), some (.int (Int32.ofInt v3)), some (.int (Int32.ofInt v10)), some (.int (Int32.ofInt v17)), some (.int (Int32.ofInt z22)), some (.int (Int32.ofInt b23)), none], [.int (Int32.ofInt n17_1), .int (Int32.ofInt 1), .int (Int32.ofInt day), .int (Int32.ofInt (t : Int)), .ref 1], h)) rfl ?_
  obtain ⟨g19, r19⟩ := qi_90 F C ht hd (f := 1) (Or.inr rfl) (n := n17_1) (by omega)
  obtain ⟨fs19, oo19⟩ := C.o
  refine yy_fin.cv (as := [.int (Int32.ofInt (t : Int)), .int (Int32.ofInt day), .int (Int32.ofInt 1), .int (Int32.ofInt n17_1)]) rfl rfl rfl oo19 (Nat.le_of_ble_eq_true rfl) (Nat.le_of_ble_eq_true rfl) r19 ?_
  rintro v h19 ⟨rfl, C, x19⟩
  replace H6 := H6.k x19
  replace H7 := H7.k x19
  replace Y := Y.tr x19 (fun _ _ e => e)
  replace hY := Y.1
  refine yy_fin.steps (n := 1) (s' := (683, [some (.ref 1), some (.ref w), some (.ref 0), some (.int (Int32.ofInt fr)), some (.int (Int32.ofInt (t : Int))), some (.int (Int32.ofInt day)), some (zz_val k6), some (zz_val k7), some (.int (Int32.ofInt p8)), some (.ref k9), some (.int (Int32.ofInt s)), some (zz_val q11), some (.int (Int32.ofInt p12)), some (.ref q13), some (.ref q14), some (.int (Int32.ofInt 1)), some (zz_val k7), some (.int (Int32.ofInt n17_1)), some (.int (Int32.ofInt n18_1)), some (.int (Int32.ofInt v3)), some (.int (Int32.ofInt v10)), some (.int (Int32.ofInt v17)), some (.int (Int32.ofInt z22)), some (.int (Int32.ofInt b23)), none], [.int (Int32.ofInt v3), .int (Int32.ofInt (s_90 (g0 541) t day 1 n17_1))], h19)) rfl ?_
  refine yy_fin.ic rfl (fun cz => absurd (congrArg Int32.ofInt ev3.symm) (y_cne cz)) (fun _ => ?_)
  refine yy_fin.steps (n := 5) (s' := (695, [some (.ref 1), some (.ref w), some (.ref 0), some (.int (Int32.ofInt fr)), some (.int (Int32.ofInt (t : Int))), some (.int (Int32.ofInt day)), some (zz_val k6), some (zz_val k7), some (.int (Int32.ofInt p8)), some (.ref k9), some (.int (Int32.ofInt s)), some (zz_val q11), some (.int (Int32.ofInt p12)), some (.ref q13), some (.ref q14), some (.int (Int32.ofInt 1)), some (zz_val k7), some (.int (Int32.ofInt n17_1)), some (.int (Int32.ofInt n18_1)), some (.int (Int32.ofInt v3)), some (.int (Int32.ofInt v10)), some (.int (Int32.ofInt v17)), some (.int (Int32.ofInt z22)), some (.int (Int32.ofInt b23)), none], [.int (Int32.ofInt n18_1), .int (Int32.ofInt 1), .int (Int32.ofInt day), .int (Int32.ofInt (t : Int)), .ref 1], h19)) rfl ?_
  obtain ⟨g20, r20⟩ := qi_90 F C ht hd (f := 1) (Or.inr rfl) (n := n18_1) (by omega)
  obtain ⟨fs20, oo20⟩ := C.o
  refine yy_fin.cv (as := [.int (Int32.ofInt (t : Int)), .int (Int32.ofInt day), .int (Int32.ofInt 1), .int (Int32.ofInt n18_1)]) rfl rfl rfl oo20 (Nat.le_of_ble_eq_true rfl) (Nat.le_of_ble_eq_true rfl) r20 ?_
  rintro v h20 ⟨rfl, C, x20⟩
  replace H6 := H6.k x20
  replace H7 := H7.k x20
  replace Y := Y.tr x20 (fun _ _ e => e)
  replace hY := Y.1
  refine yy_fin.steps (n := 1) (s' := (700, [some (.ref 1), some (.ref w), some (.ref 0), some (.int (Int32.ofInt fr)), some (.int (Int32.ofInt (t : Int))), some (.int (Int32.ofInt day)), some (zz_val k6), some (zz_val k7), some (.int (Int32.ofInt p8)), some (.ref k9), some (.int (Int32.ofInt s)), some (zz_val q11), some (.int (Int32.ofInt p12)), some (.ref q13), some (.ref q14), some (.int (Int32.ofInt 1)), some (zz_val k7), some (.int (Int32.ofInt n17_1)), some (.int (Int32.ofInt n18_1)), some (.int (Int32.ofInt v3)), some (.int (Int32.ofInt v10)), some (.int (Int32.ofInt v17)), some (.int (Int32.ofInt z22)), some (.int (Int32.ofInt b23)), none], [.int (Int32.ofInt v10), .int (Int32.ofInt (s_90 (g0 541) t day 1 n18_1))], h20)) rfl ?_
  refine yy_fin.ic rfl (fun cz => absurd (congrArg Int32.ofInt ev10.symm) (y_cne cz)) (fun _ => ?_)
  refine yy_fin.steps (n := 6) (s' := (714, [some (.ref 1), some (.ref w), some (.ref 0), some (.int (Int32.ofInt fr)), some (.int (Int32.ofInt (t : Int))), some (.int (Int32.ofInt day)), some (zz_val k6), some (zz_val k7), some (.int (Int32.ofInt p8)), some (.ref k9), some (.int (Int32.ofInt s)), some (zz_val q11), some (.int (Int32.ofInt p12)), some (.ref q13), some (.ref q14), some (.int (Int32.ofInt 1)), some (zz_val k7), some (.int (Int32.ofInt n17_1)), some (.int (Int32.ofInt n18_1)), some (.int (Int32.ofInt v3)), some (.int (Int32.ofInt v10)), some (.int (Int32.ofInt v17)), some (.int (Int32.ofInt z22)), some (.int (Int32.ofInt b23)), none], [.int (Int32.ofInt n18_1), .int (Int32.ofInt n17_1), .int (Int32.ofInt 1), .int (Int32.ofInt day), .int (Int32.ofInt (t : Int)), .ref 1], h20)) rfl ?_
  obtain ⟨g21, r21⟩ := qi_97 F C ht hd (f := 1) (Or.inr rfl) (n := n17_1) (m := n18_1) (by omega) (by omega)
  obtain ⟨fs21, oo21⟩ := C.o
  refine yy_fin.cv (as := [.int (Int32.ofInt (t : Int)), .int (Int32.ofInt day), .int (Int32.ofInt 1), .int (Int32.ofInt n17_1), .int (Int32.ofInt n18_1)]) rfl rfl rfl oo21 (Nat.le_of_ble_eq_true rfl) (Nat.le_of_ble_eq_true rfl) r21 ?_
  rintro v h21 ⟨rfl, C, x21⟩
  replace H6 := H6.k x21
  replace H7 := H7.k x21
  replace Y := Y.tr x21 (fun _ _ e => e)
  replace hY := Y.1
  refine yy_fin.steps (n := 2) (s' := (721, [some (.ref 1), some (.ref w), some (.ref 0), some (.int (Int32.ofInt fr)), some (.int (Int32.ofInt (t : Int))), some (.int (Int32.ofInt day)), some (zz_val k6), some (zz_val k7), some (.int (Int32.ofInt p8)), some (.ref k9), some (.int (Int32.ofInt s)), some (zz_val q11), some (.int (Int32.ofInt p12)), some (.ref q13), some (.ref q14), some (.int (Int32.ofInt 1)), some (zz_val k7), some (.int (Int32.ofInt n17_1)), some (.int (Int32.ofInt n18_1)), some (.int (Int32.ofInt v3)), some (.int (Int32.ofInt v10)), some (.int (Int32.ofInt v17)), some (.int (Int32.ofInt z22)), some (.int (Int32.ofInt b23)), none], [.int (Int32.ofInt (-2)), .int (Int32.ofInt v3), .int (Int32.ofInt (s_26 (g0 541) t day 1 n17_1 n18_1))], h21)) rfl ?_
  suffices J9 : ∀ v9 : Int, v9 = s_26 (g0 541) t day 1 n17_1 n18_1 → yy_fin X 279 (741, [some (.ref 1), some (.ref w), some (.ref 0), some (.int (Int32.ofInt fr)), some (.int (Int32.ofInt (t : Int))), some (.int (Int32.ofInt day)), some (zz_val k6), some (zz_val k7), some (.int (Int32.ofInt p8)), some (.ref k9), some (.int (Int32.ofInt s)), some (zz_val q11), some (.int (Int32.ofInt p12)), some (.ref q13), some (.ref q14), some (.int (Int32.ofInt 1)), some (zz_val k7), some (.int (Int32.ofInt n17_1)), some (.int (Int32.ofInt n18_1)), some (.int (Int32.ofInt v3)), some (.int (Int32.ofInt v10)), some (.int (Int32.ofInt v17)), some (.int (Int32.ofInt z22)), some (.int (Int32.ofInt b23)), none], [.int (Int32.ofInt v9), .int (Int32.ofInt (s_26 (g0 541) t day 1 n17_1 n18_1))], h21) φ by
    refine yy_fin.ic rfl (fun c22 => ?_) (fun c22 => ?_)
    · have c22 := (yi_c_eq (a := v3) (b := -2) (by omega) (by omega)).mp c22
      refine yy_fin.steps (n := 2) (s' := (741, [some (.ref 1), some (.ref w), some (.ref 0), some (.int (Int32.ofInt fr)), some (.int (Int32.ofInt (t : Int))), some (.int (Int32.ofInt day)), some (zz_val k6), some (zz_val k7), some (.int (Int32.ofInt p8)), some (.ref k9), some (.int (Int32.ofInt s)), some (zz_val q11), some (.int (Int32.ofInt p12)), some (.ref q13), some (.ref q14), some (.int (Int32.ofInt 1)), some (zz_val k7), some (.int (Int32.ofInt n17_1)), some (.int (Int32.ofInt n18_1)), some (.int (Int32.ofInt v3)), some (.int (Int32.ofInt v10)), some (.int (Int32.ofInt v17)), some (.int (Int32.ofInt z22)), some (.int (Int32.ofInt b23)), none], [.int (Int32.ofInt (-1000000)), .int (Int32.ofInt (s_26 (g0 541) t day 1 n17_1 n18_1))], h21)) rfl ?_
      exact J9 _ (by unfold s_26; rw [← ev3, ← ev10]; rw [if_pos (by omega)])
    · have c22 := mt (yi_c_eq (a := v3) (b := -2) (by omega) (by omega)).mpr c22
      refine yy_fin.steps (n := 2) (s' := (728, [some (.ref 1), some (.ref w), some (.ref 0), some (.int (Int32.ofInt fr)), some (.int (Int32.ofInt (t : Int))), some (.int (Int32.ofInt day)), some (zz_val k6), some (zz_val k7), some (.int (Int32.ofInt p8)), some (.ref k9), some (.int (Int32.ofInt s)), some (zz_val q11), some (.int (Int32.ofInt p12)), some (.ref q13), some (.ref q14), some (.int (Int32.ofInt 1)), some (zz_val k7), some (.int (Int32.ofInt n17_1)), some (.int (Int32.ofInt n18_1)), some (.int (Int32.ofInt v3)), some (.int (Int32.ofInt v10)), some (.int (Int32.ofInt v17)), some (.int (Int32.ofInt z22)), some (.int (Int32.ofInt b23)), none], [.int (Int32.ofInt (-2)), .int (Int32.ofInt v10), .int (Int32.ofInt (s_26 (g0 541) t day 1 n17_1 n18_1))], h21)) rfl ?_
      refine yy_fin.ic rfl (fun c23 => ?_) (fun c23 => ?_)
      · have c23 := (yi_c_ne (a := v10) (b := -2) (by omega) (by omega)).mp c23
        refine yy_fin.steps (n := 3) (s' := (741, [some (.ref 1), some (.ref w), some (.ref 0), some (.int (Int32.ofInt fr)), some (.int (Int32.ofInt (t : Int))), some (.int (Int32.ofInt day)), some (zz_val k6), some (zz_val k7), some (.int (Int32.ofInt p8)), some (.ref k9), some (.int (Int32.ofInt s)), some (zz_val q11), some (.int (Int32.ofInt p12)), some (.ref q13), some (.ref q14), some (.int (Int32.ofInt 1)), some (zz_val k7), some (.int (Int32.ofInt n17_1)), some (.int (Int32.ofInt n18_1)), some (.int (Int32.ofInt v3)), some (.int (Int32.ofInt v10)), some (.int (Int32.ofInt v17)), some (.int (Int32.ofInt z22)), some (.int (Int32.ofInt b23)), none], [.int ((Int32.ofInt v10) - (Int32.ofInt v3)), .int (Int32.ofInt (s_26 (g0 541) t day 1 n17_1 n18_1))], h21)) rfl ?_
        rw [yi_sub v10 v3]
        exact J9 _ (by unfold s_26; rw [← ev3, ← ev10]; rw [if_neg (by omega), if_pos (by omega)])
      · have c23 := mt (yi_c_ne (a := v10) (b := -2) (by omega) (by omega)).mpr c23
        refine yy_fin.steps (n := 2) (s' := (741, [some (.ref 1), some (.ref w), some (.ref 0), some (.int (Int32.ofInt fr)), some (.int (Int32.ofInt (t : Int))), some (.int (Int32.ofInt day)), some (zz_val k6), some (zz_val k7), some (.int (Int32.ofInt p8)), some (.ref k9), some (.int (Int32.ofInt s)), some (zz_val q11), some (.int (Int32.ofInt p12)), some (.ref q13), some (.ref q14), some (.int (Int32.ofInt 1)), some (zz_val k7), some (.int (Int32.ofInt n17_1)), some (.int (Int32.ofInt n18_1)), some (.int (Int32.ofInt v3)), some (.int (Int32.ofInt v10)), some (.int (Int32.ofInt v17)), some (.int (Int32.ofInt z22)), some (.int (Int32.ofInt b23)), none], [.int (Int32.ofInt (-1000000)), .int (Int32.ofInt (s_26 (g0 541) t day 1 n17_1 n18_1))], h21)) rfl ?_
        exact J9 _ (by unfold s_26; rw [← ev3, ← ev10]; rw [if_neg (by omega), if_neg (by omega)])
  intro v9 ev9
  refine yy_fin.ic rfl (fun cz => absurd (congrArg Int32.ofInt ev9.symm) (y_cne cz)) (fun _ => ?_)
  refine yy_fin.steps (n := 5) (s' := (752, [some (.ref 1), some (.ref w), some (.ref 0), some (.int (Int32.ofInt fr)), some (.int (Int32.ofInt (t : Int))), some (.int (Int32.ofInt day)), some (zz_val k6), some (zz_val k7), some (.int (Int32.ofInt p8)), some (.ref k9), some (.int (Int32.ofInt s)), some (zz_val q11), some (.int (Int32.ofInt p12)), some (.ref q13), some (.ref q14), some (.int (Int32.ofInt 1)), some (zz_val k7), some (.int (Int32.ofInt n17_1)), some (.int (Int32.ofInt n18_1)), some (.int (Int32.ofInt v3)), some (.int (Int32.ofInt v10)), some (.int (Int32.ofInt v17)), some (.int (Int32.ofInt z22)), some (.int (Int32.ofInt b23)), none], [.int (Int32.ofInt 0), .int (Int32.ofInt 1), .int (Int32.ofInt day), .int (Int32.ofInt (t : Int)), .ref 1], h21)) rfl ?_
  obtain ⟨g24, r24⟩ := qi_96 F C ht hd (f := 1) (Or.inr rfl) (k := 0) (Or.inl rfl)
  obtain ⟨fs24, oo24⟩ := C.o
  refine yy_fin.cv (as := [.int (Int32.ofInt (t : Int)), .int (Int32.ofInt day), .int (Int32.ofInt 1), .int (Int32.ofInt 0)]) rfl rfl rfl oo24 (Nat.le_of_ble_eq_true rfl) (Nat.le_of_ble_eq_true rfl) r24 ?_
  rintro v h24 ⟨rfl, C, x24⟩
  replace H6 := H6.k x24
  replace H7 := H7.k x24
  replace Y := Y.tr x24 (fun _ _ e => e)
  replace hY := Y.1
  refine yy_fin.steps (n := 1) (s' := (757, [some (.ref 1), some (.ref w), some (.ref 0), some (.int (Int32.ofInt fr)), some (.int (Int32.ofInt (t : Int))), some (.int (Int32.ofInt day)), some (zz_val k6), some (zz_val k7), some (.int (Int32.ofInt p8)), some (.ref k9), some (.int (Int32.ofInt s)), some (zz_val q11), some (.int (Int32.ofInt p12)), some (.ref q13), some (.ref q14), some (.int (Int32.ofInt 1)), some (zz_val k7), some (.int (Int32.ofInt n17_1)), some (.int (Int32.ofInt n18_1)), some (.int (Int32.ofInt v3)), some (.int (Int32.ofInt v10)), some (.int (Int32.ofInt v17)), some (.int (Int32.ofInt z22)), some (.int (Int32.ofInt b23)), none], [.int (Int32.ofInt v17), .int (Int32.ofInt (s_25 (g0 541) t day 1 0))], h24)) rfl ?_
  refine yy_fin.ic rfl (fun cz => absurd (congrArg Int32.ofInt (s_25_e.trans ev17.symm)) (y_cne cz)) (fun _ => ?_)
  refine yy_fin.steps (n := 5) (s' := (768, [some (.ref 1), some (.ref w), some (.ref 0), some (.int (Int32.ofInt fr)), some (.int (Int32.ofInt (t : Int))), some (.int (Int32.ofInt day)), some (zz_val k6), some (zz_val k7), some (.int (Int32.ofInt p8)), some (.ref k9), some (.int (Int32.ofInt s)), some (zz_val q11), some (.int (Int32.ofInt p12)), some (.ref q13), some (.ref q14), some (.int (Int32.ofInt 1)), some (zz_val k7), some (.int (Int32.ofInt n17_1)), some (.int (Int32.ofInt n18_1)), some (.int (Int32.ofInt v3)), some (.int (Int32.ofInt v10)), some (.int (Int32.ofInt v17)), some (.int (Int32.ofInt z22)), some (.int (Int32.ofInt b23)), none], [.int (Int32.ofInt 1), .int (Int32.ofInt 1), .int (Int32.ofInt day), .int (Int32.ofInt (t : Int)), .ref 1], h24)) rfl ?_
  obtain ⟨g25, r25⟩ := qi_96 F C ht hd (f := 1) (Or.inr rfl) (k := 1) (Or.inr rfl)
  obtain ⟨fs25, oo25⟩ := C.o
  refine yy_fin.cv (as := [.int (Int32.ofInt (t : Int)), .int (Int32.ofInt day), .int (Int32.ofInt 1), .int (Int32.ofInt 1)]) rfl rfl rfl oo25 (Nat.le_of_ble_eq_true rfl) (Nat.le_of_ble_eq_true rfl) r25 ?_
  rintro v h25 ⟨rfl, C, x25⟩
  replace H6 := H6.k x25
  replace H7 := H7.k x25
  replace Y := Y.tr x25 (fun _ _ e => e)
  replace hY := Y.1
  refine yy_fin.steps (n := 1) (s' := (773, [some (.ref 1), some (.ref w), some (.ref 0), some (.int (Int32.ofInt fr)), some (.int (Int32.ofInt (t : Int))), some (.int (Int32.ofInt day)), some (zz_val k6), some (zz_val k7), some (.int (Int32.ofInt p8)), some (.ref k9), some (.int (Int32.ofInt s)), some (zz_val q11), some (.int (Int32.ofInt p12)), some (.ref q13), some (.ref q14), some (.int (Int32.ofInt 1)), some (zz_val k7), some (.int (Int32.ofInt n17_1)), some (.int (Int32.ofInt n18_1)), some (.int (Int32.ofInt v3)), some (.int (Int32.ofInt v10)), some (.int (Int32.ofInt v17)), some (.int (Int32.ofInt z22)), some (.int (Int32.ofInt b23)), none], [zz_val k7, .int (Int32.ofInt (s_25 (g0 541) t day 1 1))], h25)) rfl ?_
  suffices J26 : ∀ v26 : Int, v26 = s_25 (g0 541) t day 1 1 → yy_fin X 279 (796, [some (.ref 1), some (.ref w), some (.ref 0), some (.int (Int32.ofInt fr)), some (.int (Int32.ofInt (t : Int))), some (.int (Int32.ofInt day)), some (zz_val k6), some (zz_val k7), some (.int (Int32.ofInt p8)), some (.ref k9), some (.int (Int32.ofInt s)), some (zz_val q11), some (.int (Int32.ofInt p12)), some (.ref q13), some (.ref q14), some (.int (Int32.ofInt 1)), some (zz_val k7), some (.int (Int32.ofInt n17_1)), some (.int (Int32.ofInt n18_1)), some (.int (Int32.ofInt v3)), some (.int (Int32.ofInt v10)), some (.int (Int32.ofInt v17)), some (.int (Int32.ofInt z22)), some (.int (Int32.ofInt b23)), none], [.int (Int32.ofInt v26), .int (Int32.ofInt (s_25 (g0 541) t day 1 1))], h25) φ by
    rcases H7 with ⟨rfl, eo27⟩ | ⟨q27, u27, l27, rfl, eo27, R27⟩
    · refine yy_fin.steps (n := 3) (s' := (796, [some (.ref 1), some (.ref w), some (.ref 0), some (.int (Int32.ofInt fr)), some (.int (Int32.ofInt (t : Int))), some (.int (Int32.ofInt day)), some (zz_val k6), some (.null), some (.int (Int32.ofInt p8)), some (.ref k9), some (.int (Int32.ofInt s)), some (zz_val q11), some (.int (Int32.ofInt p12)), some (.ref q13), some (.ref q14), some (.int (Int32.ofInt 1)), some (.null), some (.int (Int32.ofInt n17_1)), some (.int (Int32.ofInt n18_1)), some (.int (Int32.ofInt v3)), some (.int (Int32.ofInt v10)), some (.int (Int32.ofInt v17)), some (.int (Int32.ofInt z22)), some (.int (Int32.ofInt b23)), none], [.int (Int32.ofInt v17), .int (Int32.ofInt (s_25 (g0 541) t day 1 1))], h25)) rfl ?_
      exact J26 _ (by unfold s_25; rw [ev17, eo27]; rfl)
    · have hb27 := hv_bnd2 F.2.2.2 ht eo27
      refine yy_fin.steps (n := 3) (s' := (785, [some (.ref 1), some (.ref w), some (.ref 0), some (.int (Int32.ofInt fr)), some (.int (Int32.ofInt (t : Int))), some (.int (Int32.ofInt day)), some (zz_val k6), some (.ref q27), some (.int (Int32.ofInt p8)), some (.ref k9), some (.int (Int32.ofInt s)), some (zz_val q11), some (.int (Int32.ofInt p12)), some (.ref q13), some (.ref q14), some (.int (Int32.ofInt 1)), some (.ref q27), some (.int (Int32.ofInt n17_1)), some (.int (Int32.ofInt n18_1)), some (.int (Int32.ofInt v3)), some (.int (Int32.ofInt v10)), some (.int (Int32.ofInt v17)), some (.int (Int32.ofInt z22)), some (.int (Int32.ofInt b23)), none], [.int (Int32.ofInt 1), .int (Int32.ofInt v17), .int (Int32.ofInt (s_25 (g0 541) t day 1 1))], h25)) rfl ?_
      refine yy_fin.if rfl (fun cK => ?_) (fun cK => absurd (by decide) cK)
      refine yy_fin.steps (n := 2) (s' := (796, [some (.ref 1), some (.ref w), some (.ref 0), some (.int (Int32.ofInt fr)), some (.int (Int32.ofInt (t : Int))), some (.int (Int32.ofInt day)), some (zz_val k6), some (.ref q27), some (.int (Int32.ofInt p8)), some (.ref k9), some (.int (Int32.ofInt s)), some (zz_val q11), some (.int (Int32.ofInt p12)), some (.ref q13), some (.ref q14), some (.int (Int32.ofInt 1)), some (.ref q27), some (.int (Int32.ofInt n17_1)), some (.int (Int32.ofInt n18_1)), some (.int (Int32.ofInt v3)), some (.int (Int32.ofInt v10)), some (.int (Int32.ofInt v17)), some (.int (Int32.ofInt z22)), some (.int (Int32.ofInt b23)), none], [.int ((Int32.ofInt v17) - (Int32.ofInt 86400)), .int (Int32.ofInt (s_25 (g0 541) t day 1 1))], h25)) rfl ?_
      rw [yi_sub v17 86400]
      exact J26 _ (by unfold s_25; rw [ev17, eo27]; show u27 + (u27 + l27 - u27) / 2 - 86400 = u27 + l27 / 2 - 86400; rw [show u27 + l27 - u27 = l27 by omega])
  intro v26 ev26
  refine yy_fin.ic rfl (fun _ => ?_) (fun cz => absurd (y_ceq (congrArg Int32.ofInt ev26.symm)) cz)
  refine yy_fin.steps (n := 1) (s' := (803, [some (.ref 1), some (.ref w), some (.ref 0), some (.int (Int32.ofInt fr)), some (.int (Int32.ofInt (t : Int))), some (.int (Int32.ofInt day)), some (zz_val k6), some (zz_val k7), some (.int (Int32.ofInt p8)), some (.ref k9), some (.int (Int32.ofInt s)), some (zz_val q11), some (.int (Int32.ofInt p12)), some (.ref q13), some (.ref q14), some (.int (Int32.ofInt 1)), some (zz_val k7), some (.int (Int32.ofInt n17_1)), some (.int (Int32.ofInt n18_1)), some (.int (Int32.ofInt v3)), some (.int (Int32.ofInt v10)), some (.int (Int32.ofInt v17)), some (.int (Int32.ofInt z22)), some (.int (Int32.ofInt b23)), none], [zz_val k7], h25)) rfl ?_
  suffices J28 : ∀ v28 : Int, v28 = y_el (hv_t (g0 541) t day 1) 0 (fun u l => u + l - u) → yy_fin X 279 (819, [some (.ref 1), some (.ref w), some (.ref 0), some (.int (Int32.ofInt fr)), some (.int (Int32.ofInt (t : Int))), some (.int (Int32.ofInt day)), some (zz_val k6), some (zz_val k7), some (.int (Int32.ofInt p8)), some (.ref k9), some (.int (Int32.ofInt s)), some (zz_val q11), some (.int (Int32.ofInt p12)), some (.ref q13), some (.ref q14), some (.int (Int32.ofInt 1)), some (zz_val k7), some (.int (Int32.ofInt n17_1)), some (.int (Int32.ofInt n18_1)), some (.int (Int32.ofInt v3)), some (.int (Int32.ofInt v10)), some (.int (Int32.ofInt v17)), some (.int (Int32.ofInt z22)), some (.int (Int32.ofInt b23)), none], [.int (Int32.ofInt v28)], h25) φ by
    rcases H7 with ⟨rfl, eo29⟩ | ⟨q29, u29, l29, rfl, eo29, R29⟩
    · refine yy_fin.steps (n := 3) (s' := (819, [some (.ref 1), some (.ref w), some (.ref 0), some (.int (Int32.ofInt fr)), some (.int (Int32.ofInt (t : Int))), some (.int (Int32.ofInt day)), some (zz_val k6), some (.null), some (.int (Int32.ofInt p8)), some (.ref k9), some (.int (Int32.ofInt s)), some (zz_val q11), some (.int (Int32.ofInt p12)), some (.ref q13), some (.ref q14), some (.int (Int32.ofInt 1)), some (.null), some (.int (Int32.ofInt n17_1)), some (.int (Int32.ofInt n18_1)), some (.int (Int32.ofInt v3)), some (.int (Int32.ofInt v10)), some (.int (Int32.ofInt v17)), some (.int (Int32.ofInt z22)), some (.int (Int32.ofInt b23)), none], [.int (Int32.ofInt 0)], h25)) rfl ?_
      exact J28 _ (by rw [eo29]; rfl)
    · have hb29 := hv_bnd2 F.2.2.2 ht eo29
      refine yy_fin.steps (n := 3) (s' := (813, [some (.ref 1), some (.ref w), some (.ref 0), some (.int (Int32.ofInt fr)), some (.int (Int32.ofInt (t : Int))), some (.int (Int32.ofInt day)), some (zz_val k6), some (.ref q29), some (.int (Int32.ofInt p8)), some (.ref k9), some (.int (Int32.ofInt s)), some (zz_val q11), some (.int (Int32.ofInt p12)), some (.ref q13), some (.ref q14), some (.int (Int32.ofInt 1)), some (.ref q29), some (.int (Int32.ofInt n17_1)), some (.int (Int32.ofInt n18_1)), some (.int (Int32.ofInt v3)), some (.int (Int32.ofInt v10)), some (.int (Int32.ofInt v17)), some (.int (Int32.ofInt z22)), some (.int (Int32.ofInt b23)), none], [.int (Int32.ofInt 1), .ref q29], h25)) rfl ?_
      refine yy_fin.lp (j := 1) rfl R29.2 (by decide) (by decide) rfl ?_
      refine yy_fin.steps (n := 2) (s' := (817, [some (.ref 1), some (.ref w), some (.ref 0), some (.int (Int32.ofInt fr)), some (.int (Int32.ofInt (t : Int))), some (.int (Int32.ofInt day)), some (zz_val k6), some (.ref q29), some (.int (Int32.ofInt p8)), some (.ref k9), some (.int (Int32.ofInt s)), some (zz_val q11), some (.int (Int32.ofInt p12)), some (.ref q13), some (.ref q14), some (.int (Int32.ofInt 1)), some (.ref q29), some (.int (Int32.ofInt n17_1)), some (.int (Int32.ofInt n18_1)), some (.int (Int32.ofInt v3)), some (.int (Int32.ofInt v10)), some (.int (Int32.ofInt v17)), some (.int (Int32.ofInt z22)), some (.int (Int32.ofInt b23)), none], [.int (Int32.ofInt 0), .ref q29, .int (Int32.ofInt (u29 + l29))], h25)) rfl ?_
      refine yy_fin.lp (j := 0) rfl R29.2 (by decide) (by decide) rfl ?_
      refine yy_fin.steps (n := 1) (s' := (819, [some (.ref 1), some (.ref w), some (.ref 0), some (.int (Int32.ofInt fr)), some (.int (Int32.ofInt (t : Int))), some (.int (Int32.ofInt day)), some (zz_val k6), some (.ref q29), some (.int (Int32.ofInt p8)), some (.ref k9), some (.int (Int32.ofInt s)), some (zz_val q11), some (.int (Int32.ofInt p12)), some (.ref q13), some (.ref q14), some (.int (Int32.ofInt 1)), some (.ref q29), some (.int (Int32.ofInt n17_1)), some (.int (Int32.ofInt n18_1)), some (.int (Int32.ofInt v3)), some (.int (Int32.ofInt v10)), some (.int (Int32.ofInt v17)), some (.int (Int32.ofInt z22)), some (.int (Int32.ofInt b23)), none], [.int ((Int32.ofInt (u29 + l29)) - (Int32.ofInt u29))], h25)) rfl ?_
      rw [yi_sub (u29 + l29) u29]
      exact J28 _ (by rw [eo29]; rfl)
  intro v28 ev28
  have hz28 : 0 ≤ v28 ∧ v28 ≤ 200000 := by
    rw [ev28]
    cases eo : hv_t (g0 541) t day 1 with
    | none => exact ⟨Int.le_refl _, by decide⟩
    | some p => obtain ⟨u, l⟩ := p; have := hv_bnd2 F.2.2.2 ht eo; show 0 ≤ u + l - u ∧ u + l - u ≤ 200000; omega
  have hG := (y_Gb v28).1
  refine yy_fin.steps (n := 3) (s' := (825, [some (.ref 1), some (.ref w), some (.ref 0), some (.int (Int32.ofInt fr)), some (.int (Int32.ofInt (t : Int))), some (.int (Int32.ofInt day)), some (zz_val k6), some (zz_val k7), some (.int (Int32.ofInt p8)), some (.ref k9), some (.int (Int32.ofInt s)), some (zz_val q11), some (.int (Int32.ofInt p12)), some (.ref q13), some (.ref q14), some (.int (Int32.ofInt 1)), some (zz_val k7), some (.int (Int32.ofInt n17_1)), some (.int (Int32.ofInt n18_1)), some (.int (Int32.ofInt v3)), some (.int (Int32.ofInt v10)), some (.int (Int32.ofInt v17)), some (.int (Int32.ofInt v28)), some (.int (Int32.ofInt 12)), none], [], h25)) rfl ?_
  refine yl_ex hz28 ?_ (12 - y_G v28).toNat 12 (by omega) (by omega)
  refine yy_fin.steps (n := 5) (s' := (855, [some (.ref 1), some (.ref w), some (.ref 0), some (.int (Int32.ofInt fr)), some (.int (Int32.ofInt (t : Int))), some (.int (Int32.ofInt day)), some (zz_val k6), some (zz_val k7), some (.int (Int32.ofInt p8)), some (.ref k9), some (.int (Int32.ofInt s)), some (zz_val q11), some (.int (Int32.ofInt p12)), some (.ref q13), some (.ref q14), some (.int (Int32.ofInt 1)), some (zz_val k7), some (.int (Int32.ofInt n17_1)), some (.int (Int32.ofInt n18_1)), some (.int (Int32.ofInt v3)), some (.int (Int32.ofInt v10)), some (.int (Int32.ofInt v17)), some (.int (Int32.ofInt v28)), some (.int (Int32.ofInt (y_G v28))), none], [.int (Int32.ofInt 0), .int (Int32.ofInt 1), .int (Int32.ofInt day), .int (Int32.ofInt (t : Int)), .ref 1], h25)) rfl ?_
  obtain ⟨g30, r30⟩ := qi_98 F C ht hd (f := 1) (Or.inr rfl) (i := 0) (Or.inl rfl)
  obtain ⟨fs30, oo30⟩ := C.o
  refine yy_fin.cv (as := [.int (Int32.ofInt (t : Int)), .int (Int32.ofInt day), .int (Int32.ofInt 1), .int (Int32.ofInt 0)]) rfl rfl rfl oo30 (Nat.le_of_ble_eq_true rfl) (Nat.le_of_ble_eq_true rfl) r30 ?_
  rintro v h30 ⟨rfl, C, x30⟩
  replace H6 := H6.k x30
  replace H7 := H7.k x30
  replace Y := Y.tr x30 (fun _ _ e => e)
  replace hY := Y.1
  refine yy_fin.steps (n := 1) (s' := (860, [some (.ref 1), some (.ref w), some (.ref 0), some (.int (Int32.ofInt fr)), some (.int (Int32.ofInt (t : Int))), some (.int (Int32.ofInt day)), some (zz_val k6), some (zz_val k7), some (.int (Int32.ofInt p8)), some (.ref k9), some (.int (Int32.ofInt s)), some (zz_val q11), some (.int (Int32.ofInt p12)), some (.ref q13), some (.ref q14), some (.int (Int32.ofInt 1)), some (zz_val k7), some (.int (Int32.ofInt n17_1)), some (.int (Int32.ofInt n18_1)), some (.int (Int32.ofInt v3)), some (.int (Int32.ofInt v10)), some (.int (Int32.ofInt v17)), some (.int (Int32.ofInt v28)), some (.int (Int32.ofInt (y_G v28))), none], [zz_val k7, .int (Int32.ofInt (s_98 (g0 541) t day 1 0))], h30)) rfl ?_
  suffices J31 : ∀ v31 : Int, v31 = s_98 (g0 541) t day 1 0 → yy_fin X 279 (873, [some (.ref 1), some (.ref w), some (.ref 0), some (.int (Int32.ofInt fr)), some (.int (Int32.ofInt (t : Int))), some (.int (Int32.ofInt day)), some (zz_val k6), some (zz_val k7), some (.int (Int32.ofInt p8)), some (.ref k9), some (.int (Int32.ofInt s)), some (zz_val q11), some (.int (Int32.ofInt p12)), some (.ref q13), some (.ref q14), some (.int (Int32.ofInt 1)), some (zz_val k7), some (.int (Int32.ofInt n17_1)), some (.int (Int32.ofInt n18_1)), some (.int (Int32.ofInt v3)), some (.int (Int32.ofInt v10)), some (.int (Int32.ofInt v17)), some (.int (Int32.ofInt v28)), some (.int (Int32.ofInt (y_G v28))), none], [.int (Int32.ofInt v31), .int (Int32.ofInt (s_98 (g0 541) t day 1 0))], h30) φ by
    rcases H7 with ⟨rfl, eo32⟩ | ⟨q32, u32, l32, rfl, eo32, R32⟩
    · refine yy_fin.steps (n := 3) (s' := (873, [some (.ref 1), some (.ref w), some (.ref 0), some (.int (Int32.ofInt fr)), some (.int (Int32.ofInt (t : Int))), some (.int (Int32.ofInt day)), some (zz_val k6), some (.null), some (.int (Int32.ofInt p8)), some (.ref k9), some (.int (Int32.ofInt s)), some (zz_val q11), some (.int (Int32.ofInt p12)), some (.ref q13), some (.ref q14), some (.int (Int32.ofInt 1)), some (.null), some (.int (Int32.ofInt n17_1)), some (.int (Int32.ofInt n18_1)), some (.int (Int32.ofInt v3)), some (.int (Int32.ofInt v10)), some (.int (Int32.ofInt v17)), some (.int (Int32.ofInt v28)), some (.int (Int32.ofInt (y_G v28))), none], [.int (Int32.ofInt (-2)), .int (Int32.ofInt (s_98 (g0 541) t day 1 0))], h30)) rfl ?_
      exact J31 _ (by unfold s_98; rw [eo32])
    · have hb32 := hv_bnd2 F.2.2.2 ht eo32
      refine yy_fin.steps (n := 3) (s' := (872, [some (.ref 1), some (.ref w), some (.ref 0), some (.int (Int32.ofInt fr)), some (.int (Int32.ofInt (t : Int))), some (.int (Int32.ofInt day)), some (zz_val k6), some (.ref q32), some (.int (Int32.ofInt p8)), some (.ref k9), some (.int (Int32.ofInt s)), some (zz_val q11), some (.int (Int32.ofInt p12)), some (.ref q13), some (.ref q14), some (.int (Int32.ofInt 1)), some (.ref q32), some (.int (Int32.ofInt n17_1)), some (.int (Int32.ofInt n18_1)), some (.int (Int32.ofInt v3)), some (.int (Int32.ofInt v10)), some (.int (Int32.ofInt v17)), some (.int (Int32.ofInt v28)), some (.int (Int32.ofInt (y_G v28))), none], [.int (Int32.ofInt (y_G v28)), .int (Int32.ofInt v28), .int (Int32.ofInt (s_98 (g0 541) t day 1 0))], h30)) rfl ?_
      refine yy_fin.dv rfl (fun z => by have z := (yi_eq (a := y_G v28) (b := 0) (by omega) (by omega)).mp z; omega) ?_
      rw [yi_div (a := v28) (b := y_G v28) (by omega) (by omega)]
      exact J31 _ (by unfold s_98; rw [eo32]; show v28 / y_G v28 = _; rw [ev28, eo32]; show (u32 + l32 - u32) / y_G (u32 + l32 - u32) = l32 / y_G l32; rw [show u32 + l32 - u32 = l32 by omega])
  intro v31 ev31
  refine yy_fin.ic rfl (fun cz => absurd (congrArg Int32.ofInt ev31.symm) (y_cne cz)) (fun _ => ?_)
  refine yy_fin.steps (n := 5) (s' := (884, [some (.ref 1), some (.ref w), some (.ref 0), some (.int (Int32.ofInt fr)), some (.int (Int32.ofInt (t : Int))), some (.int (Int32.ofInt day)), some (zz_val k6), some (zz_val k7), some (.int (Int32.ofInt p8)), some (.ref k9), some (.int (Int32.ofInt s)), some (zz_val q11), some (.int (Int32.ofInt p12)), some (.ref q13), some (.ref q14), some (.int (Int32.ofInt 1)), some (zz_val k7), some (.int (Int32.ofInt n17_1)), some (.int (Int32.ofInt n18_1)), some (.int (Int32.ofInt v3)), some (.int (Int32.ofInt v10)), some (.int (Int32.ofInt v17)), some (.int (Int32.ofInt v28)), some (.int (Int32.ofInt (y_G v28))), none], [.int (Int32.ofInt 1), .int (Int32.ofInt 1), .int (Int32.ofInt day), .int (Int32.ofInt (t : Int)), .ref 1], h30)) rfl ?_
  obtain ⟨g33, r33⟩ := qi_98 F C ht hd (f := 1) (Or.inr rfl) (i := 1) (Or.inr rfl)
  obtain ⟨fs33, oo33⟩ := C.o
  refine yy_fin.cv (as := [.int (Int32.ofInt (t : Int)), .int (Int32.ofInt day), .int (Int32.ofInt 1), .int (Int32.ofInt 1)]) rfl rfl rfl oo33 (Nat.le_of_ble_eq_true rfl) (Nat.le_of_ble_eq_true rfl) r33 ?_
  rintro v h33 ⟨rfl, C, x33⟩
  replace H6 := H6.k x33
  replace H7 := H7.k x33
  replace Y := Y.tr x33 (fun _ _ e => e)
  replace hY := Y.1
  refine yy_fin.steps (n := 1) (s' := (889, [some (.ref 1), some (.ref w), some (.ref 0), some (.int (Int32.ofInt fr)), some (.int (Int32.ofInt (t : Int))), some (.int (Int32.ofInt day)), some (zz_val k6), some (zz_val k7), some (.int (Int32.ofInt p8)), some (.ref k9), some (.int (Int32.ofInt s)), some (zz_val q11), some (.int (Int32.ofInt p12)), some (.ref q13), some (.ref q14), some (.int (Int32.ofInt 1)), some (zz_val k7), some (.int (Int32.ofInt n17_1)), some (.int (Int32.ofInt n18_1)), some (.int (Int32.ofInt v3)), some (.int (Int32.ofInt v10)), some (.int (Int32.ofInt v17)), some (.int (Int32.ofInt v28)), some (.int (Int32.ofInt (y_G v28))), none], [zz_val k7, .int (Int32.ofInt (s_98 (g0 541) t day 1 1))], h33)) rfl ?_
  suffices J34 : ∀ v34 : Int, v34 = s_98 (g0 541) t day 1 1 → yy_fin X 279 (902, [some (.ref 1), some (.ref w), some (.ref 0), some (.int (Int32.ofInt fr)), some (.int (Int32.ofInt (t : Int))), some (.int (Int32.ofInt day)), some (zz_val k6), some (zz_val k7), some (.int (Int32.ofInt p8)), some (.ref k9), some (.int (Int32.ofInt s)), some (zz_val q11), some (.int (Int32.ofInt p12)), some (.ref q13), some (.ref q14), some (.int (Int32.ofInt 1)), some (zz_val k7), some (.int (Int32.ofInt n17_1)), some (.int (Int32.ofInt n18_1)), some (.int (Int32.ofInt v3)), some (.int (Int32.ofInt v10)), some (.int (Int32.ofInt v17)), some (.int (Int32.ofInt v28)), some (.int (Int32.ofInt (y_G v28))), none], [.int (Int32.ofInt v34), .int (Int32.ofInt (s_98 (g0 541) t day 1 1))], h33) φ by
    rcases H7 with ⟨rfl, eo35⟩ | ⟨q35, u35, l35, rfl, eo35, R35⟩
    · refine yy_fin.steps (n := 3) (s' := (902, [some (.ref 1), some (.ref w), some (.ref 0), some (.int (Int32.ofInt fr)), some (.int (Int32.ofInt (t : Int))), some (.int (Int32.ofInt day)), some (zz_val k6), some (.null), some (.int (Int32.ofInt p8)), some (.ref k9), some (.int (Int32.ofInt s)), some (zz_val q11), some (.int (Int32.ofInt p12)), some (.ref q13), some (.ref q14), some (.int (Int32.ofInt 1)), some (.null), some (.int (Int32.ofInt n17_1)), some (.int (Int32.ofInt n18_1)), some (.int (Int32.ofInt v3)), some (.int (Int32.ofInt v10)), some (.int (Int32.ofInt v17)), some (.int (Int32.ofInt v28)), some (.int (Int32.ofInt (y_G v28))), none], [.int (Int32.ofInt (-2)), .int (Int32.ofInt (s_98 (g0 541) t day 1 1))], h33)) rfl ?_
      exact J34 _ (by unfold s_98; rw [eo35])
    · have hb35 := hv_bnd2 F.2.2.2 ht eo35
      refine yy_fin.steps (n := 3) (s' := (901, [some (.ref 1), some (.ref w), some (.ref 0), some (.int (Int32.ofInt fr)), some (.int (Int32.ofInt (t : Int))), some (.int (Int32.ofInt day)), some (zz_val k6), some (.ref q35), some (.int (Int32.ofInt p8)), some (.ref k9), some (.int (Int32.ofInt s)), some (zz_val q11), some (.int (Int32.ofInt p12)), some (.ref q13), some (.ref q14), some (.int (Int32.ofInt 1)), some (.ref q35), some (.int (Int32.ofInt n17_1)), some (.int (Int32.ofInt n18_1)), some (.int (Int32.ofInt v3)), some (.int (Int32.ofInt v10)), some (.int (Int32.ofInt v17)), some (.int (Int32.ofInt v28)), some (.int (Int32.ofInt (y_G v28))), none], [.int (Int32.ofInt (y_G v28)), .int (Int32.ofInt 12), .int (Int32.ofInt (s_98 (g0 541) t day 1 1))], h33)) rfl ?_
      refine yy_fin.dv rfl (fun z => by have z := (yi_eq (a := y_G v28) (b := 0) (by omega) (by omega)).mp z; omega) ?_
      rw [yi_div (a := 12) (b := y_G v28) (by omega) (by omega)]
      exact J34 _ (by unfold s_98; rw [eo35]; show 12 / y_G v28 = _; rw [ev28, eo35]; show 12 / y_G (u35 + l35 - u35) = 12 / y_G l35; rw [show u35 + l35 - u35 = l35 by omega])
  intro v34 ev34
  refine yy_fin.ic rfl (fun _ => ?_) (fun cz => absurd (y_ceq (congrArg Int32.ofInt ev34.symm)) cz)
  refine yy_fin.steps (n := 2) (s' := (511, [some (.ref 1), some (.ref w), some (.ref 0), some (.int (Int32.ofInt fr)), some (.int (Int32.ofInt (t : Int))), some (.int (Int32.ofInt day)), some (zz_val k6), some (zz_val k7), some (.int (Int32.ofInt p8)), some (.ref k9), some (.int (Int32.ofInt s)), some (zz_val q11), some (.int (Int32.ofInt p12)), some (.ref q13), some (.ref q14), some (.int ((Int32.ofInt 1) + (Int32.ofInt 1))), some (zz_val k7), some (.int (Int32.ofInt n17_1)), some (.int (Int32.ofInt n18_1)), some (.int (Int32.ofInt v3)), some (.int (Int32.ofInt v10)), some (.int (Int32.ofInt v17)), some (.int (Int32.ofInt v28)), some (.int (Int32.ofInt (y_G v28))), none], [], h33)) rfl ?_
  rw [show (Int32.ofInt 1) + (Int32.ofInt 1) = Int32.ofInt 2 from by decide]
  exact kk _ _ k7 _ _ _ _ _ _ _ C (Y.le (by omega) (by omega)) H6 H7
theorem yl_d5 (F : yCf own w lst g0) (ht : (t : Int) < (g0 541 0).toInt) (hd : 0 ≤ day ∧ day ≤ 35999) (C : yCx own w lst g0 h g) (hB : h.1.1 + 200 < yy_B) {k6 k7 : Option Nat} (H6 : yHr h w k6 (hv_t (g0 541) t day 0)) (H7 : yHr h w k7 (hv_t (g0 541) t day 1)) {p8 p12 i15 : Int} {k9 q13 q14 : Nat} {q11 q16 : Option Nat} {n17 n18 v19 v20 m21 z22 b23 : Int} (kk : ∀ h' g' i15, yCx own w lst g0 h' g' → yx (yAk w) 20 60 h h' → yHr h' w k6 (hv_t (g0 541) t day 0) → yy_fin X 279 (1011, [some (.ref 1), some (.ref w), some (.ref 0), some (.int (Int32.ofInt fr)), some (.int (Int32.ofInt (t : Int))), some (.int (Int32.ofInt day)), some (zz_val k6), some (zz_val k7), some (.int (Int32.ofInt p8)), some (.ref k9), some (.int (Int32.ofInt s)), some (zz_val q11), some (.int (Int32.ofInt p12)), some (.ref q13), some (.ref q14), some (.int (Int32.ofInt i15)), some (zz_val q16), some (.int (Int32.ofInt n17)), some (.int (Int32.ofInt n18)), some (.int (Int32.ofInt v19)), some (.int (Int32.ofInt v20)), some (.int (Int32.ofInt m21)), some (.int (Int32.ofInt z22)), some (.int (Int32.ofInt b23)), none], [], h') φ) : yy_fin X 279 (913, [some (.ref 1), some (.ref w), some (.ref 0), some (.int (Int32.ofInt fr)), some (.int (Int32.ofInt (t : Int))), some (.int (Int32.ofInt day)), some (zz_val k6), some (zz_val k7), some (.int (Int32.ofInt p8)), some (.ref k9), some (.int (Int32.ofInt s)), some (zz_val q11), some (.int (Int32.ofInt p12)), some (.ref q13), some (.ref q14), some (.int (Int32.ofInt i15)), some (zz_val q16), some (.int (Int32.ofInt n17)), some (.int (Int32.ofInt n18)), some (.int (Int32.ofInt v19)), some (.int (Int32.ofInt v20)), some (.int (Int32.ofInt m21)), some (.int (Int32.ofInt z22)), some (.int (Int32.ofInt b23)), none], [], h) φ := by
  have n4 := F.2.2.2.1
  have hq := F.2.2.2.2.1
  have Y : yx (yAk w) 0 0 h h := yx.rf
  have hY := Y.1
  have hg := C.2.1.2
  refine yy_fin.steps (n := 4) (s' := (919, [some (.ref 1), some (.ref w), some (.ref 0), some (.int (Int32.ofInt fr)), some (.int (Int32.ofInt (t : Int))), some (.int (Int32.ofInt day)), some (zz_val k6), some (zz_val k7), some (.int (Int32.ofInt p8)), some (.ref k9), some (.int (Int32.ofInt s)), some (zz_val q11), some (.int (Int32.ofInt p12)), some (.ref q13), some (.ref q14), some (.int (Int32.ofInt 0)), some (zz_val q16), some (.int (Int32.ofInt n17)), some (.int (Int32.ofInt n18)), some (.int (Int32.ofInt v19)), some (.int (Int32.ofInt v20)), some (.int (Int32.ofInt m21)), some (.int (Int32.ofInt z22)), some (.int (Int32.ofInt b23)), none], [.int (Int32.ofInt 4), .int (Int32.ofInt 0)], h)) rfl ?_
  refine yy_fin.ic rfl (fun cK => absurd cK (by decide)) (fun cK => ?_)
  refine yy_fin.steps (n := 5) (s' := (930, [some (.ref 1), some (.ref w), some (.ref 0), some (.int (Int32.ofInt fr)), some (.int (Int32.ofInt (t : Int))), some (.int (Int32.ofInt day)), some (zz_val k6), some (zz_val k7), some (.int (Int32.ofInt p8)), some (.ref k9), some (.int (Int32.ofInt s)), some (zz_val q11), some (.int (Int32.ofInt p12)), some (.ref q13), some (.ref q14), some (.int (Int32.ofInt 0)), some (zz_val q16), some (.int (Int32.ofInt n17)), some (.int (Int32.ofInt n18)), some (.int (Int32.ofInt v19)), some (.int (Int32.ofInt v20)), some (.int (Int32.ofInt m21)), some (.int (Int32.ofInt z22)), some (.int (Int32.ofInt b23)), none], [.int (Int32.ofInt 0), .int (Int32.ofInt 0), .int (Int32.ofInt day), .int (Int32.ofInt (t : Int)), .ref 1], h)) rfl ?_
  obtain ⟨g1, r1⟩ := qi_99 F C ht hd (k := 0) (i := 0) (by omega) (Or.inl rfl)
  obtain ⟨fs1, oo1⟩ := C.o
  refine yy_fin.cv (as := [.int (Int32.ofInt (t : Int)), .int (Int32.ofInt day), .int (Int32.ofInt 0), .int (Int32.ofInt 0)]) rfl rfl rfl oo1 (Nat.le_of_ble_eq_true rfl) (Nat.le_of_ble_eq_true rfl) r1 ?_
  rintro v h1 ⟨rfl, C, x1⟩
  replace H6 := H6.k x1
  replace H7 := H7.k x1
  replace Y := Y.tr x1 (fun _ _ e => e)
  replace hY := Y.1
  refine yy_fin.steps (n := 1) (s' := (935, [some (.ref 1), some (.ref w), some (.ref 0), some (.int (Int32.ofInt fr)), some (.int (Int32.ofInt (t : Int))), some (.int (Int32.ofInt day)), some (zz_val k6), some (zz_val k7), some (.int (Int32.ofInt p8)), some (.ref k9), some (.int (Int32.ofInt s)), some (zz_val q11), some (.int (Int32.ofInt p12)), some (.ref q13), some (.ref q14), some (.int (Int32.ofInt 0)), some (zz_val q16), some (.int (Int32.ofInt n17)), some (.int (Int32.ofInt n18)), some (.int (Int32.ofInt v19)), some (.int (Int32.ofInt v20)), some (.int (Int32.ofInt m21)), some (.int (Int32.ofInt z22)), some (.int (Int32.ofInt b23)), none], [zz_val k7, .int (Int32.ofInt (s_99 (g0 541) t day 0 0))], h1)) rfl ?_
  suffices J2 : ∀ v2 : Int, v2 = s_99 (g0 541) t day 0 0 → yy_fin X 279 (953, [some (.ref 1), some (.ref w), some (.ref 0), some (.int (Int32.ofInt fr)), some (.int (Int32.ofInt (t : Int))), some (.int (Int32.ofInt day)), some (zz_val k6), some (zz_val k7), some (.int (Int32.ofInt p8)), some (.ref k9), some (.int (Int32.ofInt s)), some (zz_val q11), some (.int (Int32.ofInt p12)), some (.ref q13), some (.ref q14), some (.int (Int32.ofInt 0)), some (zz_val q16), some (.int (Int32.ofInt n17)), some (.int (Int32.ofInt n18)), some (.int (Int32.ofInt v19)), some (.int (Int32.ofInt v20)), some (.int (Int32.ofInt m21)), some (.int (Int32.ofInt z22)), some (.int (Int32.ofInt b23)), none], [.int (Int32.ofInt v2), .int (Int32.ofInt (s_99 (g0 541) t day 0 0))], h1) φ by
    rcases H7 with ⟨rfl, eo3⟩ | ⟨q3, u3, l3, rfl, eo3, R3⟩
    · refine yy_fin.steps (n := 3) (s' := (953, [some (.ref 1), some (.ref w), some (.ref 0), some (.int (Int32.ofInt fr)), some (.int (Int32.ofInt (t : Int))), some (.int (Int32.ofInt day)), some (zz_val k6), some (.null), some (.int (Int32.ofInt p8)), some (.ref k9), some (.int (Int32.ofInt s)), some (zz_val q11), some (.int (Int32.ofInt p12)), some (.ref q13), some (.ref q14), some (.int (Int32.ofInt 0)), some (zz_val q16), some (.int (Int32.ofInt n17)), some (.int (Int32.ofInt n18)), some (.int (Int32.ofInt v19)), some (.int (Int32.ofInt v20)), some (.int (Int32.ofInt m21)), some (.int (Int32.ofInt z22)), some (.int (Int32.ofInt b23)), none], [.int (Int32.ofInt (-2)), .int (Int32.ofInt (s_99 (g0 541) t day 0 0))], h1)) rfl ?_
      exact J2 _ (by unfold s_99; rw [eo3])
    · have hb3 := hv_bnd2 F.2.2.2 ht eo3
      refine yy_fin.steps (n := 6) (s' := (950, [some (.ref 1), some (.ref w), some (.ref 0), some (.int (Int32.ofInt fr)), some (.int (Int32.ofInt (t : Int))), some (.int (Int32.ofInt day)), some (zz_val k6), some (.ref q3), some (.int (Int32.ofInt p8)), some (.ref k9), some (.int (Int32.ofInt s)), some (zz_val q11), some (.int (Int32.ofInt p12)), some (.ref q13), some (.ref q14), some (.int (Int32.ofInt 0)), some (zz_val q16), some (.int (Int32.ofInt n17)), some (.int (Int32.ofInt n18)), some (.int (Int32.ofInt v19)), some (.int (Int32.ofInt v20)), some (.int (Int32.ofInt m21)), some (.int (Int32.ofInt z22)), some (.int (Int32.ofInt b23)), none], [.int ((Int32.ofInt 3) * (Int32.ofInt 0)), .ref q3, .ref w, .int (Int32.ofInt (s_99 (g0 541) t day 0 0))], h1)) rfl ?_
      rw [yi_mul 3 0]
      obtain ⟨fw4, oW4⟩ := C.ow
      refine yy_fin.cv (as := [.ref q3, .int (Int32.ofInt (3 * 0))]) rfl rfl rfl oW4 (Nat.le_of_ble_eq_true rfl) (Nat.le_of_ble_eq_true rfl) (yc_hour F C R3 (hr := 3 * 0) (by omega) (by omega) (by omega)) ?_
      rintro v h9 ⟨rfl, e9⟩
      obtain rfl := e9.symm
      exact J2 _ (by unfold s_99; rw [eo3]; show u3 + yk (g0 541 1).toInt ((3 * 0) * (g0 541 1).toInt) l3 = u3 + s_h (3 * 0) l3; rw [yk_h (q := (g0 541 1).toInt) (x := 3 * 0) (l := l3) hq.1 (by omega) (by omega)])
  intro v2 ev2
  refine yy_fin.ic rfl (fun cz => absurd (congrArg Int32.ofInt ev2.symm) (y_cne cz)) (fun _ => ?_)
  refine yy_fin.steps (n := 5) (s' := (964, [some (.ref 1), some (.ref w), some (.ref 0), some (.int (Int32.ofInt fr)), some (.int (Int32.ofInt (t : Int))), some (.int (Int32.ofInt day)), some (zz_val k6), some (zz_val k7), some (.int (Int32.ofInt p8)), some (.ref k9), some (.int (Int32.ofInt s)), some (zz_val q11), some (.int (Int32.ofInt p12)), some (.ref q13), some (.ref q14), some (.int (Int32.ofInt 0)), some (zz_val q16), some (.int (Int32.ofInt n17)), some (.int (Int32.ofInt n18)), some (.int (Int32.ofInt v19)), some (.int (Int32.ofInt v20)), some (.int (Int32.ofInt m21)), some (.int (Int32.ofInt z22)), some (.int (Int32.ofInt b23)), none], [.int (Int32.ofInt 1), .int (Int32.ofInt 0), .int (Int32.ofInt day), .int (Int32.ofInt (t : Int)), .ref 1], h1)) rfl ?_
  obtain ⟨g5, r5⟩ := qi_99 F C ht hd (k := 0) (i := 1) (by omega) (Or.inr rfl)
  obtain ⟨fs5, oo5⟩ := C.o
  refine yy_fin.cv (as := [.int (Int32.ofInt (t : Int)), .int (Int32.ofInt day), .int (Int32.ofInt 0), .int (Int32.ofInt 1)]) rfl rfl rfl oo5 (Nat.le_of_ble_eq_true rfl) (Nat.le_of_ble_eq_true rfl) r5 ?_
  rintro v h5 ⟨rfl, C, x5⟩
  replace H6 := H6.k x5
  replace H7 := H7.k x5
  replace Y := Y.tr x5 (fun _ _ e => e)
  replace hY := Y.1
  refine yy_fin.steps (n := 1) (s' := (969, [some (.ref 1), some (.ref w), some (.ref 0), some (.int (Int32.ofInt fr)), some (.int (Int32.ofInt (t : Int))), some (.int (Int32.ofInt day)), some (zz_val k6), some (zz_val k7), some (.int (Int32.ofInt p8)), some (.ref k9), some (.int (Int32.ofInt s)), some (zz_val q11), some (.int (Int32.ofInt p12)), some (.ref q13), some (.ref q14), some (.int (Int32.ofInt 0)), some (zz_val q16), some (.int (Int32.ofInt n17)), some (.int (Int32.ofInt n18)), some (.int (Int32.ofInt v19)), some (.int (Int32.ofInt v20)), some (.int (Int32.ofInt m21)), some (.int (Int32.ofInt z22)), some (.int (Int32.ofInt b23)), none], [zz_val k7, .int (Int32.ofInt (s_99 (g0 541) t day 0 1))], h5)) rfl ?_
  suffices J6 : ∀ v6 : Int, v6 = s_99 (g0 541) t day 0 1 → yy_fin X 279 (1000, [some (.ref 1), some (.ref w), some (.ref 0), some (.int (Int32.ofInt fr)), some (.int (Int32.ofInt (t : Int))), some (.int (Int32.ofInt day)), some (zz_val k6), some (zz_val k7), some (.int (Int32.ofInt p8)), some (.ref k9), some (.int (Int32.ofInt s)), some (zz_val q11), some (.int (Int32.ofInt p12)), some (.ref q13), some (.ref q14), some (.int (Int32.ofInt 0)), some (zz_val q16), some (.int (Int32.ofInt n17)), some (.int (Int32.ofInt n18)), some (.int (Int32.ofInt v19)), some (.int (Int32.ofInt v20)), some (.int (Int32.ofInt m21)), some (.int (Int32.ofInt z22)), some (.int (Int32.ofInt b23)), none], [.int (Int32.ofInt v6), .int (Int32.ofInt (s_99 (g0 541) t day 0 1))], h5) φ by
    rcases H7 with ⟨rfl, eo7⟩ | ⟨q7, u7, l7, rfl, eo7, R7⟩
    · refine yy_fin.steps (n := 3) (s' := (1000, [some (.ref 1), some (.ref w), some (.ref 0), some (.int (Int32.ofInt fr)), some (.int (Int32.ofInt (t : Int))), some (.int (Int32.ofInt day)), some (zz_val k6), some (.null), some (.int (Int32.ofInt p8)), some (.ref k9), some (.int (Int32.ofInt s)), some (zz_val q11), some (.int (Int32.ofInt p12)), some (.ref q13), some (.ref q14), some (.int (Int32.ofInt 0)), some (zz_val q16), some (.int (Int32.ofInt n17)), some (.int (Int32.ofInt n18)), some (.int (Int32.ofInt v19)), some (.int (Int32.ofInt v20)), some (.int (Int32.ofInt m21)), some (.int (Int32.ofInt z22)), some (.int (Int32.ofInt b23)), none], [.int (Int32.ofInt (-2)), .int (Int32.ofInt (s_99 (g0 541) t day 0 1))], h5)) rfl ?_
      exact J6 _ (by unfold s_99; rw [eo7])
    · have hb7 := hv_bnd2 F.2.2.2 ht eo7
      refine yy_fin.steps (n := 8) (s' := (986, [some (.ref 1), some (.ref w), some (.ref 0), some (.int (Int32.ofInt fr)), some (.int (Int32.ofInt (t : Int))), some (.int (Int32.ofInt day)), some (zz_val k6), some (.ref q7), some (.int (Int32.ofInt p8)), some (.ref k9), some (.int (Int32.ofInt s)), some (zz_val q11), some (.int (Int32.ofInt p12)), some (.ref q13), some (.ref q14), some (.int (Int32.ofInt 0)), some (zz_val q16), some (.int (Int32.ofInt n17)), some (.int (Int32.ofInt n18)), some (.int (Int32.ofInt v19)), some (.int (Int32.ofInt v20)), some (.int (Int32.ofInt m21)), some (.int (Int32.ofInt z22)), some (.int (Int32.ofInt b23)), none], [.int (((Int32.ofInt 3) * (Int32.ofInt 0)) + (Int32.ofInt 3)), .ref q7, .ref w, .int (Int32.ofInt (s_99 (g0 541) t day 0 1))], h5)) rfl ?_
      rw [yi_mul 3 0]
      rw [yi_add (3 * 0) 3]
      obtain ⟨fw8, oW8⟩ := C.ow
      refine yy_fin.cv (as := [.ref q7, .int (Int32.ofInt ((3 * 0) + 3))]) rfl rfl rfl oW8 (Nat.le_of_ble_eq_true rfl) (Nat.le_of_ble_eq_true rfl) (yc_hour F C R7 (hr := (3 * 0) + 3) (by omega) (by omega) (by omega)) ?_
      rintro v h9 ⟨rfl, e9⟩
      obtain rfl := e9.symm
      refine yy_fin.steps (n := 5) (s' := (996, [some (.ref 1), some (.ref w), some (.ref 0), some (.int (Int32.ofInt fr)), some (.int (Int32.ofInt (t : Int))), some (.int (Int32.ofInt day)), some (zz_val k6), some (.ref q7), some (.int (Int32.ofInt p8)), some (.ref k9), some (.int (Int32.ofInt s)), some (zz_val q11), some (.int (Int32.ofInt p12)), some (.ref q13), some (.ref q14), some (.int (Int32.ofInt 0)), some (zz_val q16), some (.int (Int32.ofInt n17)), some (.int (Int32.ofInt n18)), some (.int (Int32.ofInt v19)), some (.int (Int32.ofInt v20)), some (.int (Int32.ofInt m21)), some (.int (Int32.ofInt z22)), some (.int (Int32.ofInt b23)), none], [.int ((Int32.ofInt 3) * (Int32.ofInt 0)), .ref q7, .ref w, .int (Int32.ofInt (u7 + yk (g0 541 1).toInt (((3 * 0) + 3) * (g0 541 1).toInt) l7)), .int (Int32.ofInt (s_99 (g0 541) t day 0 1))], h5)) rfl ?_
      rw [yi_mul 3 0]
      obtain ⟨fw9, oW9⟩ := C.ow
      refine yy_fin.cv (as := [.ref q7, .int (Int32.ofInt (3 * 0))]) rfl rfl rfl oW9 (Nat.le_of_ble_eq_true rfl) (Nat.le_of_ble_eq_true rfl) (yc_hour F C R7 (hr := 3 * 0) (by omega) (by omega) (by omega)) ?_
      rintro v h9 ⟨rfl, e9⟩
      obtain rfl := e9.symm
      refine yy_fin.steps (n := 1) (s' := (1000, [some (.ref 1), some (.ref w), some (.ref 0), some (.int (Int32.ofInt fr)), some (.int (Int32.ofInt (t : Int))), some (.int (Int32.ofInt day)), some (zz_val k6), some (.ref q7), some (.int (Int32.ofInt p8)), some (.ref k9), some (.int (Int32.ofInt s)), some (zz_val q11), some (.int (Int32.ofInt p12)), some (.ref q13), some (.ref q14), some (.int (Int32.ofInt 0)), some (zz_val q16), some (.int (Int32.ofInt n17)), some (.int (Int32.ofInt n18)), some (.int (Int32.ofInt v19)), some (.int (Int32.ofInt v20)), some (.int (Int32.ofInt m21)), some (.int (Int32.ofInt z22)), some (.int (Int32.ofInt b23)), none], [.int ((Int32.ofInt (u7 + yk (g0 541 1).toInt (((3 * 0) + 3) * (g0 541 1).toInt) l7)) - (Int32.ofInt (u7 + yk (g0 541 1).toInt ((3 * 0) * (g0 541 1).toInt) l7))), .int (Int32.ofInt (s_99 (g0 541) t day 0 1))], h5)) rfl ?_
      rw [yi_sub (u7 + yk (g0 541 1).toInt (((3 * 0) + 3) * (g0 541 1).toInt) l7) (u7 + yk (g0 541 1).toInt ((3 * 0) * (g0 541 1).toInt) l7)]
      exact J6 _ (by unfold s_99; rw [eo7]; show u7 + yk (g0 541 1).toInt ((3 * 0 + 3) * (g0 541 1).toInt) l7 - (u7 + yk (g0 541 1).toInt ((3 * 0) * (g0 541 1).toInt) l7) = s_h (3 * 0 + 3) l7 - s_h (3 * 0) l7; rw [yk_h (q := (g0 541 1).toInt) (x := 3 * 0 + 3) (l := l7) hq.1 (by omega) (by omega), yk_h (q := (g0 541 1).toInt) (x := 3 * 0) (l := l7) hq.1 (by omega) (by omega)]; omega)
  intro v6 ev6
  refine yy_fin.ic rfl (fun _ => ?_) (fun cz => absurd (y_ceq (congrArg Int32.ofInt ev6.symm)) cz)
  refine yy_fin.steps (n := 4) (s' := (919, [some (.ref 1), some (.ref w), some (.ref 0), some (.int (Int32.ofInt fr)), some (.int (Int32.ofInt (t : Int))), some (.int (Int32.ofInt day)), some (zz_val k6), some (zz_val k7), some (.int (Int32.ofInt p8)), some (.ref k9), some (.int (Int32.ofInt s)), some (zz_val q11), some (.int (Int32.ofInt p12)), some (.ref q13), some (.ref q14), some (.int ((Int32.ofInt 0) + (Int32.ofInt 1))), some (zz_val q16), some (.int (Int32.ofInt n17)), some (.int (Int32.ofInt n18)), some (.int (Int32.ofInt v19)), some (.int (Int32.ofInt v20)), some (.int (Int32.ofInt m21)), some (.int (Int32.ofInt z22)), some (.int (Int32.ofInt b23)), none], [.int (Int32.ofInt 4), .int ((Int32.ofInt 0) + (Int32.ofInt 1))], h5)) rfl ?_
  rw [show (Int32.ofInt 0) + (Int32.ofInt 1) = Int32.ofInt 1 from by decide]
  refine yy_fin.ic rfl (fun cK => absurd cK (by decide)) (fun cK => ?_)
  refine yy_fin.steps (n := 5) (s' := (930, [some (.ref 1), some (.ref w), some (.ref 0), some (.int (Int32.ofInt fr)), some (.int (Int32.ofInt (t : Int))), some (.int (Int32.ofInt day)), some (zz_val k6), some (zz_val k7), some (.int (Int32.ofInt p8)), some (.ref k9), some (.int (Int32.ofInt s)), some (zz_val q11), some (.int (Int32.ofInt p12)), some (.ref q13), some (.ref q14), some (.int (Int32.ofInt 1)), some (zz_val q16), some (.int (Int32.ofInt n17)), some (.int (Int32.ofInt n18)), some (.int (Int32.ofInt v19)), some (.int (Int32.ofInt v20)), some (.int (Int32.ofInt m21)), some (.int (Int32.ofInt z22)), some (.int (Int32.ofInt b23)), none], [.int (Int32.ofInt 0), .int (Int32.ofInt 1), .int (Int32.ofInt day), .int (Int32.ofInt (t : Int)), .ref 1], h5)) rfl ?_
  obtain ⟨g10, r10⟩ := qi_99 F C ht hd (k := 1) (i := 0) (by omega) (Or.inl rfl)
  obtain ⟨fs10, oo10⟩ := C.o
  refine yy_fin.cv (as := [.int (Int32.ofInt (t : Int)), .int (Int32.ofInt day), .int (Int32.ofInt 1), .int (Int32.ofInt 0)]) rfl rfl rfl oo10 (Nat.le_of_ble_eq_true rfl) (Nat.le_of_ble_eq_true rfl) r10 ?_
  rintro v h10 ⟨rfl, C, x10⟩
  replace H6 := H6.k x10
  replace H7 := H7.k x10
  replace Y := Y.tr x10 (fun _ _ e => e)
  replace hY := Y.1
  refine yy_fin.steps (n := 1) (s' := (935, [some (.ref 1), some (.ref w), some (.ref 0), some (.int (Int32.ofInt fr)), some (.int (Int32.ofInt (t : Int))), some (.int (Int32.ofInt day)), some (zz_val k6), some (zz_val k7), some (.int (Int32.ofInt p8)), some (.ref k9), some (.int (Int32.ofInt s)), some (zz_val q11), some (.int (Int32.ofInt p12)), some (.ref q13), some (.ref q14), some (.int (Int32.ofInt 1)), some (zz_val q16), some (.int (Int32.ofInt n17)), some (.int (Int32.ofInt n18)), some (.int (Int32.ofInt v19)), some (.int (Int32.ofInt v20)), some (.int (Int32.ofInt m21)), some (.int (Int32.ofInt z22)), some (.int (Int32.ofInt b23)), none], [zz_val k7, .int (Int32.ofInt (s_99 (g0 541) t day 1 0))], h10)) rfl ?_
  suffices J11 : ∀ v11 : Int, v11 = s_99 (g0 541) t day 1 0 → yy_fin X 279 (953, [some (.ref 1), some (.ref w), some (.ref 0), some (.int (Int32.ofInt fr)), some (.int (Int32.ofInt (t : Int))), some (.int (Int32.ofInt day)), some (zz_val k6), some (zz_val k7), some (.int (Int32.ofInt p8)), some (.ref k9), some (.int (Int32.ofInt s)), some (zz_val q11), some (.int (Int32.ofInt p12)), some (.ref q13), some (.ref q14), some (.int (Int32.ofInt 1)), some (zz_val q16), some (.int (Int32.ofInt n17)), some (.int (Int32.ofInt n18)), some (.int (Int32.ofInt v19)), some (.int (Int32.ofInt v20)), some (.int (Int32.ofInt m21)), some (.int (Int32.ofInt z22)), some (.int (Int32.ofInt b23)), none], [.int (Int32.ofInt v11), .int (Int32.ofInt (s_99 (g0 541) t day 1 0))], h10) φ by
    rcases H7 with ⟨rfl, eo12⟩ | ⟨q12, u12, l12, rfl, eo12, R12⟩
    · refine yy_fin.steps (n := 3) (s' := (953, [some (.ref 1), some (.ref w), some (.ref 0), some (.int (Int32.ofInt fr)), some (.int (Int32.ofInt (t : Int))), some (.int (Int32.ofInt day)), some (zz_val k6), some (.null), some (.int (Int32.ofInt p8)), some (.ref k9), some (.int (Int32.ofInt s)), some (zz_val q11), some (.int (Int32.ofInt p12)), some (.ref q13), some (.ref q14), some (.int (Int32.ofInt 1)), some (zz_val q16), some (.int (Int32.ofInt n17)), some (.int (Int32.ofInt n18)), some (.int (Int32.ofInt v19)), some (.int (Int32.ofInt v20)), some (.int (Int32.ofInt m21)), some (.int (Int32.ofInt z22)), some (.int (Int32.ofInt b23)), none], [.int (Int32.ofInt (-2)), .int (Int32.ofInt (s_99 (g0 541) t day 1 0))], h10)) rfl ?_
      exact J11 _ (by unfold s_99; rw [eo12])
    · have hb12 := hv_bnd2 F.2.2.2 ht eo12
      refine yy_fin.steps (n := 6) (s' := (950, [some (.ref 1), some (.ref w), some (.ref 0), some (.int (Int32.ofInt fr)), some (.int (Int32.ofInt (t : Int))), some (.int (Int32.ofInt day)), some (zz_val k6), some (.ref q12), some (.int (Int32.ofInt p8)), some (.ref k9), some (.int (Int32.ofInt s)), some (zz_val q11), some (.int (Int32.ofInt p12)), some (.ref q13), some (.ref q14), some (.int (Int32.ofInt 1)), some (zz_val q16), some (.int (Int32.ofInt n17)), some (.int (Int32.ofInt n18)), some (.int (Int32.ofInt v19)), some (.int (Int32.ofInt v20)), some (.int (Int32.ofInt m21)), some (.int (Int32.ofInt z22)), some (.int (Int32.ofInt b23)), none], [.int ((Int32.ofInt 3) * (Int32.ofInt 1)), .ref q12, .ref w, .int (Int32.ofInt (s_99 (g0 541) t day 1 0))], h10)) rfl ?_
      rw [yi_mul 3 1]
      obtain ⟨fw13, oW13⟩ := C.ow
      refine yy_fin.cv (as := [.ref q12, .int (Int32.ofInt (3 * 1))]) rfl rfl rfl oW13 (Nat.le_of_ble_eq_true rfl) (Nat.le_of_ble_eq_true rfl) (yc_hour F C R12 (hr := 3 * 1) (by omega) (by omega) (by omega)) ?_
      rintro v h9 ⟨rfl, e9⟩
      obtain rfl := e9.symm
      exact J11 _ (by unfold s_99; rw [eo12]; show u12 + yk (g0 541 1).toInt ((3 * 1) * (g0 541 1).toInt) l12 = u12 + s_h (3 * 1) l12; rw [yk_h (q := (g0 541 1).toInt) (x := 3 * 1) (l := l12) hq.1 (by omega) (by omega)])
  intro v11 ev11
  refine yy_fin.ic rfl (fun cz => absurd (congrArg Int32.ofInt ev11.symm) (y_cne cz)) (fun _ => ?_)
  refine yy_fin.steps (n := 5) (s' := (964, [some (.ref 1), some (.ref w), some (.ref 0), some (.int (Int32.ofInt fr)), some (.int (Int32.ofInt (t : Int))), some (.int (Int32.ofInt day)), some (zz_val k6), some (zz_val k7), some (.int (Int32.ofInt p8)), some (.ref k9), some (.int (Int32.ofInt s)), some (zz_val q11), some (.int (Int32.ofInt p12)), some (.ref q13), some (.ref q14), some (.int (Int32.ofInt 1)), some (zz_val q16), some (.int (Int32.ofInt n17)), some (.int (Int32.ofInt n18)), some (.int (Int32.ofInt v19)), some (.int (Int32.ofInt v20)), some (.int (Int32.ofInt m21)), some (.int (Int32.ofInt z22)), some (.int (Int32.ofInt b23)), none], [.int (Int32.ofInt 1), .int (Int32.ofInt 1), .int (Int32.ofInt day), .int (Int32.ofInt (t : Int)), .ref 1], h10)) rfl ?_
  obtain ⟨g14, r14⟩ := qi_99 F C ht hd (k := 1) (i := 1) (by omega) (Or.inr rfl)
  obtain ⟨fs14, oo14⟩ := C.o
  refine yy_fin.cv (as := [.int (Int32.ofInt (t : Int)), .int (Int32.ofInt day), .int (Int32.ofInt 1), .int (Int32.ofInt 1)]) rfl rfl rfl oo14 (Nat.le_of_ble_eq_true rfl) (Nat.le_of_ble_eq_true rfl) r14 ?_
  rintro v h14 ⟨rfl, C, x14⟩
  replace H6 := H6.k x14
  replace H7 := H7.k x14
  replace Y := Y.tr x14 (fun _ _ e => e)
  replace hY := Y.1
  refine yy_fin.steps (n := 1) (s' := (969, [some (.ref 1), some (.ref w), some (.ref 0), some (.int (Int32.ofInt fr)), some (.int (Int32.ofInt (t : Int))), some (.int (Int32.ofInt day)), some (zz_val k6), some (zz_val k7), some (.int (Int32.ofInt p8)), some (.ref k9), some (.int (Int32.ofInt s)), some (zz_val q11), some (.int (Int32.ofInt p12)), some (.ref q13), some (.ref q14), some (.int (Int32.ofInt 1)), some (zz_val q16), some (.int (Int32.ofInt n17)), some (.int (Int32.ofInt n18)), some (.int (Int32.ofInt v19)), some (.int (Int32.ofInt v20)), some (.int (Int32.ofInt m21)), some (.int (Int32.ofInt z22)), some (.int (Int32.ofInt b23)), none], [zz_val k7, .int (Int32.ofInt (s_99 (g0 541) t day 1 1))], h14)) rfl ?_
  suffices J15 : ∀ v15 : Int, v15 = s_99 (g0 541) t day 1 1 → yy_fin X 279 (1000, [some (.ref 1), some (.ref w), some (.ref 0), some (.int (Int32.ofInt fr)), some (.int (Int32.ofInt (t : Int))), some (.int (Int32.ofInt day)), some (zz_val k6), some (zz_val k7), some (.int (Int32.ofInt p8)), some (.ref k9), some (.int (Int32.ofInt s)), some (zz_val q11), some (.int (Int32.ofInt p12)), some (.ref q13), some (.ref q14), some (.int (Int32.ofInt 1)), some (zz_val q16), some (.int (Int32.ofInt n17)), some (.int (Int32.ofInt n18)), some (.int (Int32.ofInt v19)), some (.int (Int32.ofInt v20)), some (.int (Int32.ofInt m21)), some (.int (Int32.ofInt z22)), some (.int (Int32.ofInt b23)), none], [.int (Int32.ofInt v15), .int (Int32.ofInt (s_99 (g0 541) t day 1 1))], h14) φ by
    rcases H7 with ⟨rfl, eo16⟩ | ⟨q16, u16, l16, rfl, eo16, R16⟩
    · refine yy_fin.steps (n := 3) (s' := (1000, [some (.ref 1), some (.ref w), some (.ref 0), some (.int (Int32.ofInt fr)), some (.int (Int32.ofInt (t : Int))), some (.int (Int32.ofInt day)), some (zz_val k6), some (.null), some (.int (Int32.ofInt p8)), some (.ref k9), some (.int (Int32.ofInt s)), some (zz_val q11), some (.int (Int32.ofInt p12)), some (.ref q13), some (.ref q14), some (.int (Int32.ofInt 1)), some (zz_val q16), some (.int (Int32.ofInt n17)), some (.int (Int32.ofInt n18)), some (.int (Int32.ofInt v19)), some (.int (Int32.ofInt v20)), some (.int (Int32.ofInt m21)), some (.int (Int32.ofInt z22)), some (.int (Int32.ofInt b23)), none], [.int (Int32.ofInt (-2)), .int (Int32.ofInt (s_99 (g0 541) t day 1 1))], h14)) rfl ?_
      exact J15 _ (by unfold s_99; rw [eo16])
    · have hb16 := hv_bnd2 F.2.2.2 ht eo16
      refine yy_fin.steps (n := 8) (s' := (986, [some (.ref 1), some (.ref w), some (.ref 0), some (.int (Int32.ofInt fr)), some (.int (Int32.ofInt (t : Int))), some (.int (Int32.ofInt day)), some (zz_val k6), some (.ref q16), some (.int (Int32.ofInt p8)), some (.ref k9), some (.int (Int32.ofInt s)), some (zz_val q11), some (.int (Int32.ofInt p12)), some (.ref q13), some (.ref q14), some (.int (Int32.ofInt 1)), some (zz_val q16), some (.int (Int32.ofInt n17)), some (.int (Int32.ofInt n18)), some (.int (Int32.ofInt v19)), some (.int (Int32.ofInt v20)), some (.int (Int32.ofInt m21)), some (.int (Int32.ofInt z22)), some (.int (Int32.ofInt b23)), none], [.int (((Int32.ofInt 3) * (Int32.ofInt 1)) + (Int32.ofInt 3)), .ref q16, .ref w, .int (Int32.ofInt (s_99 (g0 541) t day 1 1))], h14)) rfl ?_
      rw [yi_mul 3 1]
      rw [yi_add (3 * 1) 3]
      obtain ⟨fw17, oW17⟩ := C.ow
      refine yy_fin.cv (as := [.ref q16, .int (Int32.ofInt ((3 * 1) + 3))]) rfl rfl rfl oW17 (Nat.le_of_ble_eq_true rfl) (Nat.le_of_ble_eq_true rfl) (yc_hour F C R16 (hr := (3 * 1) + 3) (by omega) (by omega) (by omega)) ?_
      rintro v h9 ⟨rfl, e9⟩
      obtain rfl := e9.symm
      refine yy_fin.steps (n := 5) (s' := (996, [some (.ref 1), some (.ref w), some (.ref 0), some (.int (Int32.ofInt fr)), some (.int (Int32.ofInt (t : Int))), some (.int (Int32.ofInt day)), some (zz_val k6), some (.ref q16), some (.int (Int32.ofInt p8)), some (.ref k9), some (.int (Int32.ofInt s)), some (zz_val q11), some (.int (Int32.ofInt p12)), some (.ref q13), some (.ref q14), some (.int (Int32.ofInt 1)), some (zz_val q16), some (.int (Int32.ofInt n17)), some (.int (Int32.ofInt n18)), some (.int (Int32.ofInt v19)), some (.int (Int32.ofInt v20)), some (.int (Int32.ofInt m21)), some (.int (Int32.ofInt z22)), some (.int (Int32.ofInt b23)), none], [.int ((Int32.ofInt 3) * (Int32.ofInt 1)), .ref q16, .ref w, .int (Int32.ofInt (u16 + yk (g0 541 1).toInt (((3 * 1) + 3) * (g0 541 1).toInt) l16)), .int (Int32.ofInt (s_99 (g0 541) t day 1 1))], h14)) rfl ?_
      rw [yi_mul 3 1]
      obtain ⟨fw18, oW18⟩ := C.ow
      refine yy_fin.cv (as := [.ref q16, .int (Int32.ofInt (3 * 1))]) rfl rfl rfl oW18 (Nat.le_of_ble_eq_true rfl) (Nat.le_of_ble_eq_true rfl) (yc_hour F C R16 (hr := 3 * 1) (by omega) (by omega) (by omega)) ?_
      rintro v h9 ⟨rfl, e9⟩
      obtain rfl := e9.symm
      refine yy_fin.steps (n := 1) (s' := (1000, [some (.ref 1), some (.ref w), some (.ref 0), some (.int (Int32.ofInt fr)), some (.int (Int32.ofInt (t : Int))), some (.int (Int32.ofInt day)), some (zz_val k6), some (.ref q16), some (.int (Int32.ofInt p8)), some (.ref k9), some (.int (Int32.ofInt s)), some (zz_val q11), some (.int (Int32.ofInt p12)), some (.ref q13), some (.ref q14), some (.int (Int32.ofInt 1)), some (zz_val q16), some (.int (Int32.ofInt n17)), some (.int (Int32.ofInt n18)), some (.int (Int32.ofInt v19)), some (.int (Int32.ofInt v20)), some (.int (Int32.ofInt m21)), some (.int (Int32.ofInt z22)), some (.int (Int32.ofInt b23)), none], [.int ((Int32.ofInt (u16 + yk (g0 541 1).toInt (((3 * 1) + 3) * (g0 541 1).toInt) l16)) - (Int32.ofInt (u16 + yk (g0 541 1).toInt ((3 * 1) * (g0 541 1).toInt) l16))), .int (Int32.ofInt (s_99 (g0 541) t day 1 1))], h14)) rfl ?_
      rw [yi_sub (u16 + yk (g0 541 1).toInt (((3 * 1) + 3) * (g0 541 1).toInt) l16) (u16 + yk (g0 541 1).toInt ((3 * 1) * (g0 541 1).toInt) l16)]
      exact J15 _ (by unfold s_99; rw [eo16]; show u16 + yk (g0 541 1).toInt ((3 * 1 + 3) * (g0 541 1).toInt) l16 - (u16 + yk (g0 541 1).toInt ((3 * 1) * (g0 541 1).toInt) l16) = s_h (3 * 1 + 3) l16 - s_h (3 * 1) l16; rw [yk_h (q := (g0 541 1).toInt) (x := 3 * 1 + 3) (l := l16) hq.1 (by omega) (by omega), yk_h (q := (g0 541 1).toInt) (x := 3 * 1) (l := l16) hq.1 (by omega) (by omega)]; omega)
  intro v15 ev15
  refine yy_fin.ic rfl (fun _ => ?_) (fun cz => absurd (y_ceq (congrArg Int32.ofInt ev15.symm)) cz)
  refine yy_fin.steps (n := 4) (s' := (919, [some (.ref 1), some (.ref w), some (.ref 0), some (.int (Int32.ofInt fr)), some (.int (Int32.ofInt (t : Int))), some (.int (Int32.ofInt day)), some (zz_val k6), some (zz_val k7), some (.int (Int32.ofInt p8)), some (.ref k9), some (.int (Int32.ofInt s)), some (zz_val q11), some (.int (Int32.ofInt p12)), some (.ref q13), some (.ref q14), some (.int ((Int32.ofInt 1) + (Int32.ofInt 1))), some (zz_val q16), some (.int (Int32.ofInt n17)), some (.int (Int32.ofInt n18)), some (.int (Int32.ofInt v19)), some (.int (Int32.ofInt v20)), some (.int (Int32.ofInt m21)), some (.int (Int32.ofInt z22)), some (.int (Int32.ofInt b23)), none], [.int (Int32.ofInt 4), .int ((Int32.ofInt 1) + (Int32.ofInt 1))], h14)) rfl ?_
  rw [show (Int32.ofInt 1) + (Int32.ofInt 1) = Int32.ofInt 2 from by decide]
  refine yy_fin.ic rfl (fun cK => absurd cK (by decide)) (fun cK => ?_)
  refine yy_fin.steps (n := 5) (s' := (930, [some (.ref 1), some (.ref w), some (.ref 0), some (.int (Int32.ofInt fr)), some (.int (Int32.ofInt (t : Int))), some (.int (Int32.ofInt day)), some (zz_val k6), some (zz_val k7), some (.int (Int32.ofInt p8)), some (.ref k9), some (.int (Int32.ofInt s)), some (zz_val q11), some (.int (Int32.ofInt p12)), some (.ref q13), some (.ref q14), some (.int (Int32.ofInt 2)), some (zz_val q16), some (.int (Int32.ofInt n17)), some (.int (Int32.ofInt n18)), some (.int (Int32.ofInt v19)), some (.int (Int32.ofInt v20)), some (.int (Int32.ofInt m21)), some (.int (Int32.ofInt z22)), some (.int (Int32.ofInt b23)), none], [.int (Int32.ofInt 0), .int (Int32.ofInt 2), .int (Int32.ofInt day), .int (Int32.ofInt (t : Int)), .ref 1], h14)) rfl ?_
  obtain ⟨g19, r19⟩ := qi_99 F C ht hd (k := 2) (i := 0) (by omega) (Or.inl rfl)
  obtain ⟨fs19, oo19⟩ := C.o
  refine yy_fin.cv (as := [.int (Int32.ofInt (t : Int)), .int (Int32.ofInt day), .int (Int32.ofInt 2), .int (Int32.ofInt 0)]) rfl rfl rfl oo19 (Nat.le_of_ble_eq_true rfl) (Nat.le_of_ble_eq_true rfl) r19 ?_
  rintro v h19 ⟨rfl, C, x19⟩
  replace H6 := H6.k x19
  replace H7 := H7.k x19
  replace Y := Y.tr x19 (fun _ _ e => e)
  replace hY := Y.1
  refine yy_fin.steps (n := 1) (s' := (935, [some (.ref 1), some (.ref w), some (.ref 0), some (.int (Int32.ofInt fr)), some (.int (Int32.ofInt (t : Int))), some (.int (Int32.ofInt day)), some (zz_val k6), some (zz_val k7), some (.int (Int32.ofInt p8)), some (.ref k9), some (.int (Int32.ofInt s)), some (zz_val q11), some (.int (Int32.ofInt p12)), some (.ref q13), some (.ref q14), some (.int (Int32.ofInt 2)), some (zz_val q16), some (.int (Int32.ofInt n17)), some (.int (Int32.ofInt n18)), some (.int (Int32.ofInt v19)), some (.int (Int32.ofInt v20)), some (.int (Int32.ofInt m21)), some (.int (Int32.ofInt z22)), some (.int (Int32.ofInt b23)), none], [zz_val k7, .int (Int32.ofInt (s_99 (g0 541) t day 2 0))], h19)) rfl ?_
  suffices J20 : ∀ v20 : Int, v20 = s_99 (g0 541) t day 2 0 → yy_fin X 279 (953, [some (.ref 1), some (.ref w), some (.ref 0), some (.int (Int32.ofInt fr)), some (.int (Int32.ofInt (t : Int))), some (.int (Int32.ofInt day)), some (zz_val k6), some (zz_val k7), some (.int (Int32.ofInt p8)), some (.ref k9), some (.int (Int32.ofInt s)), some (zz_val q11), some (.int (Int32.ofInt p12)), some (.ref q13), some (.ref q14), some (.int (Int32.ofInt 2)), some (zz_val q16), some (.int (Int32.ofInt n17)), some (.int (Int32.ofInt n18)), some (.int (Int32.ofInt v19)), some (.int (Int32.ofInt v20)), some (.int (Int32.ofInt m21)), some (.int (Int32.ofInt z22)), some (.int (Int32.ofInt b23)), none], [.int (Int32.ofInt v20), .int (Int32.ofInt (s_99 (g0 541) t day 2 0))], h19) φ by
    rcases H7 with ⟨rfl, eo21⟩ | ⟨q21, u21, l21, rfl, eo21, R21⟩
    · refine yy_fin.steps (n := 3) (s' := (953, [some (.ref 1), some (.ref w), some (.ref 0), some (.int (Int32.ofInt fr)), some (.int (Int32.ofInt (t : Int))), some (.int (Int32.ofInt day)), some (zz_val k6), some (.null), some (.int (Int32.ofInt p8)), some (.ref k9), some (.int (Int32.ofInt s)), some (zz_val q11), some (.int (Int32.ofInt p12)), some (.ref q13), some (.ref q14), some (.int (Int32.ofInt 2)), some (zz_val q16), some (.int (Int32.ofInt n17)), some (.int (Int32.ofInt n18)), some (.int (Int32.ofInt v19)), some (.int (Int32.ofInt v20)), some (.int (Int32.ofInt m21)), some (.int (Int32.ofInt z22)), some (.int (Int32.ofInt b23)), none], [.int (Int32.ofInt (-2)), .int (Int32.ofInt (s_99 (g0 541) t day 2 0))], h19)) rfl ?_
      exact J20 _ (by unfold s_99; rw [eo21])
    · have hb21 := hv_bnd2 F.2.2.2 ht eo21
      refine yy_fin.steps (n := 6) (s' := (950, [some (.ref 1), some (.ref w), some (.ref 0), some (.int (Int32.ofInt fr)), some (.int (Int32.ofInt (t : Int))), some (.int (Int32.ofInt day)), some (zz_val k6), some (.ref q21), some (.int (Int32.ofInt p8)), some (.ref k9), some (.int (Int32.ofInt s)), some (zz_val q11), some (.int (Int32.ofInt p12)), some (.ref q13), some (.ref q14), some (.int (Int32.ofInt 2)), some (zz_val q16), some (.int (Int32.ofInt n17)), some (.int (Int32.ofInt n18)), some (.int (Int32.ofInt v19)), some (.int (Int32.ofInt v20)), some (.int (Int32.ofInt m21)), some (.int (Int32.ofInt z22)), some (.int (Int32.ofInt b23)), none], [.int ((Int32.ofInt 3) * (Int32.ofInt 2)), .ref q21, .ref w, .int (Int32.ofInt (s_99 (g0 541) t day 2 0))], h19)) rfl ?_
      rw [yi_mul 3 2]
      obtain ⟨fw22, oW22⟩ := C.ow
      refine yy_fin.cv (as := [.ref q21, .int (Int32.ofInt (3 * 2))]) rfl rfl rfl oW22 (Nat.le_of_ble_eq_true rfl) (Nat.le_of_ble_eq_true rfl) (yc_hour F C R21 (hr := 3 * 2) (by omega) (by omega) (by omega)) ?_
      rintro v h9 ⟨rfl, e9⟩
      obtain rfl := e9.symm
      exact J20 _ (by unfold s_99; rw [eo21]; show u21 + yk (g0 541 1).toInt ((3 * 2) * (g0 541 1).toInt) l21 = u21 + s_h (3 * 2) l21; rw [yk_h (q := (g0 541 1).toInt) (x := 3 * 2) (l := l21) hq.1 (by omega) (by omega)])
  intro v20 ev20
  refine yy_fin.ic rfl (fun cz => absurd (congrArg Int32.ofInt ev20.symm) (y_cne cz)) (fun _ => ?_)
  refine yy_fin.steps (n := 5) (s' := (964, [some (.ref 1), some (.ref w), some (.ref 0), some (.int (Int32.ofInt fr)), some (.int (Int32.ofInt (t : Int))), some (.int (Int32.ofInt day)), some (zz_val k6), some (zz_val k7), some (.int (Int32.ofInt p8)), some (.ref k9), some (.int (Int32.ofInt s)), some (zz_val q11), some (.int (Int32.ofInt p12)), some (.ref q13), some (.ref q14), some (.int (Int32.ofInt 2)), some (zz_val q16), some (.int (Int32.ofInt n17)), some (.int (Int32.ofInt n18)), some (.int (Int32.ofInt v19)), some (.int (Int32.ofInt v20)), some (.int (Int32.ofInt m21)), some (.int (Int32.ofInt z22)), some (.int (Int32.ofInt b23)), none], [.int (Int32.ofInt 1), .int (Int32.ofInt 2), .int (Int32.ofInt day), .int (Int32.ofInt (t : Int)), .ref 1], h19)) rfl ?_
  obtain ⟨g23, r23⟩ := qi_99 F C ht hd (k := 2) (i := 1) (by omega) (Or.inr rfl)
  obtain ⟨fs23, oo23⟩ := C.o
  refine yy_fin.cv (as := [.int (Int32.ofInt (t : Int)), .int (Int32.ofInt day), .int (Int32.ofInt 2), .int (Int32.ofInt 1)]) rfl rfl rfl oo23 (Nat.le_of_ble_eq_true rfl) (Nat.le_of_ble_eq_true rfl) r23 ?_
  rintro v h23 ⟨rfl, C, x23⟩
  replace H6 := H6.k x23
  replace H7 := H7.k x23
  replace Y := Y.tr x23 (fun _ _ e => e)
  replace hY := Y.1
  refine yy_fin.steps (n := 1) (s' := (969, [some (.ref 1), some (.ref w), some (.ref 0), some (.int (Int32.ofInt fr)), some (.int (Int32.ofInt (t : Int))), some (.int (Int32.ofInt day)), some (zz_val k6), some (zz_val k7), some (.int (Int32.ofInt p8)), some (.ref k9), some (.int (Int32.ofInt s)), some (zz_val q11), some (.int (Int32.ofInt p12)), some (.ref q13), some (.ref q14), some (.int (Int32.ofInt 2)), some (zz_val q16), some (.int (Int32.ofInt n17)), some (.int (Int32.ofInt n18)), some (.int (Int32.ofInt v19)), some (.int (Int32.ofInt v20)), some (.int (Int32.ofInt m21)), some (.int (Int32.ofInt z22)), some (.int (Int32.ofInt b23)), none], [zz_val k7, .int (Int32.ofInt (s_99 (g0 541) t day 2 1))], h23)) rfl ?_
  suffices J24 : ∀ v24 : Int, v24 = s_99 (g0 541) t day 2 1 → yy_fin X 279 (1000, [some (.ref 1), some (.ref w), some (.ref 0), some (.int (Int32.ofInt fr)), some (.int (Int32.ofInt (t : Int))), some (.int (Int32.ofInt day)), some (zz_val k6), some (zz_val k7), some (.int (Int32.ofInt p8)), some (.ref k9), some (.int (Int32.ofInt s)), some (zz_val q11), some (.int (Int32.ofInt p12)), some (.ref q13), some (.ref q14), some (.int (Int32.ofInt 2)), some (zz_val q16), some (.int (Int32.ofInt n17)), some (.int (Int32.ofInt n18)), some (.int (Int32.ofInt v19)), some (.int (Int32.ofInt v20)), some (.int (Int32.ofInt m21)), some (.int (Int32.ofInt z22)), some (.int (Int32.ofInt b23)), none], [.int (Int32.ofInt v24), .int (Int32.ofInt (s_99 (g0 541) t day 2 1))], h23) φ by
    rcases H7 with ⟨rfl, eo25⟩ | ⟨q25, u25, l25, rfl, eo25, R25⟩
    · refine yy_fin.steps (n := 3) (s' := (1000, [some (.ref 1), some (.ref w), some (.ref 0), some (.int (Int32.ofInt fr)), some (.int (Int32.ofInt (t : Int))), some (.int (Int32.ofInt day)), some (zz_val k6), some (.null), some (.int (Int32.ofInt p8)), some (.ref k9), some (.int (Int32.ofInt s)), some (zz_val q11), some (.int (Int32.ofInt p12)), some (.ref q13), some (.ref q14), some (.int (Int32.ofInt 2)), some (zz_val q16), some (.int (Int32.ofInt n17)), some (.int (Int32.ofInt n18)), some (.int (Int32.ofInt v19)), some (.int (Int32.ofInt v20)), some (.int (Int32.ofInt m21)), some (.int (Int32.ofInt z22)), some (.int (Int32.ofInt b23)), none], [.int (Int32.ofInt (-2)), .int (Int32.ofInt (s_99 (g0 541) t day 2 1))], h23)) rfl ?_
      exact J24 _ (by unfold s_99; rw [eo25])
    · have hb25 := hv_bnd2 F.2.2.2 ht eo25
      refine yy_fin.steps (n := 8) (s' := (986, [some (.ref 1), some (.ref w), some (.ref 0), some (.int (Int32.ofInt fr)), some (.int (Int32.ofInt (t : Int))), some (.int (Int32.ofInt day)), some (zz_val k6), some (.ref q25), some (.int (Int32.ofInt p8)), some (.ref k9), some (.int (Int32.ofInt s)), some (zz_val q11), some (.int (Int32.ofInt p12)), some (.ref q13), some (.ref q14), some (.int (Int32.ofInt 2)), some (zz_val q16), some (.int (Int32.ofInt n17)), some (.int (Int32.ofInt n18)), some (.int (Int32.ofInt v19)), some (.int (Int32.ofInt v20)), some (.int (Int32.ofInt m21)), some (.int (Int32.ofInt z22)), some (.int (Int32.ofInt b23)), none], [.int (((Int32.ofInt 3) * (Int32.ofInt 2)) + (Int32.ofInt 3)), .ref q25, .ref w, .int (Int32.ofInt (s_99 (g0 541) t day 2 1))], h23)) rfl ?_
      rw [yi_mul 3 2]
      rw [yi_add (3 * 2) 3]
      obtain ⟨fw26, oW26⟩ := C.ow
      refine yy_fin.cv (as := [.ref q25, .int (Int32.ofInt ((3 * 2) + 3))]) rfl rfl rfl oW26 (Nat.le_of_ble_eq_true rfl) (Nat.le_of_ble_eq_true rfl) (yc_hour F C R25 (hr := (3 * 2) + 3) (by omega) (by omega) (by omega)) ?_
      rintro v h9 ⟨rfl, e9⟩
      obtain rfl := e9.symm
      refine yy_fin.steps (n := 5) (s' := (996, [some (.ref 1), some (.ref w), some (.ref 0), some (.int (Int32.ofInt fr)), some (.int (Int32.ofInt (t : Int))), some (.int (Int32.ofInt day)), some (zz_val k6), some (.ref q25), some (.int (Int32.ofInt p8)), some (.ref k9), some (.int (Int32.ofInt s)), some (zz_val q11), some (.int (Int32.ofInt p12)), some (.ref q13), some (.ref q14), some (.int (Int32.ofInt 2)), some (zz_val q16), some (.int (Int32.ofInt n17)), some (.int (Int32.ofInt n18)), some (.int (Int32.ofInt v19)), some (.int (Int32.ofInt v20)), some (.int (Int32.ofInt m21)), some (.int (Int32.ofInt z22)), some (.int (Int32.ofInt b23)), none], [.int ((Int32.ofInt 3) * (Int32.ofInt 2)), .ref q25, .ref w, .int (Int32.ofInt (u25 + yk (g0 541 1).toInt (((3 * 2) + 3) * (g0 541 1).toInt) l25)), .int (Int32.ofInt (s_99 (g0 541) t day 2 1))], h23)) rfl ?_
      rw [yi_mul 3 2]
      obtain ⟨fw27, oW27⟩ := C.ow
      refine yy_fin.cv (as := [.ref q25, .int (Int32.ofInt (3 * 2))]) rfl rfl rfl oW27 (Nat.le_of_ble_eq_true rfl) (Nat.le_of_ble_eq_true rfl) (yc_hour F C R25 (hr := 3 * 2) (by omega) (by omega) (by omega)) ?_
      rintro v h9 ⟨rfl, e9⟩
      obtain rfl := e9.symm
      refine yy_fin.steps (n := 1) (s' := (1000, [some (.ref 1), some (.ref w), some (.ref 0), some (.int (Int32.ofInt fr)), some (.int (Int32.ofInt (t : Int))), some (.int (Int32.ofInt day)), some (zz_val k6), some (.ref q25), some (.int (Int32.ofInt p8)), some (.ref k9), some (.int (Int32.ofInt s)), some (zz_val q11), some (.int (Int32.ofInt p12)), some (.ref q13), some (.ref q14), some (.int (Int32.ofInt 2)), some (zz_val q16), some (.int (Int32.ofInt n17)), some (.int (Int32.ofInt n18)), some (.int (Int32.ofInt v19)), some (.int (Int32.ofInt v20)), some (.int (Int32.ofInt m21)), some (.int (Int32.ofInt z22)), some (.int (Int32.ofInt b23)), none], [.int ((Int32.ofInt (u25 + yk (g0 541 1).toInt (((3 * 2) + 3) * (g0 541 1).toInt) l25)) - (Int32.ofInt (u25 + yk (g0 541 1).toInt ((3 * 2) * (g0 541 1).toInt) l25))), .int (Int32.ofInt (s_99 (g0 541) t day 2 1))], h23)) rfl ?_
      rw [yi_sub (u25 + yk (g0 541 1).toInt (((3 * 2) + 3) * (g0 541 1).toInt) l25) (u25 + yk (g0 541 1).toInt ((3 * 2) * (g0 541 1).toInt) l25)]
      exact J24 _ (by unfold s_99; rw [eo25]; show u25 + yk (g0 541 1).toInt ((3 * 2 + 3) * (g0 541 1).toInt) l25 - (u25 + yk (g0 541 1).toInt ((3 * 2) * (g0 541 1).toInt) l25) = s_h (3 * 2 + 3) l25 - s_h (3 * 2) l25; rw [yk_h (q := (g0 541 1).toInt) (x := 3 * 2 + 3) (l := l25) hq.1 (by omega) (by omega), yk_h (q := (g0 541 1).toInt) (x := 3 * 2) (l := l25) hq.1 (by omega) (by omega)]; omega)
  intro v24 ev24
  refine yy_fin.ic rfl (fun _ => ?_) (fun cz => absurd (y_ceq (congrArg Int32.ofInt ev24.symm)) cz)
  refine yy_fin.steps (n := 4) (s' := (919, [some (.ref 1), some (.ref w), some (.ref 0), some (.int (Int32.ofInt fr)), some (.int (Int32.ofInt (t : Int))), some (.int (Int32.ofInt day)), some (zz_val k6), some (zz_val k7), some (.int (Int32.ofInt p8)), some (.ref k9), some (.int (Int32.ofInt s)), some (zz_val q11), some (.int (Int32.ofInt p12)), some (.ref q13), some (.ref q14), some (.int ((Int32.ofInt 2) + (Int32.ofInt 1))), some (zz_val q16), some (.int (Int32.ofInt n17)), some (.int (Int32.ofInt n18)), some (.int (Int32.ofInt v19)), some (.int (Int32.ofInt v20)), some (.int (Int32.ofInt m21)), some (.int (Int32.ofInt z22)), some (.int (Int32.ofInt b23)), none], [.int (Int32.ofInt 4), .int ((Int32.ofInt 2) + (Int32.ofInt 1))], h23)) rfl ?_
  rw [show (Int32.ofInt 2) + (Int32.ofInt 1) = Int32.ofInt 3 from by decide]
  refine yy_fin.ic rfl (fun cK => absurd cK (by decide)) (fun cK => ?_)
  refine yy_fin.steps (n := 5) (s' := (930, [some (.ref 1), some (.ref w), some (.ref 0), some (.int (Int32.ofInt fr)), some (.int (Int32.ofInt (t : Int))), some (.int (Int32.ofInt day)), some (zz_val k6), some (zz_val k7), some (.int (Int32.ofInt p8)), some (.ref k9), some (.int (Int32.ofInt s)), some (zz_val q11), some (.int (Int32.ofInt p12)), some (.ref q13), some (.ref q14), some (.int (Int32.ofInt 3)), some (zz_val q16), some (.int (Int32.ofInt n17)), some (.int (Int32.ofInt n18)), some (.int (Int32.ofInt v19)), some (.int (Int32.ofInt v20)), some (.int (Int32.ofInt m21)), some (.int (Int32.ofInt z22)), some (.int (Int32.ofInt b23)), none], [.int (Int32.ofInt 0), .int (Int32.ofInt 3), .int (Int32.ofInt day), .int (Int32.ofInt (t : Int)), .ref 1], h23)) rfl ?_
  obtain ⟨g28, r28⟩ := qi_99 F C ht hd (k := 3) (i := 0) (by omega) (Or.inl rfl)
  obtain ⟨fs28, oo28⟩ := C.o
  refine yy_fin.cv (as := [.int (Int32.ofInt (t : Int)), .int (Int32.ofInt day), .int (Int32.ofInt 3), .int (Int32.ofInt 0)]) rfl rfl rfl oo28 (Nat.le_of_ble_eq_true rfl) (Nat.le_of_ble_eq_true rfl) r28 ?_
  rintro v h28 ⟨rfl, C, x28⟩
  replace H6 := H6.k x28
  replace H7 := H7.k x28
  replace Y := Y.tr x28 (fun _ _ e => e)
  replace hY := Y.1
  refine yy_fin.steps (n := 1) (s' := (935, [some (.ref 1), some (.ref w), some (.ref 0), some (.int (Int32.ofInt fr)), some (.int (Int32.ofInt (t : Int))), some (.int (Int32.ofInt day)), some (zz_val k6), some (zz_val k7), some (.int (Int32.ofInt p8)), some (.ref k9), some (.int (Int32.ofInt s)), some (zz_val q11), some (.int (Int32.ofInt p12)), some (.ref q13), some (.ref q14), some (.int (Int32.ofInt 3)), some (zz_val q16), some (.int (Int32.ofInt n17)), some (.int (Int32.ofInt n18)), some (.int (Int32.ofInt v19)), some (.int (Int32.ofInt v20)), some (.int (Int32.ofInt m21)), some (.int (Int32.ofInt z22)), some (.int (Int32.ofInt b23)), none], [zz_val k7, .int (Int32.ofInt (s_99 (g0 541) t day 3 0))], h28)) rfl ?_
  suffices J29 : ∀ v29 : Int, v29 = s_99 (g0 541) t day 3 0 → yy_fin X 279 (953, [some (.ref 1), some (.ref w), some (.ref 0), some (.int (Int32.ofInt fr)), some (.int (Int32.ofInt (t : Int))), some (.int (Int32.ofInt day)), some (zz_val k6), some (zz_val k7), some (.int (Int32.ofInt p8)), some (.ref k9), some (.int (Int32.ofInt s)), some (zz_val q11), some (.int (Int32.ofInt p12)), some (.ref q13), some (.ref q14), some (.int (Int32.ofInt 3)), some (zz_val q16), some (.int (Int32.ofInt n17)), some (.int (Int32.ofInt n18)), some (.int (Int32.ofInt v19)), some (.int (Int32.ofInt v20)), some (.int (Int32.ofInt m21)), some (.int (Int32.ofInt z22)), some (.int (Int32.ofInt b23)), none], [.int (Int32.ofInt v29), .int (Int32.ofInt (s_99 (g0 541) t day 3 0))], h28) φ by
    rcases H7 with ⟨rfl, eo30⟩ | ⟨q30, u30, l30, rfl, eo30, R30⟩
    · refine yy_fin.steps (n := 3) (s' := (953, [some (.ref 1), some (.ref w), some (.ref 0), some (.int (Int32.ofInt fr)), some (.int (Int32.ofInt (t : Int))), some (.int (Int32.ofInt day)), some (zz_val k6), some (.null), some (.int (Int32.ofInt p8)), some (.ref k9), some (.int (Int32.ofInt s)), some (zz_val q11), some (.int (Int32.ofInt p12)), some (.ref q13), some (.ref q14), some (.int (Int32.ofInt 3)), some (zz_val q16), some (.int (Int32.ofInt n17)), some (.int (Int32.ofInt n18)), some (.int (Int32.ofInt v19)), some (.int (Int32.ofInt v20)), some (.int (Int32.ofInt m21)), some (.int (Int32.ofInt z22)), some (.int (Int32.ofInt b23)), none], [.int (Int32.ofInt (-2)), .int (Int32.ofInt (s_99 (g0 541) t day 3 0))], h28)) rfl ?_
      exact J29 _ (by unfold s_99; rw [eo30])
    · have hb30 := hv_bnd2 F.2.2.2 ht eo30
      refine yy_fin.steps (n := 6) (s' := (950, [some (.ref 1), some (.ref w), some (.ref 0), some (.int (Int32.ofInt fr)), some (.int (Int32.ofInt (t : Int))), some (.int (Int32.ofInt day)), some (zz_val k6), some (.ref q30), some (.int (Int32.ofInt p8)), some (.ref k9), some (.int (Int32.ofInt s)), some (zz_val q11), some (.int (Int32.ofInt p12)), some (.ref q13), some (.ref q14), some (.int (Int32.ofInt 3)), some (zz_val q16), some (.int (Int32.ofInt n17)), some (.int (Int32.ofInt n18)), some (.int (Int32.ofInt v19)), some (.int (Int32.ofInt v20)), some (.int (Int32.ofInt m21)), some (.int (Int32.ofInt z22)), some (.int (Int32.ofInt b23)), none], [.int ((Int32.ofInt 3) * (Int32.ofInt 3)), .ref q30, .ref w, .int (Int32.ofInt (s_99 (g0 541) t day 3 0))], h28)) rfl ?_
      rw [yi_mul 3 3]
      obtain ⟨fw31, oW31⟩ := C.ow
      refine yy_fin.cv (as := [.ref q30, .int (Int32.ofInt (3 * 3))]) rfl rfl rfl oW31 (Nat.le_of_ble_eq_true rfl) (Nat.le_of_ble_eq_true rfl) (yc_hour F C R30 (hr := 3 * 3) (by omega) (by omega) (by omega)) ?_
      rintro v h9 ⟨rfl, e9⟩
      obtain rfl := e9.symm
      exact J29 _ (by unfold s_99; rw [eo30]; show u30 + yk (g0 541 1).toInt ((3 * 3) * (g0 541 1).toInt) l30 = u30 + s_h (3 * 3) l30; rw [yk_h (q := (g0 541 1).toInt) (x := 3 * 3) (l := l30) hq.1 (by omega) (by omega)])
  intro v29 ev29
  refine yy_fin.ic rfl (fun cz => absurd (congrArg Int32.ofInt ev29.symm) (y_cne cz)) (fun _ => ?_)
  refine yy_fin.steps (n := 5) (s' := (964, [some (.ref 1), some (.ref w), some (.ref 0), some (.int (Int32.ofInt fr)), some (.int (Int32.ofInt (t : Int))), some (.int (Int32.ofInt day)), some (zz_val k6), some (zz_val k7), some (.int (Int32.ofInt p8)), some (.ref k9), some (.int (Int32.ofInt s)), some (zz_val q11), some (.int (Int32.ofInt p12)), some (.ref q13), some (.ref q14), some (.int (Int32.ofInt 3)), some (zz_val q16), some (.int (Int32.ofInt n17)), some (.int (Int32.ofInt n18)), some (.int (Int32.ofInt v19)), some (.int (Int32.ofInt v20)), some (.int (Int32.ofInt m21)), some (.int (Int32.ofInt z22)), some (.int (Int32.ofInt b23)), none], [.int (Int32.ofInt 1), .int (Int32.ofInt 3), .int (Int32.ofInt day), .int (Int32.ofInt (t : Int)), .ref 1], h28)) rfl ?_
  obtain ⟨g32, r32⟩ := qi_99 F C ht hd (k := 3) (i := 1) (by omega) (Or.inr rfl)
  obtain ⟨fs32, oo32⟩ := C.o
  refine yy_fin.cv (as := [.int (Int32.ofInt (t : Int)), .int (Int32.ofInt day), .int (Int32.ofInt 3), .int (Int32.ofInt 1)]) rfl rfl rfl oo32 (Nat.le_of_ble_eq_true rfl) (Nat.le_of_ble_eq_true rfl) r32 ?_
  rintro v h32 ⟨rfl, C, x32⟩
  replace H6 := H6.k x32
  replace H7 := H7.k x32
  replace Y := Y.tr x32 (fun _ _ e => e)
  replace hY := Y.1
  refine yy_fin.steps (n := 1) (s' := (969, [some (.ref 1), some (.ref w), some (.ref 0), some (.int (Int32.ofInt fr)), some (.int (Int32.ofInt (t : Int))), some (.int (Int32.ofInt day)), some (zz_val k6), some (zz_val k7), some (.int (Int32.ofInt p8)), some (.ref k9), some (.int (Int32.ofInt s)), some (zz_val q11), some (.int (Int32.ofInt p12)), some (.ref q13), some (.ref q14), some (.int (Int32.ofInt 3)), some (zz_val q16), some (.int (Int32.ofInt n17)), some (.int (Int32.ofInt n18)), some (.int (Int32.ofInt v19)), some (.int (Int32.ofInt v20)), some (.int (Int32.ofInt m21)), some (.int (Int32.ofInt z22)), some (.int (Int32.ofInt b23)), none], [zz_val k7, .int (Int32.ofInt (s_99 (g0 541) t day 3 1))], h32)) rfl ?_
  suffices J33 : ∀ v33 : Int, v33 = s_99 (g0 541) t day 3 1 → yy_fin X 279 (1000, [some (.ref 1), some (.ref w), some (.ref 0), some (.int (Int32.ofInt fr)), some (.int (Int32.ofInt (t : Int))), some (.int (Int32.ofInt day)), some (zz_val k6), some (zz_val k7), some (.int (Int32.ofInt p8)), some (.ref k9), some (.int (Int32.ofInt s)), some (zz_val q11), some (.int (Int32.ofInt p12)), some (.ref q13), some (.ref q14), some (.int (Int32.ofInt 3)), some (zz_val q16), some (.int (Int32.ofInt n17)), some (.int (Int32.ofInt n18)), some (.int (Int32.ofInt v19)), some (.int (Int32.ofInt v20)), some (.int (Int32.ofInt m21)), some (.int (Int32.ofInt z22)), some (.int (Int32.ofInt b23)), none], [.int (Int32.ofInt v33), .int (Int32.ofInt (s_99 (g0 541) t day 3 1))], h32) φ by
    rcases H7 with ⟨rfl, eo34⟩ | ⟨q34, u34, l34, rfl, eo34, R34⟩
    · refine yy_fin.steps (n := 3) (s' := (1000, [some (.ref 1), some (.ref w), some (.ref 0), some (.int (Int32.ofInt fr)), some (.int (Int32.ofInt (t : Int))), some (.int (Int32.ofInt day)), some (zz_val k6), some (.null), some (.int (Int32.ofInt p8)), some (.ref k9), some (.int (Int32.ofInt s)), some (zz_val q11), some (.int (Int32.ofInt p12)), some (.ref q13), some (.ref q14), some (.int (Int32.ofInt 3)), some (zz_val q16), some (.int (Int32.ofInt n17)), some (.int (Int32.ofInt n18)), some (.int (Int32.ofInt v19)), some (.int (Int32.ofInt v20)), some (.int (Int32.ofInt m21)), some (.int (Int32.ofInt z22)), some (.int (Int32.ofInt b23)), none], [.int (Int32.ofInt (-2)), .int (Int32.ofInt (s_99 (g0 541) t day 3 1))], h32)) rfl ?_
      exact J33 _ (by unfold s_99; rw [eo34])
    · have hb34 := hv_bnd2 F.2.2.2 ht eo34
      refine yy_fin.steps (n := 8) (s' := (986, [some (.ref 1), some (.ref w), some (.ref 0), some (.int (Int32.ofInt fr)), some (.int (Int32.ofInt (t : Int))), some (.int (Int32.ofInt day)), some (zz_val k6), some (.ref q34), some (.int (Int32.ofInt p8)), some (.ref k9), some (.int (Int32.ofInt s)), some (zz_val q11), some (.int (Int32.ofInt p12)), some (.ref q13), some (.ref q14), some (.int (Int32.ofInt 3)), some (zz_val q16), some (.int (Int32.ofInt n17)), some (.int (Int32.ofInt n18)), some (.int (Int32.ofInt v19)), some (.int (Int32.ofInt v20)), some (.int (Int32.ofInt m21)), some (.int (Int32.ofInt z22)), some (.int (Int32.ofInt b23)), none], [.int (((Int32.ofInt 3) * (Int32.ofInt 3)) + (Int32.ofInt 3)), .ref q34, .ref w, .int (Int32.ofInt (s_99 (g0 541) t day 3 1))], h32)) rfl ?_
      rw [yi_mul 3 3]
      rw [yi_add (3 * 3) 3]
      obtain ⟨fw35, oW35⟩ := C.ow
      refine yy_fin.cv (as := [.ref q34, .int (Int32.ofInt ((3 * 3) + 3))]) rfl rfl rfl oW35 (Nat.le_of_ble_eq_true rfl) (Nat.le_of_ble_eq_true rfl) (yc_hour F C R34 (hr := (3 * 3) + 3) (by omega) (by omega) (by omega)) ?_
      rintro v h9 ⟨rfl, e9⟩
      obtain rfl := e9.symm
      refine yy_fin.steps (n := 5) (s' := (996, [some (.ref 1), some (.ref w), some (.ref 0), some (.int (Int32.ofInt fr)), some (.int (Int32.ofInt (t : Int))), some (.int (Int32.ofInt day)), some (zz_val k6), some (.ref q34), some (.int (Int32.ofInt p8)), some (.ref k9), some (.int (Int32.ofInt s)), some (zz_val q11), some (.int (Int32.ofInt p12)), some (.ref q13), some (.ref q14), some (.int (Int32.ofInt 3)), some (zz_val q16), some (.int (Int32.ofInt n17)), some (.int (Int32.ofInt n18)), some (.int (Int32.ofInt v19)), some (.int (Int32.ofInt v20)), some (.int (Int32.ofInt m21)), some (.int (Int32.ofInt z22)), some (.int (Int32.ofInt b23)), none], [.int ((Int32.ofInt 3) * (Int32.ofInt 3)), .ref q34, .ref w, .int (Int32.ofInt (u34 + yk (g0 541 1).toInt (((3 * 3) + 3) * (g0 541 1).toInt) l34)), .int (Int32.ofInt (s_99 (g0 541) t day 3 1))], h32)) rfl ?_
      rw [yi_mul 3 3]
      obtain ⟨fw36, oW36⟩ := C.ow
      refine yy_fin.cv (as := [.ref q34, .int (Int32.ofInt (3 * 3))]) rfl rfl rfl oW36 (Nat.le_of_ble_eq_true rfl) (Nat.le_of_ble_eq_true rfl) (yc_hour F C R34 (hr := 3 * 3) (by omega) (by omega) (by omega)) ?_
      rintro v h9 ⟨rfl, e9⟩
      obtain rfl := e9.symm
      refine yy_fin.steps (n := 1) (s' := (1000, [some (.ref 1), some (.ref w), some (.ref 0), some (.int (Int32.ofInt fr)), some (.int (Int32.ofInt (t : Int))), some (.int (Int32.ofInt day)), some (zz_val k6), some (.ref q34), some (.int (Int32.ofInt p8)), some (.ref k9), some (.int (Int32.ofInt s)), some (zz_val q11), some (.int (Int32.ofInt p12)), some (.ref q13), some (.ref q14), some (.int (Int32.ofInt 3)), some (zz_val q16), some (.int (Int32.ofInt n17)), some (.int (Int32.ofInt n18)), some (.int (Int32.ofInt v19)), some (.int (Int32.ofInt v20)), some (.int (Int32.ofInt m21)), some (.int (Int32.ofInt z22)), some (.int (Int32.ofInt b23)), none], [.int ((Int32.ofInt (u34 + yk (g0 541 1).toInt (((3 * 3) + 3) * (g0 541 1).toInt) l34)) - (Int32.ofInt (u34 + yk (g0 541 1).toInt ((3 * 3) * (g0 541 1).toInt) l34))), .int (Int32.ofInt (s_99 (g0 541) t day 3 1))], h32)) rfl ?_
      rw [yi_sub (u34 + yk (g0 541 1).toInt (((3 * 3) + 3) * (g0 541 1).toInt) l34) (u34 + yk (g0 541 1).toInt ((3 * 3) * (g0 541 1).toInt) l34)]
      exact J33 _ (by unfold s_99; rw [eo34]; show u34 + yk (g0 541 1).toInt ((3 * 3 + 3) * (g0 541 1).toInt) l34 - (u34 + yk (g0 541 1).toInt ((3 * 3) * (g0 541 1).toInt) l34) = s_h (3 * 3 + 3) l34 - s_h (3 * 3) l34; rw [yk_h (q := (g0 541 1).toInt) (x := 3 * 3 + 3) (l := l34) hq.1 (by omega) (by omega), yk_h (q := (g0 541 1).toInt) (x := 3 * 3) (l := l34) hq.1 (by omega) (by omega)]; omega)
  intro v33 ev33
  refine yy_fin.ic rfl (fun _ => ?_) (fun cz => absurd (y_ceq (congrArg Int32.ofInt ev33.symm)) cz)
  refine yy_fin.steps (n := 4) (s' := (919, [some (.ref 1), some (.ref w), some (.ref 0), some (.int (Int32.ofInt fr)), some (.int (Int32.ofInt (t : Int))), some (.int (Int32.ofInt day)), some (zz_val k6), some (zz_val k7), some (.int (Int32.ofInt p8)), some (.ref k9), some (.int (Int32.ofInt s)), some (zz_val q11), some (.int (Int32.ofInt p12)), some (.ref q13), some (.ref q14), some (.int ((Int32.ofInt 3) + (Int32.ofInt 1))), some (zz_val q16), some (.int (Int32.ofInt n17)), some (.int (Int32.ofInt n18)), some (.int (Int32.ofInt v19)), some (.int (Int32.ofInt v20)), some (.int (Int32.ofInt m21)), some (.int (Int32.ofInt z22)), some (.int (Int32.ofInt b23)), none], [.int (Int32.ofInt 4), .int ((Int32.ofInt 3) + (Int32.ofInt 1))], h32)) rfl ?_
  rw [show (Int32.ofInt 3) + (Int32.ofInt 1) = Int32.ofInt 4 from by decide]
  refine yy_fin.ic rfl (fun cK => ?_) (fun cK => absurd (by decide) cK)
  exact kk _ _ _ C (Y.le (by omega) (by omega)) H6
theorem y_ppq {q l s : Int} (hq : 1 ≤ q ∧ q ≤ 3600) (hl : 1 ≤ l) (hs : 0 ≤ s ∧ s ≤ l) : s * 12 * q / l / q = s * 12 / l := by
  rw [Int.ediv_ediv_of_nonneg (by omega)]
  have e : s * 12 * q / (l * q) = s * 12 / l := Int.mul_ediv_mul_of_pos_left _ _ (by omega)
  exact e
theorem yl_d7 (F : yCf own w lst g0) (ht : (t : Int) < (g0 541 0).toInt) (hd : 0 ≤ day ∧ day ≤ 35999) (hX : X.1 = some (L, xs)) (hL : L ≤ 100000) (hfr : 0 ≤ fr ∧ fr ≤ 900000) (hs : 0 ≤ s ∧ s ≤ 86399) (C : yCx own w lst g0 h g) (hB : h.1.1 + 200 < yy_B) {k6 k7 : Option Nat} (H6 : yHr h w k6 (hv_t (g0 541) t day 0)) {p8 p12 : Int} {k9 q13 q14 q15 q16 : Nat} {q11 : Option Nat} {n17 n18 v19 v20 m21 z22 b23 : Int} (kk : ∀ h' g', yCx own w lst g0 h' g' → yx (yAk w) 20 60 h h' → φ (some (.int (Int32.ofInt 1))) h') : yy_fin X 279 (1345, [some (.ref 1), some (.ref w), some (.ref 0), some (.int (Int32.ofInt fr)), some (.int (Int32.ofInt (t : Int))), some (.int (Int32.ofInt day)), some (zz_val k6), some (zz_val k7), some (.int (Int32.ofInt p8)), some (.ref k9), some (.int (Int32.ofInt s)), some (zz_val q11), some (.int (Int32.ofInt p12)), some (.ref q13), some (.ref q14), some (.ref q15), some (.ref q16), some (.int (Int32.ofInt n17)), some (.int (Int32.ofInt n18)), some (.int (Int32.ofInt v19)), some (.int (Int32.ofInt v20)), some (.int (Int32.ofInt m21)), some (.int (Int32.ofInt z22)), some (.int (Int32.ofInt b23)), none], [], h) φ := by
  have n4 := F.2.2.2.1
  have hq := F.2.2.2.2.1
  have Y : yx (yAk w) 0 0 h h := yx.rf
  have hY := Y.1
  have hg := C.2.1.2
  refine yy_fin.steps (n := 4) (s' := (1350, [some (.ref 1), some (.ref w), some (.ref 0), some (.int (Int32.ofInt fr)), some (.int (Int32.ofInt (t : Int))), some (.int (Int32.ofInt day)), some (zz_val k6), some (zz_val k7), some (.int (Int32.ofInt p8)), some (.ref k9), some (.int (Int32.ofInt s)), some (zz_val q11), some (.int (Int32.ofInt p12)), some (.ref q13), some (.ref q14), some (.ref q15), some (.ref q16), some (.int (Int32.ofInt n17)), some (.int (Int32.ofInt n18)), some (.int (Int32.ofInt v19)), some (.int (Int32.ofInt v20)), some (.int (Int32.ofInt m21)), some (.int (Int32.ofInt z22)), some (.int (Int32.ofInt b23)), none], [.int ((Int32.ofInt fr) + (Int32.ofInt 6)), .ref 0], h)) rfl ?_
  rw [yi_add fr 6]
  refine yy_fin.calls (as := [.ref 0, .int (Int32.ofInt (fr + 6))]) rfl (by decide) rfl rfl (Nat.le_of_ble_eq_true rfl) (Nat.le_of_ble_eq_true rfl) (yl_pick hX hL (k := fr + 6) (by omega)) ?_
  rintro v h9 ⟨y21, rfl, ay21, by21, e9⟩
  obtain rfl := e9.symm
  refine yy_fin.steps (n := 1) (s' := (1356, [some (.ref 1), some (.ref w), some (.ref 0), some (.int (Int32.ofInt fr)), some (.int (Int32.ofInt (t : Int))), some (.int (Int32.ofInt day)), some (zz_val k6), some (zz_val k7), some (.int (Int32.ofInt p8)), some (.ref k9), some (.int (Int32.ofInt s)), some (zz_val q11), some (.int (Int32.ofInt p12)), some (.ref q13), some (.ref q14), some (.ref q15), some (.ref q16), some (.int (Int32.ofInt n17)), some (.int (Int32.ofInt n18)), some (.int (Int32.ofInt v19)), some (.int (Int32.ofInt v20)), some (.int (Int32.ofInt m21)), some (.int (Int32.ofInt z22)), some (.int (Int32.ofInt b23)), none], [.int (Int32.ofInt 720), .int (Int32.ofInt y21)], h)) rfl ?_
  refine yy_fin.rm rfl (by decide) ?_
  rw [yi_rem (a := y21) (b := 720) (by omega) (by omega)]
  obtain ⟨o, eo⟩ : ∃ z, z = y21 % 720 := ⟨_, rfl⟩
  rw [← eo]
  have ho : 0 ≤ o ∧ o ≤ 719 := by omega
  refine yy_fin.steps (n := 5) (s' := (1365, [some (.ref 1), some (.ref w), some (.ref 0), some (.int (Int32.ofInt fr)), some (.int (Int32.ofInt (t : Int))), some (.int (Int32.ofInt day)), some (zz_val k6), some (zz_val k7), some (.int (Int32.ofInt p8)), some (.ref k9), some (.int (Int32.ofInt s)), some (zz_val q11), some (.int (Int32.ofInt p12)), some (.ref q13), some (.ref q14), some (.ref q15), some (.ref q16), some (.int (Int32.ofInt n17)), some (.int (Int32.ofInt n18)), some (.int (Int32.ofInt v19)), some (.int (Int32.ofInt v20)), some (.int (Int32.ofInt o)), some (.int (Int32.ofInt z22)), some (.int (Int32.ofInt b23)), none], [.int (Int32.ofInt 0), .int (Int32.ofInt o), .int (Int32.ofInt (t : Int)), .ref w], h)) rfl ?_
  obtain ⟨fw1, oW1⟩ := C.ow
  refine yy_fin.cv (as := [.int (Int32.ofInt (t : Int)), .int (Int32.ofInt o), .int (Int32.ofInt 0)]) rfl rfl rfl oW1 (Nat.le_of_ble_eq_true rfl) (Nat.le_of_ble_eq_true rfl) (yc_half F C ht (day := o) (half := 0) (by omega) (Or.inl rfl) (by omega)) ?_
  rintro v h1 ⟨C, x1, z1⟩
  replace H6 := H6.k x1
  replace Y := Y.tr x1 (fun _ _ e => e)
  replace hY := Y.1
  have H22 : ∃ q, v = some (zz_val q) ∧ yHr h1 w q (hv_t (g0 541) t o 0) := by
    cases eo : hv_t (g0 541) t o 0 with
    | none => rw [eo] at z1; exact ⟨none, z1, Or.inl ⟨rfl, rfl⟩⟩
    | some p => obtain ⟨u, l⟩ := p; rw [eo] at z1; obtain ⟨q, z1, z2⟩ := z1; exact ⟨some q, z1, Or.inr ⟨q, u, l, rfl, rfl, z2⟩⟩
  obtain ⟨k22, rfl, H22⟩ := H22
  refine yy_fin.steps (n := 2) (s' := (1372, [some (.ref 1), some (.ref w), some (.ref 0), some (.int (Int32.ofInt fr)), some (.int (Int32.ofInt (t : Int))), some (.int (Int32.ofInt day)), some (zz_val k6), some (zz_val k7), some (.int (Int32.ofInt p8)), some (.ref k9), some (.int (Int32.ofInt s)), some (zz_val q11), some (.int (Int32.ofInt p12)), some (.ref q13), some (.ref q14), some (.ref q15), some (.ref q16), some (.int (Int32.ofInt n17)), some (.int (Int32.ofInt n18)), some (.int (Int32.ofInt v19)), some (.int (Int32.ofInt v20)), some (.int (Int32.ofInt o)), some (zz_val k22), some (.int (Int32.ofInt b23)), none], [zz_val k6], h1)) rfl ?_
  suffices J2 : ∀ v2 : Int, ((v2 = 1 ∧ (hv_t (g0 541) t day 0 = none ∨ hv_t (g0 541) t o 0 = none ∨ ∃ u2 l2, hv_t (g0 541) t o 0 = some (u2, l2) ∧ ¬ (u2 ≤ s ∧ s < u2 + l2))) ∨ (v2 = 0 ∧ ∃ q6 u l q2 u2 l2, k6 = some q6 ∧ k22 = some q2 ∧ hv_t (g0 541) t day 0 = some (u, l) ∧ hv_t (g0 541) t o 0 = some (u2, l2) ∧ (u2 ≤ s ∧ s < u2 + l2))) → yy_fin X 279 (1403, [some (.ref 1), some (.ref w), some (.ref 0), some (.int (Int32.ofInt fr)), some (.int (Int32.ofInt (t : Int))), some (.int (Int32.ofInt day)), some (zz_val k6), some (zz_val k7), some (.int (Int32.ofInt p8)), some (.ref k9), some (.int (Int32.ofInt s)), some (zz_val q11), some (.int (Int32.ofInt p12)), some (.ref q13), some (.ref q14), some (.ref q15), some (.ref q16), some (.int (Int32.ofInt n17)), some (.int (Int32.ofInt n18)), some (.int (Int32.ofInt v19)), some (.int (Int32.ofInt v20)), some (.int (Int32.ofInt o)), some (zz_val k22), some (.int (Int32.ofInt b23)), none], [.int (Int32.ofInt v2)], h1) φ by
    rcases H6 with ⟨rfl, eo3⟩ | ⟨q3, u3, l3, rfl, eo3, R3⟩
    · refine yy_fin.steps (n := 3) (s' := (1403, [some (.ref 1), some (.ref w), some (.ref 0), some (.int (Int32.ofInt fr)), some (.int (Int32.ofInt (t : Int))), some (.int (Int32.ofInt day)), some (.null), some (zz_val k7), some (.int (Int32.ofInt p8)), some (.ref k9), some (.int (Int32.ofInt s)), some (zz_val q11), some (.int (Int32.ofInt p12)), some (.ref q13), some (.ref q14), some (.ref q15), some (.ref q16), some (.int (Int32.ofInt n17)), some (.int (Int32.ofInt n18)), some (.int (Int32.ofInt v19)), some (.int (Int32.ofInt v20)), some (.int (Int32.ofInt o)), some (zz_val k22), some (.int (Int32.ofInt b23)), none], [.int (Int32.ofInt 1)], h1)) rfl ?_
      exact J2 _ (Or.inl ⟨rfl, Or.inl eo3⟩)
    · have hb3 := hv_bnd2 F.2.2.2 ht eo3
      refine yy_fin.steps (n := 2) (s' := (1377, [some (.ref 1), some (.ref w), some (.ref 0), some (.int (Int32.ofInt fr)), some (.int (Int32.ofInt (t : Int))), some (.int (Int32.ofInt day)), some (.ref q3), some (zz_val k7), some (.int (Int32.ofInt p8)), some (.ref k9), some (.int (Int32.ofInt s)), some (zz_val q11), some (.int (Int32.ofInt p12)), some (.ref q13), some (.ref q14), some (.ref q15), some (.ref q16), some (.int (Int32.ofInt n17)), some (.int (Int32.ofInt n18)), some (.int (Int32.ofInt v19)), some (.int (Int32.ofInt v20)), some (.int (Int32.ofInt o)), some (zz_val k22), some (.int (Int32.ofInt b23)), none], [zz_val k22], h1)) rfl ?_
      rcases H22 with ⟨rfl, eo4⟩ | ⟨q4, u4, l4, rfl, eo4, R4⟩
      · refine yy_fin.steps (n := 3) (s' := (1403, [some (.ref 1), some (.ref w), some (.ref 0), some (.int (Int32.ofInt fr)), some (.int (Int32.ofInt (t : Int))), some (.int (Int32.ofInt day)), some (.ref q3), some (zz_val k7), some (.int (Int32.ofInt p8)), some (.ref k9), some (.int (Int32.ofInt s)), some (zz_val q11), some (.int (Int32.ofInt p12)), some (.ref q13), some (.ref q14), some (.ref q15), some (.ref q16), some (.int (Int32.ofInt n17)), some (.int (Int32.ofInt n18)), some (.int (Int32.ofInt v19)), some (.int (Int32.ofInt v20)), some (.int (Int32.ofInt o)), some (.null), some (.int (Int32.ofInt b23)), none], [.int (Int32.ofInt 1)], h1)) rfl ?_
        exact J2 _ (Or.inl ⟨rfl, Or.inr (Or.inl eo4)⟩)
      · have hb4 := hv_bnd2 F.2.2.2 ht eo4
        refine yy_fin.steps (n := 4) (s' := (1385, [some (.ref 1), some (.ref w), some (.ref 0), some (.int (Int32.ofInt fr)), some (.int (Int32.ofInt (t : Int))), some (.int (Int32.ofInt day)), some (.ref q3), some (zz_val k7), some (.int (Int32.ofInt p8)), some (.ref k9), some (.int (Int32.ofInt s)), some (zz_val q11), some (.int (Int32.ofInt p12)), some (.ref q13), some (.ref q14), some (.ref q15), some (.ref q16), some (.int (Int32.ofInt n17)), some (.int (Int32.ofInt n18)), some (.int (Int32.ofInt v19)), some (.int (Int32.ofInt v20)), some (.int (Int32.ofInt o)), some (.ref q4), some (.int (Int32.ofInt b23)), none], [.int (Int32.ofInt 0), .ref q4, .int (Int32.ofInt s)], h1)) rfl ?_
        refine yy_fin.lp (j := 0) rfl R4.2 (by decide) (by decide) rfl ?_
        refine yy_fin.ic rfl (fun c5 => ?_) (fun c5 => ?_)
        · have c5 := (yi_c_lt (a := s) (b := u4) (by omega) (by omega)).mp c5
          refine yy_fin.steps (n := 2) (s' := (1403, [some (.ref 1), some (.ref w), some (.ref 0), some (.int (Int32.ofInt fr)), some (.int (Int32.ofInt (t : Int))), some (.int (Int32.ofInt day)), some (.ref q3), some (zz_val k7), some (.int (Int32.ofInt p8)), some (.ref k9), some (.int (Int32.ofInt s)), some (zz_val q11), some (.int (Int32.ofInt p12)), some (.ref q13), some (.ref q14), some (.ref q15), some (.ref q16), some (.int (Int32.ofInt n17)), some (.int (Int32.ofInt n18)), some (.int (Int32.ofInt v19)), some (.int (Int32.ofInt v20)), some (.int (Int32.ofInt o)), some (.ref q4), some (.int (Int32.ofInt b23)), none], [.int (Int32.ofInt 1)], h1)) rfl ?_
          exact J2 _ (Or.inl ⟨rfl, Or.inr (Or.inr ⟨_, _, eo4, by omega⟩)⟩)
        · have c5 := mt (yi_c_lt (a := s) (b := u4) (by omega) (by omega)).mpr c5
          refine yy_fin.steps (n := 3) (s' := (1394, [some (.ref 1), some (.ref w), some (.ref 0), some (.int (Int32.ofInt fr)), some (.int (Int32.ofInt (t : Int))), some (.int (Int32.ofInt day)), some (.ref q3), some (zz_val k7), some (.int (Int32.ofInt p8)), some (.ref k9), some (.int (Int32.ofInt s)), some (zz_val q11), some (.int (Int32.ofInt p12)), some (.ref q13), some (.ref q14), some (.ref q15), some (.ref q16), some (.int (Int32.ofInt n17)), some (.int (Int32.ofInt n18)), some (.int (Int32.ofInt v19)), some (.int (Int32.ofInt v20)), some (.int (Int32.ofInt o)), some (.ref q4), some (.int (Int32.ofInt b23)), none], [.int (Int32.ofInt 1), .ref q4, .int (Int32.ofInt s)], h1)) rfl ?_
          refine yy_fin.lp (j := 1) rfl R4.2 (by decide) (by decide) rfl ?_
          refine yy_fin.ic rfl (fun c6 => ?_) (fun c6 => ?_)
          · have c6 := (yi_c_lt (a := s) (b := u4 + l4) (by omega) (by omega)).mp c6
            refine yy_fin.steps (n := 1) (s' := (1403, [some (.ref 1), some (.ref w), some (.ref 0), some (.int (Int32.ofInt fr)), some (.int (Int32.ofInt (t : Int))), some (.int (Int32.ofInt day)), some (.ref q3), some (zz_val k7), some (.int (Int32.ofInt p8)), some (.ref k9), some (.int (Int32.ofInt s)), some (zz_val q11), some (.int (Int32.ofInt p12)), some (.ref q13), some (.ref q14), some (.ref q15), some (.ref q16), some (.int (Int32.ofInt n17)), some (.int (Int32.ofInt n18)), some (.int (Int32.ofInt v19)), some (.int (Int32.ofInt v20)), some (.int (Int32.ofInt o)), some (.ref q4), some (.int (Int32.ofInt b23)), none], [.int (Int32.ofInt 0)], h1)) rfl ?_
            exact J2 _ (Or.inr ⟨rfl, _, _, _, _, _, _, rfl, rfl, eo3, eo4, by omega⟩)
          · have c6 := mt (yi_c_lt (a := s) (b := u4 + l4) (by omega) (by omega)).mpr c6
            refine yy_fin.steps (n := 2) (s' := (1403, [some (.ref 1), some (.ref w), some (.ref 0), some (.int (Int32.ofInt fr)), some (.int (Int32.ofInt (t : Int))), some (.int (Int32.ofInt day)), some (.ref q3), some (zz_val k7), some (.int (Int32.ofInt p8)), some (.ref k9), some (.int (Int32.ofInt s)), some (zz_val q11), some (.int (Int32.ofInt p12)), some (.ref q13), some (.ref q14), some (.ref q15), some (.ref q16), some (.int (Int32.ofInt n17)), some (.int (Int32.ofInt n18)), some (.int (Int32.ofInt v19)), some (.int (Int32.ofInt v20)), some (.int (Int32.ofInt o)), some (.ref q4), some (.int (Int32.ofInt b23)), none], [.int (Int32.ofInt 1)], h1)) rfl ?_
            exact J2 _ (Or.inl ⟨rfl, Or.inr (Or.inr ⟨_, _, eo4, by omega⟩)⟩)
  intro v2 no2
  rcases no2 with ⟨rfl, no⟩ | ⟨rfl, q6, u, l, q2, u2, l2, rfl, rfl, e6, e2, hu⟩
  · have s0 : ∀ k, s_21 (g0 541) t day o s k = -100 := fun k => by
      unfold s_21
      rcases no with e | e | ⟨u2, l2, e, hu⟩
      · rw [e]
      · rw [e]; cases hv_t (g0 541) t day 0 <;> rfl
      · rw [e]; cases hv_t (g0 541) t day 0 with
        | none => rfl
        | some p => exact if_pos hu
    refine yy_fin.steps (n := 2) (s' := (1407, [some (.ref 1), some (.ref w), some (.ref 0), some (.int (Int32.ofInt fr)), some (.int (Int32.ofInt (t : Int))), some (.int (Int32.ofInt day)), some (zz_val k6), some (zz_val k7), some (.int (Int32.ofInt p8)), some (.ref k9), some (.int (Int32.ofInt s)), some (zz_val q11), some (.int (Int32.ofInt p12)), some (.ref q13), some (.ref q14), some (.ref q15), some (.ref q16), some (.int (Int32.ofInt n17)), some (.int (Int32.ofInt n18)), some (.int (Int32.ofInt v19)), some (.int (Int32.ofInt v20)), some (.int (Int32.ofInt o)), some (zz_val k22), some (.int (Int32.ofInt 1)), none], [.int (Int32.ofInt 1)], h1)) rfl ?_
    refine yy_fin.if rfl (fun cK => absurd cK (by decide)) (fun cK => ?_)
    refine yy_fin.steps (n := 9) (s' := (1452, [some (.ref 1), some (.ref w), some (.ref 0), some (.int (Int32.ofInt fr)), some (.int (Int32.ofInt (t : Int))), some (.int (Int32.ofInt day)), some (zz_val k6), some (zz_val k7), some (.int (Int32.ofInt p8)), some (.ref k9), some (.int (Int32.ofInt s)), some (zz_val q11), some (.int (Int32.ofInt p12)), some (.ref q13), some (.ref q14), some (.ref q15), some (.ref q16), some (.int (Int32.ofInt n17)), some (.int (Int32.ofInt n18)), some (.int (Int32.ofInt v19)), some (.int (Int32.ofInt v20)), some (.int (Int32.ofInt o)), some (zz_val k22), some (.int (Int32.ofInt 1)), some (.int (Int32.ofInt (-100)))], [.int (Int32.ofInt 0), .int (Int32.ofInt s), .int (Int32.ofInt o), .int (Int32.ofInt day), .int (Int32.ofInt (t : Int)), .ref 1], h1)) rfl ?_
    obtain ⟨g7, r7⟩ := qi_120 F C ht hd (d2 := o) (s := s) (k := 0) (by omega) hs (Or.inl rfl)
    obtain ⟨fs7, oo7⟩ := C.o
    refine yy_fin.cv (as := [.int (Int32.ofInt (t : Int)), .int (Int32.ofInt day), .int (Int32.ofInt o), .int (Int32.ofInt s), .int (Int32.ofInt 0)]) rfl rfl rfl oo7 (Nat.le_of_ble_eq_true rfl) (Nat.le_of_ble_eq_true rfl) r7 ?_
    rintro v h7 ⟨rfl, C, x7⟩
    replace H6 := H6.k x7
    replace H22 := H22.k x7
    replace Y := Y.tr x7 (fun _ _ e => e)
    replace hY := Y.1
    refine yy_fin.steps (n := 1) (s' := (1457, [some (.ref 1), some (.ref w), some (.ref 0), some (.int (Int32.ofInt fr)), some (.int (Int32.ofInt (t : Int))), some (.int (Int32.ofInt day)), some (zz_val k6), some (zz_val k7), some (.int (Int32.ofInt p8)), some (.ref k9), some (.int (Int32.ofInt s)), some (zz_val q11), some (.int (Int32.ofInt p12)), some (.ref q13), some (.ref q14), some (.ref q15), some (.ref q16), some (.int (Int32.ofInt n17)), some (.int (Int32.ofInt n18)), some (.int (Int32.ofInt v19)), some (.int (Int32.ofInt v20)), some (.int (Int32.ofInt o)), some (zz_val k22), some (.int (Int32.ofInt 1)), some (.int (Int32.ofInt (-100)))], [.int (Int32.ofInt (-100)), .int (Int32.ofInt (s_21 (g0 541) t day o s 0))], h7)) rfl ?_
    refine yy_fin.ic rfl (fun cz => absurd (congrArg Int32.ofInt (s0 0)) (y_cne cz)) (fun _ => ?_)
    refine yy_fin.steps (n := 6) (s' := (1470, [some (.ref 1), some (.ref w), some (.ref 0), some (.int (Int32.ofInt fr)), some (.int (Int32.ofInt (t : Int))), some (.int (Int32.ofInt day)), some (zz_val k6), some (zz_val k7), some (.int (Int32.ofInt p8)), some (.ref k9), some (.int (Int32.ofInt s)), some (zz_val q11), some (.int (Int32.ofInt p12)), some (.ref q13), some (.ref q14), some (.ref q15), some (.ref q16), some (.int (Int32.ofInt n17)), some (.int (Int32.ofInt n18)), some (.int (Int32.ofInt v19)), some (.int (Int32.ofInt v20)), some (.int (Int32.ofInt o)), some (zz_val k22), some (.int (Int32.ofInt 1)), some (.int (Int32.ofInt (-100)))], [.int (Int32.ofInt 1), .int (Int32.ofInt s), .int (Int32.ofInt o), .int (Int32.ofInt day), .int (Int32.ofInt (t : Int)), .ref 1], h7)) rfl ?_
    obtain ⟨g8, r8⟩ := qi_120 F C ht hd (d2 := o) (s := s) (k := 1) (by omega) hs (Or.inr rfl)
    obtain ⟨fs8, oo8⟩ := C.o
    refine yy_fin.cv (as := [.int (Int32.ofInt (t : Int)), .int (Int32.ofInt day), .int (Int32.ofInt o), .int (Int32.ofInt s), .int (Int32.ofInt 1)]) rfl rfl rfl oo8 (Nat.le_of_ble_eq_true rfl) (Nat.le_of_ble_eq_true rfl) r8 ?_
    rintro v h8 ⟨rfl, C, x8⟩
    replace H6 := H6.k x8
    replace H22 := H22.k x8
    replace Y := Y.tr x8 (fun _ _ e => e)
    replace hY := Y.1
    refine yy_fin.steps (n := 1) (s' := (1475, [some (.ref 1), some (.ref w), some (.ref 0), some (.int (Int32.ofInt fr)), some (.int (Int32.ofInt (t : Int))), some (.int (Int32.ofInt day)), some (zz_val k6), some (zz_val k7), some (.int (Int32.ofInt p8)), some (.ref k9), some (.int (Int32.ofInt s)), some (zz_val q11), some (.int (Int32.ofInt p12)), some (.ref q13), some (.ref q14), some (.ref q15), some (.ref q16), some (.int (Int32.ofInt n17)), some (.int (Int32.ofInt n18)), some (.int (Int32.ofInt v19)), some (.int (Int32.ofInt v20)), some (.int (Int32.ofInt o)), some (zz_val k22), some (.int (Int32.ofInt 1)), some (.int (Int32.ofInt (-100)))], [.int (Int32.ofInt 1), .int (Int32.ofInt (s_21 (g0 541) t day o s 1))], h8)) rfl ?_
    refine yy_fin.if rfl (fun cK => absurd cK (by decide)) (fun cK => ?_)
    refine yy_fin.steps (n := 2) (s' := (1499, [some (.ref 1), some (.ref w), some (.ref 0), some (.int (Int32.ofInt fr)), some (.int (Int32.ofInt (t : Int))), some (.int (Int32.ofInt day)), some (zz_val k6), some (zz_val k7), some (.int (Int32.ofInt p8)), some (.ref k9), some (.int (Int32.ofInt s)), some (zz_val q11), some (.int (Int32.ofInt p12)), some (.ref q13), some (.ref q14), some (.ref q15), some (.ref q16), some (.int (Int32.ofInt n17)), some (.int (Int32.ofInt n18)), some (.int (Int32.ofInt v19)), some (.int (Int32.ofInt v20)), some (.int (Int32.ofInt o)), some (zz_val k22), some (.int (Int32.ofInt 1)), some (.int (Int32.ofInt (-100)))], [.int (Int32.ofInt (-100)), .int (Int32.ofInt (s_21 (g0 541) t day o s 1))], h8)) rfl ?_
    refine yy_fin.ic rfl (fun cz => absurd (congrArg Int32.ofInt (s0 1)) (y_cne cz)) (fun _ => ?_)
    refine yy_fin.steps (n := 2) (s' := (1507, [some (.ref 1), some (.ref w), some (.ref 0), some (.int (Int32.ofInt fr)), some (.int (Int32.ofInt (t : Int))), some (.int (Int32.ofInt day)), some (zz_val k6), some (zz_val k7), some (.int (Int32.ofInt p8)), some (.ref k9), some (.int (Int32.ofInt s)), some (zz_val q11), some (.int (Int32.ofInt p12)), some (.ref q13), some (.ref q14), some (.ref q15), some (.ref q16), some (.int (Int32.ofInt n17)), some (.int (Int32.ofInt n18)), some (.int (Int32.ofInt v19)), some (.int (Int32.ofInt v20)), some (.int (Int32.ofInt o)), some (zz_val k22), some (.int (Int32.ofInt 1)), some (.int (Int32.ofInt (-100)))], [.int (Int32.ofInt 1)], h8)) rfl ?_
    exact yy_fin.at (n := 1) rfl (kk _ _ C (Y.le (by omega) (by omega)))
  · have R6 : yRw h1 w q6 [Int32.ofInt u, Int32.ofInt (u + l)] := by
      rcases H6 with ⟨z, -⟩ | ⟨q9, u9, l9, z1, z2, z3⟩
      · cases z
      · cases z1; rw [e6] at z2; cases z2; exact z3
    have R2 : yRw h1 w q2 [Int32.ofInt u2, Int32.ofInt (u2 + l2)] := by
      rcases H22 with ⟨z, -⟩ | ⟨q9, u9, l9, z1, z2, z3⟩
      · cases z
      · cases z1; rw [e2] at z2; cases z2; exact z3
    have hb6 := hv_bnd2 F.2.2.2 ht e6
    have hb2 := hv_bnd2 F.2.2.2 ht e2
    have m0 : 0 ≤ (s - u2) * 12 / l := Int.ediv_nonneg (by omega) (by omega)
    have m1 : (s - u2) * 12 / l ≤ (s - u2) * 12 := Int.ediv_le_self _ (by omega)
    have s0 : s_21 (g0 541) t day o s 0 = min 12 ((s - u2) * 12 / l) := by
      unfold s_21; rw [e6, e2]; show (if ¬ (u2 ≤ s ∧ s < u2 + l2) then (-100 : Int) else (if 12 < (s - u2) * 12 / l then 12 else (s - u2) * 12 / l) - 0) = _; rw [if_neg (by omega)]; split <;> omega
    have s1 : s_21 (g0 541) t day o s 1 = min 12 ((s - u2) * 12 / l) - (s - u2) * 12 / l2 := by
      unfold s_21; rw [e6, e2]; show (if ¬ (u2 ≤ s ∧ s < u2 + l2) then (-100 : Int) else (if 12 < (s - u2) * 12 / l then 12 else (s - u2) * 12 / l) - (s - u2) * 12 / l2) = _; rw [if_neg (by omega)]; split <;> omega
    refine yy_fin.steps (n := 2) (s' := (1407, [some (.ref 1), some (.ref w), some (.ref 0), some (.int (Int32.ofInt fr)), some (.int (Int32.ofInt (t : Int))), some (.int (Int32.ofInt day)), some (.ref q6), some (zz_val k7), some (.int (Int32.ofInt p8)), some (.ref k9), some (.int (Int32.ofInt s)), some (zz_val q11), some (.int (Int32.ofInt p12)), some (.ref q13), some (.ref q14), some (.ref q15), some (.ref q16), some (.int (Int32.ofInt n17)), some (.int (Int32.ofInt n18)), some (.int (Int32.ofInt v19)), some (.int (Int32.ofInt v20)), some (.int (Int32.ofInt o)), some (.ref q2), some (.int (Int32.ofInt 0)), none], [.int (Int32.ofInt 0)], h1)) rfl ?_
    refine yy_fin.if rfl (fun cK => ?_) (fun cK => absurd (by decide) cK)
    refine yy_fin.steps (n := 4) (s' := (1422, [some (.ref 1), some (.ref w), some (.ref 0), some (.int (Int32.ofInt fr)), some (.int (Int32.ofInt (t : Int))), some (.int (Int32.ofInt day)), some (.ref q6), some (zz_val k7), some (.int (Int32.ofInt p8)), some (.ref k9), some (.int (Int32.ofInt s)), some (zz_val q11), some (.int (Int32.ofInt p12)), some (.ref q13), some (.ref q14), some (.ref q15), some (.ref q16), some (.int (Int32.ofInt n17)), some (.int (Int32.ofInt n18)), some (.int (Int32.ofInt v19)), some (.int (Int32.ofInt v20)), some (.int (Int32.ofInt o)), some (.ref q2), some (.int (Int32.ofInt 0)), none], [.int (Int32.ofInt 0), .ref q2, .int (Int32.ofInt s), .int (Int32.ofInt 12)], h1)) rfl ?_
    refine yy_fin.lp (j := 0) rfl R2.2 (by decide) (by decide) rfl ?_
    refine yy_fin.steps (n := 5) (s' := (1430, [some (.ref 1), some (.ref w), some (.ref 0), some (.int (Int32.ofInt fr)), some (.int (Int32.ofInt (t : Int))), some (.int (Int32.ofInt day)), some (.ref q6), some (zz_val k7), some (.int (Int32.ofInt p8)), some (.ref k9), some (.int (Int32.ofInt s)), some (zz_val q11), some (.int (Int32.ofInt p12)), some (.ref q13), some (.ref q14), some (.ref q15), some (.ref q16), some (.int (Int32.ofInt n17)), some (.int (Int32.ofInt n18)), some (.int (Int32.ofInt v19)), some (.int (Int32.ofInt v20)), some (.int (Int32.ofInt o)), some (.ref q2), some (.int (Int32.ofInt 0)), none], [.int (Int32.ofInt 1), .ref q6, .int (((Int32.ofInt s) - (Int32.ofInt u2)) * (Int32.ofInt 12)), .int (Int32.ofInt 12)], h1)) rfl ?_
    rw [yi_sub s u2]
    rw [yi_mul (s - u2) 12]
    refine yy_fin.lp (j := 1) rfl R6.2 (by decide) (by decide) rfl ?_
    refine yy_fin.steps (n := 2) (s' := (1434, [some (.ref 1), some (.ref w), some (.ref 0), some (.int (Int32.ofInt fr)), some (.int (Int32.ofInt (t : Int))), some (.int (Int32.ofInt day)), some (.ref q6), some (zz_val k7), some (.int (Int32.ofInt p8)), some (.ref k9), some (.int (Int32.ofInt s)), some (zz_val q11), some (.int (Int32.ofInt p12)), some (.ref q13), some (.ref q14), some (.ref q15), some (.ref q16), some (.int (Int32.ofInt n17)), some (.int (Int32.ofInt n18)), some (.int (Int32.ofInt v19)), some (.int (Int32.ofInt v20)), some (.int (Int32.ofInt o)), some (.ref q2), some (.int (Int32.ofInt 0)), none], [.int (Int32.ofInt 0), .ref q6, .int (Int32.ofInt (u + l)), .int (Int32.ofInt ((s - u2) * 12)), .int (Int32.ofInt 12)], h1)) rfl ?_
    refine yy_fin.lp (j := 0) rfl R6.2 (by decide) (by decide) rfl ?_
    refine yy_fin.steps (n := 1) (s' := (1436, [some (.ref 1), some (.ref w), some (.ref 0), some (.int (Int32.ofInt fr)), some (.int (Int32.ofInt (t : Int))), some (.int (Int32.ofInt day)), some (.ref q6), some (zz_val k7), some (.int (Int32.ofInt p8)), some (.ref k9), some (.int (Int32.ofInt s)), some (zz_val q11), some (.int (Int32.ofInt p12)), some (.ref q13), some (.ref q14), some (.ref q15), some (.ref q16), some (.int (Int32.ofInt n17)), some (.int (Int32.ofInt n18)), some (.int (Int32.ofInt v19)), some (.int (Int32.ofInt v20)), some (.int (Int32.ofInt o)), some (.ref q2), some (.int (Int32.ofInt 0)), none], [.int ((Int32.ofInt (u + l)) - (Int32.ofInt u)), .int (Int32.ofInt ((s - u2) * 12)), .int (Int32.ofInt 12)], h1)) rfl ?_
    rw [yi_sub (u + l) u]
    refine yy_fin.dv rfl (fun z => by have z := (yi_eq (a := (u + l) - u) (b := 0) (by omega) (by omega)).mp z; omega) ?_
    rw [yi_div (a := (s - u2) * 12) (b := (u + l) - u) (by omega) (by omega), show u + l - u = l by omega]
    refine yy_fin.steps (n := 8) (s' := (1452, [some (.ref 1), some (.ref w), some (.ref 0), some (.int (Int32.ofInt fr)), some (.int (Int32.ofInt (t : Int))), some (.int (Int32.ofInt day)), some (.ref q6), some (zz_val k7), some (.int (Int32.ofInt p8)), some (.ref k9), some (.int (Int32.ofInt s)), some (zz_val q11), some (.int (Int32.ofInt p12)), some (.ref q13), some (.ref q14), some (.ref q15), some (.ref q16), some (.int (Int32.ofInt n17)), some (.int (Int32.ofInt n18)), some (.int (Int32.ofInt v19)), some (.int (Int32.ofInt v20)), some (.int (Int32.ofInt o)), some (.ref q2), some (.int (Int32.ofInt 0)), some (.int (if (Int32.ofInt ((s - u2) * 12 / l)) < (Int32.ofInt 12) then (Int32.ofInt ((s - u2) * 12 / l)) else (Int32.ofInt 12)))], [.int (Int32.ofInt 0), .int (Int32.ofInt s), .int (Int32.ofInt o), .int (Int32.ofInt day), .int (Int32.ofInt (t : Int)), .ref 1], h1)) rfl ?_
    rw [yi_min (a := 12) (b := (s - u2) * 12 / l) (by omega) (by omega)]
    obtain ⟨g9, r9⟩ := qi_120 F C ht hd (d2 := o) (s := s) (k := 0) (by omega) hs (Or.inl rfl)
    obtain ⟨fs9, oo9⟩ := C.o
    refine yy_fin.cv (as := [.int (Int32.ofInt (t : Int)), .int (Int32.ofInt day), .int (Int32.ofInt o), .int (Int32.ofInt s), .int (Int32.ofInt 0)]) rfl rfl rfl oo9 (Nat.le_of_ble_eq_true rfl) (Nat.le_of_ble_eq_true rfl) r9 ?_
    rintro v h9 ⟨rfl, C, x9⟩
    replace R6 := R6.k x9
    replace R2 := R2.k x9
    replace Y := Y.tr x9 (fun _ _ e => e)
    replace hY := Y.1
    refine yy_fin.steps (n := 1) (s' := (1457, [some (.ref 1), some (.ref w), some (.ref 0), some (.int (Int32.ofInt fr)), some (.int (Int32.ofInt (t : Int))), some (.int (Int32.ofInt day)), some (.ref q6), some (zz_val k7), some (.int (Int32.ofInt p8)), some (.ref k9), some (.int (Int32.ofInt s)), some (zz_val q11), some (.int (Int32.ofInt p12)), some (.ref q13), some (.ref q14), some (.ref q15), some (.ref q16), some (.int (Int32.ofInt n17)), some (.int (Int32.ofInt n18)), some (.int (Int32.ofInt v19)), some (.int (Int32.ofInt v20)), some (.int (Int32.ofInt o)), some (.ref q2), some (.int (Int32.ofInt 0)), some (.int (Int32.ofInt (min 12 ((s - u2) * 12 / l))))], [.int (Int32.ofInt (min 12 ((s - u2) * 12 / l))), .int (Int32.ofInt (s_21 (g0 541) t day o s 0))], h9)) rfl ?_
    refine yy_fin.ic rfl (fun cz => absurd (congrArg Int32.ofInt s0) (y_cne cz)) (fun _ => ?_)
    refine yy_fin.steps (n := 6) (s' := (1470, [some (.ref 1), some (.ref w), some (.ref 0), some (.int (Int32.ofInt fr)), some (.int (Int32.ofInt (t : Int))), some (.int (Int32.ofInt day)), some (.ref q6), some (zz_val k7), some (.int (Int32.ofInt p8)), some (.ref k9), some (.int (Int32.ofInt s)), some (zz_val q11), some (.int (Int32.ofInt p12)), some (.ref q13), some (.ref q14), some (.ref q15), some (.ref q16), some (.int (Int32.ofInt n17)), some (.int (Int32.ofInt n18)), some (.int (Int32.ofInt v19)), some (.int (Int32.ofInt v20)), some (.int (Int32.ofInt o)), some (.ref q2), some (.int (Int32.ofInt 0)), some (.int (Int32.ofInt (min 12 ((s - u2) * 12 / l))))], [.int (Int32.ofInt 1), .int (Int32.ofInt s), .int (Int32.ofInt o), .int (Int32.ofInt day), .int (Int32.ofInt (t : Int)), .ref 1], h9)) rfl ?_
    obtain ⟨g10, r10⟩ := qi_120 F C ht hd (d2 := o) (s := s) (k := 1) (by omega) hs (Or.inr rfl)
    obtain ⟨fs10, oo10⟩ := C.o
    refine yy_fin.cv (as := [.int (Int32.ofInt (t : Int)), .int (Int32.ofInt day), .int (Int32.ofInt o), .int (Int32.ofInt s), .int (Int32.ofInt 1)]) rfl rfl rfl oo10 (Nat.le_of_ble_eq_true rfl) (Nat.le_of_ble_eq_true rfl) r10 ?_
    rintro v h10 ⟨rfl, C, x10⟩
    replace R6 := R6.k x10
    replace R2 := R2.k x10
    replace Y := Y.tr x10 (fun _ _ e => e)
    replace hY := Y.1
    refine yy_fin.steps (n := 1) (s' := (1475, [some (.ref 1), some (.ref w), some (.ref 0), some (.int (Int32.ofInt fr)), some (.int (Int32.ofInt (t : Int))), some (.int (Int32.ofInt day)), some (.ref q6), some (zz_val k7), some (.int (Int32.ofInt p8)), some (.ref k9), some (.int (Int32.ofInt s)), some (zz_val q11), some (.int (Int32.ofInt p12)), some (.ref q13), some (.ref q14), some (.ref q15), some (.ref q16), some (.int (Int32.ofInt n17)), some (.int (Int32.ofInt n18)), some (.int (Int32.ofInt v19)), some (.int (Int32.ofInt v20)), some (.int (Int32.ofInt o)), some (.ref q2), some (.int (Int32.ofInt 0)), some (.int (Int32.ofInt (min 12 ((s - u2) * 12 / l))))], [.int (Int32.ofInt 0), .int (Int32.ofInt (s_21 (g0 541) t day o s 1))], h10)) rfl ?_
    refine yy_fin.if rfl (fun cK => ?_) (fun cK => absurd (by decide) cK)
    refine yy_fin.steps (n := 4) (s' := (1490, [some (.ref 1), some (.ref w), some (.ref 0), some (.int (Int32.ofInt fr)), some (.int (Int32.ofInt (t : Int))), some (.int (Int32.ofInt day)), some (.ref q6), some (zz_val k7), some (.int (Int32.ofInt p8)), some (.ref k9), some (.int (Int32.ofInt s)), some (zz_val q11), some (.int (Int32.ofInt p12)), some (.ref q13), some (.ref q14), some (.ref q15), some (.ref q16), some (.int (Int32.ofInt n17)), some (.int (Int32.ofInt n18)), some (.int (Int32.ofInt v19)), some (.int (Int32.ofInt v20)), some (.int (Int32.ofInt o)), some (.ref q2), some (.int (Int32.ofInt 0)), some (.int (Int32.ofInt (min 12 ((s - u2) * 12 / l))))], [.int (Int32.ofInt s), .ref q2, .ref w, .int (Int32.ofInt (min 12 ((s - u2) * 12 / l))), .int (Int32.ofInt (s_21 (g0 541) t day o s 1))], h10)) rfl ?_
    obtain ⟨fw11, oW11⟩ := C.ow
    refine yy_fin.cv (as := [.ref q2, .int (Int32.ofInt s)]) rfl rfl rfl oW11 (Nat.le_of_ble_eq_true rfl) (Nat.le_of_ble_eq_true rfl) (yc_place F C R2 (s := s) (by omega) (by omega) (by omega)) ?_
    rintro v h9 ⟨rfl, e9⟩
    obtain rfl := e9.symm
    have hp9 := yp_b (q := (g0 541 1).toInt) (l := l2) (s := s - u2) hq (by omega) (by omega)
    have hpq := y_ppq (q := (g0 541 1).toInt) (l := l2) (s := s - u2) hq (by omega) (by omega)
    obtain ⟨pl, epl⟩ : ∃ pl, pl = (s - u2) * 12 * (g0 541 1).toInt / l2 := ⟨_, rfl⟩
    rw [← epl] at hp9 hpq ⊢
    refine yy_fin.steps (n := 1) (s' := (1494, [some (.ref 1), some (.ref w), some (.ref 0), some (.int (Int32.ofInt fr)), some (.int (Int32.ofInt (t : Int))), some (.int (Int32.ofInt day)), some (.ref q6), some (zz_val k7), some (.int (Int32.ofInt p8)), some (.ref k9), some (.int (Int32.ofInt s)), some (zz_val q11), some (.int (Int32.ofInt p12)), some (.ref q13), some (.ref q14), some (.ref q15), some (.ref q16), some (.int (Int32.ofInt n17)), some (.int (Int32.ofInt n18)), some (.int (Int32.ofInt v19)), some (.int (Int32.ofInt v20)), some (.int (Int32.ofInt o)), some (.ref q2), some (.int (Int32.ofInt 0)), some (.int (Int32.ofInt (min 12 ((s - u2) * 12 / l))))], [.ref w, .int (Int32.ofInt pl), .int (Int32.ofInt (min 12 ((s - u2) * 12 / l))), .int (Int32.ofInt (s_21 (g0 541) t day o s 1))], h10)) rfl ?_
    obtain ⟨o12, p12, b12, t12, oP12, eP12⟩ := C.wp
    refine yy_fin.fi rfl oP12 rfl eP12 ?_
    refine yy_fin.dv rfl (fun z => by have z := (yi_eq (a := (g0 541 1).toInt) (b := 0) (by omega) (by omega)).mp z; omega) ?_
    rw [yi_div (a := pl) (b := (g0 541 1).toInt) (by omega) (by omega)]
    refine yy_fin.steps (n := 1) (s' := (1499, [some (.ref 1), some (.ref w), some (.ref 0), some (.int (Int32.ofInt fr)), some (.int (Int32.ofInt (t : Int))), some (.int (Int32.ofInt day)), some (.ref q6), some (zz_val k7), some (.int (Int32.ofInt p8)), some (.ref k9), some (.int (Int32.ofInt s)), some (zz_val q11), some (.int (Int32.ofInt p12)), some (.ref q13), some (.ref q14), some (.ref q15), some (.ref q16), some (.int (Int32.ofInt n17)), some (.int (Int32.ofInt n18)), some (.int (Int32.ofInt v19)), some (.int (Int32.ofInt v20)), some (.int (Int32.ofInt o)), some (.ref q2), some (.int (Int32.ofInt 0)), some (.int (Int32.ofInt (min 12 ((s - u2) * 12 / l))))], [.int ((Int32.ofInt (min 12 ((s - u2) * 12 / l))) - (Int32.ofInt (pl / ((g0 541 1).toInt)))), .int (Int32.ofInt (s_21 (g0 541) t day o s 1))], h10)) rfl ?_
    rw [yi_sub (min 12 ((s - u2) * 12 / l)) (pl / ((g0 541 1).toInt))]
    refine yy_fin.ic rfl (fun cz => absurd (congrArg Int32.ofInt (s1.trans (by rw [hpq]))) (y_cne cz)) (fun _ => ?_)
    refine yy_fin.steps (n := 2) (s' := (1507, [some (.ref 1), some (.ref w), some (.ref 0), some (.int (Int32.ofInt fr)), some (.int (Int32.ofInt (t : Int))), some (.int (Int32.ofInt day)), some (.ref q6), some (zz_val k7), some (.int (Int32.ofInt p8)), some (.ref k9), some (.int (Int32.ofInt s)), some (zz_val q11), some (.int (Int32.ofInt p12)), some (.ref q13), some (.ref q14), some (.ref q15), some (.ref q16), some (.int (Int32.ofInt n17)), some (.int (Int32.ofInt n18)), some (.int (Int32.ofInt v19)), some (.int (Int32.ofInt v20)), some (.int (Int32.ofInt o)), some (.ref q2), some (.int (Int32.ofInt 0)), some (.int (Int32.ofInt (min 12 ((s - u2) * 12 / l))))], [.int (Int32.ofInt 1)], h10)) rfl ?_
    exact yy_fin.at (n := 1) rfl (kk _ _ C (Y.le (by omega) (by omega)))
end YD10
