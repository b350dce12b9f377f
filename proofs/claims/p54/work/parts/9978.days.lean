/-! THE LAW ASKS OF ONE DAY (279), in pieces (printed by wip/p54/w10.py) -/
theorem hv_n1 {a : Nat → Int32} {t : Nat} {d : Int} (e : hv_t a t d 0 = none) : hv_t a t d 1 = none := by
  cases e1 : hv_t a t d 1 with
  | none => rfl
  | some p =>
    obtain ⟨b, l⟩ := p
    obtain ⟨⟨b0, l0, g1, -⟩, -⟩ := tw_H_1 e1
    have g1 : hv_t a t d 0 = some (b0, l0) := g1
    rw [e] at g1
    cases g1
theorem hv_pn {a : Nat → Int32} {t : Nat} {d : Int} (hd : 0 ≤ d ∧ d ≤ 35999) (e : hv_t a t d 0 = none) : pv_t a t (d % 360) ≠ -1 := fun z => by
  unfold hv_t tw_H at e
  unfold pv_t at z
  rw [if_neg (by omega), if_neg (by omega), if_neg (fun q => q z)] at e
  cases e
theorem s_11_e {a : Nat → Int32} {t : Nat} {day : Int} : s_11 a t day 0 = y_el (hv_t a t day 0) (-2) (fun u _ => u) ∧ s_11 a t day 1 = y_el (hv_t a t day 0) (-2) (fun u l => u + l) ∧ s_11 a t day 2 = y_el (hv_t a t day 0) (-2) (fun u l => u + l - u) ∧ s_11 a t day 3 = y_el (hv_t a t day 1) (-2) (fun u l => u + l - u) ∧ s_11 a t day 4 = pv_t a t (day % 360) ∧ s_11 a t day 5 = -1 := by
  refine ⟨?_, ?_, ?_, ?_, rfl, rfl⟩
  · show (match hv_t a t day 0 with | none => (-2 : Int) | some (u, l) => if (0 : Int) = 0 then u else if (0 : Int) = 1 then u + l else l) = _
    cases hv_t a t day 0 with
    | none => rfl
    | some p => rfl
  · show (match hv_t a t day 0 with | none => (-2 : Int) | some (u, l) => if (1 : Int) = 0 then u else if (1 : Int) = 1 then u + l else l) = _
    cases hv_t a t day 0 with
    | none => rfl
    | some p => rfl
  · show (match hv_t a t day 0 with | none => (-2 : Int) | some (u, l) => if (2 : Int) = 0 then u else if (2 : Int) = 1 then u + l else l) = _
    cases hv_t a t day 0 with
    | none => rfl
    | some p =>
      show p.2 = p.1 + p.2 - p.1
      omega
  · show (match hv_t a t day 1 with | none => (-2 : Int) | some (u, l) => if (3 : Int) = 0 then u else if (3 : Int) = 1 then u + l else l) = _
    cases hv_t a t day 1 with
    | none => rfl
    | some p =>
      show p.2 = p.1 + p.2 - p.1
      omega
def y_tn (o : Option (Int × Int × Int × Int)) (f : Int → Int → Int → Int → Int) : Int := match o with
  | none => -2
  | some (d, x, b, l) => f d x b l
theorem s_12_e {a : Nat → Int32} {t : Nat} {day s : Int} : s_12 a t day s 0 = y_tn (wt_T a t day s) (fun d _ _ _ => d) ∧ s_12 a t day s 1 = y_tn (wt_T a t day s) (fun _ x _ _ => x) ∧ s_12 a t day s 2 = y_tn (wt_T a t day s) (fun d _ b l => (s + 86400 * (day - d) - b) * 12 * (a 1).toInt / l / (a 1).toInt) ∧ s_12 a t day s 3 = y_tn (wt_T a t day s) (fun d _ b l => (s + 86400 * (day - d) - b) * 12 * (a 1).toInt / l % (a 1).toInt) ∧ s_12 a t day s 4 = y_tn (wt_T a t day s) (fun d _ b l => (s + 86400 * (day - d) - b) * 12 * (a 1).toInt / l) ∧ s_12 a t day s 5 = y_tn (wt_T a t day s) (fun d _ b _ => s + 86400 * (day - d) - b) := by
  unfold s_12
  cases wt_T a t day s with
  | none => exact ⟨rfl, rfl, rfl, rfl, rfl, rfl⟩
  | some p => exact ⟨rfl, rfl, rfl, rfl, rfl, rfl⟩
theorem s_95_e {a : Nat → Int32} {t : Nat} {day s : Int} : s_95 a t day s 0 = day ∧ s_95 a t day s 1 = y_el (hv_t a t day 0) (-2) (fun u _ => if s < u then day - 1 else day) ∧ s_95 a t day s 2 = y_el (hv_t a t day 0) (-2) (fun u l => if s < u + l then day else day + 1) ∧ s_95 a t day s 3 = (if s < 43200 then day - 1 else day) ∧ s_95 a t day s 4 = -1 := by
  unfold s_95
  cases hv_t a t day 0 with
  | none => exact ⟨rfl, rfl, rfl, rfl, rfl⟩
  | some p => exact ⟨rfl, rfl, rfl, rfl, rfl⟩
section YD10
variable {X : yy_X} {own : yOwn} {w t L : Nat} {xs : Nat → Int32} {lst : List (yBell × List fl_T)} {g0 g : aa_G} {h : zz_H} {day fr s : Int} {φ : Option Value → zz_H → Prop}
theorem yl_d1 (F : yCf own w lst g0) (ht : (t : Int) < (g0 541 0).toInt) (hd : 0 ≤ day ∧ day ≤ 35999) (C : yCx own w lst g0 h g) (hB : h.1.1 + 200 < yy_B) (kk : ∀ h' g' k6 k7 p8 k9 i10, yCx own w lst g0 h' g' → yx (yAk w) 20 60 h h' → yHr h' w k6 (hv_t (g0 541) t day 0) → yHr h' w k7 (hv_t (g0 541) t day 1) → yy_fin X 279 (172, [some (.ref 1), some (.ref w), some (.ref 0), some (.int (Int32.ofInt fr)), some (.int (Int32.ofInt (t : Int))), some (.int (Int32.ofInt day)), some (zz_val k6), some (zz_val k7), some (.int (Int32.ofInt p8)), some (.ref k9), some (.int (Int32.ofInt i10)), none, none, none, none, none, none, none, none, none, none, none, none, none, none], [], h') φ) : yy_fin X 279 (0, zz_in [.ref 1, .ref w, .ref 0, .int (Int32.ofInt fr), .int (Int32.ofInt (t : Int)), .int (Int32.ofInt day)] (zz_nl 279), [], h) φ := by
  have n4 := F.2.2.2.1
  have hq := F.2.2.2.2.1
  have Y : yx (yAk w) 0 0 h h := yx.rf
  have hY := Y.1
  have hg := C.2.1.2
  refine yy_fin.steps (n := 4) (s' := (6, [some (.ref 1), some (.ref w), some (.ref 0), some (.int (Int32.ofInt fr)), some (.int (Int32.ofInt (t : Int))), some (.int (Int32.ofInt day)), none, none, none, none, none, none, none, none, none, none, none, none, none, none, none, none, none, none, none], [.int (Int32.ofInt 0), .int (Int32.ofInt day), .int (Int32.ofInt (t : Int)), .ref w], h)) rfl ?_
  obtain ⟨fw1, oW1⟩ := C.ow
  refine yy_fin.cv (as := [.int (Int32.ofInt (t : Int)), .int (Int32.ofInt day), .int (Int32.ofInt 0)]) rfl rfl rfl oW1 (Nat.le_of_ble_eq_true rfl) (Nat.le_of_ble_eq_true rfl) (yc_half F C ht (day := day) (half := 0) (by omega) (Or.inl rfl) (by omega)) ?_
  rintro v h1 ⟨C, x1, z1⟩
  replace Y := Y.tr x1 (fun _ _ e => e)
  replace hY := Y.1
  have H6 : ∃ q, v = some (zz_val q) ∧ yHr h1 w q (hv_t (g0 541) t day 0) := by
    cases eo : hv_t (g0 541) t day 0 with
    | none => rw [eo] at z1; exact ⟨none, z1, Or.inl ⟨rfl, rfl⟩⟩
    | some p => obtain ⟨u, l⟩ := p; rw [eo] at z1; obtain ⟨q, z1, z2⟩ := z1; exact ⟨some q, z1, Or.inr ⟨q, u, l, rfl, rfl, z2⟩⟩
  obtain ⟨k6, rfl, H6⟩ := H6
  suffices K2 : yy_fin X 279 (11, [some (.ref 1), some (.ref w), some (.ref 0), some (.int (Int32.ofInt fr)), some (.int (Int32.ofInt (t : Int))), some (.int (Int32.ofInt day)), some (zz_val k6), none, none, none, none, none, none, none, none, none, none, none, none, none, none, none, none, none, none], [], h1) φ by cases k6 <;> exact yy_fin.steps (n := 1) rfl K2
  refine yy_fin.steps (n := 4) (s' := (17, [some (.ref 1), some (.ref w), some (.ref 0), some (.int (Int32.ofInt fr)), some (.int (Int32.ofInt (t : Int))), some (.int (Int32.ofInt day)), some (zz_val k6), none, none, none, none, none, none, none, none, none, none, none, none, none, none, none, none, none, none], [.int (Int32.ofInt 1), .int (Int32.ofInt day), .int (Int32.ofInt (t : Int)), .ref w], h1)) rfl ?_
  obtain ⟨fw3, oW3⟩ := C.ow
  refine yy_fin.cv (as := [.int (Int32.ofInt (t : Int)), .int (Int32.ofInt day), .int (Int32.ofInt 1)]) rfl rfl rfl oW3 (Nat.le_of_ble_eq_true rfl) (Nat.le_of_ble_eq_true rfl) (yc_half F C ht (day := day) (half := 1) (by omega) (Or.inr rfl) (by omega)) ?_
  rintro v h3 ⟨C, x3, z3⟩
  replace H6 := H6.k x3
  replace Y := Y.tr x3 (fun _ _ e => e)
  replace hY := Y.1
  have H7 : ∃ q, v = some (zz_val q) ∧ yHr h3 w q (hv_t (g0 541) t day 1) := by
    cases eo : hv_t (g0 541) t day 1 with
    | none => rw [eo] at z3; exact ⟨none, z3, Or.inl ⟨rfl, rfl⟩⟩
    | some p => obtain ⟨u, l⟩ := p; rw [eo] at z3; obtain ⟨q, z1, z2⟩ := z3; exact ⟨some q, z1, Or.inr ⟨q, u, l, rfl, rfl, z2⟩⟩
  obtain ⟨k7, rfl, H7⟩ := H7
  suffices K4 : yy_fin X 279 (22, [some (.ref 1), some (.ref w), some (.ref 0), some (.int (Int32.ofInt fr)), some (.int (Int32.ofInt (t : Int))), some (.int (Int32.ofInt day)), some (zz_val k6), some (zz_val k7), none, none, none, none, none, none, none, none, none, none, none, none, none, none, none, none, none], [], h3) φ by cases k7 <;> cases k6 <;> exact yy_fin.steps (n := 1) rfl K4
  suffices K5 : yy_fin X 279 (24, [some (.ref 1), some (.ref w), some (.ref 0), some (.int (Int32.ofInt fr)), some (.int (Int32.ofInt (t : Int))), some (.int (Int32.ofInt day)), some (zz_val k6), some (zz_val k7), none, none, none, none, none, none, none, none, none, none, none, none, none, none, none, none, none], [zz_val k6], h3) φ by cases k6 <;> exact yy_fin.steps (n := 1) rfl K5
  suffices J6 : ∀ (v6 : Int) (h' : zz_H), v6 = pv_t (g0 541) t (day % 360) → yCx own w lst g0 h' g → yx (yAk w) 1 2 h3 h' → yy_fin X 279 (41, [some (.ref 1), some (.ref w), some (.ref 0), some (.int (Int32.ofInt fr)), some (.int (Int32.ofInt (t : Int))), some (.int (Int32.ofInt day)), some (zz_val k6), some (zz_val k7), none, none, none, none, none, none, none, none, none, none, none, none, none, none, none, none, none], [.int (Int32.ofInt v6)], h') φ by
    have Y : yx (yAk w) 0 0 h3 h3 := yx.rf
    have hZ := hY
    have hY := Y.1
    rcases H6 with ⟨rfl, eo7⟩ | ⟨q7, u7, l7, rfl, eo7, R7⟩
    · refine yy_fin.steps (n := 4) (s' := (32, [some (.ref 1), some (.ref w), some (.ref 0), some (.int (Int32.ofInt fr)), some (.int (Int32.ofInt (t : Int))), some (.int (Int32.ofInt day)), some (.null), some (zz_val k7), none, none, none, none, none, none, none, none, none, none, none, none, none, none, none, none, none], [.int (Int32.ofInt day), .int (Int32.ofInt (t : Int)), .ref w], h3)) rfl ?_
      have hpn := hv_pn hd eo7
      obtain ⟨fw8, oW8⟩ := C.ow
      refine yy_fin.cv (as := [.int (Int32.ofInt (t : Int)), .int (Int32.ofInt day)]) rfl rfl rfl oW8 (Nat.le_of_ble_eq_true rfl) (Nat.le_of_ble_eq_true rfl) (yc_table F C ht (day := day) (by omega) (by omega)) ?_
      rintro v h8 ⟨C, x8, k8, rfl, T8⟩
      replace H7 := H7.k x8
      replace Y := Y.tr x8 (fun _ _ e => e)
      replace hY := Y.1
      rw [if_neg hpn] at T8
      refine yy_fin.steps (n := 1) (s' := (36, [some (.ref 1), some (.ref w), some (.ref 0), some (.int (Int32.ofInt fr)), some (.int (Int32.ofInt (t : Int))), some (.int (Int32.ofInt day)), some (.null), some (zz_val k7), none, none, none, none, none, none, none, none, none, none, none, none, none, none, none, none, none], [.int (Int32.ofInt 0), .ref k8], h8)) rfl ?_
      refine yy_fin.lp (j := 0) rfl T8.2 rfl (by decide) rfl ?_
      refine yy_fin.steps (n := 1) (s' := (41, [some (.ref 1), some (.ref w), some (.ref 0), some (.int (Int32.ofInt fr)), some (.int (Int32.ofInt (t : Int))), some (.int (Int32.ofInt day)), some (.null), some (zz_val k7), none, none, none, none, none, none, none, none, none, none, none, none, none, none, none, none, none], [.int (Int32.ofInt (pv_t (g0 541) t (day % 360)))], h8)) rfl ?_
      exact J6 (pv_t (g0 541) t (day % 360)) _ rfl C (Y.le (by omega) (by omega))
    · have hb7 := hv_bnd2 F.2.2.2 ht eo7
      refine yy_fin.steps (n := 2) (s' := (41, [some (.ref 1), some (.ref w), some (.ref 0), some (.int (Int32.ofInt fr)), some (.int (Int32.ofInt (t : Int))), some (.int (Int32.ofInt day)), some (.ref q7), some (zz_val k7), none, none, none, none, none, none, none, none, none, none, none, none, none, none, none, none, none], [.int (Int32.ofInt (-1))], h3)) rfl ?_
      exact J6 (-1) _ (hv_pv eo7).symm C (Y.le (by omega) (by omega))
  intro v6 h6 ev6 C x6
  replace H6 := H6.k x6
  replace H7 := H7.k x6
  replace Y := Y.tr x6 (fun _ _ e => e)
  replace hY := Y.1
  suffices K9 : yy_fin X 279 (43, [some (.ref 1), some (.ref w), some (.ref 0), some (.int (Int32.ofInt fr)), some (.int (Int32.ofInt (t : Int))), some (.int (Int32.ofInt day)), some (zz_val k6), some (zz_val k7), some (.int (Int32.ofInt v6)), none, none, none, none, none, none, none, none, none, none, none, none, none, none, none, none], [], h6) φ by cases k7 <;> exact yy_fin.steps (n := 1) rfl K9
  refine yy_fin.steps (n := 1) (s' := (45, [some (.ref 1), some (.ref w), some (.ref 0), some (.int (Int32.ofInt fr)), some (.int (Int32.ofInt (t : Int))), some (.int (Int32.ofInt day)), some (zz_val k6), some (zz_val k7), some (.int (Int32.ofInt v6)), none, none, none, none, none, none, none, none, none, none, none, none, none, none, none, none], [.int (Int32.ofInt 6)], h6)) rfl ?_
  refine yy_fin.ni (n := 6) rfl (by decide) (by decide) (by decide) (by omega) C.2.2.2.2 fun h10 x10 e10 i10 z10 => ?_
  have Q : yQ h10 (h6.1.1 + 1) 6 [] := ⟨i10, fun j v e => nomatch e⟩
  have NQ : yx yF 1 6 h6 h10 := x10
  refine yy_fin.steps (n := 2) (s' := (49, [some (.ref 1), some (.ref w), some (.ref 0), some (.int (Int32.ofInt fr)), some (.int (Int32.ofInt (t : Int))), some (.int (Int32.ofInt day)), some (zz_val k6), some (zz_val k7), some (.int (Int32.ofInt v6)), none, none, none, none, none, none, none, none, none, none, none, none, none, none, none, none], [.int (Int32.ofInt 0), .ref (h6.1.1 + 1), .ref (h6.1.1 + 1)], h10)) rfl ?_
  suffices K11 : yy_fin X 279 (51, [some (.ref 1), some (.ref w), some (.ref 0), some (.int (Int32.ofInt fr)), some (.int (Int32.ofInt (t : Int))), some (.int (Int32.ofInt day)), some (zz_val k6), some (zz_val k7), some (.int (Int32.ofInt v6)), none, none, none, none, none, none, none, none, none, none, none, none, none, none, none, none], [zz_val k6, .int (Int32.ofInt 0), .ref (h6.1.1 + 1), .ref (h6.1.1 + 1)], h10) φ by cases k6 <;> exact yy_fin.steps (n := 1) rfl K11
  suffices J12 : ∀ v12 : Int, v12 = y_el (hv_t (g0 541) t day 0) (-2) (fun u _ => u) → yy_fin X 279 (63, [some (.ref 1), some (.ref w), some (.ref 0), some (.int (Int32.ofInt fr)), some (.int (Int32.ofInt (t : Int))), some (.int (Int32.ofInt day)), some (zz_val k6), some (zz_val k7), some (.int (Int32.ofInt v6)), none, none, none, none, none, none, none, none, none, none, none, none, none, none, none, none], [.int (Int32.ofInt v12), .int (Int32.ofInt 0), .ref (h6.1.1 + 1), .ref (h6.1.1 + 1)], h10) φ by
    rcases H6 with ⟨rfl, eo13⟩ | ⟨q13, u13, l13, rfl, eo13, R13⟩
    · refine yy_fin.steps (n := 3) (s' := (63, [some (.ref 1), some (.ref w), some (.ref 0), some (.int (Int32.ofInt fr)), some (.int (Int32.ofInt (t : Int))), some (.int (Int32.ofInt day)), some (.null), some (zz_val k7), some (.int (Int32.ofInt v6)), none, none, none, none, none, none, none, none, none, none, none, none, none, none, none, none], [.int (Int32.ofInt (-2)), .int (Int32.ofInt 0), .ref (h6.1.1 + 1), .ref (h6.1.1 + 1)], h10)) rfl ?_
      exact J12 (-2) (by rw [eo13]; rfl)
    · have hb13 := hv_bnd2 F.2.2.2 ht eo13
      refine yy_fin.steps (n := 3) (s' := (62, [some (.ref 1), some (.ref w), some (.ref 0), some (.int (Int32.ofInt fr)), some (.int (Int32.ofInt (t : Int))), some (.int (Int32.ofInt day)), some (.ref q13), some (zz_val k7), some (.int (Int32.ofInt v6)), none, none, none, none, none, none, none, none, none, none, none, none, none, none, none, none], [.int (Int32.ofInt 0), .ref q13, .int (Int32.ofInt 0), .ref (h6.1.1 + 1), .ref (h6.1.1 + 1)], h10)) rfl ?_
      refine yy_fin.lp (j := 0) rfl (R13.k NQ.ak).2 rfl (by decide) rfl ?_
      exact J12 (u13) (by rw [eo13]; rfl)
  intro v12 ev12
  refine yy_fin.sq rfl Q (by decide) rfl fun h14 x14 q14 => ?_
  replace Q := q14
  replace NQ := (NQ.tr x14 (fun q hq e => by have e : q = _ := e; have hq : q ≤ h6.1.1 := hq; omega)).le (a2 := 1) (d2 := 6) (Nat.le_refl _) (Nat.le_refl _)
  refine yy_fin.steps (n := 2) (s' := (66, [some (.ref 1), some (.ref w), some (.ref 0), some (.int (Int32.ofInt fr)), some (.int (Int32.ofInt (t : Int))), some (.int (Int32.ofInt day)), some (zz_val k6), some (zz_val k7), some (.int (Int32.ofInt v6)), none, none, none, none, none, none, none, none, none, none, none, none, none, none, none, none], [.int (Int32.ofInt 1), .ref (h6.1.1 + 1), .ref (h6.1.1 + 1)], h14)) rfl ?_
  suffices K15 : yy_fin X 279 (68, [some (.ref 1), some (.ref w), some (.ref 0), some (.int (Int32.ofInt fr)), some (.int (Int32.ofInt (t : Int))), some (.int (Int32.ofInt day)), some (zz_val k6), some (zz_val k7), some (.int (Int32.ofInt v6)), none, none, none, none, none, none, none, none, none, none, none, none, none, none, none, none], [zz_val k6, .int (Int32.ofInt 1), .ref (h6.1.1 + 1), .ref (h6.1.1 + 1)], h14) φ by cases k6 <;> exact yy_fin.steps (n := 1) rfl K15
  suffices J16 : ∀ v16 : Int, v16 = y_el (hv_t (g0 541) t day 0) (-2) (fun u l => u + l) → yy_fin X 279 (80, [some (.ref 1), some (.ref w), some (.ref 0), some (.int (Int32.ofInt fr)), some (.int (Int32.ofInt (t : Int))), some (.int (Int32.ofInt day)), some (zz_val k6), some (zz_val k7), some (.int (Int32.ofInt v6)), none, none, none, none, none, none, none, none, none, none, none, none, none, none, none, none], [.int (Int32.ofInt v16), .int (Int32.ofInt 1), .ref (h6.1.1 + 1), .ref (h6.1.1 + 1)], h14) φ by
    rcases H6 with ⟨rfl, eo17⟩ | ⟨q17, u17, l17, rfl, eo17, R17⟩
    · refine yy_fin.steps (n := 3) (s' := (80, [some (.ref 1), some (.ref w), some (.ref 0), some (.int (Int32.ofInt fr)), some (.int (Int32.ofInt (t : Int))), some (.int (Int32.ofInt day)), some (.null), some (zz_val k7), some (.int (Int32.ofInt v6)), none, none, none, none, none, none, none, none, none, none, none, none, none, none, none, none], [.int (Int32.ofInt (-2)), .int (Int32.ofInt 1), .ref (h6.1.1 + 1), .ref (h6.1.1 + 1)], h14)) rfl ?_
      exact J16 (-2) (by rw [eo17]; rfl)
    · have hb17 := hv_bnd2 F.2.2.2 ht eo17
      refine yy_fin.steps (n := 3) (s' := (79, [some (.ref 1), some (.ref w), some (.ref 0), some (.int (Int32.ofInt fr)), some (.int (Int32.ofInt (t : Int))), some (.int (Int32.ofInt day)), some (.ref q17), some (zz_val k7), some (.int (Int32.ofInt v6)), none, none, none, none, none, none, none, none, none, none, none, none, none, none, none, none], [.int (Int32.ofInt 1), .ref q17, .int (Int32.ofInt 1), .ref (h6.1.1 + 1), .ref (h6.1.1 + 1)], h14)) rfl ?_
      refine yy_fin.lp (j := 1) rfl (R17.k NQ.ak).2 rfl (by decide) rfl ?_
      exact J16 (u17 + l17) (by rw [eo17]; rfl)
  intro v16 ev16
  refine yy_fin.sq rfl Q (by decide) rfl fun h18 x18 q18 => ?_
  replace Q := q18
  replace NQ := (NQ.tr x18 (fun q hq e => by have e : q = _ := e; have hq : q ≤ h6.1.1 := hq; omega)).le (a2 := 1) (d2 := 6) (Nat.le_refl _) (Nat.le_refl _)
  refine yy_fin.steps (n := 2) (s' := (83, [some (.ref 1), some (.ref w), some (.ref 0), some (.int (Int32.ofInt fr)), some (.int (Int32.ofInt (t : Int))), some (.int (Int32.ofInt day)), some (zz_val k6), some (zz_val k7), some (.int (Int32.ofInt v6)), none, none, none, none, none, none, none, none, none, none, none, none, none, none, none, none], [.int (Int32.ofInt 2), .ref (h6.1.1 + 1), .ref (h6.1.1 + 1)], h18)) rfl ?_
  suffices K19 : yy_fin X 279 (85, [some (.ref 1), some (.ref w), some (.ref 0), some (.int (Int32.ofInt fr)), some (.int (Int32.ofInt (t : Int))), some (.int (Int32.ofInt day)), some (zz_val k6), some (zz_val k7), some (.int (Int32.ofInt v6)), none, none, none, none, none, none, none, none, none, none, none, none, none, none, none, none], [zz_val k6, .int (Int32.ofInt 2), .ref (h6.1.1 + 1), .ref (h6.1.1 + 1)], h18) φ by cases k6 <;> exact yy_fin.steps (n := 1) rfl K19
  suffices J20 : ∀ v20 : Int, v20 = y_el (hv_t (g0 541) t day 0) (-2) (fun u l => u + l - u) → yy_fin X 279 (102, [some (.ref 1), some (.ref w), some (.ref 0), some (.int (Int32.ofInt fr)), some (.int (Int32.ofInt (t : Int))), some (.int (Int32.ofInt day)), some (zz_val k6), some (zz_val k7), some (.int (Int32.ofInt v6)), none, none, none, none, none, none, none, none, none, none, none, none, none, none, none, none], [.int (Int32.ofInt v20), .int (Int32.ofInt 2), .ref (h6.1.1 + 1), .ref (h6.1.1 + 1)], h18) φ by
    rcases H6 with ⟨rfl, eo21⟩ | ⟨q21, u21, l21, rfl, eo21, R21⟩
    · refine yy_fin.steps (n := 3) (s' := (102, [some (.ref 1), some (.ref w), some (.ref 0), some (.int (Int32.ofInt fr)), some (.int (Int32.ofInt (t : Int))), some (.int (Int32.ofInt day)), some (.null), some (zz_val k7), some (.int (Int32.ofInt v6)), none, none, none, none, none, none, none, none, none, none, none, none, none, none, none, none], [.int (Int32.ofInt (-2)), .int (Int32.ofInt 2), .ref (h6.1.1 + 1), .ref (h6.1.1 + 1)], h18)) rfl ?_
      exact J20 (-2) (by rw [eo21]; rfl)
    · have hb21 := hv_bnd2 F.2.2.2 ht eo21
      refine yy_fin.steps (n := 3) (s' := (96, [some (.ref 1), some (.ref w), some (.ref 0), some (.int (Int32.ofInt fr)), some (.int (Int32.ofInt (t : Int))), some (.int (Int32.ofInt day)), some (.ref q21), some (zz_val k7), some (.int (Int32.ofInt v6)), none, none, none, none, none, none, none, none, none, none, none, none, none, none, none, none], [.int (Int32.ofInt 1), .ref q21, .int (Int32.ofInt 2), .ref (h6.1.1 + 1), .ref (h6.1.1 + 1)], h18)) rfl ?_
      refine yy_fin.lp (j := 1) rfl (R21.k NQ.ak).2 rfl (by decide) rfl ?_
      refine yy_fin.steps (n := 2) (s' := (100, [some (.ref 1), some (.ref w), some (.ref 0), some (.int (Int32.ofInt fr)), some (.int (Int32.ofInt (t : Int))), some (.int (Int32.ofInt day)), some (.ref q21), some (zz_val k7), some (.int (Int32.ofInt v6)), none, none, none, none, none, none, none, none, none, none, none, none, none, none, none, none], [.int (Int32.ofInt 0), .ref q21, .int (Int32.ofInt (u21 + l21)), .int (Int32.ofInt 2), .ref (h6.1.1 + 1), .ref (h6.1.1 + 1)], h18)) rfl ?_
      refine yy_fin.lp (j := 0) rfl (R21.k NQ.ak).2 rfl (by decide) rfl ?_
      refine yy_fin.steps (n := 1) (s' := (102, [some (.ref 1), some (.ref w), some (.ref 0), some (.int (Int32.ofInt fr)), some (.int (Int32.ofInt (t : Int))), some (.int (Int32.ofInt day)), some (.ref q21), some (zz_val k7), some (.int (Int32.ofInt v6)), none, none, none, none, none, none, none, none, none, none, none, none, none, none, none, none], [.int ((Int32.ofInt (u21 + l21)) - (Int32.ofInt u21)), .int (Int32.ofInt 2), .ref (h6.1.1 + 1), .ref (h6.1.1 + 1)], h18)) rfl ?_
      rw [yi_sub (u21 + l21) u21]
      exact J20 ((u21 + l21) - u21) (by rw [eo21]; rfl)
  intro v20 ev20
  refine yy_fin.sq rfl Q (by decide) rfl fun h22 x22 q22 => ?_
  replace Q := q22
  replace NQ := (NQ.tr x22 (fun q hq e => by have e : q = _ := e; have hq : q ≤ h6.1.1 := hq; omega)).le (a2 := 1) (d2 := 6) (Nat.le_refl _) (Nat.le_refl _)
  refine yy_fin.steps (n := 2) (s' := (105, [some (.ref 1), some (.ref w), some (.ref 0), some (.int (Int32.ofInt fr)), some (.int (Int32.ofInt (t : Int))), some (.int (Int32.ofInt day)), some (zz_val k6), some (zz_val k7), some (.int (Int32.ofInt v6)), none, none, none, none, none, none, none, none, none, none, none, none, none, none, none, none], [.int (Int32.ofInt 3), .ref (h6.1.1 + 1), .ref (h6.1.1 + 1)], h22)) rfl ?_
  suffices K23 : yy_fin X 279 (107, [some (.ref 1), some (.ref w), some (.ref 0), some (.int (Int32.ofInt fr)), some (.int (Int32.ofInt (t : Int))), some (.int (Int32.ofInt day)), some (zz_val k6), some (zz_val k7), some (.int (Int32.ofInt v6)), none, none, none, none, none, none, none, none, none, none, none, none, none, none, none, none], [zz_val k7, .int (Int32.ofInt 3), .ref (h6.1.1 + 1), .ref (h6.1.1 + 1)], h22) φ by cases k7 <;> exact yy_fin.steps (n := 1) rfl K23
  suffices J24 : ∀ v24 : Int, v24 = y_el (hv_t (g0 541) t day 1) (-2) (fun u l => u + l - u) → yy_fin X 279 (124, [some (.ref 1), some (.ref w), some (.ref 0), some (.int (Int32.ofInt fr)), some (.int (Int32.ofInt (t : Int))), some (.int (Int32.ofInt day)), some (zz_val k6), some (zz_val k7), some (.int (Int32.ofInt v6)), none, none, none, none, none, none, none, none, none, none, none, none, none, none, none, none], [.int (Int32.ofInt v24), .int (Int32.ofInt 3), .ref (h6.1.1 + 1), .ref (h6.1.1 + 1)], h22) φ by
    rcases H7 with ⟨rfl, eo25⟩ | ⟨q25, u25, l25, rfl, eo25, R25⟩
    · refine yy_fin.steps (n := 3) (s' := (124, [some (.ref 1), some (.ref w), some (.ref 0), some (.int (Int32.ofInt fr)), some (.int (Int32.ofInt (t : Int))), some (.int (Int32.ofInt day)), some (zz_val k6), some (.null), some (.int (Int32.ofInt v6)), none, none, none, none, none, none, none, none, none, none, none, none, none, none, none, none], [.int (Int32.ofInt (-2)), .int (Int32.ofInt 3), .ref (h6.1.1 + 1), .ref (h6.1.1 + 1)], h22)) rfl ?_
      exact J24 (-2) (by rw [eo25]; rfl)
    · have hb25 := hv_bnd2 F.2.2.2 ht eo25
      refine yy_fin.steps (n := 3) (s' := (118, [some (.ref 1), some (.ref w), some (.ref 0), some (.int (Int32.ofInt fr)), some (.int (Int32.ofInt (t : Int))), some (.int (Int32.ofInt day)), some (zz_val k6), some (.ref q25), some (.int (Int32.ofInt v6)), none, none, none, none, none, none, none, none, none, none, none, none, none, none, none, none], [.int (Int32.ofInt 1), .ref q25, .int (Int32.ofInt 3), .ref (h6.1.1 + 1), .ref (h6.1.1 + 1)], h22)) rfl ?_
      refine yy_fin.lp (j := 1) rfl (R25.k NQ.ak).2 rfl (by decide) rfl ?_
      refine yy_fin.steps (n := 2) (s' := (122, [some (.ref 1), some (.ref w), some (.ref 0), some (.int (Int32.ofInt fr)), some (.int (Int32.ofInt (t : Int))), some (.int (Int32.ofInt day)), some (zz_val k6), some (.ref q25), some (.int (Int32.ofInt v6)), none, none, none, none, none, none, none, none, none, none, none, none, none, none, none, none], [.int (Int32.ofInt 0), .ref q25, .int (Int32.ofInt (u25 + l25)), .int (Int32.ofInt 3), .ref (h6.1.1 + 1), .ref (h6.1.1 + 1)], h22)) rfl ?_
      refine yy_fin.lp (j := 0) rfl (R25.k NQ.ak).2 rfl (by decide) rfl ?_
      refine yy_fin.steps (n := 1) (s' := (124, [some (.ref 1), some (.ref w), some (.ref 0), some (.int (Int32.ofInt fr)), some (.int (Int32.ofInt (t : Int))), some (.int (Int32.ofInt day)), some (zz_val k6), some (.ref q25), some (.int (Int32.ofInt v6)), none, none, none, none, none, none, none, none, none, none, none, none, none, none, none, none], [.int ((Int32.ofInt (u25 + l25)) - (Int32.ofInt u25)), .int (Int32.ofInt 3), .ref (h6.1.1 + 1), .ref (h6.1.1 + 1)], h22)) rfl ?_
      rw [yi_sub (u25 + l25) u25]
      exact J24 ((u25 + l25) - u25) (by rw [eo25]; rfl)
  intro v24 ev24
  refine yy_fin.sq rfl Q (by decide) rfl fun h26 x26 q26 => ?_
  replace Q := q26
  replace NQ := (NQ.tr x26 (fun q hq e => by have e : q = _ := e; have hq : q ≤ h6.1.1 := hq; omega)).le (a2 := 1) (d2 := 6) (Nat.le_refl _) (Nat.le_refl _)
  refine yy_fin.steps (n := 3) (s' := (129, [some (.ref 1), some (.ref w), some (.ref 0), some (.int (Int32.ofInt fr)), some (.int (Int32.ofInt (t : Int))), some (.int (Int32.ofInt day)), some (zz_val k6), some (zz_val k7), some (.int (Int32.ofInt v6)), none, none, none, none, none, none, none, none, none, none, none, none, none, none, none, none], [.int (Int32.ofInt v6), .int (Int32.ofInt 4), .ref (h6.1.1 + 1), .ref (h6.1.1 + 1)], h26)) rfl ?_
  refine yy_fin.sq rfl Q (by decide) rfl fun h27 x27 q27 => ?_
  replace Q := q27
  replace NQ := (NQ.tr x27 (fun q hq e => by have e : q = _ := e; have hq : q ≤ h6.1.1 := hq; omega)).le (a2 := 1) (d2 := 6) (Nat.le_refl _) (Nat.le_refl _)
  refine yy_fin.steps (n := 3) (s' := (133, [some (.ref 1), some (.ref w), some (.ref 0), some (.int (Int32.ofInt fr)), some (.int (Int32.ofInt (t : Int))), some (.int (Int32.ofInt day)), some (zz_val k6), some (zz_val k7), some (.int (Int32.ofInt v6)), none, none, none, none, none, none, none, none, none, none, none, none, none, none, none, none], [.int (Int32.ofInt (-1)), .int (Int32.ofInt 5), .ref (h6.1.1 + 1), .ref (h6.1.1 + 1)], h27)) rfl ?_
  refine yy_fin.sq rfl Q (by decide) rfl fun h28 x28 q28 => ?_
  replace Q := q28
  replace NQ := (NQ.tr x28 (fun q hq e => by have e : q = _ := e; have hq : q ≤ h6.1.1 := hq; omega)).le (a2 := 1) (d2 := 6) (Nat.le_refl _) (Nat.le_refl _)
  have x29 : yx (yAk w) 1 6 h6 h28 := NQ.ak
  have hn29 : 539 < h6.1.1 + 1 := by have := C.2.1.2; omega
  have hw29 : h6.1.1 + 1 ≠ w := by have := C.wle; omega
  replace C := C.f NQ
  have T9 : yRw h28 w (h6.1.1 + 1) [(Int32.ofInt v12), (Int32.ofInt v16), (Int32.ofInt v20), (Int32.ofInt v24), (Int32.ofInt v6), (Int32.ofInt (-1))] := ⟨⟨hn29, hw29⟩, Q⟩
  replace H6 := H6.k x29
  replace H7 := H7.k x29
  replace Y := Y.tr x29 (fun _ _ e => e)
  replace hY := Y.1
  refine yy_fin.steps (n := 5) (s' := (143, [some (.ref 1), some (.ref w), some (.ref 0), some (.int (Int32.ofInt fr)), some (.int (Int32.ofInt (t : Int))), some (.int (Int32.ofInt day)), some (zz_val k6), some (zz_val k7), some (.int (Int32.ofInt v6)), some (.ref (h6.1.1 + 1)), some (.int (Int32.ofInt 0)), none, none, none, none, none, none, none, none, none, none, none, none, none, none], [.int (Int32.ofInt 6), .int (Int32.ofInt 0)], h28)) rfl ?_
  refine yy_fin.ic rfl (fun cK => absurd cK (by decide)) (fun cK => ?_)
  refine yy_fin.steps (n := 4) (s' := (153, [some (.ref 1), some (.ref w), some (.ref 0), some (.int (Int32.ofInt fr)), some (.int (Int32.ofInt (t : Int))), some (.int (Int32.ofInt day)), some (zz_val k6), some (zz_val k7), some (.int (Int32.ofInt v6)), some (.ref (h6.1.1 + 1)), some (.int (Int32.ofInt 0)), none, none, none, none, none, none, none, none, none, none, none, none, none, none], [.int (Int32.ofInt 0), .int (Int32.ofInt day), .int (Int32.ofInt (t : Int)), .ref 1], h28)) rfl ?_
  obtain ⟨g30, r30⟩ := qi_76 F C ht hd (i := 0) (by omega)
  obtain ⟨fs30, oo30⟩ := C.o
  refine yy_fin.cv (as := [.int (Int32.ofInt (t : Int)), .int (Int32.ofInt day), .int (Int32.ofInt 0)]) rfl rfl rfl oo30 (Nat.le_of_ble_eq_true rfl) (Nat.le_of_ble_eq_true rfl) r30 ?_
  rintro v h30 ⟨rfl, C, x30⟩
  replace T9 := T9.k x30
  replace H6 := H6.k x30
  replace H7 := H7.k x30
  replace Y := Y.tr x30 (fun _ _ e => e)
  replace hY := Y.1
  refine yy_fin.steps (n := 2) (s' := (160, [some (.ref 1), some (.ref w), some (.ref 0), some (.int (Int32.ofInt fr)), some (.int (Int32.ofInt (t : Int))), some (.int (Int32.ofInt day)), some (zz_val k6), some (zz_val k7), some (.int (Int32.ofInt v6)), some (.ref (h6.1.1 + 1)), some (.int (Int32.ofInt 0)), none, none, none, none, none, none, none, none, none, none, none, none, none, none], [.int (Int32.ofInt 0), .ref (h6.1.1 + 1), .int (Int32.ofInt (s_11 (g0 541) t day 0))], h30)) rfl ?_
  refine yy_fin.lp (j := 0) rfl T9.2 rfl (by decide) rfl ?_
  have q0 : s_11 (g0 541) t day 0 = v12 := (s_11_e.1).trans ev12.symm
  refine yy_fin.ic rfl (fun _ => ?_) (fun cz => absurd (y_ceq (congrArg Int32.ofInt q0)) cz)
  refine yy_fin.steps (n := 4) (s' := (143, [some (.ref 1), some (.ref w), some (.ref 0), some (.int (Int32.ofInt fr)), some (.int (Int32.ofInt (t : Int))), some (.int (Int32.ofInt day)), some (zz_val k6), some (zz_val k7), some (.int (Int32.ofInt v6)), some (.ref (h6.1.1 + 1)), some (.int ((Int32.ofInt 0) + (Int32.ofInt 1))), none, none, none, none, none, none, none, none, none, none, none, none, none, none], [.int (Int32.ofInt 6), .int ((Int32.ofInt 0) + (Int32.ofInt 1))], h30)) rfl ?_
  rw [show (Int32.ofInt 0) + (Int32.ofInt 1) = Int32.ofInt 1 from by decide]
  refine yy_fin.ic rfl (fun cK => absurd cK (by decide)) (fun cK => ?_)
  refine yy_fin.steps (n := 4) (s' := (153, [some (.ref 1), some (.ref w), some (.ref 0), some (.int (Int32.ofInt fr)), some (.int (Int32.ofInt (t : Int))), some (.int (Int32.ofInt day)), some (zz_val k6), some (zz_val k7), some (.int (Int32.ofInt v6)), some (.ref (h6.1.1 + 1)), some (.int (Int32.ofInt 1)), none, none, none, none, none, none, none, none, none, none, none, none, none, none], [.int (Int32.ofInt 1), .int (Int32.ofInt day), .int (Int32.ofInt (t : Int)), .ref 1], h30)) rfl ?_
  obtain ⟨g31, r31⟩ := qi_76 F C ht hd (i := 1) (by omega)
  obtain ⟨fs31, oo31⟩ := C.o
  refine yy_fin.cv (as := [.int (Int32.ofInt (t : Int)), .int (Int32.ofInt day), .int (Int32.ofInt 1)]) rfl rfl rfl oo31 (Nat.le_of_ble_eq_true rfl) (Nat.le_of_ble_eq_true rfl) r31 ?_
  rintro v h31 ⟨rfl, C, x31⟩
  replace T9 := T9.k x31
  replace H6 := H6.k x31
  replace H7 := H7.k x31
  replace Y := Y.tr x31 (fun _ _ e => e)
  replace hY := Y.1
  refine yy_fin.steps (n := 2) (s' := (160, [some (.ref 1), some (.ref w), some (.ref 0), some (.int (Int32.ofInt fr)), some (.int (Int32.ofInt (t : Int))), some (.int (Int32.ofInt day)), some (zz_val k6), some (zz_val k7), some (.int (Int32.ofInt v6)), some (.ref (h6.1.1 + 1)), some (.int (Int32.ofInt 1)), none, none, none, none, none, none, none, none, none, none, none, none, none, none], [.int (Int32.ofInt 1), .ref (h6.1.1 + 1), .int (Int32.ofInt (s_11 (g0 541) t day 1))], h31)) rfl ?_
  refine yy_fin.lp (j := 1) rfl T9.2 rfl (by decide) rfl ?_
  have q1 : s_11 (g0 541) t day 1 = v16 := (s_11_e.2.1).trans ev16.symm
  refine yy_fin.ic rfl (fun _ => ?_) (fun cz => absurd (y_ceq (congrArg Int32.ofInt q1)) cz)
  refine yy_fin.steps (n := 4) (s' := (143, [some (.ref 1), some (.ref w), some (.ref 0), some (.int (Int32.ofInt fr)), some (.int (Int32.ofInt (t : Int))), some (.int (Int32.ofInt day)), some (zz_val k6), some (zz_val k7), some (.int (Int32.ofInt v6)), some (.ref (h6.1.1 + 1)), some (.int ((Int32.ofInt 1) + (Int32.ofInt 1))), none, none, none, none, none, none, none, none, none, none, none, none, none, none], [.int (Int32.ofInt 6), .int ((Int32.ofInt 1) + (Int32.ofInt 1))], h31)) rfl ?_
  rw [show (Int32.ofInt 1) + (Int32.ofInt 1) = Int32.ofInt 2 from by decide]
  refine yy_fin.ic rfl (fun cK => absurd cK (by decide)) (fun cK => ?_)
  refine yy_fin.steps (n := 4) (s' := (153, [some (.ref 1), some (.ref w), some (.ref 0), some (.int (Int32.ofInt fr)), some (.int (Int32.ofInt (t : Int))), some (.int (Int32.ofInt day)), some (zz_val k6), some (zz_val k7), some (.int (Int32.ofInt v6)), some (.ref (h6.1.1 + 1)), some (.int (Int32.ofInt 2)), none, none, none, none, none, none, none, none, none, none, none, none, none, none], [.int (Int32.ofInt 2), .int (Int32.ofInt day), .int (Int32.ofInt (t : Int)), .ref 1], h31)) rfl ?_
  obtain ⟨g32, r32⟩ := qi_76 F C ht hd (i := 2) (by omega)
  obtain ⟨fs32, oo32⟩ := C.o
  refine yy_fin.cv (as := [.int (Int32.ofInt (t : Int)), .int (Int32.ofInt day), .int (Int32.ofInt 2)]) rfl rfl rfl oo32 (Nat.le_of_ble_eq_true rfl) (Nat.le_of_ble_eq_true rfl) r32 ?_
  rintro v h32 ⟨rfl, C, x32⟩
  replace T9 := T9.k x32
  replace H6 := H6.k x32
  replace H7 := H7.k x32
  replace Y := Y.tr x32 (fun _ _ e => e)
  replace hY := Y.1
  refine yy_fin.steps (n := 2) (s' := (160, [some (.ref 1), some (.ref w), some (.ref 0), some (.int (Int32.ofInt fr)), some (.int (Int32.ofInt (t : Int))), some (.int (Int32.ofInt day)), some (zz_val k6), some (zz_val k7), some (.int (Int32.ofInt v6)), some (.ref (h6.1.1 + 1)), some (.int (Int32.ofInt 2)), none, none, none, none, none, none, none, none, none, none, none, none, none, none], [.int (Int32.ofInt 2), .ref (h6.1.1 + 1), .int (Int32.ofInt (s_11 (g0 541) t day 2))], h32)) rfl ?_
  refine yy_fin.lp (j := 2) rfl T9.2 rfl (by decide) rfl ?_
  have q2 : s_11 (g0 541) t day 2 = v20 := (s_11_e.2.2.1).trans ev20.symm
  refine yy_fin.ic rfl (fun _ => ?_) (fun cz => absurd (y_ceq (congrArg Int32.ofInt q2)) cz)
  refine yy_fin.steps (n := 4) (s' := (143, [some (.ref 1), some (.ref w), some (.ref 0), some (.int (Int32.ofInt fr)), some (.int (Int32.ofInt (t : Int))), some (.int (Int32.ofInt day)), some (zz_val k6), some (zz_val k7), some (.int (Int32.ofInt v6)), some (.ref (h6.1.1 + 1)), some (.int ((Int32.ofInt 2) + (Int32.ofInt 1))), none, none, none, none, none, none, none, none, none, none, none, none, none, none], [.int (Int32.ofInt 6), .int ((Int32.ofInt 2) + (Int32.ofInt 1))], h32)) rfl ?_
  rw [show (Int32.ofInt 2) + (Int32.ofInt 1) = Int32.ofInt 3 from by decide]
  refine yy_fin.ic rfl (fun cK => absurd cK (by decide)) (fun cK => ?_)
  refine yy_fin.steps (n := 4) (s' := (153, [some (.ref 1), some (.ref w), some (.ref 0), some (.int (Int32.ofInt fr)), some (.int (Int32.ofInt (t : Int))), some (.int (Int32.ofInt day)), some (zz_val k6), some (zz_val k7), some (.int (Int32.ofInt v6)), some (.ref (h6.1.1 + 1)), some (.int (Int32.ofInt 3)), none, none, none, none, none, none, none, none, none, none, none, none, none, none], [.int (Int32.ofInt 3), .int (Int32.ofInt day), .int (Int32.ofInt (t : Int)), .ref 1], h32)) rfl ?_
  obtain ⟨g33, r33⟩ := qi_76 F C ht hd (i := 3) (by omega)
  obtain ⟨fs33, oo33⟩ := C.o
  refine yy_fin.cv (as := [.int (Int32.ofInt (t : Int)), .int (Int32.ofInt day), .int (Int32.ofInt 3)]) rfl rfl rfl oo33 (Nat.le_of_ble_eq_true rfl) (Nat.le_of_ble_eq_true rfl) r33 ?_
  rintro v h33 ⟨rfl, C, x33⟩
  replace T9 := T9.k x33
  replace H6 := H6.k x33
  replace H7 := H7.k x33
  replace Y := Y.tr x33 (fun _ _ e => e)
  replace hY := Y.1
  refine yy_fin.steps (n := 2) (s' := (160, [some (.ref 1), some (.ref w), some (.ref 0), some (.int (Int32.ofInt fr)), some (.int (Int32.ofInt (t : Int))), some (.int (Int32.ofInt day)), some (zz_val k6), some (zz_val k7), some (.int (Int32.ofInt v6)), some (.ref (h6.1.1 + 1)), some (.int (Int32.ofInt 3)), none, none, none, none, none, none, none, none, none, none, none, none, none, none], [.int (Int32.ofInt 3), .ref (h6.1.1 + 1), .int (Int32.ofInt (s_11 (g0 541) t day 3))], h33)) rfl ?_
  refine yy_fin.lp (j := 3) rfl T9.2 rfl (by decide) rfl ?_
  have q3 : s_11 (g0 541) t day 3 = v24 := (s_11_e.2.2.2.1).trans ev24.symm
  refine yy_fin.ic rfl (fun _ => ?_) (fun cz => absurd (y_ceq (congrArg Int32.ofInt q3)) cz)
  refine yy_fin.steps (n := 4) (s' := (143, [some (.ref 1), some (.ref w), some (.ref 0), some (.int (Int32.ofInt fr)), some (.int (Int32.ofInt (t : Int))), some (.int (Int32.ofInt day)), some (zz_val k6), some (zz_val k7), some (.int (Int32.ofInt v6)), some (.ref (h6.1.1 + 1)), some (.int ((Int32.ofInt 3) + (Int32.ofInt 1))), none, none, none, none, none, none, none, none, none, none, none, none, none, none], [.int (Int32.ofInt 6), .int ((Int32.ofInt 3) + (Int32.ofInt 1))], h33)) rfl ?_
  rw [show (Int32.ofInt 3) + (Int32.ofInt 1) = Int32.ofInt 4 from by decide]
  refine yy_fin.ic rfl (fun cK => absurd cK (by decide)) (fun cK => ?_)
  refine yy_fin.steps (n := 4) (s' := (153, [some (.ref 1), some (.ref w), some (.ref 0), some (.int (Int32.ofInt fr)), some (.int (Int32.ofInt (t : Int))), some (.int (Int32.ofInt day)), some (zz_val k6), some (zz_val k7), some (.int (Int32.ofInt v6)), some (.ref (h6.1.1 + 1)), some (.int (Int32.ofInt 4)), none, none, none, none, none, none, none, none, none, none, none, none, none, none], [.int (Int32.ofInt 4), .int (Int32.ofInt day), .int (Int32.ofInt (t : Int)), .ref 1], h33)) rfl ?_
  obtain ⟨g34, r34⟩ := qi_76 F C ht hd (i := 4) (by omega)
  obtain ⟨fs34, oo34⟩ := C.o
  refine yy_fin.cv (as := [.int (Int32.ofInt (t : Int)), .int (Int32.ofInt day), .int (Int32.ofInt 4)]) rfl rfl rfl oo34 (Nat.le_of_ble_eq_true rfl) (Nat.le_of_ble_eq_true rfl) r34 ?_
  rintro v h34 ⟨rfl, C, x34⟩
  replace T9 := T9.k x34
  replace H6 := H6.k x34
  replace H7 := H7.k x34
  replace Y := Y.tr x34 (fun _ _ e => e)
  replace hY := Y.1
  refine yy_fin.steps (n := 2) (s' := (160, [some (.ref 1), some (.ref w), some (.ref 0), some (.int (Int32.ofInt fr)), some (.int (Int32.ofInt (t : Int))), some (.int (Int32.ofInt day)), some (zz_val k6), some (zz_val k7), some (.int (Int32.ofInt v6)), some (.ref (h6.1.1 + 1)), some (.int (Int32.ofInt 4)), none, none, none, none, none, none, none, none, none, none, none, none, none, none], [.int (Int32.ofInt 4), .ref (h6.1.1 + 1), .int (Int32.ofInt (s_11 (g0 541) t day 4))], h34)) rfl ?_
  refine yy_fin.lp (j := 4) rfl T9.2 rfl (by decide) rfl ?_
  have q4 : s_11 (g0 541) t day 4 = v6 := (s_11_e.2.2.2.2.1).trans ev6.symm
  refine yy_fin.ic rfl (fun _ => ?_) (fun cz => absurd (y_ceq (congrArg Int32.ofInt q4)) cz)
  refine yy_fin.steps (n := 4) (s' := (143, [some (.ref 1), some (.ref w), some (.ref 0), some (.int (Int32.ofInt fr)), some (.int (Int32.ofInt (t : Int))), some (.int (Int32.ofInt day)), some (zz_val k6), some (zz_val k7), some (.int (Int32.ofInt v6)), some (.ref (h6.1.1 + 1)), some (.int ((Int32.ofInt 4) + (Int32.ofInt 1))), none, none, none, none, none, none, none, none, none, none, none, none, none, none], [.int (Int32.ofInt 6), .int ((Int32.ofInt 4) + (Int32.ofInt 1))], h34)) rfl ?_
  rw [show (Int32.ofInt 4) + (Int32.ofInt 1) = Int32.ofInt 5 from by decide]
  refine yy_fin.ic rfl (fun cK => absurd cK (by decide)) (fun cK => ?_)
  refine yy_fin.steps (n := 4) (s' := (153, [some (.ref 1), some (.ref w), some (.ref 0), some (.int (Int32.ofInt fr)), some (.int (Int32.ofInt (t : Int))), some (.int (Int32.ofInt day)), some (zz_val k6), some (zz_val k7), some (.int (Int32.ofInt v6)), some (.ref (h6.1.1 + 1)), some (.int (Int32.ofInt 5)), none, none, none, none, none, none, none, none, none, none, none, none, none, none], [.int (Int32.ofInt 5), .int (Int32.ofInt day), .int (Int32.ofInt (t : Int)), .ref 1], h34)) rfl ?_
  obtain ⟨g35, r35⟩ := qi_76 F C ht hd (i := 5) (by omega)
  obtain ⟨fs35, oo35⟩ := C.o
  refine yy_fin.cv (as := [.int (Int32.ofInt (t : Int)), .int (Int32.ofInt day), .int (Int32.ofInt 5)]) rfl rfl rfl oo35 (Nat.le_of_ble_eq_true rfl) (Nat.le_of_ble_eq_true rfl) r35 ?_
  rintro v h35 ⟨rfl, C, x35⟩
  replace T9 := T9.k x35
  replace H6 := H6.k x35
  replace H7 := H7.k x35
  replace Y := Y.tr x35 (fun _ _ e => e)
  replace hY := Y.1
  refine yy_fin.steps (n := 2) (s' := (160, [some (.ref 1), some (.ref w), some (.ref 0), some (.int (Int32.ofInt fr)), some (.int (Int32.ofInt (t : Int))), some (.int (Int32.ofInt day)), some (zz_val k6), some (zz_val k7), some (.int (Int32.ofInt v6)), some (.ref (h6.1.1 + 1)), some (.int (Int32.ofInt 5)), none, none, none, none, none, none, none, none, none, none, none, none, none, none], [.int (Int32.ofInt 5), .ref (h6.1.1 + 1), .int (Int32.ofInt (s_11 (g0 541) t day 5))], h35)) rfl ?_
  refine yy_fin.lp (j := 5) rfl T9.2 rfl (by decide) rfl ?_
  have q5 : s_11 (g0 541) t day 5 = -1 := s_11_e.2.2.2.2.2
  refine yy_fin.ic rfl (fun _ => ?_) (fun cz => absurd (y_ceq (congrArg Int32.ofInt q5)) cz)
  refine yy_fin.steps (n := 4) (s' := (143, [some (.ref 1), some (.ref w), some (.ref 0), some (.int (Int32.ofInt fr)), some (.int (Int32.ofInt (t : Int))), some (.int (Int32.ofInt day)), some (zz_val k6), some (zz_val k7), some (.int (Int32.ofInt v6)), some (.ref (h6.1.1 + 1)), some (.int ((Int32.ofInt 5) + (Int32.ofInt 1))), none, none, none, none, none, none, none, none, none, none, none, none, none, none], [.int (Int32.ofInt 6), .int ((Int32.ofInt 5) + (Int32.ofInt 1))], h35)) rfl ?_
  rw [show (Int32.ofInt 5) + (Int32.ofInt 1) = Int32.ofInt 6 from by decide]
  refine yy_fin.ic rfl (fun cK => ?_) (fun cK => absurd (by decide) cK)
  exact kk _ _ k6 k7 _ _ _ C (Y.le (by omega) (by omega)) H6 H7
theorem yl_d2 (F : yCf own w lst g0) (ht : (t : Int) < (g0 541 0).toInt) (hd : 0 ≤ day ∧ day ≤ 35999) (hX : X.1 = some (L, xs)) (hL : L ≤ 100000) (hfr : 0 ≤ fr ∧ fr ≤ 900000) (C : yCx own w lst g0 h g) (hB : h.1.1 + 200 < yy_B) {k6 k7 : Option Nat} (H6 : yHr h w k6 (hv_t (g0 541) t day 0)) (H7 : yHr h w k7 (hv_t (g0 541) t day 1)) {p8 i10 : Int} {k9 : Nat} (kk : ∀ h' g' y10 q11 p12 q13 i14, (0 ≤ y10 ∧ y10 ≤ 86399) → yCx own w lst g0 h' g' → yx (yAk w) 100 400 h h' → yHr h' w k6 (hv_t (g0 541) t day 0) → yHr h' w k7 (hv_t (g0 541) t day 1) → yy_fin X 279 (376, [some (.ref 1), some (.ref w), some (.ref 0), some (.int (Int32.ofInt fr)), some (.int (Int32.ofInt (t : Int))), some (.int (Int32.ofInt day)), some (zz_val k6), some (zz_val k7), some (.int (Int32.ofInt p8)), some (.ref k9), some (.int (Int32.ofInt y10)), some (zz_val q11), some (.int (Int32.ofInt p12)), some (.ref q13), some (.int (Int32.ofInt i14)), none, none, none, none, none, none, none, none, none, none], [], h') φ) : yy_fin X 279 (172, [some (.ref 1), some (.ref w), some (.ref 0), some (.int (Int32.ofInt fr)), some (.int (Int32.ofInt (t : Int))), some (.int (Int32.ofInt day)), some (zz_val k6), some (zz_val k7), some (.int (Int32.ofInt p8)), some (.ref k9), some (.int (Int32.ofInt i10)), none, none, none, none, none, none, none, none, none, none, none, none, none, none], [], h) φ := by
  have n4 := F.2.2.2.1
  have hq := F.2.2.2.2.1
  have Y : yx (yAk w) 0 0 h h := yx.rf
  have hY := Y.1
  have hg := C.2.1.2
  refine yy_fin.steps (n := 2) (s' := (174, [some (.ref 1), some (.ref w), some (.ref 0), some (.int (Int32.ofInt fr)), some (.int (Int32.ofInt (t : Int))), some (.int (Int32.ofInt day)), some (zz_val k6), some (zz_val k7), some (.int (Int32.ofInt p8)), some (.ref k9), some (.int (Int32.ofInt i10)), none, none, none, none, none, none, none, none, none, none, none, none, none, none], [.int (Int32.ofInt fr), .ref 0], h)) rfl ?_
  refine yy_fin.calls (as := [.ref 0, .int (Int32.ofInt fr)]) rfl (by decide) rfl rfl (Nat.le_of_ble_eq_true rfl) (Nat.le_of_ble_eq_true rfl) (yl_pick hX hL (k := fr) (by omega)) ?_
  rintro v h9 ⟨y1, rfl, ay1, by1, e9⟩
  obtain rfl := e9.symm
  refine yy_fin.steps (n := 1) (s' := (179, [some (.ref 1), some (.ref w), some (.ref 0), some (.int (Int32.ofInt fr)), some (.int (Int32.ofInt (t : Int))), some (.int (Int32.ofInt day)), some (zz_val k6), some (zz_val k7), some (.int (Int32.ofInt p8)), some (.ref k9), some (.int (Int32.ofInt i10)), none, none, none, none, none, none, none, none, none, none, none, none, none, none], [.int (Int32.ofInt 86400), .int (Int32.ofInt y1)], h)) rfl ?_
  refine yy_fin.rm rfl (by decide) ?_
  rw [yi_rem (a := y1) (b := 86400) (by omega) (by omega)]
  obtain ⟨s, es⟩ : ∃ z, z = y1 % 86400 := ⟨_, rfl⟩
  rw [← es]
  have hs : 0 ≤ s ∧ s ≤ 86399 := by omega
  refine yy_fin.steps (n := 5) (s' := (189, [some (.ref 1), some (.ref w), some (.ref 0), some (.int (Int32.ofInt fr)), some (.int (Int32.ofInt (t : Int))), some (.int (Int32.ofInt day)), some (zz_val k6), some (zz_val k7), some (.int (Int32.ofInt p8)), some (.ref k9), some (.int (Int32.ofInt s)), none, none, none, none, none, none, none, none, none, none, none, none, none, none], [.int (Int32.ofInt s), .int (Int32.ofInt day), .int (Int32.ofInt (t : Int)), .ref w], h)) rfl ?_
  obtain ⟨fw1, oW1⟩ := C.ow
  refine yy_fin.cv (as := [.int (Int32.ofInt (t : Int)), .int (Int32.ofInt day), .int (Int32.ofInt s)]) rfl rfl rfl oW1 (Nat.le_of_ble_eq_true rfl) (Nat.le_of_ble_eq_true rfl) (yc_bel F C ht (day := day) (s := s) (by omega) (by omega) (by omega)) ?_
  rintro v h1 ⟨C, x1, z1⟩
  replace H6 := H6.k x1
  replace H7 := H7.k x1
  replace Y := Y.tr x1 (fun _ _ e => e)
  replace hY := Y.1
  suffices J : ∀ (h' : zz_H) (q11 : Option Nat) (p12 : Int) (q13 : Nat), yCx own w lst g0 h' g → yx (yAk w) 20 60 h1 h' → yRw h' w q13 [Int32.ofInt (y_tn (wt_T (g0 541) t day s) (fun d _ _ _ => d)), Int32.ofInt (y_tn (wt_T (g0 541) t day s) (fun _ x _ _ => x)), Int32.ofInt (y_tn (wt_T (g0 541) t day s) (fun d _ b l => (s + 86400 * (day - d) - b) * 12 * (g0 541 1).toInt / l / (g0 541 1).toInt)), Int32.ofInt (y_tn (wt_T (g0 541) t day s) (fun d _ b l => (s + 86400 * (day - d) - b) * 12 * (g0 541 1).toInt / l % (g0 541 1).toInt)), Int32.ofInt (y_tn (wt_T (g0 541) t day s) (fun d _ b l => (s + 86400 * (day - d) - b) * 12 * (g0 541 1).toInt / l)), Int32.ofInt (y_tn (wt_T (g0 541) t day s) (fun d _ b _ => s + 86400 * (day - d) - b))] → yy_fin X 279 (338, [some (.ref 1), some (.ref w), some (.ref 0), some (.int (Int32.ofInt fr)), some (.int (Int32.ofInt (t : Int))), some (.int (Int32.ofInt day)), some (zz_val k6), some (zz_val k7), some (.int (Int32.ofInt p8)), some (.ref k9), some (.int (Int32.ofInt s)), some (zz_val q11), some (.int (Int32.ofInt p12)), some (.ref q13), none, none, none, none, none, none, none, none, none, none, none], [], h') φ by
    have Y : yx (yAk w) 0 0 h1 h1 := yx.rf
    have hZ := hY
    have hY := Y.1
    cases eb : wt_T (g0 541) t day s with
    | none =>
      rw [eb] at z1
      subst z1
      refine yy_fin.steps (n := 9) (s' := (251, [some (.ref 1), some (.ref w), some (.ref 0), some (.int (Int32.ofInt fr)), some (.int (Int32.ofInt (t : Int))), some (.int (Int32.ofInt day)), some (zz_val k6), some (zz_val k7), some (.int (Int32.ofInt p8)), some (.ref k9), some (.int (Int32.ofInt s)), some (.null), some (.int (Int32.ofInt 0)), none, none, none, none, none, none, none, none, none, none, none, none], [.int (Int32.ofInt 6)], h1)) rfl ?_
      refine yy_fin.ni (n := 6) rfl (by decide) (by decide) (by decide) (by omega) C.2.2.2.2 fun h2 x2 e2 i2 z2 => ?_
      have Q : yQ h2 (h1.1.1 + 1) 6 [] := ⟨i2, fun j v e => nomatch e⟩
      have NQ : yx yF 1 6 h1 h2 := x2
      refine yy_fin.steps (n := 3) (s' := (257, [some (.ref 1), some (.ref w), some (.ref 0), some (.int (Int32.ofInt fr)), some (.int (Int32.ofInt (t : Int))), some (.int (Int32.ofInt day)), some (zz_val k6), some (zz_val k7), some (.int (Int32.ofInt p8)), some (.ref k9), some (.int (Int32.ofInt s)), some (.null), some (.int (Int32.ofInt 0)), none, none, none, none, none, none, none, none, none, none, none, none], [.int (Int32.ofInt (-2)), .int (Int32.ofInt 0), .ref (h1.1.1 + 1), .ref (h1.1.1 + 1)], h2)) rfl ?_
      refine yy_fin.sq rfl Q (by decide) rfl fun h3 x3 q3 => ?_
      replace Q := q3
      replace NQ := (NQ.tr x3 (fun q hq e => by have e : q = _ := e; have hq : q ≤ h1.1.1 := hq; omega)).le (a2 := 1) (d2 := 6) (Nat.le_refl _) (Nat.le_refl _)
      refine yy_fin.steps (n := 3) (s' := (262, [some (.ref 1), some (.ref w), some (.ref 0), some (.int (Int32.ofInt fr)), some (.int (Int32.ofInt (t : Int))), some (.int (Int32.ofInt day)), some (zz_val k6), some (zz_val k7), some (.int (Int32.ofInt p8)), some (.ref k9), some (.int (Int32.ofInt s)), some (.null), some (.int (Int32.ofInt 0)), none, none, none, none, none, none, none, none, none, none, none, none], [.int (Int32.ofInt (-2)), .int (Int32.ofInt 1), .ref (h1.1.1 + 1), .ref (h1.1.1 + 1)], h3)) rfl ?_
      refine yy_fin.sq rfl Q (by decide) rfl fun h4 x4 q4 => ?_
      replace Q := q4
      replace NQ := (NQ.tr x4 (fun q hq e => by have e : q = _ := e; have hq : q ≤ h1.1.1 := hq; omega)).le (a2 := 1) (d2 := 6) (Nat.le_refl _) (Nat.le_refl _)
      refine yy_fin.steps (n := 3) (s' := (267, [some (.ref 1), some (.ref w), some (.ref 0), some (.int (Int32.ofInt fr)), some (.int (Int32.ofInt (t : Int))), some (.int (Int32.ofInt day)), some (zz_val k6), some (zz_val k7), some (.int (Int32.ofInt p8)), some (.ref k9), some (.int (Int32.ofInt s)), some (.null), some (.int (Int32.ofInt 0)), none, none, none, none, none, none, none, none, none, none, none, none], [.int (Int32.ofInt (-2)), .int (Int32.ofInt 2), .ref (h1.1.1 + 1), .ref (h1.1.1 + 1)], h4)) rfl ?_
      refine yy_fin.sq rfl Q (by decide) rfl fun h5 x5 q5 => ?_
      replace Q := q5
      replace NQ := (NQ.tr x5 (fun q hq e => by have e : q = _ := e; have hq : q ≤ h1.1.1 := hq; omega)).le (a2 := 1) (d2 := 6) (Nat.le_refl _) (Nat.le_refl _)
      refine yy_fin.steps (n := 3) (s' := (272, [some (.ref 1), some (.ref w), some (.ref 0), some (.int (Int32.ofInt fr)), some (.int (Int32.ofInt (t : Int))), some (.int (Int32.ofInt day)), some (zz_val k6), some (zz_val k7), some (.int (Int32.ofInt p8)), some (.ref k9), some (.int (Int32.ofInt s)), some (.null), some (.int (Int32.ofInt 0)), none, none, none, none, none, none, none, none, none, none, none, none], [.int (Int32.ofInt (-2)), .int (Int32.ofInt 3), .ref (h1.1.1 + 1), .ref (h1.1.1 + 1)], h5)) rfl ?_
      refine yy_fin.sq rfl Q (by decide) rfl fun h6 x6 q6 => ?_
      replace Q := q6
      replace NQ := (NQ.tr x6 (fun q hq e => by have e : q = _ := e; have hq : q ≤ h1.1.1 := hq; omega)).le (a2 := 1) (d2 := 6) (Nat.le_refl _) (Nat.le_refl _)
      refine yy_fin.steps (n := 3) (s' := (277, [some (.ref 1), some (.ref w), some (.ref 0), some (.int (Int32.ofInt fr)), some (.int (Int32.ofInt (t : Int))), some (.int (Int32.ofInt day)), some (zz_val k6), some (zz_val k7), some (.int (Int32.ofInt p8)), some (.ref k9), some (.int (Int32.ofInt s)), some (.null), some (.int (Int32.ofInt 0)), none, none, none, none, none, none, none, none, none, none, none, none], [.int (Int32.ofInt (-2)), .int (Int32.ofInt 4), .ref (h1.1.1 + 1), .ref (h1.1.1 + 1)], h6)) rfl ?_
      refine yy_fin.sq rfl Q (by decide) rfl fun h7 x7 q7 => ?_
      replace Q := q7
      replace NQ := (NQ.tr x7 (fun q hq e => by have e : q = _ := e; have hq : q ≤ h1.1.1 := hq; omega)).le (a2 := 1) (d2 := 6) (Nat.le_refl _) (Nat.le_refl _)
      refine yy_fin.steps (n := 3) (s' := (282, [some (.ref 1), some (.ref w), some (.ref 0), some (.int (Int32.ofInt fr)), some (.int (Int32.ofInt (t : Int))), some (.int (Int32.ofInt day)), some (zz_val k6), some (zz_val k7), some (.int (Int32.ofInt p8)), some (.ref k9), some (.int (Int32.ofInt s)), some (.null), some (.int (Int32.ofInt 0)), none, none, none, none, none, none, none, none, none, none, none, none], [.int (Int32.ofInt (-2)), .int (Int32.ofInt 5), .ref (h1.1.1 + 1), .ref (h1.1.1 + 1)], h7)) rfl ?_
      refine yy_fin.sq rfl Q (by decide) rfl fun h8 x8 q8 => ?_
      replace Q := q8
      replace NQ := (NQ.tr x8 (fun q hq e => by have e : q = _ := e; have hq : q ≤ h1.1.1 := hq; omega)).le (a2 := 1) (d2 := 6) (Nat.le_refl _) (Nat.le_refl _)
      refine yy_fin.steps (n := 1) (s' := (336, [some (.ref 1), some (.ref w), some (.ref 0), some (.int (Int32.ofInt fr)), some (.int (Int32.ofInt (t : Int))), some (.int (Int32.ofInt day)), some (zz_val k6), some (zz_val k7), some (.int (Int32.ofInt p8)), some (.ref k9), some (.int (Int32.ofInt s)), some (.null), some (.int (Int32.ofInt 0)), none, none, none, none, none, none, none, none, none, none, none, none], [.ref (h1.1.1 + 1)], h8)) rfl ?_
      have x9 : yx (yAk w) 1 6 h1 h8 := NQ.ak
      have hn9 : 539 < h1.1.1 + 1 := by have := C.2.1.2; omega
      have hw9 : h1.1.1 + 1 ≠ w := by have := C.wle; omega
      replace C := C.f NQ
      have T13 : yRw h8 w (h1.1.1 + 1) [(Int32.ofInt (-2)), (Int32.ofInt (-2)), (Int32.ofInt (-2)), (Int32.ofInt (-2)), (Int32.ofInt (-2)), (Int32.ofInt (-2))] := ⟨⟨hn9, hw9⟩, Q⟩
      replace H6 := H6.k x9
      replace H7 := H7.k x9
      replace Y := Y.tr x9 (fun _ _ e => e)
      replace hY := Y.1
      refine yy_fin.steps (n := 1) (s' := (338, [some (.ref 1), some (.ref w), some (.ref 0), some (.int (Int32.ofInt fr)), some (.int (Int32.ofInt (t : Int))), some (.int (Int32.ofInt day)), some (zz_val k6), some (zz_val k7), some (.int (Int32.ofInt p8)), some (.ref k9), some (.int (Int32.ofInt s)), some (.null), some (.int (Int32.ofInt 0)), some (.ref (h1.1.1 + 1)), none, none, none, none, none, none, none, none, none, none, none], [], h8)) rfl ?_
      refine J h8 none _ _ C (Y.le (by omega) (by omega)) ?_
      rw [eb]
      exact T13
    | some p =>
      obtain ⟨d, f, b, l⟩ := p
      rw [eb] at z1
      obtain ⟨kb, rfl, RB⟩ := z1
      obtain ⟨w1, w2, w3, w4, w5, w6, w7⟩ := wt_bnd F.2.2.2 ht hs eb
      obtain ⟨e, ee⟩ : ∃ e, e = s + 86400 * (day - d) - b := ⟨_, rfl⟩
      rw [← ee] at RB w6 w7
      refine yy_fin.steps (n := 8) (s' := (210, [some (.ref 1), some (.ref w), some (.ref 0), some (.int (Int32.ofInt fr)), some (.int (Int32.ofInt (t : Int))), some (.int (Int32.ofInt day)), some (zz_val k6), some (zz_val k7), some (.int (Int32.ofInt p8)), some (.ref k9), some (.int (Int32.ofInt s)), some (.ref kb), none, none, none, none, none, none, none, none, none, none, none, none, none], [.int (Int32.ofInt 0), .ref kb, .int (Int32.ofInt (t : Int)), .ref w, .ref w], h1)) rfl ?_
      refine yy_fin.lp (j := 0) rfl RB.2 rfl (by decide) rfl ?_
      refine yy_fin.steps (n := 2) (s' := (214, [some (.ref 1), some (.ref w), some (.ref 0), some (.int (Int32.ofInt fr)), some (.int (Int32.ofInt (t : Int))), some (.int (Int32.ofInt day)), some (zz_val k6), some (zz_val k7), some (.int (Int32.ofInt p8)), some (.ref k9), some (.int (Int32.ofInt s)), some (.ref kb), none, none, none, none, none, none, none, none, none, none, none, none, none], [.int (Int32.ofInt 1), .ref kb, .int (Int32.ofInt d), .int (Int32.ofInt (t : Int)), .ref w, .ref w], h1)) rfl ?_
      refine yy_fin.lp (j := 1) rfl RB.2 rfl (by decide) rfl ?_
      obtain ⟨fw10, oW10⟩ := C.ow
      refine yy_fin.cv (as := [.int (Int32.ofInt (t : Int)), .int (Int32.ofInt d), .int (Int32.ofInt f)]) rfl rfl rfl oW10 (Nat.le_of_ble_eq_true rfl) (Nat.le_of_ble_eq_true rfl) (yc_half F C ht (day := d) (half := f) (by omega) w2 (by omega)) ?_
      rintro v h10 ⟨C, x10, z10⟩
      replace RB := RB.k x10
      replace H6 := H6.k x10
      replace H7 := H7.k x10
      replace Y := Y.tr x10 (fun _ _ e => e)
      replace hY := Y.1
      rw [w3] at z10
      obtain ⟨k10, rfl, R10⟩ := z10
      refine yy_fin.steps (n := 4) (s' := (224, [some (.ref 1), some (.ref w), some (.ref 0), some (.int (Int32.ofInt fr)), some (.int (Int32.ofInt (t : Int))), some (.int (Int32.ofInt day)), some (zz_val k6), some (zz_val k7), some (.int (Int32.ofInt p8)), some (.ref k9), some (.int (Int32.ofInt s)), some (.ref kb), none, none, none, none, none, none, none, none, none, none, none, none, none], [.int (Int32.ofInt 0), .ref kb, .int (Int32.ofInt (t : Int)), .ref w, .ref k10, .ref w], h10)) rfl ?_
      refine yy_fin.lp (j := 0) rfl RB.2 rfl (by decide) rfl ?_
      refine yy_fin.steps (n := 2) (s' := (228, [some (.ref 1), some (.ref w), some (.ref 0), some (.int (Int32.ofInt fr)), some (.int (Int32.ofInt (t : Int))), some (.int (Int32.ofInt day)), some (zz_val k6), some (zz_val k7), some (.int (Int32.ofInt p8)), some (.ref k9), some (.int (Int32.ofInt s)), some (.ref kb), none, none, none, none, none, none, none, none, none, none, none, none, none], [.int (Int32.ofInt 1), .ref kb, .int (Int32.ofInt d), .int (Int32.ofInt (t : Int)), .ref w, .ref k10, .ref w], h10)) rfl ?_
      refine yy_fin.lp (j := 1) rfl RB.2 rfl (by decide) rfl ?_
      obtain ⟨fw11, oW11⟩ := C.ow
      refine yy_fin.cv (as := [.int (Int32.ofInt (t : Int)), .int (Int32.ofInt d), .int (Int32.ofInt f)]) rfl rfl rfl oW11 (Nat.le_of_ble_eq_true rfl) (Nat.le_of_ble_eq_true rfl) (yc_half F C ht (day := d) (half := f) (by omega) w2 (by omega)) ?_
      rintro v h11 ⟨C, x11, z11⟩
      replace RB := RB.k x11
      replace R10 := R10.k x11
      replace H6 := H6.k x11
      replace H7 := H7.k x11
      replace Y := Y.tr x11 (fun _ _ e => e)
      replace hY := Y.1
      rw [w3] at z11
      obtain ⟨k11, rfl, R11⟩ := z11
      refine yy_fin.steps (n := 1) (s' := (233, [some (.ref 1), some (.ref w), some (.ref 0), some (.int (Int32.ofInt fr)), some (.int (Int32.ofInt (t : Int))), some (.int (Int32.ofInt day)), some (zz_val k6), some (zz_val k7), some (.int (Int32.ofInt p8)), some (.ref k9), some (.int (Int32.ofInt s)), some (.ref kb), none, none, none, none, none, none, none, none, none, none, none, none, none], [.int (Int32.ofInt 0), .ref k11, .ref k10, .ref w], h11)) rfl ?_
      refine yy_fin.lp (j := 0) rfl R11.2 rfl (by decide) rfl ?_
      refine yy_fin.steps (n := 2) (s' := (237, [some (.ref 1), some (.ref w), some (.ref 0), some (.int (Int32.ofInt fr)), some (.int (Int32.ofInt (t : Int))), some (.int (Int32.ofInt day)), some (zz_val k6), some (zz_val k7), some (.int (Int32.ofInt p8)), some (.ref k9), some (.int (Int32.ofInt s)), some (.ref kb), none, none, none, none, none, none, none, none, none, none, none, none, none], [.int (Int32.ofInt 2), .ref kb, .int (Int32.ofInt b), .ref k10, .ref w], h11)) rfl ?_
      refine yy_fin.lp (j := 2) rfl RB.2 rfl (by decide) rfl ?_
      refine yy_fin.steps (n := 1) (s' := (239, [some (.ref 1), some (.ref w), some (.ref 0), some (.int (Int32.ofInt fr)), some (.int (Int32.ofInt (t : Int))), some (.int (Int32.ofInt day)), some (zz_val k6), some (zz_val k7), some (.int (Int32.ofInt p8)), some (.ref k9), some (.int (Int32.ofInt s)), some (.ref kb), none, none, none, none, none, none, none, none, none, none, none, none, none], [.int ((Int32.ofInt b) + (Int32.ofInt e)), .ref k10, .ref w], h11)) rfl ?_
      rw [yi_add b e]
      obtain ⟨fw12, oW12⟩ := C.ow
      refine yy_fin.cv (as := [.ref k10, .int (Int32.ofInt (b + e))]) rfl rfl rfl oW12 (Nat.le_of_ble_eq_true rfl) (Nat.le_of_ble_eq_true rfl) (yc_place F C R10 (s := b + e) (by omega) (by omega) (by omega)) ?_
      rintro v h9 ⟨rfl, e9⟩
      obtain rfl := e9.symm
      rw [show (b + e - b) * 12 * (g0 541 1).toInt / l = e * 12 * (g0 541 1).toInt / l by rw [show b + e - b = e by omega]]
      have hpl := yp_b (q := (g0 541 1).toInt) (l := l) (s := e) hq w5.1 ⟨w6, by omega⟩
      obtain ⟨pl, epl⟩ : ∃ pl, pl = e * 12 * (g0 541 1).toInt / l := ⟨_, rfl⟩
      rw [← epl] at hpl ⊢
      refine yy_fin.steps (n := 4) (s' := (288, [some (.ref 1), some (.ref w), some (.ref 0), some (.int (Int32.ofInt fr)), some (.int (Int32.ofInt (t : Int))), some (.int (Int32.ofInt day)), some (zz_val k6), some (zz_val k7), some (.int (Int32.ofInt p8)), some (.ref k9), some (.int (Int32.ofInt s)), some (.ref kb), some (.int (Int32.ofInt pl)), none, none, none, none, none, none, none, none, none, none, none, none], [.int (Int32.ofInt 6)], h11)) rfl ?_
      refine yy_fin.ni (n := 6) rfl (by decide) (by decide) (by decide) (by omega) C.2.2.2.2 fun h13 x13 e13 i13 z13 => ?_
      have Q : yQ h13 (h11.1.1 + 1) 6 [] := ⟨i13, fun j v e => nomatch e⟩
      have NQ : yx yF 1 6 h11 h13 := x13
      refine yy_fin.steps (n := 4) (s' := (295, [some (.ref 1), some (.ref w), some (.ref 0), some (.int (Int32.ofInt fr)), some (.int (Int32.ofInt (t : Int))), some (.int (Int32.ofInt day)), some (zz_val k6), some (zz_val k7), some (.int (Int32.ofInt p8)), some (.ref k9), some (.int (Int32.ofInt s)), some (.ref kb), some (.int (Int32.ofInt pl)), none, none, none, none, none, none, none, none, none, none, none, none], [.int (Int32.ofInt 0), .ref kb, .int (Int32.ofInt 0), .ref (h11.1.1 + 1), .ref (h11.1.1 + 1)], h13)) rfl ?_
      refine yy_fin.lp (j := 0) rfl (RB.k NQ.ak).2 rfl (by decide) rfl ?_
      refine yy_fin.sq rfl Q (by decide) rfl fun h14 x14 q14 => ?_
      replace Q := q14
      replace NQ := (NQ.tr x14 (fun q hq e => by have e : q = _ := e; have hq : q ≤ h11.1.1 := hq; omega)).le (a2 := 1) (d2 := 6) (Nat.le_refl _) (Nat.le_refl _)
      refine yy_fin.steps (n := 4) (s' := (302, [some (.ref 1), some (.ref w), some (.ref 0), some (.int (Int32.ofInt fr)), some (.int (Int32.ofInt (t : Int))), some (.int (Int32.ofInt day)), some (zz_val k6), some (zz_val k7), some (.int (Int32.ofInt p8)), some (.ref k9), some (.int (Int32.ofInt s)), some (.ref kb), some (.int (Int32.ofInt pl)), none, none, none, none, none, none, none, none, none, none, none, none], [.int (Int32.ofInt 1), .ref kb, .int (Int32.ofInt 1), .ref (h11.1.1 + 1), .ref (h11.1.1 + 1)], h14)) rfl ?_
      refine yy_fin.lp (j := 1) rfl (RB.k NQ.ak).2 rfl (by decide) rfl ?_
      refine yy_fin.sq rfl Q (by decide) rfl fun h15 x15 q15 => ?_
      replace Q := q15
      replace NQ := (NQ.tr x15 (fun q hq e => by have e : q = _ := e; have hq : q ≤ h11.1.1 := hq; omega)).le (a2 := 1) (d2 := 6) (Nat.le_refl _) (Nat.le_refl _)
      refine yy_fin.steps (n := 4) (s' := (309, [some (.ref 1), some (.ref w), some (.ref 0), some (.int (Int32.ofInt fr)), some (.int (Int32.ofInt (t : Int))), some (.int (Int32.ofInt day)), some (zz_val k6), some (zz_val k7), some (.int (Int32.ofInt p8)), some (.ref k9), some (.int (Int32.ofInt s)), some (.ref kb), some (.int (Int32.ofInt pl)), none, none, none, none, none, none, none, none, none, none, none, none], [.ref w, .int (Int32.ofInt pl), .int (Int32.ofInt 2), .ref (h11.1.1 + 1), .ref (h11.1.1 + 1)], h15)) rfl ?_
      obtain ⟨o16, p16, b16, t16, oP16, eP16⟩ := (C.f NQ).wp
      refine yy_fin.fi rfl oP16 rfl eP16 ?_
      refine yy_fin.dv rfl (fun z => by have z := (yi_eq (a := (g0 541 1).toInt) (b := 0) (by omega) (by omega)).mp z; omega) ?_
      rw [yi_div (a := pl) (b := (g0 541 1).toInt) (by omega) (by omega)]
      refine yy_fin.sq rfl Q (by decide) rfl fun h17 x17 q17 => ?_
      replace Q := q17
      replace NQ := (NQ.tr x17 (fun q hq e => by have e : q = _ := e; have hq : q ≤ h11.1.1 := hq; omega)).le (a2 := 1) (d2 := 6) (Nat.le_refl _) (Nat.le_refl _)
      refine yy_fin.steps (n := 4) (s' := (319, [some (.ref 1), some (.ref w), some (.ref 0), some (.int (Int32.ofInt fr)), some (.int (Int32.ofInt (t : Int))), some (.int (Int32.ofInt day)), some (zz_val k6), some (zz_val k7), some (.int (Int32.ofInt p8)), some (.ref k9), some (.int (Int32.ofInt s)), some (.ref kb), some (.int (Int32.ofInt pl)), none, none, none, none, none, none, none, none, none, none, none, none], [.ref w, .int (Int32.ofInt pl), .int (Int32.ofInt 3), .ref (h11.1.1 + 1), .ref (h11.1.1 + 1)], h17)) rfl ?_
      obtain ⟨o18, p18, b18, t18, oP18, eP18⟩ := (C.f NQ).wp
      refine yy_fin.fi rfl oP18 rfl eP18 ?_
      refine yy_fin.rm rfl (fun z => by have z := (yi_eq (a := (g0 541 1).toInt) (b := 0) (by omega) (by omega)).mp z; omega) ?_
      rw [yi_rem (a := pl) (b := (g0 541 1).toInt) (by omega) (by omega)]
      refine yy_fin.sq rfl Q (by decide) rfl fun h19 x19 q19 => ?_
      replace Q := q19
      replace NQ := (NQ.tr x19 (fun q hq e => by have e : q = _ := e; have hq : q ≤ h11.1.1 := hq; omega)).le (a2 := 1) (d2 := 6) (Nat.le_refl _) (Nat.le_refl _)
      refine yy_fin.steps (n := 3) (s' := (328, [some (.ref 1), some (.ref w), some (.ref 0), some (.int (Int32.ofInt fr)), some (.int (Int32.ofInt (t : Int))), some (.int (Int32.ofInt day)), some (zz_val k6), some (zz_val k7), some (.int (Int32.ofInt p8)), some (.ref k9), some (.int (Int32.ofInt s)), some (.ref kb), some (.int (Int32.ofInt pl)), none, none, none, none, none, none, none, none, none, none, none, none], [.int (Int32.ofInt pl), .int (Int32.ofInt 4), .ref (h11.1.1 + 1), .ref (h11.1.1 + 1)], h19)) rfl ?_
      refine yy_fin.sq rfl Q (by decide) rfl fun h20 x20 q20 => ?_
      replace Q := q20
      replace NQ := (NQ.tr x20 (fun q hq e => by have e : q = _ := e; have hq : q ≤ h11.1.1 := hq; omega)).le (a2 := 1) (d2 := 6) (Nat.le_refl _) (Nat.le_refl _)
      refine yy_fin.steps (n := 4) (s' := (334, [some (.ref 1), some (.ref w), some (.ref 0), some (.int (Int32.ofInt fr)), some (.int (Int32.ofInt (t : Int))), some (.int (Int32.ofInt day)), some (zz_val k6), some (zz_val k7), some (.int (Int32.ofInt p8)), some (.ref k9), some (.int (Int32.ofInt s)), some (.ref kb), some (.int (Int32.ofInt pl)), none, none, none, none, none, none, none, none, none, none, none, none], [.int (Int32.ofInt 2), .ref kb, .int (Int32.ofInt 5), .ref (h11.1.1 + 1), .ref (h11.1.1 + 1)], h20)) rfl ?_
      refine yy_fin.lp (j := 2) rfl (RB.k NQ.ak).2 rfl (by decide) rfl ?_
      refine yy_fin.sq rfl Q (by decide) rfl fun h21 x21 q21 => ?_
      replace Q := q21
      replace NQ := (NQ.tr x21 (fun q hq e => by have e : q = _ := e; have hq : q ≤ h11.1.1 := hq; omega)).le (a2 := 1) (d2 := 6) (Nat.le_refl _) (Nat.le_refl _)
      have x22 : yx (yAk w) 1 6 h11 h21 := NQ.ak
      have hn22 : 539 < h11.1.1 + 1 := by have := C.2.1.2; omega
      have hw22 : h11.1.1 + 1 ≠ w := by have := C.wle; omega
      replace C := C.f NQ
      have T13 : yRw h21 w (h11.1.1 + 1) [(Int32.ofInt d), (Int32.ofInt f), (Int32.ofInt (pl / ((g0 541 1).toInt))), (Int32.ofInt (pl % ((g0 541 1).toInt))), (Int32.ofInt pl), (Int32.ofInt e)] := ⟨⟨hn22, hw22⟩, Q⟩
      replace RB := RB.k x22
      replace R10 := R10.k x22
      replace R11 := R11.k x22
      replace H6 := H6.k x22
      replace H7 := H7.k x22
      replace Y := Y.tr x22 (fun _ _ e => e)
      replace hY := Y.1
      refine yy_fin.steps (n := 1) (s' := (338, [some (.ref 1), some (.ref w), some (.ref 0), some (.int (Int32.ofInt fr)), some (.int (Int32.ofInt (t : Int))), some (.int (Int32.ofInt day)), some (zz_val k6), some (zz_val k7), some (.int (Int32.ofInt p8)), some (.ref k9), some (.int (Int32.ofInt s)), some (.ref kb), some (.int (Int32.ofInt pl)), some (.ref (h11.1.1 + 1)), none, none, none, none, none, none, none, none, none, none, none], [], h21)) rfl ?_
      refine J h21 (some _) _ _ C (Y.le (by omega) (by omega)) ?_
      rw [eb]
      rw [epl, ee] at T13
      exact T13
  intro h10 q11 p12 q13 C x10 T13
  replace H6 := H6.k x10
  replace H7 := H7.k x10
  replace Y := Y.tr x10 (fun _ _ e => e)
  replace hY := Y.1
  refine yy_fin.steps (n := 4) (s' := (345, [some (.ref 1), some (.ref w), some (.ref 0), some (.int (Int32.ofInt fr)), some (.int (Int32.ofInt (t : Int))), some (.int (Int32.ofInt day)), some (zz_val k6), some (zz_val k7), some (.int (Int32.ofInt p8)), some (.ref k9), some (.int (Int32.ofInt s)), some (zz_val q11), some (.int (Int32.ofInt p12)), some (.ref q13), some (.int (Int32.ofInt 0)), none, none, none, none, none, none, none, none, none, none], [.int (Int32.ofInt 6), .int (Int32.ofInt 0)], h10)) rfl ?_
  refine yy_fin.ic rfl (fun cK => absurd cK (by decide)) (fun cK => ?_)
  refine yy_fin.steps (n := 5) (s' := (357, [some (.ref 1), some (.ref w), some (.ref 0), some (.int (Int32.ofInt fr)), some (.int (Int32.ofInt (t : Int))), some (.int (Int32.ofInt day)), some (zz_val k6), some (zz_val k7), some (.int (Int32.ofInt p8)), some (.ref k9), some (.int (Int32.ofInt s)), some (zz_val q11), some (.int (Int32.ofInt p12)), some (.ref q13), some (.int (Int32.ofInt 0)), none, none, none, none, none, none, none, none, none, none], [.int (Int32.ofInt 0), .int (Int32.ofInt s), .int (Int32.ofInt day), .int (Int32.ofInt (t : Int)), .ref 1], h10)) rfl ?_
  obtain ⟨g23, r23⟩ := qi_85 F C ht hd hs (i := 0) (by omega)
  obtain ⟨fs23, oo23⟩ := C.o
  refine yy_fin.cv (as := [.int (Int32.ofInt (t : Int)), .int (Int32.ofInt day), .int (Int32.ofInt s), .int (Int32.ofInt 0)]) rfl rfl rfl oo23 (Nat.le_of_ble_eq_true rfl) (Nat.le_of_ble_eq_true rfl) r23 ?_
  rintro v h23 ⟨rfl, C, x23⟩
  replace T13 := T13.k x23
  replace H6 := H6.k x23
  replace H7 := H7.k x23
  replace Y := Y.tr x23 (fun _ _ e => e)
  replace hY := Y.1
  refine yy_fin.steps (n := 2) (s' := (364, [some (.ref 1), some (.ref w), some (.ref 0), some (.int (Int32.ofInt fr)), some (.int (Int32.ofInt (t : Int))), some (.int (Int32.ofInt day)), some (zz_val k6), some (zz_val k7), some (.int (Int32.ofInt p8)), some (.ref k9), some (.int (Int32.ofInt s)), some (zz_val q11), some (.int (Int32.ofInt p12)), some (.ref q13), some (.int (Int32.ofInt 0)), none, none, none, none, none, none, none, none, none, none], [.int (Int32.ofInt 0), .ref q13, .int (Int32.ofInt (s_12 (g0 541) t day s 0))], h23)) rfl ?_
  refine yy_fin.lp (j := 0) rfl T13.2 rfl (by decide) rfl ?_
  refine yy_fin.ic rfl (fun _ => ?_) (fun cz => absurd (y_ceq (congrArg Int32.ofInt (s_12_e.1))) cz)
  refine yy_fin.steps (n := 4) (s' := (345, [some (.ref 1), some (.ref w), some (.ref 0), some (.int (Int32.ofInt fr)), some (.int (Int32.ofInt (t : Int))), some (.int (Int32.ofInt day)), some (zz_val k6), some (zz_val k7), some (.int (Int32.ofInt p8)), some (.ref k9), some (.int (Int32.ofInt s)), some (zz_val q11), some (.int (Int32.ofInt p12)), some (.ref q13), some (.int ((Int32.ofInt 0) + (Int32.ofInt 1))), none, none, none, none, none, none, none, none, none, none], [.int (Int32.ofInt 6), .int ((Int32.ofInt 0) + (Int32.ofInt 1))], h23)) rfl ?_
  rw [show (Int32.ofInt 0) + (Int32.ofInt 1) = Int32.ofInt 1 from by decide]
  refine yy_fin.ic rfl (fun cK => absurd cK (by decide)) (fun cK => ?_)
  refine yy_fin.steps (n := 5) (s' := (357, [some (.ref 1), some (.ref w), some (.ref 0), some (.int (Int32.ofInt fr)), some (.int (Int32.ofInt (t : Int))), some (.int (Int32.ofInt day)), some (zz_val k6), some (zz_val k7), some (.int (Int32.ofInt p8)), some (.ref k9), some (.int (Int32.ofInt s)), some (zz_val q11), some (.int (Int32.ofInt p12)), some (.ref q13), some (.int (Int32.ofInt 1)), none, none, none, none, none, none, none, none, none, none], [.int (Int32.ofInt 1), .int (Int32.ofInt s), .int (Int32.ofInt day), .int (Int32.ofInt (t : Int)), .ref 1], h23)) rfl ?_
  obtain ⟨g24, r24⟩ := qi_85 F C ht hd hs (i := 1) (by omega)
  obtain ⟨fs24, oo24⟩ := C.o
  refine yy_fin.cv (as := [.int (Int32.ofInt (t : Int)), .int (Int32.ofInt day), .int (Int32.ofInt s), .int (Int32.ofInt 1)]) rfl rfl rfl oo24 (Nat.le_of_ble_eq_true rfl) (Nat.le_of_ble_eq_true rfl) r24 ?_
  rintro v h24 ⟨rfl, C, x24⟩
  replace T13 := T13.k x24
  replace H6 := H6.k x24
  replace H7 := H7.k x24
  replace Y := Y.tr x24 (fun _ _ e => e)
  replace hY := Y.1
  refine yy_fin.steps (n := 2) (s' := (364, [some (.ref 1), some (.ref w), some (.ref 0), some (.int (Int32.ofInt fr)), some (.int (Int32.ofInt (t : Int))), some (.int (Int32.ofInt day)), some (zz_val k6), some (zz_val k7), some (.int (Int32.ofInt p8)), some (.ref k9), some (.int (Int32.ofInt s)), some (zz_val q11), some (.int (Int32.ofInt p12)), some (.ref q13), some (.int (Int32.ofInt 1)), none, none, none, none, none, none, none, none, none, none], [.int (Int32.ofInt 1), .ref q13, .int (Int32.ofInt (s_12 (g0 541) t day s 1))], h24)) rfl ?_
  refine yy_fin.lp (j := 1) rfl T13.2 rfl (by decide) rfl ?_
  refine yy_fin.ic rfl (fun _ => ?_) (fun cz => absurd (y_ceq (congrArg Int32.ofInt (s_12_e.2.1))) cz)
  refine yy_fin.steps (n := 4) (s' := (345, [some (.ref 1), some (.ref w), some (.ref 0), some (.int (Int32.ofInt fr)), some (.int (Int32.ofInt (t : Int))), some (.int (Int32.ofInt day)), some (zz_val k6), some (zz_val k7), some (.int (Int32.ofInt p8)), some (.ref k9), some (.int (Int32.ofInt s)), some (zz_val q11), some (.int (Int32.ofInt p12)), some (.ref q13), some (.int ((Int32.ofInt 1) + (Int32.ofInt 1))), none, none, none, none, none, none, none, none, none, none], [.int (Int32.ofInt 6), .int ((Int32.ofInt 1) + (Int32.ofInt 1))], h24)) rfl ?_
  rw [show (Int32.ofInt 1) + (Int32.ofInt 1) = Int32.ofInt 2 from by decide]
  refine yy_fin.ic rfl (fun cK => absurd cK (by decide)) (fun cK => ?_)
  refine yy_fin.steps (n := 5) (s' := (357, [some (.ref 1), some (.ref w), some (.ref 0), some (.int (Int32.ofInt fr)), some (.int (Int32.ofInt (t : Int))), some (.int (Int32.ofInt day)), some (zz_val k6), some (zz_val k7), some (.int (Int32.ofInt p8)), some (.ref k9), some (.int (Int32.ofInt s)), some (zz_val q11), some (.int (Int32.ofInt p12)), some (.ref q13), some (.int (Int32.ofInt 2)), none, none, none, none, none, none, none, none, none, none], [.int (Int32.ofInt 2), .int (Int32.ofInt s), .int (Int32.ofInt day), .int (Int32.ofInt (t : Int)), .ref 1], h24)) rfl ?_
  obtain ⟨g25, r25⟩ := qi_85 F C ht hd hs (i := 2) (by omega)
  obtain ⟨fs25, oo25⟩ := C.o
  refine yy_fin.cv (as := [.int (Int32.ofInt (t : Int)), .int (Int32.ofInt day), .int (Int32.ofInt s), .int (Int32.ofInt 2)]) rfl rfl rfl oo25 (Nat.le_of_ble_eq_true rfl) (Nat.le_of_ble_eq_true rfl) r25 ?_
  rintro v h25 ⟨rfl, C, x25⟩
  replace T13 := T13.k x25
  replace H6 := H6.k x25
  replace H7 := H7.k x25
  replace Y := Y.tr x25 (fun _ _ e => e)
  replace hY := Y.1
  refine yy_fin.steps (n := 2) (s' := (364, [some (.ref 1), some (.ref w), some (.ref 0), some (.int (Int32.ofInt fr)), some (.int (Int32.ofInt (t : Int))), some (.int (Int32.ofInt day)), some (zz_val k6), some (zz_val k7), some (.int (Int32.ofInt p8)), some (.ref k9), some (.int (Int32.ofInt s)), some (zz_val q11), some (.int (Int32.ofInt p12)), some (.ref q13), some (.int (Int32.ofInt 2)), none, none, none, none, none, none, none, none, none, none], [.int (Int32.ofInt 2), .ref q13, .int (Int32.ofInt (s_12 (g0 541) t day s 2))], h25)) rfl ?_
  refine yy_fin.lp (j := 2) rfl T13.2 rfl (by decide) rfl ?_
  refine yy_fin.ic rfl (fun _ => ?_) (fun cz => absurd (y_ceq (congrArg Int32.ofInt (s_12_e.2.2.1))) cz)
  refine yy_fin.steps (n := 4) (s' := (345, [some (.ref 1), some (.ref w), some (.ref 0), some (.int (Int32.ofInt fr)), some (.int (Int32.ofInt (t : Int))), some (.int (Int32.ofInt day)), some (zz_val k6), some (zz_val k7), some (.int (Int32.ofInt p8)), some (.ref k9), some (.int (Int32.ofInt s)), some (zz_val q11), some (.int (Int32.ofInt p12)), some (.ref q13), some (.int ((Int32.ofInt 2) + (Int32.ofInt 1))), none, none, none, none, none, none, none, none, none, none], [.int (Int32.ofInt 6), .int ((Int32.ofInt 2) + (Int32.ofInt 1))], h25)) rfl ?_
  rw [show (Int32.ofInt 2) + (Int32.ofInt 1) = Int32.ofInt 3 from by decide]
  refine yy_fin.ic rfl (fun cK => absurd cK (by decide)) (fun cK => ?_)
  refine yy_fin.steps (n := 5) (s' := (357, [some (.ref 1), some (.ref w), some (.ref 0), some (.int (Int32.ofInt fr)), some (.int (Int32.ofInt (t : Int))), some (.int (Int32.ofInt day)), some (zz_val k6), some (zz_val k7), some (.int (Int32.ofInt p8)), some (.ref k9), some (.int (Int32.ofInt s)), some (zz_val q11), some (.int (Int32.ofInt p12)), some (.ref q13), some (.int (Int32.ofInt 3)), none, none, none, none, none, none, none, none, none, none], [.int (Int32.ofInt 3), .int (Int32.ofInt s), .int (Int32.ofInt day), .int (Int32.ofInt (t : Int)), .ref 1], h25)) rfl ?_
  obtain ⟨g26, r26⟩ := qi_85 F C ht hd hs (i := 3) (by omega)
  obtain ⟨fs26, oo26⟩ := C.o
  refine yy_fin.cv (as := [.int (Int32.ofInt (t : Int)), .int (Int32.ofInt day), .int (Int32.ofInt s), .int (Int32.ofInt 3)]) rfl rfl rfl oo26 (Nat.le_of_ble_eq_true rfl) (Nat.le_of_ble_eq_true rfl) r26 ?_
  rintro v h26 ⟨rfl, C, x26⟩
  replace T13 := T13.k x26
  replace H6 := H6.k x26
  replace H7 := H7.k x26
  replace Y := Y.tr x26 (fun _ _ e => e)
  replace hY := Y.1
  refine yy_fin.steps (n := 2) (s' := (364, [some (.ref 1), some (.ref w), some (.ref 0), some (.int (Int32.ofInt fr)), some (.int (Int32.ofInt (t : Int))), some (.int (Int32.ofInt day)), some (zz_val k6), some (zz_val k7), some (.int (Int32.ofInt p8)), some (.ref k9), some (.int (Int32.ofInt s)), some (zz_val q11), some (.int (Int32.ofInt p12)), some (.ref q13), some (.int (Int32.ofInt 3)), none, none, none, none, none, none, none, none, none, none], [.int (Int32.ofInt 3), .ref q13, .int (Int32.ofInt (s_12 (g0 541) t day s 3))], h26)) rfl ?_
  refine yy_fin.lp (j := 3) rfl T13.2 rfl (by decide) rfl ?_
  refine yy_fin.ic rfl (fun _ => ?_) (fun cz => absurd (y_ceq (congrArg Int32.ofInt (s_12_e.2.2.2.1))) cz)
  refine yy_fin.steps (n := 4) (s' := (345, [some (.ref 1), some (.ref w), some (.ref 0), some (.int (Int32.ofInt fr)), some (.int (Int32.ofInt (t : Int))), some (.int (Int32.ofInt day)), some (zz_val k6), some (zz_val k7), some (.int (Int32.ofInt p8)), some (.ref k9), some (.int (Int32.ofInt s)), some (zz_val q11), some (.int (Int32.ofInt p12)), some (.ref q13), some (.int ((Int32.ofInt 3) + (Int32.ofInt 1))), none, none, none, none, none, none, none, none, none, none], [.int (Int32.ofInt 6), .int ((Int32.ofInt 3) + (Int32.ofInt 1))], h26)) rfl ?_
  rw [show (Int32.ofInt 3) + (Int32.ofInt 1) = Int32.ofInt 4 from by decide]
  refine yy_fin.ic rfl (fun cK => absurd cK (by decide)) (fun cK => ?_)
  refine yy_fin.steps (n := 5) (s' := (357, [some (.ref 1), some (.ref w), some (.ref 0), some (.int (Int32.ofInt fr)), some (.int (Int32.ofInt (t : Int))), some (.int (Int32.ofInt day)), some (zz_val k6), some (zz_val k7), some (.int (Int32.ofInt p8)), some (.ref k9), some (.int (Int32.ofInt s)), some (zz_val q11), some (.int (Int32.ofInt p12)), some (.ref q13), some (.int (Int32.ofInt 4)), none, none, none, none, none, none, none, none, none, none], [.int (Int32.ofInt 4), .int (Int32.ofInt s), .int (Int32.ofInt day), .int (Int32.ofInt (t : Int)), .ref 1], h26)) rfl ?_
  obtain ⟨g27, r27⟩ := qi_85 F C ht hd hs (i := 4) (by omega)
  obtain ⟨fs27, oo27⟩ := C.o
  refine yy_fin.cv (as := [.int (Int32.ofInt (t : Int)), .int (Int32.ofInt day), .int (Int32.ofInt s), .int (Int32.ofInt 4)]) rfl rfl rfl oo27 (Nat.le_of_ble_eq_true rfl) (Nat.le_of_ble_eq_true rfl) r27 ?_
  rintro v h27 ⟨rfl, C, x27⟩
  replace T13 := T13.k x27
  replace H6 := H6.k x27
  replace H7 := H7.k x27
  replace Y := Y.tr x27 (fun _ _ e => e)
  replace hY := Y.1
  refine yy_fin.steps (n := 2) (s' := (364, [some (.ref 1), some (.ref w), some (.ref 0), some (.int (Int32.ofInt fr)), some (.int (Int32.ofInt (t : Int))), some (.int (Int32.ofInt day)), some (zz_val k6), some (zz_val k7), some (.int (Int32.ofInt p8)), some (.ref k9), some (.int (Int32.ofInt s)), some (zz_val q11), some (.int (Int32.ofInt p12)), some (.ref q13), some (.int (Int32.ofInt 4)), none, none, none, none, none, none, none, none, none, none], [.int (Int32.ofInt 4), .ref q13, .int (Int32.ofInt (s_12 (g0 541) t day s 4))], h27)) rfl ?_
  refine yy_fin.lp (j := 4) rfl T13.2 rfl (by decide) rfl ?_
  refine yy_fin.ic rfl (fun _ => ?_) (fun cz => absurd (y_ceq (congrArg Int32.ofInt (s_12_e.2.2.2.2.1))) cz)
  refine yy_fin.steps (n := 4) (s' := (345, [some (.ref 1), some (.ref w), some (.ref 0), some (.int (Int32.ofInt fr)), some (.int (Int32.ofInt (t : Int))), some (.int (Int32.ofInt day)), some (zz_val k6), some (zz_val k7), some (.int (Int32.ofInt p8)), some (.ref k9), some (.int (Int32.ofInt s)), some (zz_val q11), some (.int (Int32.ofInt p12)), some (.ref q13), some (.int ((Int32.ofInt 4) + (Int32.ofInt 1))), none, none, none, none, none, none, none, none, none, none], [.int (Int32.ofInt 6), .int ((Int32.ofInt 4) + (Int32.ofInt 1))], h27)) rfl ?_
  rw [show (Int32.ofInt 4) + (Int32.ofInt 1) = Int32.ofInt 5 from by decide]
  refine yy_fin.ic rfl (fun cK => absurd cK (by decide)) (fun cK => ?_)
  refine yy_fin.steps (n := 5) (s' := (357, [some (.ref 1), some (.ref w), some (.ref 0), some (.int (Int32.ofInt fr)), some (.int (Int32.ofInt (t : Int))), some (.int (Int32.ofInt day)), some (zz_val k6), some (zz_val k7), some (.int (Int32.ofInt p8)), some (.ref k9), some (.int (Int32.ofInt s)), some (zz_val q11), some (.int (Int32.ofInt p12)), some (.ref q13), some (.int (Int32.ofInt 5)), none, none, none, none, none, none, none, none, none, none], [.int (Int32.ofInt 5), .int (Int32.ofInt s), .int (Int32.ofInt day), .int (Int32.ofInt (t : Int)), .ref 1], h27)) rfl ?_
  obtain ⟨g28, r28⟩ := qi_85 F C ht hd hs (i := 5) (by omega)
  obtain ⟨fs28, oo28⟩ := C.o
  refine yy_fin.cv (as := [.int (Int32.ofInt (t : Int)), .int (Int32.ofInt day), .int (Int32.ofInt s), .int (Int32.ofInt 5)]) rfl rfl rfl oo28 (Nat.le_of_ble_eq_true rfl) (Nat.le_of_ble_eq_true rfl) r28 ?_
  rintro v h28 ⟨rfl, C, x28⟩
  replace T13 := T13.k x28
  replace H6 := H6.k x28
  replace H7 := H7.k x28
  replace Y := Y.tr x28 (fun _ _ e => e)
  replace hY := Y.1
  refine yy_fin.steps (n := 2) (s' := (364, [some (.ref 1), some (.ref w), some (.ref 0), some (.int (Int32.ofInt fr)), some (.int (Int32.ofInt (t : Int))), some (.int (Int32.ofInt day)), some (zz_val k6), some (zz_val k7), some (.int (Int32.ofInt p8)), some (.ref k9), some (.int (Int32.ofInt s)), some (zz_val q11), some (.int (Int32.ofInt p12)), some (.ref q13), some (.int (Int32.ofInt 5)), none, none, none, none, none, none, none, none, none, none], [.int (Int32.ofInt 5), .ref q13, .int (Int32.ofInt (s_12 (g0 541) t day s 5))], h28)) rfl ?_
  refine yy_fin.lp (j := 5) rfl T13.2 rfl (by decide) rfl ?_
  refine yy_fin.ic rfl (fun _ => ?_) (fun cz => absurd (y_ceq (congrArg Int32.ofInt (s_12_e.2.2.2.2.2))) cz)
  refine yy_fin.steps (n := 4) (s' := (345, [some (.ref 1), some (.ref w), some (.ref 0), some (.int (Int32.ofInt fr)), some (.int (Int32.ofInt (t : Int))), some (.int (Int32.ofInt day)), some (zz_val k6), some (zz_val k7), some (.int (Int32.ofInt p8)), some (.ref k9), some (.int (Int32.ofInt s)), some (zz_val q11), some (.int (Int32.ofInt p12)), some (.ref q13), some (.int ((Int32.ofInt 5) + (Int32.ofInt 1))), none, none, none, none, none, none, none, none, none, none], [.int (Int32.ofInt 6), .int ((Int32.ofInt 5) + (Int32.ofInt 1))], h28)) rfl ?_
  rw [show (Int32.ofInt 5) + (Int32.ofInt 1) = Int32.ofInt 6 from by decide]
  refine yy_fin.ic rfl (fun cK => ?_) (fun cK => absurd (by decide) cK)
  exact kk _ _ s q11 _ _ _ hs C (Y.le (by omega) (by omega)) H6 H7
theorem yl_d3 (F : yCf own w lst g0) (ht : (t : Int) < (g0 541 0).toInt) (hd : 0 ≤ day ∧ day ≤ 35999) (hs : 0 ≤ s ∧ s ≤ 86399) (C : yCx own w lst g0 h g) (hB : h.1.1 + 200 < yy_B) {k6 k7 : Option Nat} (H6 : yHr h w k6 (hv_t (g0 541) t day 0)) (H7 : yHr h w k7 (hv_t (g0 541) t day 1)) {p8 p12 i14 : Int} {k9 q13 : Nat} {q11 : Option Nat} (kk : ∀ h' g' q14 i15, yCx own w lst g0 h' g' → yx (yAk w) 20 60 h h' → yHr h' w k6 (hv_t (g0 541) t day 0) → yHr h' w k7 (hv_t (g0 541) t day 1) → yy_fin X 279 (508, [some (.ref 1), some (.ref w), some (.ref 0), some (.int (Int32.ofInt fr)), some (.int (Int32.ofInt (t : Int))), some (.int (Int32.ofInt day)), some (zz_val k6), some (zz_val k7), some (.int (Int32.ofInt p8)), some (.ref k9), some (.int (Int32.ofInt s)), some (zz_val q11), some (.int (Int32.ofInt p12)), some (.ref q13), some (.ref q14), some (.int (Int32.ofInt i15)), none, none, none, none, none, none, none, none, none], [], h') φ) : yy_fin X 279 (376, [some (.ref 1), some (.ref w), some (.ref 0), some (.int (Int32.ofInt fr)), some (.int (Int32.ofInt (t : Int))), some (.int (Int32.ofInt day)), some (zz_val k6), some (zz_val k7), some (.int (Int32.ofInt p8)), some (.ref k9), some (.int (Int32.ofInt s)), some (zz_val q11), some (.int (Int32.ofInt p12)), some (.ref q13), some (.int (Int32.ofInt i14)), none, none, none, none, none, none, none, none, none, none], [], h) φ := by
  have n4 := F.2.2.2.1
  have hq := F.2.2.2.2.1
  have Y : yx (yAk w) 0 0 h h := yx.rf
  have hY := Y.1
  have hg := C.2.1.2
  refine yy_fin.steps (n := 1) (s' := (377, [some (.ref 1), some (.ref w), some (.ref 0), some (.int (Int32.ofInt fr)), some (.int (Int32.ofInt (t : Int))), some (.int (Int32.ofInt day)), some (zz_val k6), some (zz_val k7), some (.int (Int32.ofInt p8)), some (.ref k9), some (.int (Int32.ofInt s)), some (zz_val q11), some (.int (Int32.ofInt p12)), some (.ref q13), some (.int (Int32.ofInt i14)), none, none, none, none, none, none, none, none, none, none], [.int (Int32.ofInt 5)], h)) rfl ?_
  refine yy_fin.ni (n := 5) rfl (by decide) (by decide) (by decide) (by omega) C.2.2.2.2 fun h1 x1 e1 i1 z1 => ?_
  have Q : yQ h1 (h.1.1 + 1) 5 [] := ⟨i1, fun j v e => nomatch e⟩
  have NQ : yx yF 1 5 h h1 := x1
  refine yy_fin.steps (n := 3) (s' := (383, [some (.ref 1), some (.ref w), some (.ref 0), some (.int (Int32.ofInt fr)), some (.int (Int32.ofInt (t : Int))), some (.int (Int32.ofInt day)), some (zz_val k6), some (zz_val k7), some (.int (Int32.ofInt p8)), some (.ref k9), some (.int (Int32.ofInt s)), some (zz_val q11), some (.int (Int32.ofInt p12)), some (.ref q13), some (.int (Int32.ofInt i14)), none, none, none, none, none, none, none, none, none, none], [.int (Int32.ofInt day), .int (Int32.ofInt 0), .ref (h.1.1 + 1), .ref (h.1.1 + 1)], h1)) rfl ?_
  refine yy_fin.sq rfl Q (by decide) rfl fun h2 x2 q2 => ?_
  replace Q := q2
  replace NQ := (NQ.tr x2 (fun q hq e => by have e : q = _ := e; have hq : q ≤ h.1.1 := hq; omega)).le (a2 := 1) (d2 := 5) (Nat.le_refl _) (Nat.le_refl _)
  refine yy_fin.steps (n := 2) (s' := (386, [some (.ref 1), some (.ref w), some (.ref 0), some (.int (Int32.ofInt fr)), some (.int (Int32.ofInt (t : Int))), some (.int (Int32.ofInt day)), some (zz_val k6), some (zz_val k7), some (.int (Int32.ofInt p8)), some (.ref k9), some (.int (Int32.ofInt s)), some (zz_val q11), some (.int (Int32.ofInt p12)), some (.ref q13), some (.int (Int32.ofInt i14)), none, none, none, none, none, none, none, none, none, none], [.int (Int32.ofInt 1), .ref (h.1.1 + 1), .ref (h.1.1 + 1)], h2)) rfl ?_
  suffices K3 : yy_fin X 279 (388, [some (.ref 1), some (.ref w), some (.ref 0), some (.int (Int32.ofInt fr)), some (.int (Int32.ofInt (t : Int))), some (.int (Int32.ofInt day)), some (zz_val k6), some (zz_val k7), some (.int (Int32.ofInt p8)), some (.ref k9), some (.int (Int32.ofInt s)), some (zz_val q11), some (.int (Int32.ofInt p12)), some (.ref q13), some (.int (Int32.ofInt i14)), none, none, none, none, none, none, none, none, none, none], [zz_val k6, .int (Int32.ofInt 1), .ref (h.1.1 + 1), .ref (h.1.1 + 1)], h2) φ by cases k6 <;> exact yy_fin.steps (n := 1) rfl K3
  suffices J4 : ∀ v4 : Int, v4 = y_el (hv_t (g0 541) t day 0) (-2) (fun u _ => if s < u then day - 1 else day) → yy_fin X 279 (414, [some (.ref 1), some (.ref w), some (.ref 0), some (.int (Int32.ofInt fr)), some (.int (Int32.ofInt (t : Int))), some (.int (Int32.ofInt day)), some (zz_val k6), some (zz_val k7), some (.int (Int32.ofInt p8)), some (.ref k9), some (.int (Int32.ofInt s)), some (zz_val q11), some (.int (Int32.ofInt p12)), some (.ref q13), some (.int (Int32.ofInt i14)), none, none, none, none, none, none, none, none, none, none], [.int (Int32.ofInt v4), .int (Int32.ofInt 1), .ref (h.1.1 + 1), .ref (h.1.1 + 1)], h2) φ by
    rcases H6 with ⟨rfl, eo5⟩ | ⟨q5, u5, l5, rfl, eo5, R5⟩
    · refine yy_fin.steps (n := 3) (s' := (414, [some (.ref 1), some (.ref w), some (.ref 0), some (.int (Int32.ofInt fr)), some (.int (Int32.ofInt (t : Int))), some (.int (Int32.ofInt day)), some (.null), some (zz_val k7), some (.int (Int32.ofInt p8)), some (.ref k9), some (.int (Int32.ofInt s)), some (zz_val q11), some (.int (Int32.ofInt p12)), some (.ref q13), some (.int (Int32.ofInt i14)), none, none, none, none, none, none, none, none, none, none], [.int (Int32.ofInt (-2)), .int (Int32.ofInt 1), .ref (h.1.1 + 1), .ref (h.1.1 + 1)], h2)) rfl ?_
      exact J4 (-2) (by rw [eo5]; rfl)
    · have hb5 := hv_bnd2 F.2.2.2 ht eo5
      refine yy_fin.steps (n := 4) (s' := (401, [some (.ref 1), some (.ref w), some (.ref 0), some (.int (Int32.ofInt fr)), some (.int (Int32.ofInt (t : Int))), some (.int (Int32.ofInt day)), some (.ref q5), some (zz_val k7), some (.int (Int32.ofInt p8)), some (.ref k9), some (.int (Int32.ofInt s)), some (zz_val q11), some (.int (Int32.ofInt p12)), some (.ref q13), some (.int (Int32.ofInt i14)), none, none, none, none, none, none, none, none, none, none], [.int (Int32.ofInt 0), .ref q5, .int (Int32.ofInt s), .int (Int32.ofInt 1), .ref (h.1.1 + 1), .ref (h.1.1 + 1)], h2)) rfl ?_
      refine yy_fin.lp (j := 0) rfl (R5.k NQ.ak).2 rfl (by decide) rfl ?_
      refine yy_fin.ic rfl (fun c6 => ?_) (fun c6 => ?_)
      · have c6 := (yi_c_ge (a := s) (b := u5) (by omega) (by omega)).mp c6
        refine yy_fin.steps (n := 1) (s' := (414, [some (.ref 1), some (.ref w), some (.ref 0), some (.int (Int32.ofInt fr)), some (.int (Int32.ofInt (t : Int))), some (.int (Int32.ofInt day)), some (.ref q5), some (zz_val k7), some (.int (Int32.ofInt p8)), some (.ref k9), some (.int (Int32.ofInt s)), some (zz_val q11), some (.int (Int32.ofInt p12)), some (.ref q13), some (.int (Int32.ofInt i14)), none, none, none, none, none, none, none, none, none, none], [.int (Int32.ofInt day), .int (Int32.ofInt 1), .ref (h.1.1 + 1), .ref (h.1.1 + 1)], h2)) rfl ?_
        exact J4 (day) (by rw [eo5]; exact (if_neg (by omega)).symm)
      · have c6 := mt (yi_c_ge (a := s) (b := u5) (by omega) (by omega)).mpr c6
        refine yy_fin.steps (n := 4) (s' := (414, [some (.ref 1), some (.ref w), some (.ref 0), some (.int (Int32.ofInt fr)), some (.int (Int32.ofInt (t : Int))), some (.int (Int32.ofInt day)), some (.ref q5), some (zz_val k7), some (.int (Int32.ofInt p8)), some (.ref k9), some (.int (Int32.ofInt s)), some (zz_val q11), some (.int (Int32.ofInt p12)), some (.ref q13), some (.int (Int32.ofInt i14)), none, none, none, none, none, none, none, none, none, none], [.int ((Int32.ofInt day) - (Int32.ofInt 1)), .int (Int32.ofInt 1), .ref (h.1.1 + 1), .ref (h.1.1 + 1)], h2)) rfl ?_
        rw [yi_sub day 1]
        exact J4 (day - 1) (by rw [eo5]; exact (if_pos (by omega)).symm)
  intro v4 ev4
  refine yy_fin.sq rfl Q (by decide) rfl fun h7 x7 q7 => ?_
  replace Q := q7
  replace NQ := (NQ.tr x7 (fun q hq e => by have e : q = _ := e; have hq : q ≤ h.1.1 := hq; omega)).le (a2 := 1) (d2 := 5) (Nat.le_refl _) (Nat.le_refl _)
  refine yy_fin.steps (n := 2) (s' := (417, [some (.ref 1), some (.ref w), some (.ref 0), some (.int (Int32.ofInt fr)), some (.int (Int32.ofInt (t : Int))), some (.int (Int32.ofInt day)), some (zz_val k6), some (zz_val k7), some (.int (Int32.ofInt p8)), some (.ref k9), some (.int (Int32.ofInt s)), some (zz_val q11), some (.int (Int32.ofInt p12)), some (.ref q13), some (.int (Int32.ofInt i14)), none, none, none, none, none, none, none, none, none, none], [.int (Int32.ofInt 2), .ref (h.1.1 + 1), .ref (h.1.1 + 1)], h7)) rfl ?_
  suffices K8 : yy_fin X 279 (419, [some (.ref 1), some (.ref w), some (.ref 0), some (.int (Int32.ofInt fr)), some (.int (Int32.ofInt (t : Int))), some (.int (Int32.ofInt day)), some (zz_val k6), some (zz_val k7), some (.int (Int32.ofInt p8)), some (.ref k9), some (.int (Int32.ofInt s)), some (zz_val q11), some (.int (Int32.ofInt p12)), some (.ref q13), some (.int (Int32.ofInt i14)), none, none, none, none, none, none, none, none, none, none], [zz_val k6, .int (Int32.ofInt 2), .ref (h.1.1 + 1), .ref (h.1.1 + 1)], h7) φ by cases k6 <;> exact yy_fin.steps (n := 1) rfl K8
  suffices J9 : ∀ v9 : Int, v9 = y_el (hv_t (g0 541) t day 0) (-2) (fun u l => if s < u + l then day else day + 1) → yy_fin X 279 (445, [some (.ref 1), some (.ref w), some (.ref 0), some (.int (Int32.ofInt fr)), some (.int (Int32.ofInt (t : Int))), some (.int (Int32.ofInt day)), some (zz_val k6), some (zz_val k7), some (.int (Int32.ofInt p8)), some (.ref k9), some (.int (Int32.ofInt s)), some (zz_val q11), some (.int (Int32.ofInt p12)), some (.ref q13), some (.int (Int32.ofInt i14)), none, none, none, none, none, none, none, none, none, none], [.int (Int32.ofInt v9), .int (Int32.ofInt 2), .ref (h.1.1 + 1), .ref (h.1.1 + 1)], h7) φ by
    rcases H6 with ⟨rfl, eo10⟩ | ⟨q10, u10, l10, rfl, eo10, R10⟩
    · refine yy_fin.steps (n := 3) (s' := (445, [some (.ref 1), some (.ref w), some (.ref 0), some (.int (Int32.ofInt fr)), some (.int (Int32.ofInt (t : Int))), some (.int (Int32.ofInt day)), some (.null), some (zz_val k7), some (.int (Int32.ofInt p8)), some (.ref k9), some (.int (Int32.ofInt s)), some (zz_val q11), some (.int (Int32.ofInt p12)), some (.ref q13), some (.int (Int32.ofInt i14)), none, none, none, none, none, none, none, none, none, none], [.int (Int32.ofInt (-2)), .int (Int32.ofInt 2), .ref (h.1.1 + 1), .ref (h.1.1 + 1)], h7)) rfl ?_
      exact J9 (-2) (by rw [eo10]; rfl)
    · have hb10 := hv_bnd2 F.2.2.2 ht eo10
      refine yy_fin.steps (n := 4) (s' := (432, [some (.ref 1), some (.ref w), some (.ref 0), some (.int (Int32.ofInt fr)), some (.int (Int32.ofInt (t : Int))), some (.int (Int32.ofInt day)), some (.ref q10), some (zz_val k7), some (.int (Int32.ofInt p8)), some (.ref k9), some (.int (Int32.ofInt s)), some (zz_val q11), some (.int (Int32.ofInt p12)), some (.ref q13), some (.int (Int32.ofInt i14)), none, none, none, none, none, none, none, none, none, none], [.int (Int32.ofInt 1), .ref q10, .int (Int32.ofInt s), .int (Int32.ofInt 2), .ref (h.1.1 + 1), .ref (h.1.1 + 1)], h7)) rfl ?_
      refine yy_fin.lp (j := 1) rfl (R10.k NQ.ak).2 rfl (by decide) rfl ?_
      refine yy_fin.ic rfl (fun c11 => ?_) (fun c11 => ?_)
      · have c11 := (yi_c_ge (a := s) (b := u10 + l10) (by omega) (by omega)).mp c11
        refine yy_fin.steps (n := 3) (s' := (445, [some (.ref 1), some (.ref w), some (.ref 0), some (.int (Int32.ofInt fr)), some (.int (Int32.ofInt (t : Int))), some (.int (Int32.ofInt day)), some (.ref q10), some (zz_val k7), some (.int (Int32.ofInt p8)), some (.ref k9), some (.int (Int32.ofInt s)), some (zz_val q11), some (.int (Int32.ofInt p12)), some (.ref q13), some (.int (Int32.ofInt i14)), none, none, none, none, none, none, none, none, none, none], [.int ((Int32.ofInt day) + (Int32.ofInt 1)), .int (Int32.ofInt 2), .ref (h.1.1 + 1), .ref (h.1.1 + 1)], h7)) rfl ?_
        rw [yi_add day 1]
        exact J9 (day + 1) (by rw [eo10]; exact (if_neg (by omega)).symm)
      · have c11 := mt (yi_c_ge (a := s) (b := u10 + l10) (by omega) (by omega)).mpr c11
        refine yy_fin.steps (n := 2) (s' := (445, [some (.ref 1), some (.ref w), some (.ref 0), some (.int (Int32.ofInt fr)), some (.int (Int32.ofInt (t : Int))), some (.int (Int32.ofInt day)), some (.ref q10), some (zz_val k7), some (.int (Int32.ofInt p8)), some (.ref k9), some (.int (Int32.ofInt s)), some (zz_val q11), some (.int (Int32.ofInt p12)), some (.ref q13), some (.int (Int32.ofInt i14)), none, none, none, none, none, none, none, none, none, none], [.int (Int32.ofInt day), .int (Int32.ofInt 2), .ref (h.1.1 + 1), .ref (h.1.1 + 1)], h7)) rfl ?_
        exact J9 (day) (by rw [eo10]; exact (if_pos (by omega)).symm)
  intro v9 ev9
  refine yy_fin.sq rfl Q (by decide) rfl fun h12 x12 q12 => ?_
  replace Q := q12
  replace NQ := (NQ.tr x12 (fun q hq e => by have e : q = _ := e; have hq : q ≤ h.1.1 := hq; omega)).le (a2 := 1) (d2 := 5) (Nat.le_refl _) (Nat.le_refl _)
  refine yy_fin.steps (n := 4) (s' := (452, [some (.ref 1), some (.ref w), some (.ref 0), some (.int (Int32.ofInt fr)), some (.int (Int32.ofInt (t : Int))), some (.int (Int32.ofInt day)), some (zz_val k6), some (zz_val k7), some (.int (Int32.ofInt p8)), some (.ref k9), some (.int (Int32.ofInt s)), some (zz_val q11), some (.int (Int32.ofInt p12)), some (.ref q13), some (.int (Int32.ofInt i14)), none, none, none, none, none, none, none, none, none, none], [.int (Int32.ofInt 43200), .int (Int32.ofInt s), .int (Int32.ofInt 3), .ref (h.1.1 + 1), .ref (h.1.1 + 1)], h12)) rfl ?_
  suffices J13 : ∀ v13 : Int, v13 = (if s < 43200 then day - 1 else day) → yy_fin X 279 (464, [some (.ref 1), some (.ref w), some (.ref 0), some (.int (Int32.ofInt fr)), some (.int (Int32.ofInt (t : Int))), some (.int (Int32.ofInt day)), some (zz_val k6), some (zz_val k7), some (.int (Int32.ofInt p8)), some (.ref k9), some (.int (Int32.ofInt s)), some (zz_val q11), some (.int (Int32.ofInt p12)), some (.ref q13), some (.int (Int32.ofInt i14)), none, none, none, none, none, none, none, none, none, none], [.int (Int32.ofInt v13), .int (Int32.ofInt 3), .ref (h.1.1 + 1), .ref (h.1.1 + 1)], h12) φ by
    refine yy_fin.ic rfl (fun c14 => ?_) (fun c14 => ?_)
    · have c14 := (yi_c_ge (a := s) (b := 43200) (by omega) (by omega)).mp c14
      refine yy_fin.steps (n := 1) (s' := (464, [some (.ref 1), some (.ref w), some (.ref 0), some (.int (Int32.ofInt fr)), some (.int (Int32.ofInt (t : Int))), some (.int (Int32.ofInt day)), some (zz_val k6), some (zz_val k7), some (.int (Int32.ofInt p8)), some (.ref k9), some (.int (Int32.ofInt s)), some (zz_val q11), some (.int (Int32.ofInt p12)), some (.ref q13), some (.int (Int32.ofInt i14)), none, none, none, none, none, none, none, none, none, none], [.int (Int32.ofInt day), .int (Int32.ofInt 3), .ref (h.1.1 + 1), .ref (h.1.1 + 1)], h12)) rfl ?_
      exact J13 (day) (if_neg (by omega)).symm
    · have c14 := mt (yi_c_ge (a := s) (b := 43200) (by omega) (by omega)).mpr c14
      refine yy_fin.steps (n := 4) (s' := (464, [some (.ref 1), some (.ref w), some (.ref 0), some (.int (Int32.ofInt fr)), some (.int (Int32.ofInt (t : Int))), some (.int (Int32.ofInt day)), some (zz_val k6), some (zz_val k7), some (.int (Int32.ofInt p8)), some (.ref k9), some (.int (Int32.ofInt s)), some (zz_val q11), some (.int (Int32.ofInt p12)), some (.ref q13), some (.int (Int32.ofInt i14)), none, none, none, none, none, none, none, none, none, none], [.int ((Int32.ofInt day) - (Int32.ofInt 1)), .int (Int32.ofInt 3), .ref (h.1.1 + 1), .ref (h.1.1 + 1)], h12)) rfl ?_
      rw [yi_sub day 1]
      exact J13 (day - 1) (if_pos (by omega)).symm
  intro v13 ev13
  refine yy_fin.sq rfl Q (by decide) rfl fun h15 x15 q15 => ?_
  replace Q := q15
  replace NQ := (NQ.tr x15 (fun q hq e => by have e : q = _ := e; have hq : q ≤ h.1.1 := hq; omega)).le (a2 := 1) (d2 := 5) (Nat.le_refl _) (Nat.le_refl _)
  refine yy_fin.steps (n := 3) (s' := (468, [some (.ref 1), some (.ref w), some (.ref 0), some (.int (Int32.ofInt fr)), some (.int (Int32.ofInt (t : Int))), some (.int (Int32.ofInt day)), some (zz_val k6), some (zz_val k7), some (.int (Int32.ofInt p8)), some (.ref k9), some (.int (Int32.ofInt s)), some (zz_val q11), some (.int (Int32.ofInt p12)), some (.ref q13), some (.int (Int32.ofInt i14)), none, none, none, none, none, none, none, none, none, none], [.int (Int32.ofInt (-1)), .int (Int32.ofInt 4), .ref (h.1.1 + 1), .ref (h.1.1 + 1)], h15)) rfl ?_
  refine yy_fin.sq rfl Q (by decide) rfl fun h16 x16 q16 => ?_
  replace Q := q16
  replace NQ := (NQ.tr x16 (fun q hq e => by have e : q = _ := e; have hq : q ≤ h.1.1 := hq; omega)).le (a2 := 1) (d2 := 5) (Nat.le_refl _) (Nat.le_refl _)
  have x17 : yx (yAk w) 1 5 h h16 := NQ.ak
  have hn17 : 539 < h.1.1 + 1 := by have := C.2.1.2; omega
  have hw17 : h.1.1 + 1 ≠ w := by have := C.wle; omega
  replace C := C.f NQ
  have T14 : yRw h16 w (h.1.1 + 1) [(Int32.ofInt day), (Int32.ofInt v4), (Int32.ofInt v9), (Int32.ofInt v13), (Int32.ofInt (-1))] := ⟨⟨hn17, hw17⟩, Q⟩
  replace H6 := H6.k x17
  replace H7 := H7.k x17
  replace Y := Y.tr x17 (fun _ _ e => e)
  replace hY := Y.1
  refine yy_fin.steps (n := 5) (s' := (477, [some (.ref 1), some (.ref w), some (.ref 0), some (.int (Int32.ofInt fr)), some (.int (Int32.ofInt (t : Int))), some (.int (Int32.ofInt day)), some (zz_val k6), some (zz_val k7), some (.int (Int32.ofInt p8)), some (.ref k9), some (.int (Int32.ofInt s)), some (zz_val q11), some (.int (Int32.ofInt p12)), some (.ref q13), some (.ref (h.1.1 + 1)), some (.int (Int32.ofInt 0)), none, none, none, none, none, none, none, none, none], [.int (Int32.ofInt 5), .int (Int32.ofInt 0)], h16)) rfl ?_
  refine yy_fin.ic rfl (fun cK => absurd cK (by decide)) (fun cK => ?_)
  refine yy_fin.steps (n := 5) (s' := (489, [some (.ref 1), some (.ref w), some (.ref 0), some (.int (Int32.ofInt fr)), some (.int (Int32.ofInt (t : Int))), some (.int (Int32.ofInt day)), some (zz_val k6), some (zz_val k7), some (.int (Int32.ofInt p8)), some (.ref k9), some (.int (Int32.ofInt s)), some (zz_val q11), some (.int (Int32.ofInt p12)), some (.ref q13), some (.ref (h.1.1 + 1)), some (.int (Int32.ofInt 0)), none, none, none, none, none, none, none, none, none], [.int (Int32.ofInt 0), .int (Int32.ofInt s), .int (Int32.ofInt day), .int (Int32.ofInt (t : Int)), .ref 1], h16)) rfl ?_
  obtain ⟨g18, r18⟩ := qi_95 F C ht hd hs (k := 0) (by omega)
  obtain ⟨fs18, oo18⟩ := C.o
  refine yy_fin.cv (as := [.int (Int32.ofInt (t : Int)), .int (Int32.ofInt day), .int (Int32.ofInt s), .int (Int32.ofInt 0)]) rfl rfl rfl oo18 (Nat.le_of_ble_eq_true rfl) (Nat.le_of_ble_eq_true rfl) r18 ?_
  rintro v h18 ⟨rfl, C, x18⟩
  replace T14 := T14.k x18
  replace H6 := H6.k x18
  replace H7 := H7.k x18
  replace Y := Y.tr x18 (fun _ _ e => e)
  replace hY := Y.1
  refine yy_fin.steps (n := 2) (s' := (496, [some (.ref 1), some (.ref w), some (.ref 0), some (.int (Int32.ofInt fr)), some (.int (Int32.ofInt (t : Int))), some (.int (Int32.ofInt day)), some (zz_val k6), some (zz_val k7), some (.int (Int32.ofInt p8)), some (.ref k9), some (.int (Int32.ofInt s)), some (zz_val q11), some (.int (Int32.ofInt p12)), some (.ref q13), some (.ref (h.1.1 + 1)), some (.int (Int32.ofInt 0)), none, none, none, none, none, none, none, none, none], [.int (Int32.ofInt 0), .ref (h.1.1 + 1), .int (Int32.ofInt (s_95 (g0 541) t day s 0))], h18)) rfl ?_
  refine yy_fin.lp (j := 0) rfl T14.2 rfl (by decide) rfl ?_
  have q0 : s_95 (g0 541) t day s 0 = day := s_95_e.1
  refine yy_fin.ic rfl (fun _ => ?_) (fun cz => absurd (y_ceq (congrArg Int32.ofInt q0)) cz)
  refine yy_fin.steps (n := 4) (s' := (477, [some (.ref 1), some (.ref w), some (.ref 0), some (.int (Int32.ofInt fr)), some (.int (Int32.ofInt (t : Int))), some (.int (Int32.ofInt day)), some (zz_val k6), some (zz_val k7), some (.int (Int32.ofInt p8)), some (.ref k9), some (.int (Int32.ofInt s)), some (zz_val q11), some (.int (Int32.ofInt p12)), some (.ref q13), some (.ref (h.1.1 + 1)), some (.int ((Int32.ofInt 0) + (Int32.ofInt 1))), none, none, none, none, none, none, none, none, none], [.int (Int32.ofInt 5), .int ((Int32.ofInt 0) + (Int32.ofInt 1))], h18)) rfl ?_
  rw [show (Int32.ofInt 0) + (Int32.ofInt 1) = Int32.ofInt 1 from by decide]
  refine yy_fin.ic rfl (fun cK => absurd cK (by decide)) (fun cK => ?_)
  refine yy_fin.steps (n := 5) (s' := (489, [some (.ref 1), some (.ref w), some (.ref 0), some (.int (Int32.ofInt fr)), some (.int (Int32.ofInt (t : Int))), some (.int (Int32.ofInt day)), some (zz_val k6), some (zz_val k7), some (.int (Int32.ofInt p8)), some (.ref k9), some (.int (Int32.ofInt s)), some (zz_val q11), some (.int (Int32.ofInt p12)), some (.ref q13), some (.ref (h.1.1 + 1)), some (.int (Int32.ofInt 1)), none, none, none, none, none, none, none, none, none], [.int (Int32.ofInt 1), .int (Int32.ofInt s), .int (Int32.ofInt day), .int (Int32.ofInt (t : Int)), .ref 1], h18)) rfl ?_
  obtain ⟨g19, r19⟩ := qi_95 F C ht hd hs (k := 1) (by omega)
  obtain ⟨fs19, oo19⟩ := C.o
  refine yy_fin.cv (as := [.int (Int32.ofInt (t : Int)), .int (Int32.ofInt day), .int (Int32.ofInt s), .int (Int32.ofInt 1)]) rfl rfl rfl oo19 (Nat.le_of_ble_eq_true rfl) (Nat.le_of_ble_eq_true rfl) r19 ?_
  rintro v h19 ⟨rfl, C, x19⟩
  replace T14 := T14.k x19
  replace H6 := H6.k x19
  replace H7 := H7.k x19
  replace Y := Y.tr x19 (fun _ _ e => e)
  replace hY := Y.1
  refine yy_fin.steps (n := 2) (s' := (496, [some (.ref 1), some (.ref w), some (.ref 0), some (.int (Int32.ofInt fr)), some (.int (Int32.ofInt (t : Int))), some (.int (Int32.ofInt day)), some (zz_val k6), some (zz_val k7), some (.int (Int32.ofInt p8)), some (.ref k9), some (.int (Int32.ofInt s)), some (zz_val q11), some (.int (Int32.ofInt p12)), some (.ref q13), some (.ref (h.1.1 + 1)), some (.int (Int32.ofInt 1)), none, none, none, none, none, none, none, none, none], [.int (Int32.ofInt 1), .ref (h.1.1 + 1), .int (Int32.ofInt (s_95 (g0 541) t day s 1))], h19)) rfl ?_
  refine yy_fin.lp (j := 1) rfl T14.2 rfl (by decide) rfl ?_
  have q1 : s_95 (g0 541) t day s 1 = v4 := (s_95_e.2.1).trans ev4.symm
  refine yy_fin.ic rfl (fun _ => ?_) (fun cz => absurd (y_ceq (congrArg Int32.ofInt q1)) cz)
  refine yy_fin.steps (n := 4) (s' := (477, [some (.ref 1), some (.ref w), some (.ref 0), some (.int (Int32.ofInt fr)), some (.int (Int32.ofInt (t : Int))), some (.int (Int32.ofInt day)), some (zz_val k6), some (zz_val k7), some (.int (Int32.ofInt p8)), some (.ref k9), some (.int (Int32.ofInt s)), some (zz_val q11), some (.int (Int32.ofInt p12)), some (.ref q13), some (.ref (h.1.1 + 1)), some (.int ((Int32.ofInt 1) + (Int32.ofInt 1))), none, none, none, none, none, none, none, none, none], [.int (Int32.ofInt 5), .int ((Int32.ofInt 1) + (Int32.ofInt 1))], h19)) rfl ?_
  rw [show (Int32.ofInt 1) + (Int32.ofInt 1) = Int32.ofInt 2 from by decide]
  refine yy_fin.ic rfl (fun cK => absurd cK (by decide)) (fun cK => ?_)
  refine yy_fin.steps (n := 5) (s' := (489, [some (.ref 1), some (.ref w), some (.ref 0), some (.int (Int32.ofInt fr)), some (.int (Int32.ofInt (t : Int))), some (.int (Int32.ofInt day)), some (zz_val k6), some (zz_val k7), some (.int (Int32.ofInt p8)), some (.ref k9), some (.int (Int32.ofInt s)), some (zz_val q11), some (.int (Int32.ofInt p12)), some (.ref q13), some (.ref (h.1.1 + 1)), some (.int (Int32.ofInt 2)), none, none, none, none, none, none, none, none, none], [.int (Int32.ofInt 2), .int (Int32.ofInt s), .int (Int32.ofInt day), .int (Int32.ofInt (t : Int)), .ref 1], h19)) rfl ?_
  obtain ⟨g20, r20⟩ := qi_95 F C ht hd hs (k := 2) (by omega)
  obtain ⟨fs20, oo20⟩ := C.o
  refine yy_fin.cv (as := [.int (Int32.ofInt (t : Int)), .int (Int32.ofInt day), .int (Int32.ofInt s), .int (Int32.ofInt 2)]) rfl rfl rfl oo20 (Nat.le_of_ble_eq_true rfl) (Nat.le_of_ble_eq_true rfl) r20 ?_
  rintro v h20 ⟨rfl, C, x20⟩
  replace T14 := T14.k x20
  replace H6 := H6.k x20
  replace H7 := H7.k x20
  replace Y := Y.tr x20 (fun _ _ e => e)
  replace hY := Y.1
  refine yy_fin.steps (n := 2) (s' := (496, [some (.ref 1), some (.ref w), some (.ref 0), some (.int (Int32.ofInt fr)), some (.int (Int32.ofInt (t : Int))), some (.int (Int32.ofInt day)), some (zz_val k6), some (zz_val k7), some (.int (Int32.ofInt p8)), some (.ref k9), some (.int (Int32.ofInt s)), some (zz_val q11), some (.int (Int32.ofInt p12)), some (.ref q13), some (.ref (h.1.1 + 1)), some (.int (Int32.ofInt 2)), none, none, none, none, none, none, none, none, none], [.int (Int32.ofInt 2), .ref (h.1.1 + 1), .int (Int32.ofInt (s_95 (g0 541) t day s 2))], h20)) rfl ?_
  refine yy_fin.lp (j := 2) rfl T14.2 rfl (by decide) rfl ?_
  have q2 : s_95 (g0 541) t day s 2 = v9 := (s_95_e.2.2.1).trans ev9.symm
  refine yy_fin.ic rfl (fun _ => ?_) (fun cz => absurd (y_ceq (congrArg Int32.ofInt q2)) cz)
  refine yy_fin.steps (n := 4) (s' := (477, [some (.ref 1), some (.ref w), some (.ref 0), some (.int (Int32.ofInt fr)), some (.int (Int32.ofInt (t : Int))), some (.int (Int32.ofInt day)), some (zz_val k6), some (zz_val k7), some (.int (Int32.ofInt p8)), some (.ref k9), some (.int (Int32.ofInt s)), some (zz_val q11), some (.int (Int32.ofInt p12)), some (.ref q13), some (.ref (h.1.1 + 1)), some (.int ((Int32.ofInt 2) + (Int32.ofInt 1))), none, none, none, none, none, none, none, none, none], [.int (Int32.ofInt 5), .int ((Int32.ofInt 2) + (Int32.ofInt 1))], h20)) rfl ?_
  rw [show (Int32.ofInt 2) + (Int32.ofInt 1) = Int32.ofInt 3 from by decide]
  refine yy_fin.ic rfl (fun cK => absurd cK (by decide)) (fun cK => ?_)
  refine yy_fin.steps (n := 5) (s' := (489, [some (.ref 1), some (.ref w), some (.ref 0), some (.int (Int32.ofInt fr)), some (.int (Int32.ofInt (t : Int))), some (.int (Int32.ofInt day)), some (zz_val k6), some (zz_val k7), some (.int (Int32.ofInt p8)), some (.ref k9), some (.int (Int32.ofInt s)), some (zz_val q11), some (.int (Int32.ofInt p12)), some (.ref q13), some (.ref (h.1.1 + 1)), some (.int (Int32.ofInt 3)), none, none, none, none, none, none, none, none, none], [.int (Int32.ofInt 3), .int (Int32.ofInt s), .int (Int32.ofInt day), .int (Int32.ofInt (t : Int)), .ref 1], h20)) rfl ?_
  obtain ⟨g21, r21⟩ := qi_95 F C ht hd hs (k := 3) (by omega)
  obtain ⟨fs21, oo21⟩ := C.o
  refine yy_fin.cv (as := [.int (Int32.ofInt (t : Int)), .int (Int32.ofInt day), .int (Int32.ofInt s), .int (Int32.ofInt 3)]) rfl rfl rfl oo21 (Nat.le_of_ble_eq_true rfl) (Nat.le_of_ble_eq_true rfl) r21 ?_
  rintro v h21 ⟨rfl, C, x21⟩
  replace T14 := T14.k x21
  replace H6 := H6.k x21
  replace H7 := H7.k x21
  replace Y := Y.tr x21 (fun _ _ e => e)
  replace hY := Y.1
  refine yy_fin.steps (n := 2) (s' := (496, [some (.ref 1), some (.ref w), some (.ref 0), some (.int (Int32.ofInt fr)), some (.int (Int32.ofInt (t : Int))), some (.int (Int32.ofInt day)), some (zz_val k6), some (zz_val k7), some (.int (Int32.ofInt p8)), some (.ref k9), some (.int (Int32.ofInt s)), some (zz_val q11), some (.int (Int32.ofInt p12)), some (.ref q13), some (.ref (h.1.1 + 1)), some (.int (Int32.ofInt 3)), none, none, none, none, none, none, none, none, none], [.int (Int32.ofInt 3), .ref (h.1.1 + 1), .int (Int32.ofInt (s_95 (g0 541) t day s 3))], h21)) rfl ?_
  refine yy_fin.lp (j := 3) rfl T14.2 rfl (by decide) rfl ?_
  have q3 : s_95 (g0 541) t day s 3 = v13 := (s_95_e.2.2.2.1).trans ev13.symm
  refine yy_fin.ic rfl (fun _ => ?_) (fun cz => absurd (y_ceq (congrArg Int32.ofInt q3)) cz)
  refine yy_fin.steps (n := 4) (s' := (477, [some (.ref 1), some (.ref w), some (.ref 0), some (.int (Int32.ofInt fr)), some (.int (Int32.ofInt (t : Int))), some (.int (Int32.ofInt day)), some (zz_val k6), some (zz_val k7), some (.int (Int32.ofInt p8)), some (.ref k9), some (.int (Int32.ofInt s)), some (zz_val q11), some (.int (Int32.ofInt p12)), some (.ref q13), some (.ref (h.1.1 + 1)), some (.int ((Int32.ofInt 3) + (Int32.ofInt 1))), none, none, none, none, none, none, none, none, none], [.int (Int32.ofInt 5), .int ((Int32.ofInt 3) + (Int32.ofInt 1))], h21)) rfl ?_
  rw [show (Int32.ofInt 3) + (Int32.ofInt 1) = Int32.ofInt 4 from by decide]
  refine yy_fin.ic rfl (fun cK => absurd cK (by decide)) (fun cK => ?_)
  refine yy_fin.steps (n := 5) (s' := (489, [some (.ref 1), some (.ref w), some (.ref 0), some (.int (Int32.ofInt fr)), some (.int (Int32.ofInt (t : Int))), some (.int (Int32.ofInt day)), some (zz_val k6), some (zz_val k7), some (.int (Int32.ofInt p8)), some (.ref k9), some (.int (Int32.ofInt s)), some (zz_val q11), some (.int (Int32.ofInt p12)), some (.ref q13), some (.ref (h.1.1 + 1)), some (.int (Int32.ofInt 4)), none, none, none, none, none, none, none, none, none], [.int (Int32.ofInt 4), .int (Int32.ofInt s), .int (Int32.ofInt day), .int (Int32.ofInt (t : Int)), .ref 1], h21)) rfl ?_
  obtain ⟨g22, r22⟩ := qi_95 F C ht hd hs (k := 4) (by omega)
  obtain ⟨fs22, oo22⟩ := C.o
  refine yy_fin.cv (as := [.int (Int32.ofInt (t : Int)), .int (Int32.ofInt day), .int (Int32.ofInt s), .int (Int32.ofInt 4)]) rfl rfl rfl oo22 (Nat.le_of_ble_eq_true rfl) (Nat.le_of_ble_eq_true rfl) r22 ?_
  rintro v h22 ⟨rfl, C, x22⟩
  replace T14 := T14.k x22
  replace H6 := H6.k x22
  replace H7 := H7.k x22
  replace Y := Y.tr x22 (fun _ _ e => e)
  replace hY := Y.1
  refine yy_fin.steps (n := 2) (s' := (496, [some (.ref 1), some (.ref w), some (.ref 0), some (.int (Int32.ofInt fr)), some (.int (Int32.ofInt (t : Int))), some (.int (Int32.ofInt day)), some (zz_val k6), some (zz_val k7), some (.int (Int32.ofInt p8)), some (.ref k9), some (.int (Int32.ofInt s)), some (zz_val q11), some (.int (Int32.ofInt p12)), some (.ref q13), some (.ref (h.1.1 + 1)), some (.int (Int32.ofInt 4)), none, none, none, none, none, none, none, none, none], [.int (Int32.ofInt 4), .ref (h.1.1 + 1), .int (Int32.ofInt (s_95 (g0 541) t day s 4))], h22)) rfl ?_
  refine yy_fin.lp (j := 4) rfl T14.2 rfl (by decide) rfl ?_
  have q4 : s_95 (g0 541) t day s 4 = -1 := s_95_e.2.2.2.2
  refine yy_fin.ic rfl (fun _ => ?_) (fun cz => absurd (y_ceq (congrArg Int32.ofInt q4)) cz)
  refine yy_fin.steps (n := 4) (s' := (477, [some (.ref 1), some (.ref w), some (.ref 0), some (.int (Int32.ofInt fr)), some (.int (Int32.ofInt (t : Int))), some (.int (Int32.ofInt day)), some (zz_val k6), some (zz_val k7), some (.int (Int32.ofInt p8)), some (.ref k9), some (.int (Int32.ofInt s)), some (zz_val q11), some (.int (Int32.ofInt p12)), some (.ref q13), some (.ref (h.1.1 + 1)), some (.int ((Int32.ofInt 4) + (Int32.ofInt 1))), none, none, none, none, none, none, none, none, none], [.int (Int32.ofInt 5), .int ((Int32.ofInt 4) + (Int32.ofInt 1))], h22)) rfl ?_
  rw [show (Int32.ofInt 4) + (Int32.ofInt 1) = Int32.ofInt 5 from by decide]
  refine yy_fin.ic rfl (fun cK => ?_) (fun cK => absurd (by decide) cK)
  exact kk _ _ _ _ C (Y.le (by omega) (by omega)) H6 H7
theorem s_25_e {a : Nat → Int32} {t : Nat} {day f : Int} : s_25 a t day f 0 = y_el (hv_t a t day f) (-1000000) (fun u l => u + (u + l - u) / 2) := by
  unfold s_25
  cases hv_t a t day f with
  | none => rfl
  | some p =>
    show p.1 + p.2 / 2 = p.1 + (p.1 + p.2 - p.1) / 2
    rw [show p.1 + p.2 - p.1 = p.2 by omega]
theorem yl_ex {k6 k7 q11 q16 : Option Nat} {p8 p12 i15 n17 n18 v19 v20 m21 : Int} {k9 q13 q14 : Nat} {z22 : Int} (hz : 0 ≤ z22 ∧ z22 ≤ 200000) (kk : yy_fin X 279 (847, [some (.ref 1), some (.ref w), some (.ref 0), some (.int (Int32.ofInt fr)), some (.int (Int32.ofInt (t : Int))), some (.int (Int32.ofInt day)), some (zz_val k6), some (zz_val k7), some (.int (Int32.ofInt p8)), some (.ref k9), some (.int (Int32.ofInt s)), some (zz_val q11), some (.int (Int32.ofInt p12)), some (.ref q13), some (.ref q14), some (.int (Int32.ofInt i15)), some (zz_val q16), some (.int (Int32.ofInt n17)), some (.int (Int32.ofInt n18)), some (.int (Int32.ofInt v19)), some (.int (Int32.ofInt v20)), some (.int (Int32.ofInt m21)), some (.int (Int32.ofInt z22)), some (.int (Int32.ofInt (y_G z22))), none], [], h) φ) : ∀ (d : Nat) (b : Int), b = y_G z22 + d → b ≤ 12 → yy_fin X 279 (825, [some (.ref 1), some (.ref w), some (.ref 0), some (.int (Int32.ofInt fr)), some (.int (Int32.ofInt (t : Int))), some (.int (Int32.ofInt day)), some (zz_val k6), some (zz_val k7), some (.int (Int32.ofInt p8)), some (.ref k9), some (.int (Int32.ofInt s)), some (zz_val q11), some (.int (Int32.ofInt p12)), some (.ref q13), some (.ref q14), some (.int (Int32.ofInt i15)), some (zz_val q16), some (.int (Int32.ofInt n17)), some (.int (Int32.ofInt n18)), some (.int (Int32.ofInt v19)), some (.int (Int32.ofInt v20)), some (.int (Int32.ofInt m21)), some (.int (Int32.ofInt z22)), some (.int (Int32.ofInt b)), none], [], h) φ
  | 0, b, e, hb => by
    obtain ⟨G1, G2, G3⟩ := y_Gb z22
    have e9 : b = y_G z22 := by omega
    rw [← e9] at kk G1 G2
    obtain ⟨G4, G5⟩ := G2
    have G6 := Int.emod_nonneg z22 (show b ≠ 0 by omega)
    refine yy_fin.steps (n := 2) (s' := (829, [some (.ref 1), some (.ref w), some (.ref 0), some (.int (Int32.ofInt fr)), some (.int (Int32.ofInt (t : Int))), some (.int (Int32.ofInt day)), some (zz_val k6), some (zz_val k7), some (.int (Int32.ofInt p8)), some (.ref k9), some (.int (Int32.ofInt s)), some (zz_val q11), some (.int (Int32.ofInt p12)), some (.ref q13), some (.ref q14), some (.int (Int32.ofInt i15)), some (zz_val q16), some (.int (Int32.ofInt n17)), some (.int (Int32.ofInt n18)), some (.int (Int32.ofInt v19)), some (.int (Int32.ofInt v20)), some (.int (Int32.ofInt m21)), some (.int (Int32.ofInt z22)), some (.int (Int32.ofInt b)), none], [.int (Int32.ofInt b), .int (Int32.ofInt z22)], h)) rfl ?_
    refine yy_fin.rm rfl (fun z => by have z := (yi_eq (a := b) (b := 0) (by omega) (by omega)).mp z; omega) ?_
    rw [yi_rem (a := z22) (b := b) (by omega) (by omega)]
    refine yy_fin.if rfl (fun cq => absurd ((yi_z_ne (a := z22 % b) (by omega)).mp cq) (by omega)) (fun cq => ?_)
    have cq := mt (yi_z_ne (a := z22 % b) (by omega)).mpr cq
    refine yy_fin.steps (n := 2) (s' := (837, [some (.ref 1), some (.ref w), some (.ref 0), some (.int (Int32.ofInt fr)), some (.int (Int32.ofInt (t : Int))), some (.int (Int32.ofInt day)), some (zz_val k6), some (zz_val k7), some (.int (Int32.ofInt p8)), some (.ref k9), some (.int (Int32.ofInt s)), some (zz_val q11), some (.int (Int32.ofInt p12)), some (.ref q13), some (.ref q14), some (.int (Int32.ofInt i15)), some (zz_val q16), some (.int (Int32.ofInt n17)), some (.int (Int32.ofInt n18)), some (.int (Int32.ofInt v19)), some (.int (Int32.ofInt v20)), some (.int (Int32.ofInt m21)), some (.int (Int32.ofInt z22)), some (.int (Int32.ofInt b)), none], [.int (Int32.ofInt b), .int (Int32.ofInt 12)], h)) rfl ?_
    refine yy_fin.rm rfl (fun z => by have z := (yi_eq (a := b) (b := 0) (by omega) (by omega)).mp z; omega) ?_
    rw [yi_rem (a := 12) (b := b) (by omega) (by omega)]
    refine yy_fin.if rfl (fun cq => ?_) (fun cq => absurd ((yi_z_eq (a := 12 % b) (by omega)).mpr (by omega)) cq)
    have cq := (yi_z_eq (a := 12 % b) (by omega)).mp cq
    exact kk
  | d + 1, b, e, hb => by
    obtain ⟨G1, G2, G3⟩ := y_Gb z22
    have G7 := G3 b (by omega) hb
    have m1 := Int.emod_nonneg z22 (show b ≠ 0 by omega)
    have m2 := Int.emod_lt_of_pos z22 (show 0 < b by omega)
    have m3 := Int.emod_nonneg 12 (show b ≠ 0 by omega)
    have m4 := Int.emod_lt_of_pos 12 (show 0 < b by omega)
    obtain ⟨x1, ex1⟩ : ∃ x, x = z22 % b := ⟨_, rfl⟩
    obtain ⟨x2, ex2⟩ : ∃ x, x = 12 % b := ⟨_, rfl⟩
    rw [← ex1] at G7 m1 m2
    rw [← ex2] at G7 m3 m4
    refine yy_fin.steps (n := 2) (s' := (829, [some (.ref 1), some (.ref w), some (.ref 0), some (.int (Int32.ofInt fr)), some (.int (Int32.ofInt (t : Int))), some (.int (Int32.ofInt day)), some (zz_val k6), some (zz_val k7), some (.int (Int32.ofInt p8)), some (.ref k9), some (.int (Int32.ofInt s)), some (zz_val q11), some (.int (Int32.ofInt p12)), some (.ref q13), some (.ref q14), some (.int (Int32.ofInt i15)), some (zz_val q16), some (.int (Int32.ofInt n17)), some (.int (Int32.ofInt n18)), some (.int (Int32.ofInt v19)), some (.int (Int32.ofInt v20)), some (.int (Int32.ofInt m21)), some (.int (Int32.ofInt z22)), some (.int (Int32.ofInt b)), none], [.int (Int32.ofInt b), .int (Int32.ofInt z22)], h)) rfl ?_
    refine yy_fin.rm rfl (fun z => by have z := (yi_eq (a := b) (b := 0) (by omega) (by omega)).mp z; omega) ?_
    rw [yi_rem (a := z22) (b := b) (by omega) (by omega), ← ex1]
    refine yy_fin.if rfl (fun c1 => ?_) (fun c1 => ?_)
    · have c1 := (yi_z_ne (a := x1) (by omega)).mp c1
      refine yy_fin.steps (n := 2) (s' := (825, [some (.ref 1), some (.ref w), some (.ref 0), some (.int (Int32.ofInt fr)), some (.int (Int32.ofInt (t : Int))), some (.int (Int32.ofInt day)), some (zz_val k6), some (zz_val k7), some (.int (Int32.ofInt p8)), some (.ref k9), some (.int (Int32.ofInt s)), some (zz_val q11), some (.int (Int32.ofInt p12)), some (.ref q13), some (.ref q14), some (.int (Int32.ofInt i15)), some (zz_val q16), some (.int (Int32.ofInt n17)), some (.int (Int32.ofInt n18)), some (.int (Int32.ofInt v19)), some (.int (Int32.ofInt v20)), some (.int (Int32.ofInt m21)), some (.int (Int32.ofInt z22)), some (.int ((Int32.ofInt b) + (Int32.ofInt (-1)))), none], [], h)) rfl ?_
      rw [yi_add b (-1)]
      exact yl_ex hz kk d _ (by omega) (by omega)
    · have c1 := mt (yi_z_ne (a := x1) (by omega)).mpr c1
      refine yy_fin.steps (n := 2) (s' := (837, [some (.ref 1), some (.ref w), some (.ref 0), some (.int (Int32.ofInt fr)), some (.int (Int32.ofInt (t : Int))), some (.int (Int32.ofInt day)), some (zz_val k6), some (zz_val k7), some (.int (Int32.ofInt p8)), some (.ref k9), some (.int (Int32.ofInt s)), some (zz_val q11), some (.int (Int32.ofInt p12)), some (.ref q13), some (.ref q14), some (.int (Int32.ofInt i15)), some (zz_val q16), some (.int (Int32.ofInt n17)), some (.int (Int32.ofInt n18)), some (.int (Int32.ofInt v19)), some (.int (Int32.ofInt v20)), some (.int (Int32.ofInt m21)), some (.int (Int32.ofInt z22)), some (.int (Int32.ofInt b)), none], [.int (Int32.ofInt b), .int (Int32.ofInt 12)], h)) rfl ?_
      refine yy_fin.rm rfl (fun z => by have z := (yi_eq (a := b) (b := 0) (by omega) (by omega)).mp z; omega) ?_
      rw [yi_rem (a := 12) (b := b) (by omega) (by omega), ← ex2]
      refine yy_fin.if rfl (fun cq => absurd ((yi_z_eq (a := x2) (by omega)).mp cq) (by omega)) (fun cq => ?_)
      have cq := mt (yi_z_eq (a := x2) (by omega)).mpr cq
      refine yy_fin.steps (n := 2) (s' := (825, [some (.ref 1), some (.ref w), some (.ref 0), some (.int (Int32.ofInt fr)), some (.int (Int32.ofInt (t : Int))), some (.int (Int32.ofInt day)), some (zz_val k6), some (zz_val k7), some (.int (Int32.ofInt p8)), some (.ref k9), some (.int (Int32.ofInt s)), some (zz_val q11), some (.int (Int32.ofInt p12)), some (.ref q13), some (.ref q14), some (.int (Int32.ofInt i15)), some (zz_val q16), some (.int (Int32.ofInt n17)), some (.int (Int32.ofInt n18)), some (.int (Int32.ofInt v19)), some (.int (Int32.ofInt v20)), some (.int (Int32.ofInt m21)), some (.int (Int32.ofInt z22)), some (.int ((Int32.ofInt b) + (Int32.ofInt (-1)))), none], [], h)) rfl ?_
      rw [yi_add b (-1)]
      exact yl_ex hz kk d _ (by omega) (by omega)
theorem yl_d40 (F : yCf own w lst g0) (ht : (t : Int) < (g0 541 0).toInt) (hd : 0 ≤ day ∧ day ≤ 35999) (hX : X.1 = some (L, xs)) (hL : L ≤ 100000) (hfr : 0 ≤ fr ∧ fr ≤ 900000) (hs : 0 ≤ s ∧ s ≤ 86399) (C : yCx own w lst g0 h g) (hB : h.1.1 + 200 < yy_B) {k6 k7 : Option Nat} (H6 : yHr h w k6 (hv_t (g0 541) t day 0)) (H7 : yHr h w k7 (hv_t (g0 541) t day 1)) {p8 p12 : Int} {k9 q13 q14 : Nat} {q11 : Option Nat} (kk : ∀ h' g' (q16 : Option Nat) n17 n18 v19 v20 m21 z22 b23, yCx own w lst g0 h' g' → yx (yAk w) 20 60 h h' → yHr h' w k6 (hv_t (g0 541) t day 0) → yHr h' w k7 (hv_t (g0 541) t day 1) → yy_fin X 279 (511, [some (.ref 1), some (.ref w), some (.ref 0), some (.int (Int32.ofInt fr)), some (.int (Int32.ofInt (t : Int))), some (.int (Int32.ofInt day)), some (zz_val k6), some (zz_val k7), some (.int (Int32.ofInt p8)), some (.ref k9), some (.int (Int32.ofInt s)), some (zz_val q11), some (.int (Int32.ofInt p12)), some (.ref q13), some (.ref q14), some (.int (Int32.ofInt 1)), some (zz_val q16), some (.int (Int32.ofInt n17)), some (.int (Int32.ofInt n18)), some (.int (Int32.ofInt v19)), some (.int (Int32.ofInt v20)), some (.int (Int32.ofInt m21)), some (.int (Int32.ofInt z22)), some (.int (Int32.ofInt b23)), none], [], h') φ) : yy_fin X 279 (511, [some (.ref 1), some (.ref w), some (.ref 0), some (.int (Int32.ofInt fr)), some (.int (Int32.ofInt (t : Int))), some (.int (Int32.ofInt day)), some (zz_val k6), some (zz_val k7), some (.int (Int32.ofInt p8)), some (.ref k9), some (.int (Int32.ofInt s)), some (zz_val q11), some (.int (Int32.ofInt p12)), some (.ref q13), some (.ref q14), some (.int (Int32.ofInt 0)), none, none, none, none, none, none, none, none, none], [], h) φ := by
  have n4 := F.2.2.2.1
  have hq := F.2.2.2.2.1
  have Y : yx (yAk w) 0 0 h h := yx.rf
  have hY := Y.1
  have hg := C.2.1.2
  refine yy_fin.steps (n := 2) (s' := (514, [some (.ref 1), some (.ref w), some (.ref 0), some (.int (Int32.ofInt fr)), some (.int (Int32.ofInt (t : Int))), some (.int (Int32.ofInt day)), some (zz_val k6), some (zz_val k7), some (.int (Int32.ofInt p8)), some (.ref k9), some (.int (Int32.ofInt s)), some (zz_val q11), some (.int (Int32.ofInt p12)), some (.ref q13), some (.ref q14), some (.int (Int32.ofInt 0)), none, none, none, none, none, none, none, none, none], [.int (Int32.ofInt 2), .int (Int32.ofInt 0)], h)) rfl ?_
  refine yy_fin.ic rfl (fun cK => absurd cK (by decide)) (fun cK => ?_)
  refine yy_fin.steps (n := 1) (s' := (519, [some (.ref 1), some (.ref w), some (.ref 0), some (.int (Int32.ofInt fr)), some (.int (Int32.ofInt (t : Int))), some (.int (Int32.ofInt day)), some (zz_val k6), some (zz_val k7), some (.int (Int32.ofInt p8)), some (.ref k9), some (.int (Int32.ofInt s)), some (zz_val q11), some (.int (Int32.ofInt p12)), some (.ref q13), some (.ref q14), some (.int (Int32.ofInt 0)), none, none, none, none, none, none, none, none, none], [.int (Int32.ofInt 0)], h)) rfl ?_
  refine yy_fin.if rfl (fun cK => absurd cK (by decide)) (fun cK => ?_)
  suffices K1 : yy_fin X 279 (524, [some (.ref 1), some (.ref w), some (.ref 0), some (.int (Int32.ofInt fr)), some (.int (Int32.ofInt (t : Int))), some (.int (Int32.ofInt day)), some (zz_val k6), some (zz_val k7), some (.int (Int32.ofInt p8)), some (.ref k9), some (.int (Int32.ofInt s)), some (zz_val q11), some (.int (Int32.ofInt p12)), some (.ref q13), some (.ref q14), some (.int (Int32.ofInt 0)), none, none, none, none, none, none, none, none, none], [zz_val k6], h) φ by cases k6 <;> exact yy_fin.steps (n := 1) rfl K1
  refine yy_fin.steps (n := 1) (s' := (529, [some (.ref 1), some (.ref w), some (.ref 0), some (.int (Int32.ofInt fr)), some (.int (Int32.ofInt (t : Int))), some (.int (Int32.ofInt day)), some (zz_val k6), some (zz_val k7), some (.int (Int32.ofInt p8)), some (.ref k9), some (.int (Int32.ofInt s)), some (zz_val q11), some (.int (Int32.ofInt p12)), some (.ref q13), some (.ref q14), some (.int (Int32.ofInt 0)), none, none, none, none, none, none, none, none, none], [zz_val k6], h)) rfl ?_
  suffices K2 : yy_fin X 279 (531, [some (.ref 1), some (.ref w), some (.ref 0), some (.int (Int32.ofInt fr)), some (.int (Int32.ofInt (t : Int))), some (.int (Int32.ofInt day)), some (zz_val k6), some (zz_val k7), some (.int (Int32.ofInt p8)), some (.ref k9), some (.int (Int32.ofInt s)), some (zz_val q11), some (.int (Int32.ofInt p12)), some (.ref q13), some (.ref q14), some (.int (Int32.ofInt 0)), some (zz_val k6), none, none, none, none, none, none, none, none], [], h) φ by cases k6 <;> exact yy_fin.steps (n := 1) rfl K2
  refine yy_fin.steps (n := 6) (s' := (538, [some (.ref 1), some (.ref w), some (.ref 0), some (.int (Int32.ofInt fr)), some (.int (Int32.ofInt (t : Int))), some (.int (Int32.ofInt day)), some (zz_val k6), some (zz_val k7), some (.int (Int32.ofInt p8)), some (.ref k9), some (.int (Int32.ofInt s)), some (zz_val q11), some (.int (Int32.ofInt p12)), some (.ref q13), some (.ref q14), some (.int (Int32.ofInt 0)), some (zz_val k6), none, none, none, none, none, none, none, none], [.int (((Int32.ofInt fr) + (Int32.ofInt 1)) + (Int32.ofInt 0)), .ref 0], h)) rfl ?_
  rw [yi_add fr 1]
  rw [yi_add (fr + 1) 0]
  refine yy_fin.calls (as := [.ref 0, .int (Int32.ofInt ((fr + 1) + 0))]) rfl (by decide) rfl rfl (Nat.le_of_ble_eq_true rfl) (Nat.le_of_ble_eq_true rfl) (yl_pick hX hL (k := (fr + 1) + 0) (by omega)) ?_
  rintro v h9 ⟨y17, rfl, ay17, by17, e9⟩
  obtain rfl := e9.symm
  refine yy_fin.steps (n := 2) (s' := (544, [some (.ref 1), some (.ref w), some (.ref 0), some (.int (Int32.ofInt fr)), some (.int (Int32.ofInt (t : Int))), some (.int (Int32.ofInt day)), some (zz_val k6), some (zz_val k7), some (.int (Int32.ofInt p8)), some (.ref k9), some (.int (Int32.ofInt s)), some (zz_val q11), some (.int (Int32.ofInt p12)), some (.ref q13), some (.ref q14), some (.int (Int32.ofInt 0)), some (zz_val k6), none, none, none, none, none, none, none, none], [.ref w, .int (Int32.ofInt 12), .int (Int32.ofInt y17)], h)) rfl ?_
  obtain ⟨o3, p3, b3, t3, oP3, eP3⟩ := C.wp
  refine yy_fin.fi rfl oP3 rfl eP3 ?_
  refine yy_fin.steps (n := 1) (s' := (548, [some (.ref 1), some (.ref w), some (.ref 0), some (.int (Int32.ofInt fr)), some (.int (Int32.ofInt (t : Int))), some (.int (Int32.ofInt day)), some (zz_val k6), some (zz_val k7), some (.int (Int32.ofInt p8)), some (.ref k9), some (.int (Int32.ofInt s)), some (zz_val q11), some (.int (Int32.ofInt p12)), some (.ref q13), some (.ref q14), some (.int (Int32.ofInt 0)), some (zz_val k6), none, none, none, none, none, none, none, none], [.int ((Int32.ofInt 12) * (Int32.ofInt ((g0 541 1).toInt))), .int (Int32.ofInt y17)], h)) rfl ?_
  rw [yi_mul 12 ((g0 541 1).toInt)]
  refine yy_fin.rm rfl (fun z => by have z := (yi_eq (a := 12 * (g0 541 1).toInt) (b := 0) (by omega) (by omega)).mp z; omega) ?_
  rw [yi_rem (a := y17) (b := 12 * ((g0 541 1).toInt)) (by omega) (by omega)]
  have mn17_0 := Int.emod_nonneg y17 (show 12 * (g0 541 1).toInt ≠ 0 by omega)
  have nn17_0 := Int.emod_lt_of_pos y17 (show 0 < 12 * (g0 541 1).toInt by omega)
  obtain ⟨n17_0, en17_0⟩ : ∃ z, z = y17 % (12 * (g0 541 1).toInt) := ⟨_, rfl⟩
  rw [← en17_0] at mn17_0 nn17_0 ⊢
  suffices K4 : yy_fin X 279 (551, [some (.ref 1), some (.ref w), some (.ref 0), some (.int (Int32.ofInt fr)), some (.int (Int32.ofInt (t : Int))), some (.int (Int32.ofInt day)), some (zz_val k6), some (zz_val k7), some (.int (Int32.ofInt p8)), some (.ref k9), some (.int (Int32.ofInt s)), some (zz_val q11), some (.int (Int32.ofInt p12)), some (.ref q13), some (.ref q14), some (.int (Int32.ofInt 0)), some (zz_val k6), some (.int (Int32.ofInt n17_0)), none, none, none, none, none, none, none], [], h) φ by cases k6 <;> exact yy_fin.steps (n := 1) rfl K4
  refine yy_fin.steps (n := 6) (s' := (558, [some (.ref 1), some (.ref w), some (.ref 0), some (.int (Int32.ofInt fr)), some (.int (Int32.ofInt (t : Int))), some (.int (Int32.ofInt day)), some (zz_val k6), some (zz_val k7), some (.int (Int32.ofInt p8)), some (.ref k9), some (.int (Int32.ofInt s)), some (zz_val q11), some (.int (Int32.ofInt p12)), some (.ref q13), some (.ref q14), some (.int (Int32.ofInt 0)), some (zz_val k6), some (.int (Int32.ofInt n17_0)), none, none, none, none, none, none, none], [.int (((Int32.ofInt fr) + (Int32.ofInt 3)) + (Int32.ofInt 0)), .ref 0], h)) rfl ?_
  rw [yi_add fr 3]
  rw [yi_add (fr + 3) 0]
  refine yy_fin.calls (as := [.ref 0, .int (Int32.ofInt ((fr + 3) + 0))]) rfl (by decide) rfl rfl (Nat.le_of_ble_eq_true rfl) (Nat.le_of_ble_eq_true rfl) (yl_pick hX hL (k := (fr + 3) + 0) (by omega)) ?_
  rintro v h9 ⟨y18, rfl, ay18, by18, e9⟩
  obtain rfl := e9.symm
  refine yy_fin.steps (n := 2) (s' := (564, [some (.ref 1), some (.ref w), some (.ref 0), some (.int (Int32.ofInt fr)), some (.int (Int32.ofInt (t : Int))), some (.int (Int32.ofInt day)), some (zz_val k6), some (zz_val k7), some (.int (Int32.ofInt p8)), some (.ref k9), some (.int (Int32.ofInt s)), some (zz_val q11), some (.int (Int32.ofInt p12)), some (.ref q13), some (.ref q14), some (.int (Int32.ofInt 0)), some (zz_val k6), some (.int (Int32.ofInt n17_0)), none, none, none, none, none, none, none], [.ref w, .int (Int32.ofInt 12), .int (Int32.ofInt y18)], h)) rfl ?_
  obtain ⟨o5, p5, b5, t5, oP5, eP5⟩ := C.wp
  refine yy_fin.fi rfl oP5 rfl eP5 ?_
  refine yy_fin.steps (n := 1) (s' := (568, [some (.ref 1), some (.ref w), some (.ref 0), some (.int (Int32.ofInt fr)), some (.int (Int32.ofInt (t : Int))), some (.int (Int32.ofInt day)), some (zz_val k6), some (zz_val k7), some (.int (Int32.ofInt p8)), some (.ref k9), some (.int (Int32.ofInt s)), some (zz_val q11), some (.int (Int32.ofInt p12)), some (.ref q13), some (.ref q14), some (.int (Int32.ofInt 0)), some (zz_val k6), some (.int (Int32.ofInt n17_0)), none, none, none, none, none, none, none], [.int ((Int32.ofInt 12) * (Int32.ofInt ((g0 541 1).toInt))), .int (Int32.ofInt y18)], h)) rfl ?_
  rw [yi_mul 12 ((g0 541 1).toInt)]
  refine yy_fin.rm rfl (fun z => by have z := (yi_eq (a := 12 * (g0 541 1).toInt) (b := 0) (by omega) (by omega)).mp z; omega) ?_
  rw [yi_rem (a := y18) (b := 12 * ((g0 541 1).toInt)) (by omega) (by omega)]
  have mn18_0 := Int.emod_nonneg y18 (show 12 * (g0 541 1).toInt ≠ 0 by omega)
  have nn18_0 := Int.emod_lt_of_pos y18 (show 0 < 12 * (g0 541 1).toInt by omega)
  obtain ⟨n18_0, en18_0⟩ : ∃ z, z = y18 % (12 * (g0 541 1).toInt) := ⟨_, rfl⟩
  rw [← en18_0] at mn18_0 nn18_0 ⊢
  refine yy_fin.steps (n := 1) (s' := (571, [some (.ref 1), some (.ref w), some (.ref 0), some (.int (Int32.ofInt fr)), some (.int (Int32.ofInt (t : Int))), some (.int (Int32.ofInt day)), some (zz_val k6), some (zz_val k7), some (.int (Int32.ofInt p8)), some (.ref k9), some (.int (Int32.ofInt s)), some (zz_val q11), some (.int (Int32.ofInt p12)), some (.ref q13), some (.ref q14), some (.int (Int32.ofInt 0)), some (zz_val k6), some (.int (Int32.ofInt n17_0)), some (.int (Int32.ofInt n18_0)), none, none, none, none, none, none], [], h)) rfl ?_
  suffices K6 : yy_fin X 279 (573, [some (.ref 1), some (.ref w), some (.ref 0), some (.int (Int32.ofInt fr)), some (.int (Int32.ofInt (t : Int))), some (.int (Int32.ofInt day)), some (zz_val k6), some (zz_val k7), some (.int (Int32.ofInt p8)), some (.ref k9), some (.int (Int32.ofInt s)), some (zz_val q11), some (.int (Int32.ofInt p12)), some (.ref q13), some (.ref q14), some (.int (Int32.ofInt 0)), some (zz_val k6), some (.int (Int32.ofInt n17_0)), some (.int (Int32.ofInt n18_0)), none, none, none, none, none, none], [zz_val k6], h) φ by cases k6 <;> exact yy_fin.steps (n := 1) rfl K6
  suffices J7 : ∀ v7 : Int, v7 = s_90 (g0 541) t day 0 n17_0 → yy_fin X 279 (604, [some (.ref 1), some (.ref w), some (.ref 0), some (.int (Int32.ofInt fr)), some (.int (Int32.ofInt (t : Int))), some (.int (Int32.ofInt day)), some (zz_val k6), some (zz_val k7), some (.int (Int32.ofInt p8)), some (.ref k9), some (.int (Int32.ofInt s)), some (zz_val q11), some (.int (Int32.ofInt p12)), some (.ref q13), some (.ref q14), some (.int (Int32.ofInt 0)), some (zz_val k6), some (.int (Int32.ofInt n17_0)), some (.int (Int32.ofInt n18_0)), none, none, none, none, none, none], [.int (Int32.ofInt v7)], h) φ by
    rcases H6 with ⟨rfl, eo8⟩ | ⟨q8, u8, l8, rfl, eo8, R8⟩
    · refine yy_fin.steps (n := 3) (s' := (604, [some (.ref 1), some (.ref w), some (.ref 0), some (.int (Int32.ofInt fr)), some (.int (Int32.ofInt (t : Int))), some (.int (Int32.ofInt day)), some (.null), some (zz_val k7), some (.int (Int32.ofInt p8)), some (.ref k9), some (.int (Int32.ofInt s)), some (zz_val q11), some (.int (Int32.ofInt p12)), some (.ref q13), some (.ref q14), some (.int (Int32.ofInt 0)), some (.null), some (.int (Int32.ofInt n17_0)), some (.int (Int32.ofInt n18_0)), none, none, none, none, none, none], [.int (Int32.ofInt (-2))], h)) rfl ?_
      exact J7 (-2) (by show _ = s_b _ _ _; rw [eo8]; rfl)
    · have hb8 := hv_bnd2 F.2.2.2 ht eo8
      refine yy_fin.steps (n := 4) (s' := (581, [some (.ref 1), some (.ref w), some (.ref 0), some (.int (Int32.ofInt fr)), some (.int (Int32.ofInt (t : Int))), some (.int (Int32.ofInt day)), some (.ref q8), some (zz_val k7), some (.int (Int32.ofInt p8)), some (.ref k9), some (.int (Int32.ofInt s)), some (zz_val q11), some (.int (Int32.ofInt p12)), some (.ref q13), some (.ref q14), some (.int (Int32.ofInt 0)), some (.ref q8), some (.int (Int32.ofInt n17_0)), some (.int (Int32.ofInt n18_0)), none, none, none, none, none, none], [.int (Int32.ofInt n17_0), .ref q8, .ref w], h)) rfl ?_
      have hk9 := yk_b (q := (g0 541 1).toInt) (n := n17_0) (l := l8) (by omega) (by omega) (by omega)
      obtain ⟨fw10, oW10⟩ := C.ow
      refine yy_fin.cv (as := [.ref q8, .int (Int32.ofInt n17_0)]) rfl rfl rfl oW10 (Nat.le_of_ble_eq_true rfl) (Nat.le_of_ble_eq_true rfl) (yc_back F C R8 (n := n17_0) (by omega) (by omega) (by omega)) ?_
      rintro v h9 ⟨rfl, e9⟩
      obtain rfl := e9.symm
      refine yy_fin.steps (n := 2) (s' := (587, [some (.ref 1), some (.ref w), some (.ref 0), some (.int (Int32.ofInt fr)), some (.int (Int32.ofInt (t : Int))), some (.int (Int32.ofInt day)), some (.ref q8), some (zz_val k7), some (.int (Int32.ofInt p8)), some (.ref k9), some (.int (Int32.ofInt s)), some (zz_val q11), some (.int (Int32.ofInt p12)), some (.ref q13), some (.ref q14), some (.int (Int32.ofInt 0)), some (.ref q8), some (.int (Int32.ofInt n17_0)), some (.int (Int32.ofInt n18_0)), none, none, none, none, none, none], [.int (Int32.ofInt 1), .ref q8, .int (Int32.ofInt (u8 + yk (g0 541 1).toInt n17_0 l8))], h)) rfl ?_
      refine yy_fin.lp (j := 1) rfl R8.2 rfl (by decide) rfl ?_
      refine yy_fin.ic rfl (fun c11 => ?_) (fun c11 => ?_)
      · have c11 := (yi_c_ne (a := u8 + yk (g0 541 1).toInt n17_0 l8) (b := u8 + l8) (by omega) (by omega)).mp c11
        refine yy_fin.steps (n := 3) (s' := (601, [some (.ref 1), some (.ref w), some (.ref 0), some (.int (Int32.ofInt fr)), some (.int (Int32.ofInt (t : Int))), some (.int (Int32.ofInt day)), some (.ref q8), some (zz_val k7), some (.int (Int32.ofInt p8)), some (.ref k9), some (.int (Int32.ofInt s)), some (zz_val q11), some (.int (Int32.ofInt p12)), some (.ref q13), some (.ref q14), some (.int (Int32.ofInt 0)), some (.ref q8), some (.int (Int32.ofInt n17_0)), some (.int (Int32.ofInt n18_0)), none, none, none, none, none, none], [.int (Int32.ofInt n17_0), .ref q8, .ref w], h)) rfl ?_
        have hk12 := yk_b (q := (g0 541 1).toInt) (n := n17_0) (l := l8) (by omega) (by omega) (by omega)
        obtain ⟨fw13, oW13⟩ := C.ow
        refine yy_fin.cv (as := [.ref q8, .int (Int32.ofInt n17_0)]) rfl rfl rfl oW13 (Nat.le_of_ble_eq_true rfl) (Nat.le_of_ble_eq_true rfl) (yc_back F C R8 (n := n17_0) (by omega) (by omega) (by omega)) ?_
        rintro v h9 ⟨rfl, e9⟩
        obtain rfl := e9.symm
        exact J7 (u8 + yk (g0 541 1).toInt n17_0 l8) (by show _ = s_b _ _ _; rw [eo8]; exact (if_neg (by omega)).symm)
      · have c11 := mt (yi_c_ne (a := u8 + yk (g0 541 1).toInt n17_0 l8) (b := u8 + l8) (by omega) (by omega)).mpr c11
        refine yy_fin.steps (n := 2) (s' := (604, [some (.ref 1), some (.ref w), some (.ref 0), some (.int (Int32.ofInt fr)), some (.int (Int32.ofInt (t : Int))), some (.int (Int32.ofInt day)), some (.ref q8), some (zz_val k7), some (.int (Int32.ofInt p8)), some (.ref k9), some (.int (Int32.ofInt s)), some (zz_val q11), some (.int (Int32.ofInt p12)), some (.ref q13), some (.ref q14), some (.int (Int32.ofInt 0)), some (.ref q8), some (.int (Int32.ofInt n17_0)), some (.int (Int32.ofInt n18_0)), none, none, none, none, none, none], [.int (Int32.ofInt (-2))], h)) rfl ?_
        exact J7 (-2) (by show _ = s_b _ _ _; rw [eo8]; exact (if_pos (by omega)).symm)
  intro v7 ev7
  have hb7 := s_90_b (day := day) (f := 0) (n := n17_0) F.2.2.2 ht (by omega)
  rw [← ev7] at hb7
  refine yy_fin.steps (n := 1) (s' := (606, [some (.ref 1), some (.ref w), some (.ref 0), some (.int (Int32.ofInt fr)), some (.int (Int32.ofInt (t : Int))), some (.int (Int32.ofInt day)), some (zz_val k6), some (zz_val k7), some (.int (Int32.ofInt p8)), some (.ref k9), some (.int (Int32.ofInt s)), some (zz_val q11), some (.int (Int32.ofInt p12)), some (.ref q13), some (.ref q14), some (.int (Int32.ofInt 0)), some (zz_val k6), some (.int (Int32.ofInt n17_0)), some (.int (Int32.ofInt n18_0)), some (.int (Int32.ofInt v7)), none, none, none, none, none], [], h)) rfl ?_
  suffices K14 : yy_fin X 279 (608, [some (.ref 1), some (.ref w), some (.ref 0), some (.int (Int32.ofInt fr)), some (.int (Int32.ofInt (t : Int))), some (.int (Int32.ofInt day)), some (zz_val k6), some (zz_val k7), some (.int (Int32.ofInt p8)), some (.ref k9), some (.int (Int32.ofInt s)), some (zz_val q11), some (.int (Int32.ofInt p12)), some (.ref q13), some (.ref q14), some (.int (Int32.ofInt 0)), some (zz_val k6), some (.int (Int32.ofInt n17_0)), some (.int (Int32.ofInt n18_0)), some (.int (Int32.ofInt v7)), none, none, none, none, none], [zz_val k6], h) φ by cases k6 <;> exact yy_fin.steps (n := 1) rfl K14
  suffices J15 : ∀ v15 : Int, v15 = s_90 (g0 541) t day 0 n18_0 → yy_fin X 279 (639, [some (.ref 1), some (.ref w), some (.ref 0), some (.int (Int32.ofInt fr)), some (.int (Int32.ofInt (t : Int))), some (.int (Int32.ofInt day)), some (zz_val k6), some (zz_val k7), some (.int (Int32.ofInt p8)), some (.ref k9), some (.int (Int32.ofInt s)), some (zz_val q11), some (.int (Int32.ofInt p12)), some (.ref q13), some (.ref q14), some (.int (Int32.ofInt 0)), some (zz_val k6), some (.int (Int32.ofInt n17_0)), some (.int (Int32.ofInt n18_0)), some (.int (Int32.ofInt v7)), none, none, none, none, none], [.int (Int32.ofInt v15)], h) φ by
    rcases H6 with ⟨rfl, eo16⟩ | ⟨q16, u16, l16, rfl, eo16, R16⟩
    · refine yy_fin.steps (n := 3) (s' := (639, [some (.ref 1), some (.ref w), some (.ref 0), some (.int (Int32.ofInt fr)), some (.int (Int32.ofInt (t : Int))), some (.int (Int32.ofInt day)), some (.null), some (zz_val k7), some (.int (Int32.ofInt p8)), some (.ref k9), some (.int (Int32.ofInt s)), some (zz_val q11), some (.int (Int32.ofInt p12)), some (.ref q13), some (.ref q14), some (.int (Int32.ofInt 0)), some (.null), some (.int (Int32.ofInt n17_0)), some (.int (Int32.ofInt n18_0)), some (.int (Int32.ofInt v7)), none, none, none, none, none], [.int (Int32.ofInt (-2))], h)) rfl ?_
      exact J15 (-2) (by show _ = s_b _ _ _; rw [eo16]; rfl)
    · have hb16 := hv_bnd2 F.2.2.2 ht eo16
      refine yy_fin.steps (n := 4) (s' := (616, [some (.ref 1), some (.ref w), some (.ref 0), some (.int (Int32.ofInt fr)), some (.int (Int32.ofInt (t : Int))), some (.int (Int32.ofInt day)), some (.ref q16), some (zz_val k7), some (.int (Int32.ofInt p8)), some (.ref k9), some (.int (Int32.ofInt s)), some (zz_val q11), some (.int (Int32.ofInt p12)), some (.ref q13), some (.ref q14), some (.int (Int32.ofInt 0)), some (.ref q16), some (.int (Int32.ofInt n17_0)), some (.int (Int32.ofInt n18_0)), some (.int (Int32.ofInt v7)), none, none, none, none, none], [.int (Int32.ofInt n18_0), .ref q16, .ref w], h)) rfl ?_
      have hk17 := yk_b (q := (g0 541 1).toInt) (n := n18_0) (l := l16) (by omega) (by omega) (by omega)
      obtain ⟨fw18, oW18⟩ := C.ow
      refine yy_fin.cv (as := [.ref q16, .int (Int32.ofInt n18_0)]) rfl rfl rfl oW18 (Nat.le_of_ble_eq_true rfl) (Nat.le_of_ble_eq_true rfl) (yc_back F C R16 (n := n18_0) (by omega) (by omega) (by omega)) ?_
      rintro v h9 ⟨rfl, e9⟩
      obtain rfl := e9.symm
      refine yy_fin.steps (n := 2) (s' := (622, [some (.ref 1), some (.ref w), some (.ref 0), some (.int (Int32.ofInt fr)), some (.int (Int32.ofInt (t : Int))), some (.int (Int32.ofInt day)), some (.ref q16), some (zz_val k7), some (.int (Int32.ofInt p8)), some (.ref k9), some (.int (Int32.ofInt s)), some (zz_val q11), some (.int (Int32.ofInt p12)), some (.ref q13), some (.ref q14), some (.int (Int32.ofInt 0)), some (.ref q16), some (.int (Int32.ofInt n17_0)), some (.int (Int32.ofInt n18_0)), some (.int (Int32.ofInt v7)), none, none, none, none, none], [.int (Int32.ofInt 1), .ref q16, .int (Int32.ofInt (u16 + yk (g0 541 1).toInt n18_0 l16))], h)) rfl ?_
      refine yy_fin.lp (j := 1) rfl R16.2 rfl (by decide) rfl ?_
      refine yy_fin.ic rfl (fun c19 => ?_) (fun c19 => ?_)
      · have c19 := (yi_c_ne (a := u16 + yk (g0 541 1).toInt n18_0 l16) (b := u16 + l16) (by omega) (by omega)).mp c19
        refine yy_fin.steps (n := 3) (s' := (636, [some (.ref 1), some (.ref w), some (.ref 0), some (.int (Int32.ofInt fr)), some (.int (Int32.ofInt (t : Int))), some (.int (Int32.ofInt day)), some (.ref q16), some (zz_val k7), some (.int (Int32.ofInt p8)), some (.ref k9), some (.int (Int32.ofInt s)), some (zz_val q11), some (.int (Int32.ofInt p12)), some (.ref q13), some (.ref q14), some (.int (Int32.ofInt 0)), some (.ref q16), some (.int (Int32.ofInt n17_0)), some (.int (Int32.ofInt n18_0)), some (.int (Int32.ofInt v7)), none, none, none, none, none], [.int (Int32.ofInt n18_0), .ref q16, .ref w], h)) rfl ?_
        have hk20 := yk_b (q := (g0 541 1).toInt) (n := n18_0) (l := l16) (by omega) (by omega) (by omega)
        obtain ⟨fw21, oW21⟩ := C.ow
        refine yy_fin.cv (as := [.ref q16, .int (Int32.ofInt n18_0)]) rfl rfl rfl oW21 (Nat.le_of_ble_eq_true rfl) (Nat.le_of_ble_eq_true rfl) (yc_back F C R16 (n := n18_0) (by omega) (by omega) (by omega)) ?_
        rintro v h9 ⟨rfl, e9⟩
        obtain rfl := e9.symm
        exact J15 (u16 + yk (g0 541 1).toInt n18_0 l16) (by show _ = s_b _ _ _; rw [eo16]; exact (if_neg (by omega)).symm)
      · have c19 := mt (yi_c_ne (a := u16 + yk (g0 541 1).toInt n18_0 l16) (b := u16 + l16) (by omega) (by omega)).mpr c19
        refine yy_fin.steps (n := 2) (s' := (639, [some (.ref 1), some (.ref w), some (.ref 0), some (.int (Int32.ofInt fr)), some (.int (Int32.ofInt (t : Int))), some (.int (Int32.ofInt day)), some (.ref q16), some (zz_val k7), some (.int (Int32.ofInt p8)), some (.ref k9), some (.int (Int32.ofInt s)), some (zz_val q11), some (.int (Int32.ofInt p12)), some (.ref q13), some (.ref q14), some (.int (Int32.ofInt 0)), some (.ref q16), some (.int (Int32.ofInt n17_0)), some (.int (Int32.ofInt n18_0)), some (.int (Int32.ofInt v7)), none, none, none, none, none], [.int (Int32.ofInt (-2))], h)) rfl ?_
        exact J15 (-2) (by show _ = s_b _ _ _; rw [eo16]; exact (if_pos (by omega)).symm)
  intro v15 ev15
  have hb15 := s_90_b (day := day) (f := 0) (n := n18_0) F.2.2.2 ht (by omega)
  rw [← ev15] at hb15
  refine yy_fin.steps (n := 1) (s' := (641, [some (.ref 1), some (.ref w), some (.ref 0), some (.int (Int32.ofInt fr)), some (.int (Int32.ofInt (t : Int))), some (.int (Int32.ofInt day)), some (zz_val k6), some (zz_val k7), some (.int (Int32.ofInt p8)), some (.ref k9), some (.int (Int32.ofInt s)), some (zz_val q11), some (.int (Int32.ofInt p12)), some (.ref q13), some (.ref q14), some (.int (Int32.ofInt 0)), some (zz_val k6), some (.int (Int32.ofInt n17_0)), some (.int (Int32.ofInt n18_0)), some (.int (Int32.ofInt v7)), some (.int (Int32.ofInt v15)), none, none, none, none], [], h)) rfl ?_
  suffices K22 : yy_fin X 279 (643, [some (.ref 1), some (.ref w), some (.ref 0), some (.int (Int32.ofInt fr)), some (.int (Int32.ofInt (t : Int))), some (.int (Int32.ofInt day)), some (zz_val k6), some (zz_val k7), some (.int (Int32.ofInt p8)), some (.ref k9), some (.int (Int32.ofInt s)), some (zz_val q11), some (.int (Int32.ofInt p12)), some (.ref q13), some (.ref q14), some (.int (Int32.ofInt 0)), some (zz_val k6), some (.int (Int32.ofInt n17_0)), some (.int (Int32.ofInt n18_0)), some (.int (Int32.ofInt v7)), some (.int (Int32.ofInt v15)), none, none, none, none], [zz_val k6], h) φ by cases k6 <;> exact yy_fin.steps (n := 1) rfl K22
  suffices J23 : ∀ v23 : Int, v23 = y_el (hv_t (g0 541) t day 0) (-1000000) (fun u l => u + (u + l - u) / 2) → yy_fin X 279 (667, [some (.ref 1), some (.ref w), some (.ref 0), some (.int (Int32.ofInt fr)), some (.int (Int32.ofInt (t : Int))), some (.int (Int32.ofInt day)), some (zz_val k6), some (zz_val k7), some (.int (Int32.ofInt p8)), some (.ref k9), some (.int (Int32.ofInt s)), some (zz_val q11), some (.int (Int32.ofInt p12)), some (.ref q13), some (.ref q14), some (.int (Int32.ofInt 0)), some (zz_val k6), some (.int (Int32.ofInt n17_0)), some (.int (Int32.ofInt n18_0)), some (.int (Int32.ofInt v7)), some (.int (Int32.ofInt v15)), none, none, none, none], [.int (Int32.ofInt v23)], h) φ by
    rcases H6 with ⟨rfl, eo24⟩ | ⟨q24, u24, l24, rfl, eo24, R24⟩
    · refine yy_fin.steps (n := 3) (s' := (667, [some (.ref 1), some (.ref w), some (.ref 0), some (.int (Int32.ofInt fr)), some (.int (Int32.ofInt (t : Int))), some (.int (Int32.ofInt day)), some (.null), some (zz_val k7), some (.int (Int32.ofInt p8)), some (.ref k9), some (.int (Int32.ofInt s)), some (zz_val q11), some (.int (Int32.ofInt p12)), some (.ref q13), some (.ref q14), some (.int (Int32.ofInt 0)), some (.null), some (.int (Int32.ofInt n17_0)), some (.int (Int32.ofInt n18_0)), some (.int (Int32.ofInt v7)), some (.int (Int32.ofInt v15)), none, none, none, none], [.int (Int32.ofInt (-1000000))], h)) rfl ?_
      exact J23 (-1000000) (by rw [eo24]; rfl)
    · have hb24 := hv_bnd2 F.2.2.2 ht eo24
      refine yy_fin.steps (n := 3) (s' := (654, [some (.ref 1), some (.ref w), some (.ref 0), some (.int (Int32.ofInt fr)), some (.int (Int32.ofInt (t : Int))), some (.int (Int32.ofInt day)), some (.ref q24), some (zz_val k7), some (.int (Int32.ofInt p8)), some (.ref k9), some (.int (Int32.ofInt s)), some (zz_val q11), some (.int (Int32.ofInt p12)), some (.ref q13), some (.ref q14), some (.int (Int32.ofInt 0)), some (.ref q24), some (.int (Int32.ofInt n17_0)), some (.int (Int32.ofInt n18_0)), some (.int (Int32.ofInt v7)), some (.int (Int32.ofInt v15)), none, none, none, none], [.int (Int32.ofInt 0), .ref q24], h)) rfl ?_
      refine yy_fin.lp (j := 0) rfl R24.2 rfl (by decide) rfl ?_
      refine yy_fin.steps (n := 2) (s' := (658, [some (.ref 1), some (.ref w), some (.ref 0), some (.int (Int32.ofInt fr)), some (.int (Int32.ofInt (t : Int))), some (.int (Int32.ofInt day)), some (.ref q24), some (zz_val k7), some (.int (Int32.ofInt p8)), some (.ref k9), some (.int (Int32.ofInt s)), some (zz_val q11), some (.int (Int32.ofInt p12)), some (.ref q13), some (.ref q14), some (.int (Int32.ofInt 0)), some (.ref q24), some (.int (Int32.ofInt n17_0)), some (.int (Int32.ofInt n18_0)), some (.int (Int32.ofInt v7)), some (.int (Int32.ofInt v15)), none, none, none, none], [.int (Int32.ofInt 1), .ref q24, .int (Int32.ofInt u24)], h)) rfl ?_
      refine yy_fin.lp (j := 1) rfl R24.2 rfl (by decide) rfl ?_
      refine yy_fin.steps (n := 2) (s' := (662, [some (.ref 1), some (.ref w), some (.ref 0), some (.int (Int32.ofInt fr)), some (.int (Int32.ofInt (t : Int))), some (.int (Int32.ofInt day)), some (.ref q24), some (zz_val k7), some (.int (Int32.ofInt p8)), some (.ref k9), some (.int (Int32.ofInt s)), some (zz_val q11), some (.int (Int32.ofInt p12)), some (.ref q13), some (.ref q14), some (.int (Int32.ofInt 0)), some (.ref q24), some (.int (Int32.ofInt n17_0)), some (.int (Int32.ofInt n18_0)), some (.int (Int32.ofInt v7)), some (.int (Int32.ofInt v15)), none, none, none, none], [.int (Int32.ofInt 0), .ref q24, .int (Int32.ofInt (u24 + l24)), .int (Int32.ofInt u24)], h)) rfl ?_
      refine yy_fin.lp (j := 0) rfl R24.2 rfl (by decide) rfl ?_
      refine yy_fin.steps (n := 2) (s' := (665, [some (.ref 1), some (.ref w), some (.ref 0), some (.int (Int32.ofInt fr)), some (.int (Int32.ofInt (t : Int))), some (.int (Int32.ofInt day)), some (.ref q24), some (zz_val k7), some (.int (Int32.ofInt p8)), some (.ref k9), some (.int (Int32.ofInt s)), some (zz_val q11), some (.int (Int32.ofInt p12)), some (.ref q13), some (.ref q14), some (.int (Int32.ofInt 0)), some (.ref q24), some (.int (Int32.ofInt n17_0)), some (.int (Int32.ofInt n18_0)), some (.int (Int32.ofInt v7)), some (.int (Int32.ofInt v15)), none, none, none, none], [.int (Int32.ofInt 2), .int ((Int32.ofInt (u24 + l24)) - (Int32.ofInt u24)), .int (Int32.ofInt u24)], h)) rfl ?_
      rw [yi_sub (u24 + l24) u24]
      refine yy_fin.dv rfl (by decide) ?_
      rw [yi_div (a := (u24 + l24) - u24) (b := 2) (by omega) (by omega)]
      refine yy_fin.steps (n := 1) (s' := (667, [some (.ref 1), some (.ref w), some (.ref 0), some (.int (Int32.ofInt fr)), some (.int (Int32.ofInt (t : Int))), some (.int (Int32.ofInt day)), some (.ref q24), some (zz_val k7), some (.int (Int32.ofInt p8)), some (.ref k9), some (.int (Int32.ofInt s)), some (zz_val q11), some (.int (Int32.ofInt p12)), some (.ref q13), some (.ref q14), some (.int (Int32.ofInt 0)), some (.ref q24), some (.int (Int32.ofInt n17_0)), some (.int (Int32.ofInt n18_0)), some (.int (Int32.ofInt v7)), some (.int (Int32.ofInt v15)), none, none, none, none], [.int ((Int32.ofInt u24) + (Int32.ofInt (((u24 + l24) - u24) / 2)))], h)) rfl ?_
      rw [yi_add u24 (((u24 + l24) - u24) / 2)]
      exact J23 (u24 + (((u24 + l24) - u24) / 2)) (by rw [eo24]; rfl)
  intro v23 ev23
  refine yy_fin.steps (n := 6) (s' := (678, [some (.ref 1), some (.ref w), some (.ref 0), some (.int (Int32.ofInt fr)), some (.int (Int32.ofInt (t : Int))), some (.int (Int32.ofInt day)), some (zz_val k6), some (zz_val k7), some (.int (Int32.ofInt p8)), some (.ref k9), some (.int (Int32.ofInt s)), some (zz_val q11), some (.int (Int32.ofInt p12)), some (.ref q13), some (.ref q14), some (.int (Int32.ofInt 0)), some (zz_val k6), some (.int (Int32.ofInt n17_0)), some (.int (Int32.ofInt n18_0)), some (.int (Int32.ofInt v7)), some (.int (Int32.ofInt v15)), some (.int (Int32.ofInt v23)), none, none, none], [.int (Int32.ofInt n17_0), .int (Int32.ofInt 0), .int (Int32.ofInt day), .int (Int32.ofInt (t : Int)), .ref 1], h)) rfl ?_
  obtain ⟨g25, r25⟩ := qi_90 F C ht hd (f := 0) (Or.inl rfl) (n := n17_0) (by omega)
  obtain ⟨fs25, oo25⟩ := C.o
  refine yy_fin.cv (as := [.int (Int32.ofInt (t : Int)), .int (Int32.ofInt day), .int (Int32.ofInt 0), .int (Int32.ofInt n17_0)]) rfl rfl rfl oo25 (Nat.le_of_ble_eq_true rfl) (Nat.le_of_ble_eq_true rfl) r25 ?_
  rintro v h25 ⟨rfl, C, x25⟩
  replace H6 := H6.k x25
  replace H7 := H7.k x25
  replace Y := Y.tr x25 (fun _ _ e => e)
  replace hY := Y.1
  refine yy_fin.steps (n := 1) (s' := (683, [some (.ref 1), some (.ref w), some (.ref 0), some (.int (Int32.ofInt fr)), some (.int (Int32.ofInt (t : Int))), some (.int (Int32.ofInt day)), some (zz_val k6), some (zz_val k7), some (.int (Int32.ofInt p8)), some (.ref k9), some (.int (Int32.ofInt s)), some (zz_val q11), some (.int (Int32.ofInt p12)), some (.ref q13), some (.ref q14), some (.int (Int32.ofInt 0)), some (zz_val k6), some (.int (Int32.ofInt n17_0)), some (.int (Int32.ofInt n18_0)), some (.int (Int32.ofInt v7)), some (.int (Int32.ofInt v15)), some (.int (Int32.ofInt v23)), none, none, none], [.int (Int32.ofInt v7), .int (Int32.ofInt (s_90 (g0 541) t day 0 n17_0))], h25)) rfl ?_
  refine yy_fin.ic rfl (fun cz => absurd (congrArg Int32.ofInt ev7.symm) (y_cne cz)) (fun _ => ?_)
  refine yy_fin.steps (n := 5) (s' := (695, [some (.ref 1), some (.ref w), some (.ref 0), some (.int (Int32.ofInt fr)), some (.int (Int32.ofInt (t : Int))), some (.int (Int32.ofInt day)), some (zz_val k6), some (zz_val k7), some (.int (Int32.ofInt p8)), some (.ref k9), some (.int (Int32.ofInt s)), some (zz_val q11), some (.int (Int32.ofInt p12)), some (.ref q13), some (.ref q14), some (.int (Int32.ofInt 0)), some (zz_val k6), some (.int (Int32.ofInt n17_0)), some (.int (Int32.ofInt n18_0)), some (.int (Int32.ofInt v7)), some (.int (Int32.ofInt v15)), some (.int (Int32.ofInt v23)), none, none, none], [.int (Int32.ofInt n18_0), .int (Int32.ofInt 0), .int (Int32.ofInt day), .int (Int32.ofInt (t : Int)), .ref 1], h25)) rfl ?_
  obtain ⟨g26, r26⟩ := qi_90 F C ht hd (f := 0) (Or.inl rfl) (n := n18_0) (by omega)
  obtain ⟨fs26, oo26⟩ := C.o
  refine yy_fin.cv (as := [.int (Int32.ofInt (t : Int)), .int (Int32.ofInt day), .int (Int32.ofInt 0), .int (Int32.ofInt n18_0)]) rfl rfl rfl oo26 (Nat.le_of_ble_eq_true rfl) (Nat.le_of_ble_eq_true rfl) r26 ?_
  rintro v h26 ⟨rfl, C, x26⟩
  replace H6 := H6.k x26
  replace H7 := H7.k x26
  replace Y := Y.tr x26 (fun _ _ e => e)
  replace hY := Y.1
  refine yy_fin.steps (n := 1) (s' := (700, [some (.ref 1), some (.ref w), some (.ref 0), some (.int (Int32.ofInt fr)), some (.int (Int32.ofInt (t : Int))), some (.int (Int32.ofInt day)), some (zz_val k6), some (zz_val k7), some (.int (Int32.ofInt p8)), some (.ref k9), some (.int (Int32.ofInt s)), some (zz_val q11), some (.int (Int32.ofInt p12)), some (.ref q13), some (.ref q14), some (.int (Int32.ofInt 0)), some (zz_val k6), some (.int (Int32.ofInt n17_0)), some (.int (Int32.ofInt n18_0)), some (.int (Int32.ofInt v7)), some (.int (Int32.ofInt v15)), some (.int (Int32.ofInt v23)), none, none, none], [.int (Int32.ofInt v15), .int (Int32.ofInt (s_90 (g0 541) t day 0 n18_0))], h26)) rfl ?_
  refine yy_fin.ic rfl (fun cz => absurd (congrArg Int32.ofInt ev15.symm) (y_cne cz)) (fun _ => ?_)
  refine yy_fin.steps (n := 6) (s' := (714, [some (.ref 1), some (.ref w), some (.ref 0), some (.int (Int32.ofInt fr)), some (.int (Int32.ofInt (t : Int))), some (.int (Int32.ofInt day)), some (zz_val k6), some (zz_val k7), some (.int (Int32.ofInt p8)), some (.ref k9), some (.int (Int32.ofInt s)), some (zz_val q11), some (.int (Int32.ofInt p12)), some (.ref q13), some (.ref q14), some (.int (Int32.ofInt 0)), some (zz_val k6), some (.int (Int32.ofInt n17_0)), some (.int (Int32.ofInt n18_0)), some (.int (Int32.ofInt v7)), some (.int (Int32.ofInt v15)), some (.int (Int32.ofInt v23)), none, none, none], [.int (Int32.ofInt n18_0), .int (Int32.ofInt n17_0), .int (Int32.ofInt 0), .int (Int32.ofInt day), .int (Int32.ofInt (t : Int)), .ref 1], h26)) rfl ?_
  obtain ⟨g27, r27⟩ := qi_97 F C ht hd (f := 0) (Or.inl rfl) (n := n17_0) (m := n18_0) (by omega) (by omega)
  obtain ⟨fs27, oo27⟩ := C.o
  refine yy_fin.cv (as := [.int (Int32.ofInt (t : Int)), .int (Int32.ofInt day), .int (Int32.ofInt 0), .int (Int32.ofInt n17_0), .int (Int32.ofInt n18_0)]) rfl rfl rfl oo27 (Nat.le_of_ble_eq_true rfl) (Nat.le_of_ble_eq_true rfl) r27 ?_
  rintro v h27 ⟨rfl, C, x27⟩
  replace H6 := H6.k x27
  replace H7 := H7.k x27
  replace Y := Y.tr x27 (fun _ _ e => e)
  replace hY := Y.1
  refine yy_fin.steps (n := 2) (s' := (721, [some (.ref 1), some (.ref w), some (.ref 0), some (.int (Int32.ofInt fr)), some (.int (Int32.ofInt (t : Int))), some (.int (Int32.ofInt day)), some (zz_val k6), some (zz_val k7), some (.int (Int32.ofInt p8)), some (.ref k9), some (.int (Int32.ofInt s)), some (zz_val q11), some (.int (Int32.ofInt p12)), some (.ref q13), some (.ref q14), some (.int (Int32.ofInt 0)), some (zz_val k6), some (.int (Int32.ofInt n17_0)), some (.int (Int32.ofInt n18_0)), some (.int (Int32.ofInt v7)), some (.int (Int32.ofInt v15)), some (.int (Int32.ofInt v23)), none, none, none], [.int (Int32.ofInt (-2)), .int (Int32.ofInt v7), .int (Int32.ofInt (s_26 (g0 541) t day 0 n17_0 n18_0))], h27)) rfl ?_
  suffices J9 : ∀ v9 : Int, v9 = s_26 (g0 541) t day 0 n17_0 n18_0 → yy_fin X 279 (741, [some (.ref 1), some (.ref w), some (.ref 0), some (.int (Int32.ofInt fr)), some (.int (Int32.ofInt (t : Int))), some (.int (Int32.ofInt day)), some (zz_val k6), some (zz_val k7), some (.int (Int32.ofInt p8)), some (.ref k9), some (.int (Int32.ofInt s)), some (zz_val q11), some (.int (Int32.ofInt p12)), some (.ref q13), some (.ref q14), some (.int (Int32.ofInt 0)), some (zz_val k6), some (.int (Int32.ofInt n17_0)), some (.int (Int32.ofInt n18_0)), some (.int (Int32.ofInt v7)), some (.int (Int32.ofInt v15)), some (.int (Int32.ofInt v23)), none, none, none], [.int (Int32.ofInt v9), .int (Int32.ofInt (s_26 (g0 541) t day 0 n17_0 n18_0))], h27) φ by
    refine yy_fin.ic rfl (fun c28 => ?_) (fun c28 => ?_)
    · have c28 := (yi_c_eq (a := v7) (b := -2) (by omega) (by omega)).mp c28
      refine yy_fin.steps (n := 2) (s' := (741, [some (.ref 1), some (.ref w), some (.ref 0), some (.int (Int32.ofInt fr)), some (.int (Int32.ofInt (t : Int))), some (.int (Int32.ofInt day)), some (zz_val k6), some (zz_val k7), some (.int (Int32.ofInt p8)), some (.ref k9), some (.int (Int32.ofInt s)), some (zz_val q11), some (.int (Int32.ofInt p12)), some (.ref q13), some (.ref q14), some (.int (Int32.ofInt 0)), some (zz_val k6), some (.int (Int32.ofInt n17_0)), some (.int (Int32.ofInt n18_0)), some (.int (Int32.ofInt v7)), some (.int (Int32.ofInt v15)), some (.int (Int32.ofInt v23)), none, none, none], [.int (Int32.ofInt (-1000000)), .int (Int32.ofInt (s_26 (g0 541) t day 0 n17_0 n18_0))], h27)) rfl ?_
      exact J9 (-1000000) (by unfold s_26; rw [← ev7, ← ev15]; rw [if_pos (by omega)])
    · have c28 := mt (yi_c_eq (a := v7) (b := -2) (by omega) (by omega)).mpr c28
      refine yy_fin.steps (n := 2) (s' := (728, [some (.ref 1), some (.ref w), some (.ref 0), some (.int (Int32.ofInt fr)), some (.int (Int32.ofInt (t : Int))), some (.int (Int32.ofInt day)), some (zz_val k6), some (zz_val k7), some (.int (Int32.ofInt p8)), some (.ref k9), some (.int (Int32.ofInt s)), some (zz_val q11), some (.int (Int32.ofInt p12)), some (.ref q13), some (.ref q14), some (.int (Int32.ofInt 0)), some (zz_val k6), some (.int (Int32.ofInt n17_0)), some (.int (Int32.ofInt n18_0)), some (.int (Int32.ofInt v7)), some (.int (Int32.ofInt v15)), some (.int (Int32.ofInt v23)), none, none, none], [.int (Int32.ofInt (-2)), .int (Int32.ofInt v15), .int (Int32.ofInt (s_26 (g0 541) t day 0 n17_0 n18_0))], h27)) rfl ?_
      refine yy_fin.ic rfl (fun c29 => ?_) (fun c29 => ?_)
      · have c29 := (yi_c_ne (a := v15) (b := -2) (by omega) (by omega)).mp c29
        refine yy_fin.steps (n := 3) (s' := (741, [some (.ref 1), some (.ref w), some (.ref 0), some (.int (Int32.ofInt fr)), some (.int (Int32.ofInt (t : Int))), some (.int (Int32.ofInt day)), some (zz_val k6), some (zz_val k7), some (.int (Int32.ofInt p8)), some (.ref k9), some (.int (Int32.ofInt s)), some (zz_val q11), some (.int (Int32.ofInt p12)), some (.ref q13), some (.ref q14), some (.int (Int32.ofInt 0)), some (zz_val k6), some (.int (Int32.ofInt n17_0)), some (.int (Int32.ofInt n18_0)), some (.int (Int32.ofInt v7)), some (.int (Int32.ofInt v15)), some (.int (Int32.ofInt v23)), none, none, none], [.int ((Int32.ofInt v15) - (Int32.ofInt v7)), .int (Int32.ofInt (s_26 (g0 541) t day 0 n17_0 n18_0))], h27)) rfl ?_
        rw [yi_sub v15 v7]
        exact J9 (v15 - v7) (by unfold s_26; rw [← ev7, ← ev15]; rw [if_neg (by omega), if_pos (by omega)])
      · have c29 := mt (yi_c_ne (a := v15) (b := -2) (by omega) (by omega)).mpr c29
        refine yy_fin.steps (n := 2) (s' := (741, [some (.ref 1), some (.ref w), some (.ref 0), some (.int (Int32.ofInt fr)), some (.int (Int32.ofInt (t : Int))), some (.int (Int32.ofInt day)), some (zz_val k6), some (zz_val k7), some (.int (Int32.ofInt p8)), some (.ref k9), some (.int (Int32.ofInt s)), some (zz_val q11), some (.int (Int32.ofInt p12)), some (.ref q13), some (.ref q14), some (.int (Int32.ofInt 0)), some (zz_val k6), some (.int (Int32.ofInt n17_0)), some (.int (Int32.ofInt n18_0)), some (.int (Int32.ofInt v7)), some (.int (Int32.ofInt v15)), some (.int (Int32.ofInt v23)), none, none, none], [.int (Int32.ofInt (-1000000)), .int (Int32.ofInt (s_26 (g0 541) t day 0 n17_0 n18_0))], h27)) rfl ?_
        exact J9 (-1000000) (by unfold s_26; rw [← ev7, ← ev15]; rw [if_neg (by omega), if_neg (by omega)])
  intro v9 ev9
  refine yy_fin.ic rfl (fun cz => absurd (congrArg Int32.ofInt ev9.symm) (y_cne cz)) (fun _ => ?_)
  refine yy_fin.steps (n := 5) (s' := (752, [some (.ref 1), some (.ref w), some (.ref 0), some (.int (Int32.ofInt fr)), some (.int (Int32.ofInt (t : Int))), some (.int (Int32.ofInt day)), some (zz_val k6), some (zz_val k7), some (.int (Int32.ofInt p8)), some (.ref k9), some (.int (Int32.ofInt s)), some (zz_val q11), some (.int (Int32.ofInt p12)), some (.ref q13), some (.ref q14), some (.int (Int32.ofInt 0)), some (zz_val k6), some (.int (Int32.ofInt n17_0)), some (.int (Int32.ofInt n18_0)), some (.int (Int32.ofInt v7)), some (.int (Int32.ofInt v15)), some (.int (Int32.ofInt v23)), none, none, none], [.int (Int32.ofInt 0), .int (Int32.ofInt 0), .int (Int32.ofInt day), .int (Int32.ofInt (t : Int)), .ref 1], h27)) rfl ?_
  obtain ⟨g30, r30⟩ := qi_96 F C ht hd (f := 0) (Or.inl rfl) (k := 0) (Or.inl rfl)
  obtain ⟨fs30, oo30⟩ := C.o
  refine yy_fin.cv (as := [.int (Int32.ofInt (t : Int)), .int (Int32.ofInt day), .int (Int32.ofInt 0), .int (Int32.ofInt 0)]) rfl rfl rfl oo30 (Nat.le_of_ble_eq_true rfl) (Nat.le_of_ble_eq_true rfl) r30 ?_
  rintro v h30 ⟨rfl, C, x30⟩
  replace H6 := H6.k x30
  replace H7 := H7.k x30
  replace Y := Y.tr x30 (fun _ _ e => e)
  replace hY := Y.1
  refine yy_fin.steps (n := 1) (s' := (757, [some (.ref 1), some (.ref w), some (.ref 0), some (.int (Int32.ofInt fr)), some (.int (Int32.ofInt (t : Int))), some (.int (Int32.ofInt day)), some (zz_val k6), some (zz_val k7), some (.int (Int32.ofInt p8)), some (.ref k9), some (.int (Int32.ofInt s)), some (zz_val q11), some (.int (Int32.ofInt p12)), some (.ref q13), some (.ref q14), some (.int (Int32.ofInt 0)), some (zz_val k6), some (.int (Int32.ofInt n17_0)), some (.int (Int32.ofInt n18_0)), some (.int (Int32.ofInt v7)), some (.int (Int32.ofInt v15)), some (.int (Int32.ofInt v23)), none, none, none], [.int (Int32.ofInt v23), .int (Int32.ofInt (s_25 (g0 541) t day 0 0))], h30)) rfl ?_
  refine yy_fin.ic rfl (fun cz => absurd (congrArg Int32.ofInt (s_25_e.trans ev23.symm)) (y_cne cz)) (fun _ => ?_)
  refine yy_fin.steps (n := 5) (s' := (768, [some (.ref 1), some (.ref w), some (.ref 0), some (.int (Int32.ofInt fr)), some (.int (Int32.ofInt (t : Int))), some (.int (Int32.ofInt day)), some (zz_val k6), some (zz_val k7), some (.int (Int32.ofInt p8)), some (.ref k9), some (.int (Int32.ofInt s)), some (zz_val q11), some (.int (Int32.ofInt p12)), some (.ref q13), some (.ref q14), some (.int (Int32.ofInt 0)), some (zz_val k6), some (.int (Int32.ofInt n17_0)), some (.int (Int32.ofInt n18_0)), some (.int (Int32.ofInt v7)), some (.int (Int32.ofInt v15)), some (.int (Int32.ofInt v23)), none, none, none], [.int (Int32.ofInt 1), .int (Int32.ofInt 0), .int (Int32.ofInt day), .int (Int32.ofInt (t : Int)), .ref 1], h30)) rfl ?_
  obtain ⟨g31, r31⟩ := qi_96 F C ht hd (f := 0) (Or.inl rfl) (k := 1) (Or.inr rfl)
  obtain ⟨fs31, oo31⟩ := C.o
  refine yy_fin.cv (as := [.int (Int32.ofInt (t : Int)), .int (Int32.ofInt day), .int (Int32.ofInt 0), .int (Int32.ofInt 1)]) rfl rfl rfl oo31 (Nat.le_of_ble_eq_true rfl) (Nat.le_of_ble_eq_true rfl) r31 ?_
  rintro v h31 ⟨rfl, C, x31⟩
  replace H6 := H6.k x31
  replace H7 := H7.k x31
  replace Y := Y.tr x31 (fun _ _ e => e)
  replace hY := Y.1
  suffices K32 : yy_fin X 279 (773, [some (.ref 1), some (.ref w), some (.ref 0), some (.int (Int32.ofInt fr)), some (.int (Int32.ofInt (t : Int))), some (.int (Int32.ofInt day)), some (zz_val k6), some (zz_val k7), some (.int (Int32.ofInt p8)), some (.ref k9), some (.int (Int32.ofInt s)), some (zz_val q11), some (.int (Int32.ofInt p12)), some (.ref q13), some (.ref q14), some (.int (Int32.ofInt 0)), some (zz_val k6), some (.int (Int32.ofInt n17_0)), some (.int (Int32.ofInt n18_0)), some (.int (Int32.ofInt v7)), some (.int (Int32.ofInt v15)), some (.int (Int32.ofInt v23)), none, none, none], [zz_val k6, .int (Int32.ofInt (s_25 (g0 541) t day 0 1))], h31) φ by cases k6 <;> exact yy_fin.steps (n := 1) rfl K32
  suffices J33 : ∀ v33 : Int, v33 = s_25 (g0 541) t day 0 1 → yy_fin X 279 (796, [some (.ref 1), some (.ref w), some (.ref 0), some (.int (Int32.ofInt fr)), some (.int (Int32.ofInt (t : Int))), some (.int (Int32.ofInt day)), some (zz_val k6), some (zz_val k7), some (.int (Int32.ofInt p8)), some (.ref k9), some (.int (Int32.ofInt s)), some (zz_val q11), some (.int (Int32.ofInt p12)), some (.ref q13), some (.ref q14), some (.int (Int32.ofInt 0)), some (zz_val k6), some (.int (Int32.ofInt n17_0)), some (.int (Int32.ofInt n18_0)), some (.int (Int32.ofInt v7)), some (.int (Int32.ofInt v15)), some (.int (Int32.ofInt v23)), none, none, none], [.int (Int32.ofInt v33), .int (Int32.ofInt (s_25 (g0 541) t day 0 1))], h31) φ by
    rcases H6 with ⟨rfl, eo34⟩ | ⟨q34, u34, l34, rfl, eo34, R34⟩
    · refine yy_fin.steps (n := 3) (s' := (796, [some (.ref 1), some (.ref w), some (.ref 0), some (.int (Int32.ofInt fr)), some (.int (Int32.ofInt (t : Int))), some (.int (Int32.ofInt day)), some (.null), some (zz_val k7), some (.int (Int32.ofInt p8)), some (.ref k9), some (.int (Int32.ofInt s)), some (zz_val q11), some (.int (Int32.ofInt p12)), some (.ref q13), some (.ref q14), some (.int (Int32.ofInt 0)), some (.null), some (.int (Int32.ofInt n17_0)), some (.int (Int32.ofInt n18_0)), some (.int (Int32.ofInt v7)), some (.int (Int32.ofInt v15)), some (.int (Int32.ofInt v23)), none, none, none], [.int (Int32.ofInt v23), .int (Int32.ofInt (s_25 (g0 541) t day 0 1))], h31)) rfl ?_
      exact J33 (v23) (by unfold s_25; rw [ev23, eo34]; rfl)
    · have hb34 := hv_bnd2 F.2.2.2 ht eo34
      refine yy_fin.steps (n := 3) (s' := (785, [some (.ref 1), some (.ref w), some (.ref 0), some (.int (Int32.ofInt fr)), some (.int (Int32.ofInt (t : Int))), some (.int (Int32.ofInt day)), some (.ref q34), some (zz_val k7), some (.int (Int32.ofInt p8)), some (.ref k9), some (.int (Int32.ofInt s)), some (zz_val q11), some (.int (Int32.ofInt p12)), some (.ref q13), some (.ref q14), some (.int (Int32.ofInt 0)), some (.ref q34), some (.int (Int32.ofInt n17_0)), some (.int (Int32.ofInt n18_0)), some (.int (Int32.ofInt v7)), some (.int (Int32.ofInt v15)), some (.int (Int32.ofInt v23)), none, none, none], [.int (Int32.ofInt 0), .int (Int32.ofInt v23), .int (Int32.ofInt (s_25 (g0 541) t day 0 1))], h31)) rfl ?_
      refine yy_fin.if rfl (fun cK => absurd cK (by decide)) (fun cK => ?_)
      refine yy_fin.steps (n := 3) (s' := (796, [some (.ref 1), some (.ref w), some (.ref 0), some (.int (Int32.ofInt fr)), some (.int (Int32.ofInt (t : Int))), some (.int (Int32.ofInt day)), some (.ref q34), some (zz_val k7), some (.int (Int32.ofInt p8)), some (.ref k9), some (.int (Int32.ofInt s)), some (zz_val q11), some (.int (Int32.ofInt p12)), some (.ref q13), some (.ref q14), some (.int (Int32.ofInt 0)), some (.ref q34), some (.int (Int32.ofInt n17_0)), some (.int (Int32.ofInt n18_0)), some (.int (Int32.ofInt v7)), some (.int (Int32.ofInt v15)), some (.int (Int32.ofInt v23)), none, none, none], [.int ((Int32.ofInt v23) - (Int32.ofInt 43200)), .int (Int32.ofInt (s_25 (g0 541) t day 0 1))], h31)) rfl ?_
      rw [yi_sub v23 43200]
      exact J33 (v23 - 43200) (by unfold s_25; rw [ev23, eo34]; show u34 + (u34 + l34 - u34) / 2 - 43200 = u34 + l34 / 2 - 43200; rw [show u34 + l34 - u34 = l34 by omega])
  intro v33 ev33
  refine yy_fin.ic rfl (fun _ => ?_) (fun cz => absurd (y_ceq (congrArg Int32.ofInt ev33.symm)) cz)
  suffices K35 : yy_fin X 279 (803, [some (.ref 1), some (.ref w), some (.ref 0), some (.int (Int32.ofInt fr)), some (.int (Int32.ofInt (t : Int))), some (.int (Int32.ofInt day)), some (zz_val k6), some (zz_val k7), some (.int (Int32.ofInt p8)), some (.ref k9), some (.int (Int32.ofInt s)), some (zz_val q11), some (.int (Int32.ofInt p12)), some (.ref q13), some (.ref q14), some (.int (Int32.ofInt 0)), some (zz_val k6), some (.int (Int32.ofInt n17_0)), some (.int (Int32.ofInt n18_0)), some (.int (Int32.ofInt v7)), some (.int (Int32.ofInt v15)), some (.int (Int32.ofInt v23)), none, none, none], [zz_val k6], h31) φ by cases k6 <;> exact yy_fin.steps (n := 1) rfl K35
  suffices J36 : ∀ v36 : Int, v36 = y_el (hv_t (g0 541) t day 0) 0 (fun u l => u + l - u) → yy_fin X 279 (819, [some (.ref 1), some (.ref w), some (.ref 0), some (.int (Int32.ofInt fr)), some (.int (Int32.ofInt (t : Int))), some (.int (Int32.ofInt day)), some (zz_val k6), some (zz_val k7), some (.int (Int32.ofInt p8)), some (.ref k9), some (.int (Int32.ofInt s)), some (zz_val q11), some (.int (Int32.ofInt p12)), some (.ref q13), some (.ref q14), some (.int (Int32.ofInt 0)), some (zz_val k6), some (.int (Int32.ofInt n17_0)), some (.int (Int32.ofInt n18_0)), some (.int (Int32.ofInt v7)), some (.int (Int32.ofInt v15)), some (.int (Int32.ofInt v23)), none, none, none], [.int (Int32.ofInt v36)], h31) φ by
    rcases H6 with ⟨rfl, eo37⟩ | ⟨q37, u37, l37, rfl, eo37, R37⟩
    · refine yy_fin.steps (n := 3) (s' := (819, [some (.ref 1), some (.ref w), some (.ref 0), some (.int (Int32.ofInt fr)), some (.int (Int32.ofInt (t : Int))), some (.int (Int32.ofInt day)), some (.null), some (zz_val k7), some (.int (Int32.ofInt p8)), some (.ref k9), some (.int (Int32.ofInt s)), some (zz_val q11), some (.int (Int32.ofInt p12)), some (.ref q13), some (.ref q14), some (.int (Int32.ofInt 0)), some (.null), some (.int (Int32.ofInt n17_0)), some (.int (Int32.ofInt n18_0)), some (.int (Int32.ofInt v7)), some (.int (Int32.ofInt v15)), some (.int (Int32.ofInt v23)), none, none, none], [.int (Int32.ofInt 0)], h31)) rfl ?_
      exact J36 (0) (by rw [eo37]; rfl)
    · have hb37 := hv_bnd2 F.2.2.2 ht eo37
      refine yy_fin.steps (n := 3) (s' := (813, [some (.ref 1), some (.ref w), some (.ref 0), some (.int (Int32.ofInt fr)), some (.int (Int32.ofInt (t : Int))), some (.int (Int32.ofInt day)), some (.ref q37), some (zz_val k7), some (.int (Int32.ofInt p8)), some (.ref k9), some (.int (Int32.ofInt s)), some (zz_val q11), some (.int (Int32.ofInt p12)), some (.ref q13), some (.ref q14), some (.int (Int32.ofInt 0)), some (.ref q37), some (.int (Int32.ofInt n17_0)), some (.int (Int32.ofInt n18_0)), some (.int (Int32.ofInt v7)), some (.int (Int32.ofInt v15)), some (.int (Int32.ofInt v23)), none, none, none], [.int (Int32.ofInt 1), .ref q37], h31)) rfl ?_
      refine yy_fin.lp (j := 1) rfl R37.2 rfl (by decide) rfl ?_
      refine yy_fin.steps (n := 2) (s' := (817, [some (.ref 1), some (.ref w), some (.ref 0), some (.int (Int32.ofInt fr)), some (.int (Int32.ofInt (t : Int))), some (.int (Int32.ofInt day)), some (.ref q37), some (zz_val k7), some (.int (Int32.ofInt p8)), some (.ref k9), some (.int (Int32.ofInt s)), some (zz_val q11), some (.int (Int32.ofInt p12)), some (.ref q13), some (.ref q14), some (.int (Int32.ofInt 0)), some (.ref q37), some (.int (Int32.ofInt n17_0)), some (.int (Int32.ofInt n18_0)), some (.int (Int32.ofInt v7)), some (.int (Int32.ofInt v15)), some (.int (Int32.ofInt v23)), none, none, none], [.int (Int32.ofInt 0), .ref q37, .int (Int32.ofInt (u37 + l37))], h31)) rfl ?_
      refine yy_fin.lp (j := 0) rfl R37.2 rfl (by decide) rfl ?_
      refine yy_fin.steps (n := 1) (s' := (819, [some (.ref 1), some (.ref w), some (.ref 0), some (.int (Int32.ofInt fr)), some (.int (Int32.ofInt (t : Int))), some (.int (Int32.ofInt day)), some (.ref q37), some (zz_val k7), some (.int (Int32.ofInt p8)), some (.ref k9), some (.int (Int32.ofInt s)), some (zz_val q11), some (.int (Int32.ofInt p12)), some (.ref q13), some (.ref q14), some (.int (Int32.ofInt 0)), some (.ref q37), some (.int (Int32.ofInt n17_0)), some (.int (Int32.ofInt n18_0)), some (.int (Int32.ofInt v7)), some (.int (Int32.ofInt v15)), some (.int (Int32.ofInt v23)), none, none, none], [.int ((Int32.ofInt (u37 + l37)) - (Int32.ofInt u37))], h31)) rfl ?_
      rw [yi_sub (u37 + l37) u37]
      exact J36 ((u37 + l37) - u37) (by rw [eo37]; rfl)
  intro v36 ev36
  have hz36 : 0 ≤ v36 ∧ v36 ≤ 200000 := by
    rw [ev36]
    cases eo : hv_t (g0 541) t day 0 with
    | none => exact ⟨Int.le_refl _, by decide⟩
    | some p => obtain ⟨u, l⟩ := p; have := hv_bnd2 F.2.2.2 ht eo; show 0 ≤ u + l - u ∧ u + l - u ≤ 200000; omega
  have hG := (y_Gb v36).1
  refine yy_fin.steps (n := 3) (s' := (825, [some (.ref 1), some (.ref w), some (.ref 0), some (.int (Int32.ofInt fr)), some (.int (Int32.ofInt (t : Int))), some (.int (Int32.ofInt day)), some (zz_val k6), some (zz_val k7), some (.int (Int32.ofInt p8)), some (.ref k9), some (.int (Int32.ofInt s)), some (zz_val q11), some (.int (Int32.ofInt p12)), some (.ref q13), some (.ref q14), some (.int (Int32.ofInt 0)), some (zz_val k6), some (.int (Int32.ofInt n17_0)), some (.int (Int32.ofInt n18_0)), some (.int (Int32.ofInt v7)), some (.int (Int32.ofInt v15)), some (.int (Int32.ofInt v23)), some (.int (Int32.ofInt v36)), some (.int (Int32.ofInt 12)), none], [], h31)) rfl ?_
  refine yl_ex hz36 ?_ (12 - y_G v36).toNat 12 (by omega) (by omega)
  refine yy_fin.steps (n := 5) (s' := (855, [some (.ref 1), some (.ref w), some (.ref 0), some (.int (Int32.ofInt fr)), some (.int (Int32.ofInt (t : Int))), some (.int (Int32.ofInt day)), some (zz_val k6), some (zz_val k7), some (.int (Int32.ofInt p8)), some (.ref k9), some (.int (Int32.ofInt s)), some (zz_val q11), some (.int (Int32.ofInt p12)), some (.ref q13), some (.ref q14), some (.int (Int32.ofInt 0)), some (zz_val k6), some (.int (Int32.ofInt n17_0)), some (.int (Int32.ofInt n18_0)), some (.int (Int32.ofInt v7)), some (.int (Int32.ofInt v15)), some (.int (Int32.ofInt v23)), some (.int (Int32.ofInt v36)), some (.int (Int32.ofInt (y_G v36))), none], [.int (Int32.ofInt 0), .int (Int32.ofInt 0), .int (Int32.ofInt day), .int (Int32.ofInt (t : Int)), .ref 1], h31)) rfl ?_
  obtain ⟨g38, r38⟩ := qi_98 F C ht hd (f := 0) (Or.inl rfl) (i := 0) (Or.inl rfl)
  obtain ⟨fs38, oo38⟩ := C.o
  refine yy_fin.cv (as := [.int (Int32.ofInt (t : Int)), .int (Int32.ofInt day), .int (Int32.ofInt 0), .int (Int32.ofInt 0)]) rfl rfl rfl oo38 (Nat.le_of_ble_eq_true rfl) (Nat.le_of_ble_eq_true rfl) r38 ?_
  rintro v h38 ⟨rfl, C, x38⟩
  replace H6 := H6.k x38
  replace H7 := H7.k x38
  replace Y := Y.tr x38 (fun _ _ e => e)
  replace hY := Y.1
  suffices K39 : yy_fin X 279 (860, [some (.ref 1), some (.ref w), some (.ref 0), some (.int (Int32.ofInt fr)), some (.int (Int32.ofInt (t : Int))), some (.int (Int32.ofInt day)), some (zz_val k6), some (zz_val k7), some (.int (Int32.ofInt p8)), some (.ref k9), some (.int (Int32.ofInt s)), some (zz_val q11), some (.int (Int32.ofInt p12)), some (.ref q13), some (.ref q14), some (.int (Int32.ofInt 0)), some (zz_val k6), some (.int (Int32.ofInt n17_0)), some (.int (Int32.ofInt n18_0)), some (.int (Int32.ofInt v7)), some (.int (Int32.ofInt v15)), some (.int (Int32.ofInt v23)), some (.int (Int32.ofInt v36)), some (.int (Int32.ofInt (y_G v36))), none], [zz_val k6, .int (Int32.ofInt (s_98 (g0 541) t day 0 0))], h38) φ by cases k6 <;> exact yy_fin.steps (n := 1) rfl K39
  suffices J40 : ∀ v40 : Int, v40 = s_98 (g0 541) t day 0 0 → yy_fin X 279 (873, [some (.ref 1), some (.ref w), some (.ref 0), some (.int (Int32.ofInt fr)), some (.int (Int32.ofInt (t : Int))), some (.int (Int32.ofInt day)), some (zz_val k6), some (zz_val k7), some (.int (Int32.ofInt p8)), some (.ref k9), some (.int (Int32.ofInt s)), some (zz_val q11), some (.int (Int32.ofInt p12)), some (.ref q13), some (.ref q14), some (.int (Int32.ofInt 0)), some (zz_val k6), some (.int (Int32.ofInt n17_0)), some (.int (Int32.ofInt n18_0)), some (.int (Int32.ofInt v7)), some (.int (Int32.ofInt v15)), some (.int (Int32.ofInt v23)), some (.int (Int32.ofInt v36)), some (.int (Int32.ofInt (y_G v36))), none], [.int (Int32.ofInt v40), .int (Int32.ofInt (s_98 (g0 541) t day 0 0))], h38) φ by
    rcases H6 with ⟨rfl, eo41⟩ | ⟨q41, u41, l41, rfl, eo41, R41⟩
    · refine yy_fin.steps (n := 3) (s' := (873, [some (.ref 1), some (.ref w), some (.ref 0), some (.int (Int32.ofInt fr)), some (.int (Int32.ofInt (t : Int))), some (.int (Int32.ofInt day)), some (.null), some (zz_val k7), some (.int (Int32.ofInt p8)), some (.ref k9), some (.int (Int32.ofInt s)), some (zz_val q11), some (.int (Int32.ofInt p12)), some (.ref q13), some (.ref q14), some (.int (Int32.ofInt 0)), some (.null), some (.int (Int32.ofInt n17_0)), some (.int (Int32.ofInt n18_0)), some (.int (Int32.ofInt v7)), some (.int (Int32.ofInt v15)), some (.int (Int32.ofInt v23)), some (.int (Int32.ofInt v36)), some (.int (Int32.ofInt (y_G v36))), none], [.int (Int32.ofInt (-2)), .int (Int32.ofInt (s_98 (g0 541) t day 0 0))], h38)) rfl ?_
      exact J40 (-2) (by unfold s_98; rw [eo41])
    · have hb41 := hv_bnd2 F.2.2.2 ht eo41
      refine yy_fin.steps (n := 3) (s' := (872, [some (.ref 1), some (.ref w), some (.ref 0), some (.int (Int32.ofInt fr)), some (.int (Int32.ofInt (t : Int))), some (.int (Int32.ofInt day)), some (.ref q41), some (zz_val k7), some (.int (Int32.ofInt p8)), some (.ref k9), some (.int (Int32.ofInt s)), some (zz_val q11), some (.int (Int32.ofInt p12)), some (.ref q13), some (.ref q14), some (.int (Int32.ofInt 0)), some (.ref q41), some (.int (Int32.ofInt n17_0)), some (.int (Int32.ofInt n18_0)), some (.int (Int32.ofInt v7)), some (.int (Int32.ofInt v15)), some (.int (Int32.ofInt v23)), some (.int (Int32.ofInt v36)), some (.int (Int32.ofInt (y_G v36))), none], [.int (Int32.ofInt (y_G v36)), .int (Int32.ofInt v36), .int (Int32.ofInt (s_98 (g0 541) t day 0 0))], h38)) rfl ?_
      refine yy_fin.dv rfl (fun z => by have z := (yi_eq (a := y_G v36) (b := 0) (by omega) (by omega)).mp z; omega) ?_
      rw [yi_div (a := v36) (b := y_G v36) (by omega) (by omega)]
      exact J40 (v36 / (y_G v36)) (by unfold s_98; rw [eo41]; show v36 / y_G v36 = _; rw [ev36, eo41]; show (u41 + l41 - u41) / y_G (u41 + l41 - u41) = l41 / y_G l41; rw [show u41 + l41 - u41 = l41 by omega])
  intro v40 ev40
  refine yy_fin.ic rfl (fun cz => absurd (congrArg Int32.ofInt ev40.symm) (y_cne cz)) (fun _ => ?_)
  refine yy_fin.steps (n := 5) (s' := (884, [some (.ref 1), some (.ref w), some (.ref 0), some (.int (Int32.ofInt fr)), some (.int (Int32.ofInt (t : Int))), some (.int (Int32.ofInt day)), some (zz_val k6), some (zz_val k7), some (.int (Int32.ofInt p8)), some (.ref k9), some (.int (Int32.ofInt s)), some (zz_val q11), some (.int (Int32.ofInt p12)), some (.ref q13), some (.ref q14), some (.int (Int32.ofInt 0)), some (zz_val k6), some (.int (Int32.ofInt n17_0)), some (.int (Int32.ofInt n18_0)), some (.int (Int32.ofInt v7)), some (.int (Int32.ofInt v15)), some (.int (Int32.ofInt v23)), some (.int (Int32.ofInt v36)), some (.int (Int32.ofInt (y_G v36))), none], [.int (Int32.ofInt 1), .int (Int32.ofInt 0), .int (Int32.ofInt day), .int (Int32.ofInt (t : Int)), .ref 1], h38)) rfl ?_
  obtain ⟨g42, r42⟩ := qi_98 F C ht hd (f := 0) (Or.inl rfl) (i := 1) (Or.inr rfl)
  obtain ⟨fs42, oo42⟩ := C.o
  refine yy_fin.cv (as := [.int (Int32.ofInt (t : Int)), .int (Int32.ofInt day), .int (Int32.ofInt 0), .int (Int32.ofInt 1)]) rfl rfl rfl oo42 (Nat.le_of_ble_eq_true rfl) (Nat.le_of_ble_eq_true rfl) r42 ?_
  rintro v h42 ⟨rfl, C, x42⟩
  replace H6 := H6.k x42
  replace H7 := H7.k x42
  replace Y := Y.tr x42 (fun _ _ e => e)
  replace hY := Y.1
  suffices K43 : yy_fin X 279 (889, [some (.ref 1), some (.ref w), some (.ref 0), some (.int (Int32.ofInt fr)), some (.int (Int32.ofInt (t : Int))), some (.int (Int32.ofInt day)), some (zz_val k6), some (zz_val k7), some (.int (Int32.ofInt p8)), some (.ref k9), some (.int (Int32.ofInt s)), some (zz_val q11), some (.int (Int32.ofInt p12)), some (.ref q13), some (.ref q14), some (.int (Int32.ofInt 0)), some (zz_val k6), some (.int (Int32.ofInt n17_0)), some (.int (Int32.ofInt n18_0)), some (.int (Int32.ofInt v7)), some (.int (Int32.ofInt v15)), some (.int (Int32.ofInt v23)), some (.int (Int32.ofInt v36)), some (.int (Int32.ofInt (y_G v36))), none], [zz_val k6, .int (Int32.ofInt (s_98 (g0 541) t day 0 1))], h42) φ by cases k6 <;> exact yy_fin.steps (n := 1) rfl K43
  suffices J44 : ∀ v44 : Int, v44 = s_98 (g0 541) t day 0 1 → yy_fin X 279 (902, [some (.ref 1), some (.ref w), some (.ref 0), some (.int (Int32.ofInt fr)), some (.int (Int32.ofInt (t : Int))), some (.int (Int32.ofInt day)), some (zz_val k6), some (zz_val k7), some (.int (Int32.ofInt p8)), some (.ref k9), some (.int (Int32.ofInt s)), some (zz_val q11), some (.int (Int32.ofInt p12)), some (.ref q13), some (.ref q14), some (.int (Int32.ofInt 0)), some (zz_val k6), some (.int (Int32.ofInt n17_0)), some (.int (Int32.ofInt n18_0)), some (.int (Int32.ofInt v7)), some (.int (Int32.ofInt v15)), some (.int (Int32.ofInt v23)), some (.int (Int32.ofInt v36)), some (.int (Int32.ofInt (y_G v36))), none], [.int (Int32.ofInt v44), .int (Int32.ofInt (s_98 (g0 541) t day 0 1))], h42) φ by
    rcases H6 with ⟨rfl, eo45⟩ | ⟨q45, u45, l45, rfl, eo45, R45⟩
    · refine yy_fin.steps (n := 3) (s' := (902, [some (.ref 1), some (.ref w), some (.ref 0), some (.int (Int32.ofInt fr)), some (.int (Int32.ofInt (t : Int))), some (.int (Int32.ofInt day)), some (.null), some (zz_val k7), some (.int (Int32.ofInt p8)), some (.ref k9), some (.int (Int32.ofInt s)), some (zz_val q11), some (.int (Int32.ofInt p12)), some (.ref q13), some (.ref q14), some (.int (Int32.ofInt 0)), some (.null), some (.int (Int32.ofInt n17_0)), some (.int (Int32.ofInt n18_0)), some (.int (Int32.ofInt v7)), some (.int (Int32.ofInt v15)), some (.int (Int32.ofInt v23)), some (.int (Int32.ofInt v36)), some (.int (Int32.ofInt (y_G v36))), none], [.int (Int32.ofInt (-2)), .int (Int32.ofInt (s_98 (g0 541) t day 0 1))], h42)) rfl ?_
      exact J44 (-2) (by unfold s_98; rw [eo45])
    · have hb45 := hv_bnd2 F.2.2.2 ht eo45
      refine yy_fin.steps (n := 3) (s' := (901, [some (.ref 1), some (.ref w), some (.ref 0), some (.int (Int32.ofInt fr)), some (.int (Int32.ofInt (t : Int))), some (.int (Int32.ofInt day)), some (.ref q45), some (zz_val k7), some (.int (Int32.ofInt p8)), some (.ref k9), some (.int (Int32.ofInt s)), some (zz_val q11), some (.int (Int32.ofInt p12)), some (.ref q13), some (.ref q14), some (.int (Int32.ofInt 0)), some (.ref q45), some (.int (Int32.ofInt n17_0)), some (.int (Int32.ofInt n18_0)), some (.int (Int32.ofInt v7)), some (.int (Int32.ofInt v15)), some (.int (Int32.ofInt v23)), some (.int (Int32.ofInt v36)), some (.int (Int32.ofInt (y_G v36))), none], [.int (Int32.ofInt (y_G v36)), .int (Int32.ofInt 12), .int (Int32.ofInt (s_98 (g0 541) t day 0 1))], h42)) rfl ?_
      refine yy_fin.dv rfl (fun z => by have z := (yi_eq (a := y_G v36) (b := 0) (by omega) (by omega)).mp z; omega) ?_
      rw [yi_div (a := 12) (b := y_G v36) (by omega) (by omega)]
      exact J44 (12 / (y_G v36)) (by unfold s_98; rw [eo45]; show 12 / y_G v36 = _; rw [ev36, eo45]; show 12 / y_G (u45 + l45 - u45) = 12 / y_G l45; rw [show u45 + l45 - u45 = l45 by omega])
  intro v44 ev44
  refine yy_fin.ic rfl (fun _ => ?_) (fun cz => absurd (y_ceq (congrArg Int32.ofInt ev44.symm)) cz)
  refine yy_fin.steps (n := 2) (s' := (511, [some (.ref 1), some (.ref w), some (.ref 0), some (.int (Int32.ofInt fr)), some (.int (Int32.ofInt (t : Int))), some (.int (Int32.ofInt day)), some (zz_val k6), some (zz_val k7), some (.int (Int32.ofInt p8)), some (.ref k9), some (.int (Int32.ofInt s)), some (zz_val q11), some (.int (Int32.ofInt p12)), some (.ref q13), some (.ref q14), some (.int ((Int32.ofInt 0) + (Int32.ofInt 1))), some (zz_val k6), some (.int (Int32.ofInt n17_0)), some (.int (Int32.ofInt n18_0)), some (.int (Int32.ofInt v7)), some (.int (Int32.ofInt v15)), some (.int (Int32.ofInt v23)), some (.int (Int32.ofInt v36)), some (.int (Int32.ofInt (y_G v36))), none], [], h42)) rfl ?_
  rw [show (Int32.ofInt 0) + (Int32.ofInt 1) = Int32.ofInt 1 from by decide]
  exact kk _ _ k6 _ _ _ _ _ _ _ C (Y.le (by omega) (by omega)) H6 H7
theorem yl_d41 (F : yCf own w lst g0) (ht : (t : Int) < (g0 541 0).toInt) (hd : 0 ≤ day ∧ day ≤ 35999) (hX : X.1 = some (L, xs)) (hL : L ≤ 100000) (hfr : 0 ≤ fr ∧ fr ≤ 900000) (hs : 0 ≤ s ∧ s ≤ 86399) (C : yCx own w lst g0 h g) (hB : h.1.1 + 200 < yy_B) {k6 k7 : Option Nat} (H6 : yHr h w k6 (hv_t (g0 541) t day 0)) (H7 : yHr h w k7 (hv_t (g0 541) t day 1)) {p8 p12 : Int} {k9 q13 q14 : Nat} {q11 : Option Nat} {q16 : Option Nat} {n17 n18 v19 v20 m21 z22 b23 : Int} (kk : ∀ h' g' (q16 : Option Nat) n17 n18 v19 v20 m21 z22 b23, yCx own w lst g0 h' g' → yx (yAk w) 20 60 h h' → yHr h' w k6 (hv_t (g0 541) t day 0) → yHr h' w k7 (hv_t (g0 541) t day 1) → yy_fin X 279 (511, [some (.ref 1), some (.ref w), some (.ref 0), some (.int (Int32.ofInt fr)), some (.int (Int32.ofInt (t : Int))), some (.int (Int32.ofInt day)), some (zz_val k6), some (zz_val k7), some (.int (Int32.ofInt p8)), some (.ref k9), some (.int (Int32.ofInt s)), some (zz_val q11), some (.int (Int32.ofInt p12)), some (.ref q13), some (.ref q14), some (.int (Int32.ofInt 2)), some (zz_val q16), some (.int (Int32.ofInt n17)), some (.int (Int32.ofInt n18)), some (.int (Int32.ofInt v19)), some (.int (Int32.ofInt v20)), some (.int (Int32.ofInt m21)), some (.int (Int32.ofInt z22)), some (.int (Int32.ofInt b23)), none], [], h') φ) : yy_fin X 279 (511, [some (.ref 1), some (.ref w), some (.ref 0), some (.int (Int32.ofInt fr)), some (.int (Int32.ofInt (t : Int))), some (.int (Int32.ofInt day)), some (zz_val k6), some (zz_val k7), some (.int (Int32.ofInt p8)), some (.ref k9), some (.int (Int32.ofInt s)), some (zz_val q11), some (.int (Int32.ofInt p12)), some (.ref q13), some (.ref q14), some (.int (Int32.ofInt 1)), some (zz_val q16), some (.int (Int32.ofInt n17)), some (.int (Int32.ofInt n18)), some (.int (Int32.ofInt v19)), some (.int (Int32.ofInt v20)), some (.int (Int32.ofInt m21)), some (.int (Int32.ofInt z22)), some (.int (Int32.ofInt b23)), none], [], h) φ := by
  have n4 := F.2.2.2.1
  have hq := F.2.2.2.2.1
  have Y : yx (yAk w) 0 0 h h := yx.rf
  have hY := Y.1
  have hg := C.2.1.2
  refine yy_fin.steps (n := 2) (s' := (514, [some (.ref 1), some (.ref w), some (.ref 0), some (.int (Int32.ofInt fr)), some (.int (Int32.ofInt (t : Int))), some (.int (Int32.ofInt day)), some (zz_val k6), some (zz_val k7), some (.int (Int32.ofInt p8)), some (.ref k9), some (.int (Int32.ofInt s)), some (zz_val q11), some (.int (Int32.ofInt p12)), some (.ref q13), some (.ref q14), some (.int (Int32.ofInt 1)), some (zz_val q16), some (.int (Int32.ofInt n17)), some (.int (Int32.ofInt n18)), some (.int (Int32.ofInt v19)), some (.int (Int32.ofInt v20)), some (.int (Int32.ofInt m21)), some (.int (Int32.ofInt z22)), some (.int (Int32.ofInt b23)), none], [.int (Int32.ofInt 2), .int (Int32.ofInt 1)], h)) rfl ?_
  refine yy_fin.ic rfl (fun cK => absurd cK (by decide)) (fun cK => ?_)
  refine yy_fin.steps (n := 1) (s' := (519, [some (.ref 1), some (.ref w), some (.ref 0), some (.int (Int32.ofInt fr)), some (.int (Int32.ofInt (t : Int))), some (.int (Int32.ofInt day)), some (zz_val k6), some (zz_val k7), some (.int (Int32.ofInt p8)), some (.ref k9), some (.int (Int32.ofInt s)), some (zz_val q11), some (.int (Int32.ofInt p12)), some (.ref q13), some (.ref q14), some (.int (Int32.ofInt 1)), some (zz_val q16), some (.int (Int32.ofInt n17)), some (.int (Int32.ofInt n18)), some (.int (Int32.ofInt v19)), some (.int (Int32.ofInt v20)), some (.int (Int32.ofInt m21)), some (.int (Int32.ofInt z22)), some (.int (Int32.ofInt b23)), none], [.int (Int32.ofInt 1)], h)) rfl ?_
  refine yy_fin.if rfl (fun cK => ?_) (fun cK => absurd (by decide) cK)
  suffices K1 : yy_fin X 279 (529, [some (.ref 1), some (.ref w), some (.ref 0), some (.int (Int32.ofInt fr)), some (.int (Int32.ofInt (t : Int))), some (.int (Int32.ofInt day)), some (zz_val k6), some (zz_val k7), some (.int (Int32.ofInt p8)), some (.ref k9), some (.int (Int32.ofInt s)), some (zz_val q11), some (.int (Int32.ofInt p12)), some (.ref q13), some (.ref q14), some (.int (Int32.ofInt 1)), some (zz_val q16), some (.int (Int32.ofInt n17)), some (.int (Int32.ofInt n18)), some (.int (Int32.ofInt v19)), some (.int (Int32.ofInt v20)), some (.int (Int32.ofInt m21)), some (.int (Int32.ofInt z22)), some (.int (Int32.ofInt b23)), none], [zz_val k7], h) φ by cases k7 <;> exact yy_fin.steps (n := 1) rfl K1
  suffices K2 : yy_fin X 279 (531, [some (.ref 1), some (.ref w), some (.ref 0), some (.int (Int32.ofInt fr)), some (.int (Int32.ofInt (t : Int))), some (.int (Int32.ofInt day)), some (zz_val k6), some (zz_val k7), some (.int (Int32.ofInt p8)), some (.ref k9), some (.int (Int32.ofInt s)), some (zz_val q11), some (.int (Int32.ofInt p12)), some (.ref q13), some (.ref q14), some (.int (Int32.ofInt 1)), some (zz_val k7), some (.int (Int32.ofInt n17)), some (.int (Int32.ofInt n18)), some (.int (Int32.ofInt v19)), some (.int (Int32.ofInt v20)), some (.int (Int32.ofInt m21)), some (.int (Int32.ofInt z22)), some (.int (Int32.ofInt b23)), none], [], h) φ by cases k7 <;> exact yy_fin.steps (n := 1) rfl K2
  refine yy_fin.steps (n := 6) (s' := (538, [some (.ref 1), some (.ref w), some (.ref 0), some (.int (Int32.ofInt fr)), some (.int (Int32.ofInt (t : Int))), some (.int (Int32.ofInt day)), some (zz_val k6), some (zz_val k7), some (.int (Int32.ofInt p8)), some (.ref k9), some (.int (Int32.ofInt s)), some (zz_val q11), some (.int (Int32.ofInt p12)), some (.ref q13), some (.ref q14), some (.int (Int32.ofInt 1)), some (zz_val k7), some (.int (Int32.ofInt n17)), some (.int (Int32.ofInt n18)), some (.int (Int32.ofInt v19)), some (.int (Int32.ofInt v20)), some (.int (Int32.ofInt m21)), some (.int (Int32.ofInt z22)), some (.int (Int32.ofInt b23)), none], [.int (((Int32.ofInt fr) + (Int32.ofInt 1)) + (Int32.ofInt 1)), .ref 0], h)) rfl ?_
  rw [yi_add fr 1]
  rw [yi_add (fr + 1) 1]
  refine yy_fin.calls (as := [.ref 0, .int (Int32.ofInt ((fr + 1) + 1))]) rfl (by decide) rfl rfl (Nat.le_of_ble_eq_true rfl) (Nat.le_of_ble_eq_true rfl) (yl_pick hX hL (k := (fr + 1) + 1) (by omega)) ?_
  rintro v h9 ⟨y17, rfl, ay17, by17, e9⟩
  obtain rfl := e9.symm
  refine yy_fin.steps (n := 2) (s' := (544, [some (.ref 1), some (.ref w), some (.ref 0), some (.int (Int32.ofInt fr)), some (.int (Int32.ofInt (t : Int))), some (.int (Int32.ofInt day)), some (zz_val k6), some (zz_val k7), some (.int (Int32.ofInt p8)), some (.ref k9), some (.int (Int32.ofInt s)), some (zz_val q11), some (.int (Int32.ofInt p12)), some (.ref q13), some (.ref q14), some (.int (Int32.ofInt 1)), some (zz_val k7), some (.int (Int32.ofInt n17)), some (.int (Int32.ofInt n18)), some (.int (Int32.ofInt v19)), some (.int (Int32.ofInt v20)), some (.int (Int32.ofInt m21)), some (.int (Int32.ofInt z22)), some (.int (Int32.ofInt b23)), none], [.ref w, .int (Int32.ofInt 12), .int (Int32.ofInt y17)], h)) rfl ?_
  obtain ⟨o3, p3, b3, t3, oP3, eP3⟩ := C.wp
  refine yy_fin.fi rfl oP3 rfl eP3 ?_
  refine yy_fin.steps (n := 1) (s' := (548, [some (.ref 1), some (.ref w), some (.ref 0), some (.int (Int32.ofInt fr)), some (.int (Int32.ofInt (t : Int))), some (.int (Int32.ofInt day)), some (zz_val k6), some (zz_val k7), some (.int (Int32.ofInt p8)), some (.ref k9), some (.int (Int32.ofInt s)), some (zz_val q11), some (.int (Int32.ofInt p12)), some (.ref q13), some (.ref q14), some (.int (Int32.ofInt 1)), some (zz_val k7), some (.int (Int32.ofInt n17)), some (.int (Int32.ofInt n18)), some (.int (Int32.ofInt v19)), some (.int (Int32.ofInt v20)), some (.int (Int32.ofInt m21)), some (.int (Int32.ofInt z22)), some (.int (Int32.ofInt b23)), none], [.int ((Int32.ofInt 12) * (Int32.ofInt ((g0 541 1).toInt))), .int (Int32.ofInt y17)], h)) rfl ?_
  rw [yi_mul 12 ((g0 541 1).toInt)]
  refine yy_fin.rm rfl (fun z => by have z := (yi_eq (a := 12 * (g0 541 1).toInt) (b := 0) (by omega) (by omega)).mp z; omega) ?_
  rw [yi_rem (a := y17) (b := 12 * ((g0 541 1).toInt)) (by omega) (by omega)]
  have mn17_1 := Int.emod_nonneg y17 (show 12 * (g0 541 1).toInt ≠ 0 by omega)
  have nn17_1 := Int.emod_lt_of_pos y17 (show 0 < 12 * (g0 541 1).toInt by omega)
  obtain ⟨n17_1, en17_1⟩ : ∃ z, z = y17 % (12 * (g0 541 1).toInt) := ⟨_, rfl⟩
  rw [← en17_1] at mn17_1 nn17_1 ⊢
  suffices K4 : yy_fin X 279 (551, [some (.ref 1), some (.ref w), some (.ref 0), some (.int (Int32.ofInt fr)), some (.int (Int32.ofInt (t : Int))), some (.int (Int32.ofInt day)), some (zz_val k6), some (zz_val k7), some (.int (Int32.ofInt p8)), some (.ref k9), some (.int (Int32.ofInt s)), some (zz_val q11), some (.int (Int32.ofInt p12)), some (.ref q13), some (.ref q14), some (.int (Int32.ofInt 1)), some (zz_val k7), some (.int (Int32.ofInt n17_1)), some (.int (Int32.ofInt n18)), some (.int (Int32.ofInt v19)), some (.int (Int32.ofInt v20)), some (.int (Int32.ofInt m21)), some (.int (Int32.ofInt z22)), some (.int (Int32.ofInt b23)), none], [], h) φ by cases k7 <;> exact yy_fin.steps (n := 1) rfl K4
  refine yy_fin.steps (n := 6) (s' := (558, [some (.ref 1), some (.ref w), some (.ref 0), some (.int (Int32.ofInt fr)), some (.int (Int32.ofInt (t : Int))), some (.int (Int32.ofInt day)), some (zz_val k6), some (zz_val k7), some (.int (Int32.ofInt p8)), some (.ref k9), some (.int (Int32.ofInt s)), some (zz_val q11), some (.int (Int32.ofInt p12)), some (.ref q13), some (.ref q14), some (.int (Int32.ofInt 1)), some (zz_val k7), some (.int (Int32.ofInt n17_1)), some (.int (Int32.ofInt n18)), some (.int (Int32.ofInt v19)), some (.int (Int32.ofInt v20)), some (.int (Int32.ofInt m21)), some (.int (Int32.ofInt z22)), some (.int (Int32.ofInt b23)), none], [.int (((Int32.ofInt fr) + (Int32.ofInt 3)) + (Int32.ofInt 1)), .ref 0], h)) rfl ?_
  rw [yi_add fr 3]
  rw [yi_add (fr + 3) 1]
  refine yy_fin.calls (as := [.ref 0, .int (Int32.ofInt ((fr + 3) + 1))]) rfl (by decide) rfl rfl (Nat.le_of_ble_eq_true rfl) (Nat.le_of_ble_eq_true rfl) (yl_pick hX hL (k := (fr + 3) + 1) (by omega)) ?_
  rintro v h9 ⟨y18, rfl, ay18, by18, e9⟩
  obtain rfl := e9.symm
  refine yy_fin.steps (n := 2) (s' := (564, [some (.ref 1), some (.ref w), some (.ref 0), some (.int (Int32.ofInt fr)), some (.int (Int32.ofInt (t : Int))), some (.int (Int32.ofInt day)), some (zz_val k6), some (zz_val k7), some (.int (Int32.ofInt p8)), some (.ref k9), some (.int (Int32.ofInt s)), some (zz_val q11), some (.int (Int32.ofInt p12)), some (.ref q13), some (.ref q14), some (.int (Int32.ofInt 1)), some (zz_val k7), some (.int (Int32.ofInt n17_1)), some (.int (Int32.ofInt n18)), some (.int (Int32.ofInt v19)), some (.int (Int32.ofInt v20)), some (.int (Int32.ofInt m21)), some (.int (Int32.ofInt z22)), some (.int (Int32.ofInt b23)), none], [.ref w, .int (Int32.ofInt 12), .int (Int32.ofInt y18)], h)) rfl ?_
  obtain ⟨o5, p5, b5, t5, oP5, eP5⟩ := C.wp
  refine yy_fin.fi rfl oP5 rfl eP5 ?_
  refine yy_fin.steps (n := 1) (s' := (568, [some (.ref 1), some (.ref w), some (.ref 0), some (.int (Int32.ofInt fr)), some (.int (Int32.ofInt (t : Int))), some (.int (Int32.ofInt day)), some (zz_val k6), some (zz_val k7), some (.int (Int32.ofInt p8)), some (.ref k9), some (.int (Int32.ofInt s)), some (zz_val q11), some (.int (Int32.ofInt p12)), some (.ref q13), some (.ref q14), some (.int (Int32.ofInt 1)), some (zz_val k7), some (.int (Int32.ofInt n17_1)), some (.int (Int32.ofInt n18)), some (.int (Int32.ofInt v19)), some (.int (Int32.ofInt v20)), some (.int (Int32.ofInt m21)), some (.int (Int32.ofInt z22)), some (.int (Int32.ofInt b23)), none], [.int ((Int32.ofInt 12) * (Int32.ofInt ((g0 541 1).toInt))), .int (Int32.ofInt y18)], h)) rfl ?_
  rw [yi_mul 12 ((g0 541 1).toInt)]
  refine yy_fin.rm rfl (fun z => by have z := (yi_eq (a := 12 * (g0 541 1).toInt) (b := 0) (by omega) (by omega)).mp z; omega) ?_
  rw [yi_rem (a := y18) (b := 12 * ((g0 541 1).toInt)) (by omega) (by omega)]
  have mn18_1 := Int.emod_nonneg y18 (show 12 * (g0 541 1).toInt ≠ 0 by omega)
  have nn18_1 := Int.emod_lt_of_pos y18 (show 0 < 12 * (g0 541 1).toInt by omega)
  obtain ⟨n18_1, en18_1⟩ : ∃ z, z = y18 % (12 * (g0 541 1).toInt) := ⟨_, rfl⟩
  rw [← en18_1] at mn18_1 nn18_1 ⊢
  refine yy_fin.steps (n := 1) (s' := (571, [some (.ref 1), some (.ref w), some (.ref 0), some (.int (Int32.ofInt fr)), some (.int (Int32.ofInt (t : Int))), some (.int (Int32.ofInt day)), some (zz_val k6), some (zz_val k7), some (.int (Int32.ofInt p8)), some (.ref k9), some (.int (Int32.ofInt s)), some (zz_val q11), some (.int (Int32.ofInt p12)), some (.ref q13), some (.ref q14), some (.int (Int32.ofInt 1)), some (zz_val k7), some (.int (Int32.ofInt n17_1)), some (.int (Int32.ofInt n18_1)), some (.int (Int32.ofInt v19)), some (.int (Int32.ofInt v20)), some (.int (Int32.ofInt m21)), some (.int (Int32.ofInt z22)), some (.int (Int32.ofInt b23)), none], [], h)) rfl ?_
  suffices K6 : yy_fin X 279 (573, [some (.ref 1), some (.ref w), some (.ref 0), some (.int (Int32.ofInt fr)), some (.int (Int32.ofInt (t : Int))), some (.int (Int32.ofInt day)), some (zz_val k6), some (zz_val k7), some (.int (Int32.ofInt p8)), some (.ref k9), some (.int (Int32.ofInt s)), some (zz_val q11), some (.int (Int32.ofInt p12)), some (.ref q13), some (.ref q14), some (.int (Int32.ofInt 1)), some (zz_val k7), some (.int (Int32.ofInt n17_1)), some (.int (Int32.ofInt n18_1)), some (.int (Int32.ofInt v19)), some (.int (Int32.ofInt v20)), some (.int (Int32.ofInt m21)), some (.int (Int32.ofInt z22)), some (.int (Int32.ofInt b23)), none], [zz_val k7], h) φ by cases k7 <;> exact yy_fin.steps (n := 1) rfl K6
  suffices J7 : ∀ v7 : Int, v7 = s_90 (g0 541) t day 1 n17_1 → yy_fin X 279 (604, [some (.ref 1), some (.ref w), some (.ref 0), some (.int (Int32.ofInt fr)), some (.int (Int32.ofInt (t : Int))), some (.int (Int32.ofInt day)), some (zz_val k6), some (zz_val k7), some (.int (Int32.ofInt p8)), some (.ref k9), some (.int (Int32.ofInt s)), some (zz_val q11), some (.int (Int32.ofInt p12)), some (.ref q13), some (.ref q14), some (.int (Int32.ofInt 1)), some (zz_val k7), some (.int (Int32.ofInt n17_1)), some (.int (Int32.ofInt n18_1)), some (.int (Int32.ofInt v19)), some (.int (Int32.ofInt v20)), some (.int (Int32.ofInt m21)), some (.int (Int32.ofInt z22)), some (.int (Int32.ofInt b23)), none], [.int (Int32.ofInt v7)], h) φ by
    rcases H7 with ⟨rfl, eo8⟩ | ⟨q8, u8, l8, rfl, eo8, R8⟩
    · refine yy_fin.steps (n := 3) (s' := (604, [some (.ref 1), some (.ref w), some (.ref 0), some (.int (Int32.ofInt fr)), some (.int (Int32.ofInt (t : Int))), some (.int (Int32.ofInt day)), some (zz_val k6), some (.null), some (.int (Int32.ofInt p8)), some (.ref k9), some (.int (Int32.ofInt s)), some (zz_val q11), some (.int (Int32.ofInt p12)), some (.ref q13), some (.ref q14), some (.int (Int32.ofInt 1)), some (.null), some (.int (Int32.ofInt n17_1)), some (.int (Int32.ofInt n18_1)), some (.int (Int32.ofInt v19)), some (.int (Int32.ofInt v20)), some (.int (Int32.ofInt m21)), some (.int (Int32.ofInt z22)), some (.int (Int32.ofInt b23)), none], [.int (Int32.ofInt (-2))], h)) rfl ?_
      exact J7 (-2) (by show _ = s_b _ _ _; rw [eo8]; rfl)
    · have hb8 := hv_bnd2 F.2.2.2 ht eo8
      refine yy_fin.steps (n := 4) (s' := (581, [some (.ref 1), some (.ref w), some (.ref 0), some (.int (Int32.ofInt fr)), some (.int (Int32.ofInt (t : Int))), some (.int (Int32.ofInt day)), some (zz_val k6), some (.ref q8), some (.int (Int32.ofInt p8)), some (.ref k9), some (.int (Int32.ofInt s)), some (zz_val q11), some (.int (Int32.ofInt p12)), some (.ref q13), some (.ref q14), some (.int (Int32.ofInt 1)), some (.ref q8), some (.int (Int32.ofInt n17_1)), some (.int (Int32.ofInt n18_1)), some (.int (Int32.ofInt v19)), some (.int (Int32.ofInt v20)), some (.int (Int32.ofInt m21)), some (.int (Int32.ofInt z22)), some (.int (Int32.ofInt b23)), none], [.int (Int32.ofInt n17_1), .ref q8, .ref w], h)) rfl ?_
      have hk9 := yk_b (q := (g0 541 1).toInt) (n := n17_1) (l := l8) (by omega) (by omega) (by omega)
      obtain ⟨fw10, oW10⟩ := C.ow
      refine yy_fin.cv (as := [.ref q8, .int (Int32.ofInt n17_1)]) rfl rfl rfl oW10 (Nat.le_of_ble_eq_true rfl) (Nat.le_of_ble_eq_true rfl) (yc_back F C R8 (n := n17_1) (by omega) (by omega) (by omega)) ?_
      rintro v h9 ⟨rfl, e9⟩
      obtain rfl := e9.symm
      refine yy_fin.steps (n := 2) (s' := (587, [some (.ref 1), some (.ref w), some (.ref 0), some (.int (Int32.ofInt fr)), some (.int (Int32.ofInt (t : Int))), some (.int (Int32.ofInt day)), some (zz_val k6), some (.ref q8), some (.int (Int32.ofInt p8)), some (.ref k9), some (.int (Int32.ofInt s)), some (zz_val q11), some (.int (Int32.ofInt p12)), some (.ref q13), some (.ref q14), some (.int (Int32.ofInt 1)), some (.ref q8), some (.int (Int32.ofInt n17_1)), some (.int (Int32.ofInt n18_1)), some (.int (Int32.ofInt v19)), some (.int (Int32.ofInt v20)), some (.int (Int32.ofInt m21)), some (.int (Int32.ofInt z22)), some (.int (Int32.ofInt b23)), none], [.int (Int32.ofInt 1), .ref q8, .int (Int32.ofInt (u8 + yk (g0 541 1).toInt n17_1 l8))], h)) rfl ?_
      refine yy_fin.lp (j := 1) rfl R8.2 rfl (by decide) rfl ?_
      refine yy_fin.ic rfl (fun c11 => ?_) (fun c11 => ?_)
      · have c11 := (yi_c_ne (a := u8 + yk (g0 541 1).toInt n17_1 l8) (b := u8 + l8) (by omega) (by omega)).mp c11
        refine yy_fin.steps (n := 3) (s' := (601, [some (.ref 1), some (.ref w), some (.ref 0), some (.int (Int32.ofInt fr)), some (.int (Int32.ofInt (t : Int))), some (.int (Int32.ofInt day)), some (zz_val k6), some (.ref q8), some (.int (Int32.ofInt p8)), some (.ref k9), some (.int (Int32.ofInt s)), some (zz_val q11), some (.int (Int32.ofInt p12)), some (.ref q13), some (.ref q14), some (.int (Int32.ofInt 1)), some (.ref q8), some (.int (Int32.ofInt n17_1)), some (.int (Int32.ofInt n18_1)), some (.int (Int32.ofInt v19)), some (.int (Int32.ofInt v20)), some (.int (Int32.ofInt m21)), some (.int (Int32.ofInt z22)), some (.int (Int32.ofInt b23)), none], [.int (Int32.ofInt n17_1), .ref q8, .ref w], h)) rfl ?_
        have hk12 := yk_b (q := (g0 541 1).toInt) (n := n17_1) (l := l8) (by omega) (by omega) (by omega)
        obtain ⟨fw13, oW13⟩ := C.ow
        refine yy_fin.cv (as := [.ref q8, .int (Int32.ofInt n17_1)]) rfl rfl rfl oW13 (Nat.le_of_ble_eq_true rfl) (Nat.le_of_ble_eq_true rfl) (yc_back F C R8 (n := n17_1) (by omega) (by omega) (by omega)) ?_
        rintro v h9 ⟨rfl, e9⟩
        obtain rfl := e9.symm
        exact J7 (u8 + yk (g0 541 1).toInt n17_1 l8) (by show _ = s_b _ _ _; rw [eo8]; exact (if_neg (by omega)).symm)
      · have c11 := mt (yi_c_ne (a := u8 + yk (g0 541 1).toInt n17_1 l8) (b := u8 + l8) (by omega) (by omega)).mpr c11
        refine yy_fin.steps (n := 2) (s' := (604, [some (.ref 1), some (.ref w), some (.ref 0), some (.int (Int32.ofInt fr)), some (.int (Int32.ofInt (t : Int))), some (.int (Int32.ofInt day)), some (zz_val k6), some (.ref q8), some (.int (Int32.ofInt p8)), some (.ref k9), some (.int (Int32.ofInt s)), some (zz_val q11), some (.int (Int32.ofInt p12)), some (.ref q13), some (.ref q14), some (.int (Int32.ofInt 1)), some (.ref q8), some (.int (Int32.ofInt n17_1)), some (.int (Int32.ofInt n18_1)), some (.int (Int32.ofInt v19)), some (.int (Int32.ofInt v20)), some (.int (Int32.ofInt m21)), some (.int (Int32.ofInt z22)), some (.int (Int32.ofInt b23)), none], [.int (Int32.ofInt (-2))], h)) rfl ?_
        exact J7 (-2) (by show _ = s_b _ _ _; rw [eo8]; exact (if_pos (by omega)).symm)
  intro v7 ev7
  have hb7 := s_90_b (day := day) (f := 1) (n := n17_1) F.2.2.2 ht (by omega)
  rw [← ev7] at hb7
  refine yy_fin.steps (n := 1) (s' := (606, [some (.ref 1), some (.ref w), some (.ref 0), some (.int (Int32.ofInt fr)), some (.int (Int32.ofInt (t : Int))), some (.int (Int32.ofInt day)), some (zz_val k6), some (zz_val k7), some (.int (Int32.ofInt p8)), some (.ref k9), some (.int (Int32.ofInt s)), some (zz_val q11), some (.int (Int32.ofInt p12)), some (.ref q13), some (.ref q14), some (.int (Int32.ofInt 1)), some (zz_val k7), some (.int (Int32.ofInt n17_1)), some (.int (Int32.ofInt n18_1)), some (.int (Int32.ofInt v7)), some (.int (Int32.ofInt v20)), some (.int (Int32.ofInt m21)), some (.int (Int32.ofInt z22)), some (.int (Int32.ofInt b23)), none], [], h)) rfl ?_
  suffices K14 : yy_fin X 279 (608, [some (.ref 1), some (.ref w), some (.ref 0), some (.int (Int32.ofInt fr)), some (.int (Int32.ofInt (t : Int))), some (.int (Int32.ofInt day)), some (zz_val k6), some (zz_val k7), some (.int (Int32.ofInt p8)), some (.ref k9), some (.int (Int32.ofInt s)), some (zz_val q11), some (.int (Int32.ofInt p12)), some (.ref q13), some (.ref q14), some (.int (Int32.ofInt 1)), some (zz_val k7), some (.int (Int32.ofInt n17_1)), some (.int (Int32.ofInt n18_1)), some (.int (Int32.ofInt v7)), some (.int (Int32.ofInt v20)), some (.int (Int32.ofInt m21)), some (.int (Int32.ofInt z22)), some (.int (Int32.ofInt b23)), none], [zz_val k7], h) φ by cases k7 <;> exact yy_fin.steps (n := 1) rfl K14
  suffices J15 : ∀ v15 : Int, v15 = s_90 (g0 541) t day 1 n18_1 → yy_fin X 279 (639, [some (.ref 1), some (.ref w), some (.ref 0), some (.int (Int32.ofInt fr)), some (.int (Int32.ofInt (t : Int))), some (.int (Int32.ofInt day)), some (zz_val k6), some (zz_val k7), some (.int (Int32.ofInt p8)), some (.ref k9), some (.int (Int32.ofInt s)), some (zz_val q11), some (.int (Int32.ofInt p12)), some (.ref q13), some (.ref q14), some (.int (Int32.ofInt 1)), some (zz_val k7), some (.int (Int32.ofInt n17_1)), some (.int (Int32.ofInt n18_1)), some (.int (Int32.ofInt v7)), some (.int (Int32.ofInt v20)), some (.int (Int32.ofInt m21)), some (.int (Int32.ofInt z22)), some (.int (Int32.ofInt b23)), none], [.int (Int32.ofInt v15)], h) φ by
    rcases H7 with ⟨rfl, eo16⟩ | ⟨q16, u16, l16, rfl, eo16, R16⟩
    · refine yy_fin.steps (n := 3) (s' := (639, [some (.ref 1), some (.ref w), some (.ref 0), some (.int (Int32.ofInt fr)), some (.int (Int32.ofInt (t : Int))), some (.int (Int32.ofInt day)), some (zz_val k6), some (.null), some (.int (Int32.ofInt p8)), some (.ref k9), some (.int (Int32.ofInt s)), some (zz_val q11), some (.int (Int32.ofInt p12)), some (.ref q13), some (.ref q14), some (.int (Int32.ofInt 1)), some (.null), some (.int (Int32.ofInt n17_1)), some (.int (Int32.ofInt n18_1)), some (.int (Int32.ofInt v7)), some (.int (Int32.ofInt v20)), some (.int (Int32.ofInt m21)), some (.int (Int32.ofInt z22)), some (.int (Int32.ofInt b23)), none], [.int (Int32.ofInt (-2))], h)) rfl ?_
      exact J15 (-2) (by show _ = s_b _ _ _; rw [eo16]; rfl)
    · have hb16 := hv_bnd2 F.2.2.2 ht eo16
      refine yy_fin.steps (n := 4) (s' := (616, [some (.ref 1), some (.ref w), some (.ref 0), some (.int (Int32.ofInt fr)), some (.int (Int32.ofInt (t : Int))), some (.int (Int32.ofInt day)), some (zz_val k6), some (.ref q16), some (.int (Int32.ofInt p8)), some (.ref k9), some (.int (Int32.ofInt s)), some (zz_val q11), some (.int (Int32.ofInt p12)), some (.ref q13), some (.ref q14), some (.int (Int32.ofInt 1)), some (.ref q16), some (.int (Int32.ofInt n17_1)), some (.int (Int32.ofInt n18_1)), some (.int (Int32.ofInt v7)), some (.int (Int32.ofInt v20)), some (.int (Int32.ofInt m21)), some (.int (Int32.ofInt z22)), some (.int (Int32.ofInt b23)), none], [.int (Int32.ofInt n18_1), .ref q16, .ref w], h)) rfl ?_
      have hk17 := yk_b (q := (g0 541 1).toInt) (n := n18_1) (l := l16) (by omega) (by omega) (by omega)
      obtain ⟨fw18, oW18⟩ := C.ow
      refine yy_fin.cv (as := [.ref q16, .int (Int32.ofInt n18_1)]) rfl rfl rfl oW18 (Nat.le_of_ble_eq_true rfl) (Nat.le_of_ble_eq_true rfl) (yc_back F C R16 (n := n18_1) (by omega) (by omega) (by omega)) ?_
      rintro v h9 ⟨rfl, e9⟩
      obtain rfl := e9.symm
      refine yy_fin.steps (n := 2) (s' := (622, [some (.ref 1), some (.ref w), some (.ref 0), some (.int (Int32.ofInt fr)), some (.int (Int32.ofInt (t : Int))), some (.int (Int32.ofInt day)), some (zz_val k6), some (.ref q16), some (.int (Int32.ofInt p8)), some (.ref k9), some (.int (Int32.ofInt s)), some (zz_val q11), some (.int (Int32.ofInt p12)), some (.ref q13), some (.ref q14), some (.int (Int32.ofInt 1)), some (.ref q16), some (.int (Int32.ofInt n17_1)), some (.int (Int32.ofInt n18_1)), some (.int (Int32.ofInt v7)), some (.int (Int32.ofInt v20)), some (.int (Int32.ofInt m21)), some (.int (Int32.ofInt z22)), some (.int (Int32.ofInt b23)), none], [.int (Int32.ofInt 1), .ref q16, .int (Int32.ofInt (u16 + yk (g0 541 1).toInt n18_1 l16))], h)) rfl ?_
      refine yy_fin.lp (j := 1) rfl R16.2 rfl (by decide) rfl ?_
      refine yy_fin.ic rfl (fun c19 => ?_) (fun c19 => ?_)
      · have c19 := (yi_c_ne (a := u16 + yk (g0 541 1).toInt n18_1 l16) (b := u16 + l16) (by omega) (by omega)).mp c19
        refine yy_fin.steps (n := 3) (s' := (636, [some (.ref 1), some (.ref w), some (.ref 0), some (.int (Int32.ofInt fr)), some (.int (Int32.ofInt (t : Int))), some (.int (Int32.ofInt day)), some (zz_val k6), some (.ref q16), some (.int (Int32.ofInt p8)), some (.ref k9), some (.int (Int32.ofInt s)), some (zz_val q11), some (.int (Int32.ofInt p12)), some (.ref q13), some (.ref q14), some (.int (Int32.ofInt 1)), some (.ref q16), some (.int (Int32.ofInt n17_1)), some (.int (Int32.ofInt n18_1)), some (.int (Int32.ofInt v7)), some (.int (Int32.ofInt v20)), some (.int (Int32.ofInt m21)), some (.int (Int32.ofInt z22)), some (.int (Int32.ofInt b23)), none], [.int (Int32.ofInt n18_1), .ref q16, .ref w], h)) rfl ?_
        have hk20 := yk_b (q := (g0 541 1).toInt) (n := n18_1) (l := l16) (by omega) (by omega) (by omega)
        obtain ⟨fw21, oW21⟩ := C.ow
        refine yy_fin.cv (as := [.ref q16, .int (Int32.ofInt n18_1)]) rfl rfl rfl oW21 (Nat.le_of_ble_eq_true rfl) (Nat.le_of_ble_eq_true rfl) (yc_back F C R16 (n := n18_1) (by omega) (by omega) (by omega)) ?_
        rintro v h9 ⟨rfl, e9⟩
        obtain rfl := e9.symm
        exact J15 (u16 + yk (g0 541 1).toInt n18_1 l16) (by show _ = s_b _ _ _; rw [eo16]; exact (if_neg (by omega)).symm)
      · have c19 := mt (yi_c_ne (a := u16 + yk (g0 541 1).toInt n18_1 l16) (b := u16 + l16) (by omega) (by omega)).mpr c19
        refine yy_fin.steps (n := 2) (s' := (639, [some (.ref 1), some (.ref w), some (.ref 0), some (.int (Int32.ofInt fr)), some (.int (Int32.ofInt (t : Int))), some (.int (Int32.ofInt day)), some (zz_val k6), some (.ref q16), some (.int (Int32.ofInt p8)), some (.ref k9), some (.int (Int32.ofInt s)), some (zz_val q11), some (.int (Int32.ofInt p12)), some (.ref q13), some (.ref q14), some (.int (Int32.ofInt 1)), some (.ref q16), some (.int (Int32.ofInt n17_1)), some (.int (Int32.ofInt n18_1)), some (.int (Int32.ofInt v7)), some (.int (Int32.ofInt v20)), some (.int (Int32.ofInt m21)), some (.int (Int32.ofInt z22)), some (.int (Int32.ofInt b23)), none], [.int (Int32.ofInt (-2))], h)) rfl ?_
        exact J15 (-2) (by show _ = s_b _ _ _; rw [eo16]; exact (if_pos (by omega)).symm)
  intro v15 ev15
  have hb15 := s_90_b (day := day) (f := 1) (n := n18_1) F.2.2.2 ht (by omega)
  rw [← ev15] at hb15
  refine yy_fin.steps (n := 1) (s' := (641, [some (.ref 1), some (.ref w), some (.ref 0), some (.int (Int32.ofInt fr)), some (.int (Int32.ofInt (t : Int))), some (.int (Int32.ofInt day)), some (zz_val k6), some (zz_val k7), some (.int (Int32.ofInt p8)), some (.ref k9), some (.int (Int32.ofInt s)), some (zz_val q11), some (.int (Int32.ofInt p12)), some (.ref q13), some (.ref q14), some (.int (Int32.ofInt 1)), some (zz_val k7), some (.int (Int32.ofInt n17_1)), some (.int (Int32.ofInt n18_1)), some (.int (Int32.ofInt v7)), some (.int (Int32.ofInt v15)), some (.int (Int32.ofInt m21)), some (.int (Int32.ofInt z22)), some (.int (Int32.ofInt b23)), none], [], h)) rfl ?_
  suffices K22 : yy_fin X 279 (643, [some (.ref 1), some (.ref w), some (.ref 0), some (.int (Int32.ofInt fr)), some (.int (Int32.ofInt (t : Int))), some (.int (Int32.ofInt day)), some (zz_val k6), some (zz_val k7), some (.int (Int32.ofInt p8)), some (.ref k9), some (.int (Int32.ofInt s)), some (zz_val q11), some (.int (Int32.ofInt p12)), some (.ref q13), some (.ref q14), some (.int (Int32.ofInt 1)), some (zz_val k7), some (.int (Int32.ofInt n17_1)), some (.int (Int32.ofInt n18_1)), some (.int (Int32.ofInt v7)), some (.int (Int32.ofInt v15)), some (.int (Int32.ofInt m21)), some (.int (Int32.ofInt z22)), some (.int (Int32.ofInt b23)), none], [zz_val k7], h) φ by cases k7 <;> exact yy_fin.steps (n := 1) rfl K22
  suffices J23 : ∀ v23 : Int, v23 = y_el (hv_t (g0 541) t day 1) (-1000000) (fun u l => u + (u + l - u) / 2) → yy_fin X 279 (667, [some (.ref 1), some (.ref w), some (.ref 0), some (.int (Int32.ofInt fr)), some (.int (Int32.ofInt (t : Int))), some (.int (Int32.ofInt day)), some (zz_val k6), some (zz_val k7), some (.int (Int32.ofInt p8)), some (.ref k9), some (.int (Int32.ofInt s)), some (zz_val q11), some (.int (Int32.ofInt p12)), some (.ref q13), some (.ref q14), some (.int (Int32.ofInt 1)), some (zz_val k7), some (.int (Int32.ofInt n17_1)), some (.int (Int32.ofInt n18_1)), some (.int (Int32.ofInt v7)), some (.int (Int32.ofInt v15)), some (.int (Int32.ofInt m21)), some (.int (Int32.ofInt z22)), some (.int (Int32.ofInt b23)), none], [.int (Int32.ofInt v23)], h) φ by
    rcases H7 with ⟨rfl, eo24⟩ | ⟨q24, u24, l24, rfl, eo24, R24⟩
    · refine yy_fin.steps (n := 3) (s' := (667, [some (.ref 1), some (.ref w), some (.ref 0), some (.int (Int32.ofInt fr)), some (.int (Int32.ofInt (t : Int))), some (.int (Int32.ofInt day)), some (zz_val k6), some (.null), some (.int (Int32.ofInt p8)), some (.ref k9), some (.int (Int32.ofInt s)), some (zz_val q11), some (.int (Int32.ofInt p12)), some (.ref q13), some (.ref q14), some (.int (Int32.ofInt 1)), some (.null), some (.int (Int32.ofInt n17_1)), some (.int (Int32.ofInt n18_1)), some (.int (Int32.ofInt v7)), some (.int (Int32.ofInt v15)), some (.int (Int32.ofInt m21)), some (.int (Int32.ofInt z22)), some (.int (Int32.ofInt b23)), none], [.int (Int32.ofInt (-1000000))], h)) rfl ?_
      exact J23 (-1000000) (by rw [eo24]; rfl)
    · have hb24 := hv_bnd2 F.2.2.2 ht eo24
      refine yy_fin.steps (n := 3) (s' := (654, [some (.ref 1), some (.ref w), some (.ref 0), some (.int (Int32.ofInt fr)), some (.int (Int32.ofInt (t : Int))), some (.int (Int32.ofInt day)), some (zz_val k6), some (.ref q24), some (.int (Int32.ofInt p8)), some (.ref k9), some (.int (Int32.ofInt s)), some (zz_val q11), some (.int (Int32.ofInt p12)), some (.ref q13), some (.ref q14), some (.int (Int32.ofInt 1)), some (.ref q24), some (.int (Int32.ofInt n17_1)), some (.int (Int32.ofInt n18_1)), some (.int (Int32.ofInt v7)), some (.int (Int32.ofInt v15)), some (.int (Int32.ofInt m21)), some (.int (Int32.ofInt z22)), some (.int (Int32.ofInt b23)), none], [.int (Int32.ofInt 0), .ref q24], h)) rfl ?_
      refine yy_fin.lp (j := 0) rfl R24.2 rfl (by decide) rfl ?_
      refine yy_fin.steps (n := 2) (s' := (658, [some (.ref 1), some (.ref w), some (.ref 0), some (.int (Int32.ofInt fr)), some (.int (Int32.ofInt (t : Int))), some (.int (Int32.ofInt day)), some (zz_val k6), some (.ref q24), some (.int (Int32.ofInt p8)), some (.ref k9), some (.int (Int32.ofInt s)), some (zz_val q11), some (.int (Int32.ofInt p12)), some (.ref q13), some (.ref q14), some (.int (Int32.ofInt 1)), some (.ref q24), some (.int (Int32.ofInt n17_1)), some (.int (Int32.ofInt n18_1)), some (.int (Int32.ofInt v7)), some (.int (Int32.ofInt v15)), some (.int (Int32.ofInt m21)), some (.int (Int32.ofInt z22)), some (.int (Int32.ofInt b23)), none], [.int (Int32.ofInt 1), .ref q24, .int (Int32.ofInt u24)], h)) rfl ?_
      refine yy_fin.lp (j := 1) rfl R24.2 rfl (by decide) rfl ?_
      refine yy_fin.steps (n := 2) (s' := (662, [some (.ref 1), some (.ref w), some (.ref 0), some (.int (Int32.ofInt fr)), some (.int (Int32.ofInt (t : Int))), some (.int (Int32.ofInt day)), some (zz_val k6), some (.ref q24), some (.int (Int32.ofInt p8)), some (.ref k9), some (.int (Int32.ofInt s)), some (zz_val q11), some (.int (Int32.ofInt p12)), some (.ref q13), some (.ref q14), some (.int (Int32.ofInt 1)), some (.ref q24), some (.int (Int32.ofInt n17_1)), some (.int (Int32.ofInt n18_1)), some (.int (Int32.ofInt v7)), some (.int (Int32.ofInt v15)), some (.int (Int32.ofInt m21)), some (.int (Int32.ofInt z22)), some (.int (Int32.ofInt b23)), none], [.int (Int32.ofInt 0), .ref q24, .int (Int32.ofInt (u24 + l24)), .int (Int32.ofInt u24)], h)) rfl ?_
      refine yy_fin.lp (j := 0) rfl R24.2 rfl (by decide) rfl ?_
      refine yy_fin.steps (n := 2) (s' := (665, [some (.ref 1), some (.ref w), some (.ref 0), some (.int (Int32.ofInt fr)), some (.int (Int32.ofInt (t : Int))), some (.int (Int32.ofInt day)), some (zz_val k6), some (.ref q24), some (.int (Int32.ofInt p8)), some (.ref k9), some (.int (Int32.ofInt s)), some (zz_val q11), some (.int (Int32.ofInt p12)), some (.ref q13), some (.ref q14), some (.int (Int32.ofInt 1)), some (.ref q24), some (.int (Int32.ofInt n17_1)), some (.int (Int32.ofInt n18_1)), some (.int (Int32.ofInt v7)), some (.int (Int32.ofInt v15)), some (.int (Int32.ofInt m21)), some (.int (Int32.ofInt z22)), some (.int (Int32.ofInt b23)), none], [.int (Int32.ofInt 2), .int ((Int32.ofInt (u24 + l24)) - (Int32.ofInt u24)), .int (Int32.ofInt u24)], h)) rfl ?_
      rw [yi_sub (u24 + l24) u24]
      refine yy_fin.dv rfl (by decide) ?_
      rw [yi_div (a := (u24 + l24) - u24) (b := 2) (by omega) (by omega)]
      refine yy_fin.steps (n := 1) (s' := (667, [some (.ref 1), some (.ref w), some (.ref 0), some (.int (Int32.ofInt fr)), some (.int (Int32.ofInt (t : Int))), some (.int (Int32.ofInt day)), some (zz_val k6), some (.ref q24), some (.int (Int32.ofInt p8)), some (.ref k9), some (.int (Int32.ofInt s)), some (zz_val q11), some (.int (Int32.ofInt p12)), some (.ref q13), some (.ref q14), some (.int (Int32.ofInt 1)), some (.ref q24), some (.int (Int32.ofInt n17_1)), some (.int (Int32.ofInt n18_1)), some (.int (Int32.ofInt v7)), some (.int (Int32.ofInt v15)), some (.int (Int32.ofInt m21)), some (.int (Int32.ofInt z22)), some (.int (Int32.ofInt b23)), none], [.int ((Int32.ofInt u24) + (Int32.ofInt (((u24 + l24) - u24) / 2)))], h)) rfl ?_
      rw [yi_add u24 (((u24 + l24) - u24) / 2)]
      exact J23 (u24 + (((u24 + l24) - u24) / 2)) (by rw [eo24]; rfl)
  intro v23 ev23
  refine yy_fin.steps (n := 6) (s' := (678, [some (.ref 1), some (.ref w), some (.ref 0), some (.int (Int32.ofInt fr)), some (.int (Int32.ofInt (t : Int))), some (.int (Int32.ofInt day)), some (zz_val k6), some (zz_val k7), some (.int (Int32.ofInt p8)), some (.ref k9), some (.int (Int32.ofInt s)), some (zz_val q11), some (.int (Int32.ofInt p12)), some (.ref q13), some (.ref q14), some (.int (Int32.ofInt 1)), some (zz_val k7), some (.int (Int32.ofInt n17_1)), some (.int (Int32.ofInt n18_1)), some (.int (Int32.ofInt v7)), some (.int (Int32.ofInt v15)), some (.int (Int32.ofInt v23)), some (.int (Int32.ofInt z22)), some (.int (Int32.ofInt b23)), none], [.int (Int32.ofInt n17_1), .int (Int32.ofInt 1), .int (Int32.ofInt day), .int (Int32.ofInt (t : Int)), .ref 1], h)) rfl ?_
  obtain ⟨g25, r25⟩ := qi_90 F C ht hd (f := 1) (Or.inr rfl) (n := n17_1) (by omega)
  obtain ⟨fs25, oo25⟩ := C.o
  refine yy_fin.cv (as := [.int (Int32.ofInt (t : Int)), .int (Int32.ofInt day), .int (Int32.ofInt 1), .int (Int32.ofInt n17_1)]) rfl rfl rfl oo25 (Nat.le_of_ble_eq_true rfl) (Nat.le_of_ble_eq_true rfl) r25 ?_
  rintro v h25 ⟨rfl, C, x25⟩
  replace H6 := H6.k x25
  replace H7 := H7.k x25
  replace Y := Y.tr x25 (fun _ _ e => e)
  replace hY := Y.1
  refine yy_fin.steps (n := 1) (s' := (683, [some (.ref 1), some (.ref w), some (.ref 0), some (.int (Int32.ofInt fr)), some (.int (Int32.ofInt (t : Int))), some (.int (Int32.ofInt day)), some (zz_val k6), some (zz_val k7), some (.int (Int32.ofInt p8)), some (.ref k9), some (.int (Int32.ofInt s)), some (zz_val q11), some (.int (Int32.ofInt p12)), some (.ref q13), some (.ref q14), some (.int (Int32.ofInt 1)), some (zz_val k7), some (.int (Int32.ofInt n17_1)), some (.int (Int32.ofInt n18_1)), some (.int (Int32.ofInt v7)), some (.int (Int32.ofInt v15)), some (.int (Int32.ofInt v23)), some (.int (Int32.ofInt z22)), some (.int (Int32.ofInt b23)), none], [.int (Int32.ofInt v7), .int (Int32.ofInt (s_90 (g0 541) t day 1 n17_1))], h25)) rfl ?_
  refine yy_fin.ic rfl (fun cz => absurd (congrArg Int32.ofInt ev7.symm) (y_cne cz)) (fun _ => ?_)
  refine yy_fin.steps (n := 5) (s' := (695, [some (.ref 1), some (.ref w), some (.ref 0), some (.int (Int32.ofInt fr)), some (.int (Int32.ofInt (t : Int))), some (.int (Int32.ofInt day)), some (zz_val k6), some (zz_val k7), some (.int (Int32.ofInt p8)), some (.ref k9), some (.int (Int32.ofInt s)), some (zz_val q11), some (.int (Int32.ofInt p12)), some (.ref q13), some (.ref q14), some (.int (Int32.ofInt 1)), some (zz_val k7), some (.int (Int32.ofInt n17_1)), some (.int (Int32.ofInt n18_1)), some (.int (Int32.ofInt v7)), some (.int (Int32.ofInt v15)), some (.int (Int32.ofInt v23)), some (.int (Int32.ofInt z22)), some (.int (Int32.ofInt b23)), none], [.int (Int32.ofInt n18_1), .int (Int32.ofInt 1), .int (Int32.ofInt day), .int (Int32.ofInt (t : Int)), .ref 1], h25)) rfl ?_
  obtain ⟨g26, r26⟩ := qi_90 F C ht hd (f := 1) (Or.inr rfl) (n := n18_1) (by omega)
  obtain ⟨fs26, oo26⟩ := C.o
  refine yy_fin.cv (as := [.int (Int32.ofInt (t : Int)), .int (Int32.ofInt day), .int (Int32.ofInt 1), .int (Int32.ofInt n18_1)]) rfl rfl rfl oo26 (Nat.le_of_ble_eq_true rfl) (Nat.le_of_ble_eq_true rfl) r26 ?_
  rintro v h26 ⟨rfl, C, x26⟩
  replace H6 := H6.k x26
  replace H7 := H7.k x26
  replace Y := Y.tr x26 (fun _ _ e => e)
  replace hY := Y.1
  refine yy_fin.steps (n := 1) (s' := (700, [some (.ref 1), some (.ref w), some (.ref 0), some (.int (Int32.ofInt fr)), some (.int (Int32.ofInt (t : Int))), some (.int (Int32.ofInt day)), some (zz_val k6), some (zz_val k7), some (.int (Int32.ofInt p8)), some (.ref k9), some (.int (Int32.ofInt s)), some (zz_val q11), some (.int (Int32.ofInt p12)), some (.ref q13), some (.ref q14), some (.int (Int32.ofInt 1)), some (zz_val k7), some (.int (Int32.ofInt n17_1)), some (.int (Int32.ofInt n18_1)), some (.int (Int32.ofInt v7)), some (.int (Int32.ofInt v15)), some (.int (Int32.ofInt v23)), some (.int (Int32.ofInt z22)), some (.int (Int32.ofInt b23)), none], [.int (Int32.ofInt v15), .int (Int32.ofInt (s_90 (g0 541) t day 1 n18_1))], h26)) rfl ?_
  refine yy_fin.ic rfl (fun cz => absurd (congrArg Int32.ofInt ev15.symm) (y_cne cz)) (fun _ => ?_)
  refine yy_fin.steps (n := 6) (s' := (714, [some (.ref 1), some (.ref w), some (.ref 0), some (.int (Int32.ofInt fr)), some (.int (Int32.ofInt (t : Int))), some (.int (Int32.ofInt day)), some (zz_val k6), some (zz_val k7), some (.int (Int32.ofInt p8)), some (.ref k9), some (.int (Int32.ofInt s)), some (zz_val q11), some (.int (Int32.ofInt p12)), some (.ref q13), some (.ref q14), some (.int (Int32.ofInt 1)), some (zz_val k7), some (.int (Int32.ofInt n17_1)), some (.int (Int32.ofInt n18_1)), some (.int (Int32.ofInt v7)), some (.int (Int32.ofInt v15)), some (.int (Int32.ofInt v23)), some (.int (Int32.ofInt z22)), some (.int (Int32.ofInt b23)), none], [.int (Int32.ofInt n18_1), .int (Int32.ofInt n17_1), .int (Int32.ofInt 1), .int (Int32.ofInt day), .int (Int32.ofInt (t : Int)), .ref 1], h26)) rfl ?_
  obtain ⟨g27, r27⟩ := qi_97 F C ht hd (f := 1) (Or.inr rfl) (n := n17_1) (m := n18_1) (by omega) (by omega)
  obtain ⟨fs27, oo27⟩ := C.o
  refine yy_fin.cv (as := [.int (Int32.ofInt (t : Int)), .int (Int32.ofInt day), .int (Int32.ofInt 1), .int (Int32.ofInt n17_1), .int (Int32.ofInt n18_1)]) rfl rfl rfl oo27 (Nat.le_of_ble_eq_true rfl) (Nat.le_of_ble_eq_true rfl) r27 ?_
  rintro v h27 ⟨rfl, C, x27⟩
  replace H6 := H6.k x27
  replace H7 := H7.k x27
  replace Y := Y.tr x27 (fun _ _ e => e)
  replace hY := Y.1
  refine yy_fin.steps (n := 2) (s' := (721, [some (.ref 1), some (.ref w), some (.ref 0), some (.int (Int32.ofInt fr)), some (.int (Int32.ofInt (t : Int))), some (.int (Int32.ofInt day)), some (zz_val k6), some (zz_val k7), some (.int (Int32.ofInt p8)), some (.ref k9), some (.int (Int32.ofInt s)), some (zz_val q11), some (.int (Int32.ofInt p12)), some (.ref q13), some (.ref q14), some (.int (Int32.ofInt 1)), some (zz_val k7), some (.int (Int32.ofInt n17_1)), some (.int (Int32.ofInt n18_1)), some (.int (Int32.ofInt v7)), some (.int (Int32.ofInt v15)), some (.int (Int32.ofInt v23)), some (.int (Int32.ofInt z22)), some (.int (Int32.ofInt b23)), none], [.int (Int32.ofInt (-2)), .int (Int32.ofInt v7), .int (Int32.ofInt (s_26 (g0 541) t day 1 n17_1 n18_1))], h27)) rfl ?_
  suffices J9 : ∀ v9 : Int, v9 = s_26 (g0 541) t day 1 n17_1 n18_1 → yy_fin X 279 (741, [some (.ref 1), some (.ref w), some (.ref 0), some (.int (Int32.ofInt fr)), some (.int (Int32.ofInt (t : Int))), some (.int (Int32.ofInt day)), some (zz_val k6), some (zz_val k7), some (.int (Int32.ofInt p8)), some (.ref k9), some (.int (Int32.ofInt s)), some (zz_val q11), some (.int (Int32.ofInt p12)), some (.ref q13), some (.ref q14), some (.int (Int32.ofInt 1)), some (zz_val k7), some (.int (Int32.ofInt n17_1)), some (.int (Int32.ofInt n18_1)), some (.int (Int32.ofInt v7)), some (.int (Int32.ofInt v15)), some (.int (Int32.ofInt v23)), some (.int (Int32.ofInt z22)), some (.int (Int32.ofInt b23)), none], [.int (Int32.ofInt v9), .int (Int32.ofInt (s_26 (g0 541) t day 1 n17_1 n18_1))], h27) φ by
    refine yy_fin.ic rfl (fun c28 => ?_) (fun c28 => ?_)
    · have c28 := (yi_c_eq (a := v7) (b := -2) (by omega) (by omega)).mp c28
      refine yy_fin.steps (n := 2) (s' := (741, [some (.ref 1), some (.ref w), some (.ref 0), some (.int (Int32.ofInt fr)), some (.int (Int32.ofInt (t : Int))), some (.int (Int32.ofInt day)), some (zz_val k6), some (zz_val k7), some (.int (Int32.ofInt p8)), some (.ref k9), some (.int (Int32.ofInt s)), some (zz_val q11), some (.int (Int32.ofInt p12)), some (.ref q13), some (.ref q14), some (.int (Int32.ofInt 1)), some (zz_val k7), some (.int (Int32.ofInt n17_1)), some (.int (Int32.ofInt n18_1)), some (.int (Int32.ofInt v7)), some (.int (Int32.ofInt v15)), some (.int (Int32.ofInt v23)), some (.int (Int32.ofInt z22)), some (.int (Int32.ofInt b23)), none], [.int (Int32.ofInt (-1000000)), .int (Int32.ofInt (s_26 (g0 541) t day 1 n17_1 n18_1))], h27)) rfl ?_
      exact J9 (-1000000) (by unfold s_26; rw [← ev7, ← ev15]; rw [if_pos (by omega)])
    · have c28 := mt (yi_c_eq (a := v7) (b := -2) (by omega) (by omega)).mpr c28
      refine yy_fin.steps (n := 2) (s' := (728, [some (.ref 1), some (.ref w), some (.ref 0), some (.int (Int32.ofInt fr)), some (.int (Int32.ofInt (t : Int))), some (.int (Int32.ofInt day)), some (zz_val k6), some (zz_val k7), some (.int (Int32.ofInt p8)), some (.ref k9), some (.int (Int32.ofInt s)), some (zz_val q11), some (.int (Int32.ofInt p12)), some (.ref q13), some (.ref q14), some (.int (Int32.ofInt 1)), some (zz_val k7), some (.int (Int32.ofInt n17_1)), some (.int (Int32.ofInt n18_1)), some (.int (Int32.ofInt v7)), some (.int (Int32.ofInt v15)), some (.int (Int32.ofInt v23)), some (.int (Int32.ofInt z22)), some (.int (Int32.ofInt b23)), none], [.int (Int32.ofInt (-2)), .int (Int32.ofInt v15), .int (Int32.ofInt (s_26 (g0 541) t day 1 n17_1 n18_1))], h27)) rfl ?_
      refine yy_fin.ic rfl (fun c29 => ?_) (fun c29 => ?_)
      · have c29 := (yi_c_ne (a := v15) (b := -2) (by omega) (by omega)).mp c29
        refine yy_fin.steps (n := 3) (s' := (741, [some (.ref 1), some (.ref w), some (.ref 0), some (.int (Int32.ofInt fr)), some (.int (Int32.ofInt (t : Int))), some (.int (Int32.ofInt day)), some (zz_val k6), some (zz_val k7), some (.int (Int32.ofInt p8)), some (.ref k9), some (.int (Int32.ofInt s)), some (zz_val q11), some (.int (Int32.ofInt p12)), some (.ref q13), some (.ref q14), some (.int (Int32.ofInt 1)), some (zz_val k7), some (.int (Int32.ofInt n17_1)), some (.int (Int32.ofInt n18_1)), some (.int (Int32.ofInt v7)), some (.int (Int32.ofInt v15)), some (.int (Int32.ofInt v23)), some (.int (Int32.ofInt z22)), some (.int (Int32.ofInt b23)), none], [.int ((Int32.ofInt v15) - (Int32.ofInt v7)), .int (Int32.ofInt (s_26 (g0 541) t day 1 n17_1 n18_1))], h27)) rfl ?_
        rw [yi_sub v15 v7]
        exact J9 (v15 - v7) (by unfold s_26; rw [← ev7, ← ev15]; rw [if_neg (by omega), if_pos (by omega)])
      · have c29 := mt (yi_c_ne (a := v15) (b := -2) (by omega) (by omega)).mpr c29
        refine yy_fin.steps (n := 2) (s' := (741, [some (.ref 1), some (.ref w), some (.ref 0), some (.int (Int32.ofInt fr)), some (.int (Int32.ofInt (t : Int))), some (.int (Int32.ofInt day)), some (zz_val k6), some (zz_val k7), some (.int (Int32.ofInt p8)), some (.ref k9), some (.int (Int32.ofInt s)), some (zz_val q11), some (.int (Int32.ofInt p12)), some (.ref q13), some (.ref q14), some (.int (Int32.ofInt 1)), some (zz_val k7), some (.int (Int32.ofInt n17_1)), some (.int (Int32.ofInt n18_1)), some (.int (Int32.ofInt v7)), some (.int (Int32.ofInt v15)), some (.int (Int32.ofInt v23)), some (.int (Int32.ofInt z22)), some (.int (Int32.ofInt b23)), none], [.int (Int32.ofInt (-1000000)), .int (Int32.ofInt (s_26 (g0 541) t day 1 n17_1 n18_1))], h27)) rfl ?_
        exact J9 (-1000000) (by unfold s_26; rw [← ev7, ← ev15]; rw [if_neg (by omega), if_neg (by omega)])
  intro v9 ev9
  refine yy_fin.ic rfl (fun cz => absurd (congrArg Int32.ofInt ev9.symm) (y_cne cz)) (fun _ => ?_)
  refine yy_fin.steps (n := 5) (s' := (752, [some (.ref 1), some (.ref w), some (.ref 0), some (.int (Int32.ofInt fr)), some (.int (Int32.ofInt (t : Int))), some (.int (Int32.ofInt day)), some (zz_val k6), some (zz_val k7), some (.int (Int32.ofInt p8)), some (.ref k9), some (.int (Int32.ofInt s)), some (zz_val q11), some (.int (Int32.ofInt p12)), some (.ref q13), some (.ref q14), some (.int (Int32.ofInt 1)), some (zz_val k7), some (.int (Int32.ofInt n17_1)), some (.int (Int32.ofInt n18_1)), some (.int (Int32.ofInt v7)), some (.int (Int32.ofInt v15)), some (.int (Int32.ofInt v23)), some (.int (Int32.ofInt z22)), some (.int (Int32.ofInt b23)), none], [.int (Int32.ofInt 0), .int (Int32.ofInt 1), .int (Int32.ofInt day), .int (Int32.ofInt (t : Int)), .ref 1], h27)) rfl ?_
  obtain ⟨g30, r30⟩ := qi_96 F C ht hd (f := 1) (Or.inr rfl) (k := 0) (Or.inl rfl)
  obtain ⟨fs30, oo30⟩ := C.o
  refine yy_fin.cv (as := [.int (Int32.ofInt (t : Int)), .int (Int32.ofInt day), .int (Int32.ofInt 1), .int (Int32.ofInt 0)]) rfl rfl rfl oo30 (Nat.le_of_ble_eq_true rfl) (Nat.le_of_ble_eq_true rfl) r30 ?_
  rintro v h30 ⟨rfl, C, x30⟩
  replace H6 := H6.k x30
  replace H7 := H7.k x30
  replace Y := Y.tr x30 (fun _ _ e => e)
  replace hY := Y.1
  refine yy_fin.steps (n := 1) (s' := (757, [some (.ref 1), some (.ref w), some (.ref 0), some (.int (Int32.ofInt fr)), some (.int (Int32.ofInt (t : Int))), some (.int (Int32.ofInt day)), some (zz_val k6), some (zz_val k7), some (.int (Int32.ofInt p8)), some (.ref k9), some (.int (Int32.ofInt s)), some (zz_val q11), some (.int (Int32.ofInt p12)), some (.ref q13), some (.ref q14), some (.int (Int32.ofInt 1)), some (zz_val k7), some (.int (Int32.ofInt n17_1)), some (.int (Int32.ofInt n18_1)), some (.int (Int32.ofInt v7)), some (.int (Int32.ofInt v15)), some (.int (Int32.ofInt v23)), some (.int (Int32.ofInt z22)), some (.int (Int32.ofInt b23)), none], [.int (Int32.ofInt v23), .int (Int32.ofInt (s_25 (g0 541) t day 1 0))], h30)) rfl ?_
  refine yy_fin.ic rfl (fun cz => absurd (congrArg Int32.ofInt (s_25_e.trans ev23.symm)) (y_cne cz)) (fun _ => ?_)
  refine yy_fin.steps (n := 5) (s' := (768, [some (.ref 1), some (.ref w), some (.ref 0), some (.int (Int32.ofInt fr)), some (.int (Int32.ofInt (t : Int))), some (.int (Int32.ofInt day)), some (zz_val k6), some (zz_val k7), some (.int (Int32.ofInt p8)), some (.ref k9), some (.int (Int32.ofInt s)), some (zz_val q11), some (.int (Int32.ofInt p12)), some (.ref q13), some (.ref q14), some (.int (Int32.ofInt 1)), some (zz_val k7), some (.int (Int32.ofInt n17_1)), some (.int (Int32.ofInt n18_1)), some (.int (Int32.ofInt v7)), some (.int (Int32.ofInt v15)), some (.int (Int32.ofInt v23)), some (.int (Int32.ofInt z22)), some (.int (Int32.ofInt b23)), none], [.int (Int32.ofInt 1), .int (Int32.ofInt 1), .int (Int32.ofInt day), .int (Int32.ofInt (t : Int)), .ref 1], h30)) rfl ?_
  obtain ⟨g31, r31⟩ := qi_96 F C ht hd (f := 1) (Or.inr rfl) (k := 1) (Or.inr rfl)
  obtain ⟨fs31, oo31⟩ := C.o
  refine yy_fin.cv (as := [.int (Int32.ofInt (t : Int)), .int (Int32.ofInt day), .int (Int32.ofInt 1), .int (Int32.ofInt 1)]) rfl rfl rfl oo31 (Nat.le_of_ble_eq_true rfl) (Nat.le_of_ble_eq_true rfl) r31 ?_
  rintro v h31 ⟨rfl, C, x31⟩
  replace H6 := H6.k x31
  replace H7 := H7.k x31
  replace Y := Y.tr x31 (fun _ _ e => e)
  replace hY := Y.1
  suffices K32 : yy_fin X 279 (773, [some (.ref 1), some (.ref w), some (.ref 0), some (.int (Int32.ofInt fr)), some (.int (Int32.ofInt (t : Int))), some (.int (Int32.ofInt day)), some (zz_val k6), some (zz_val k7), some (.int (Int32.ofInt p8)), some (.ref k9), some (.int (Int32.ofInt s)), some (zz_val q11), some (.int (Int32.ofInt p12)), some (.ref q13), some (.ref q14), some (.int (Int32.ofInt 1)), some (zz_val k7), some (.int (Int32.ofInt n17_1)), some (.int (Int32.ofInt n18_1)), some (.int (Int32.ofInt v7)), some (.int (Int32.ofInt v15)), some (.int (Int32.ofInt v23)), some (.int (Int32.ofInt z22)), some (.int (Int32.ofInt b23)), none], [zz_val k7, .int (Int32.ofInt (s_25 (g0 541) t day 1 1))], h31) φ by cases k7 <;> exact yy_fin.steps (n := 1) rfl K32
  suffices J33 : ∀ v33 : Int, v33 = s_25 (g0 541) t day 1 1 → yy_fin X 279 (796, [some (.ref 1), some (.ref w), some (.ref 0), some (.int (Int32.ofInt fr)), some (.int (Int32.ofInt (t : Int))), some (.int (Int32.ofInt day)), some (zz_val k6), some (zz_val k7), some (.int (Int32.ofInt p8)), some (.ref k9), some (.int (Int32.ofInt s)), some (zz_val q11), some (.int (Int32.ofInt p12)), some (.ref q13), some (.ref q14), some (.int (Int32.ofInt 1)), some (zz_val k7), some (.int (Int32.ofInt n17_1)), some (.int (Int32.ofInt n18_1)), some (.int (Int32.ofInt v7)), some (.int (Int32.ofInt v15)), some (.int (Int32.ofInt v23)), some (.int (Int32.ofInt z22)), some (.int (Int32.ofInt b23)), none], [.int (Int32.ofInt v33), .int (Int32.ofInt (s_25 (g0 541) t day 1 1))], h31) φ by
    rcases H7 with ⟨rfl, eo34⟩ | ⟨q34, u34, l34, rfl, eo34, R34⟩
    · refine yy_fin.steps (n := 3) (s' := (796, [some (.ref 1), some (.ref w), some (.ref 0), some (.int (Int32.ofInt fr)), some (.int (Int32.ofInt (t : Int))), some (.int (Int32.ofInt day)), some (zz_val k6), some (.null), some (.int (Int32.ofInt p8)), some (.ref k9), some (.int (Int32.ofInt s)), some (zz_val q11), some (.int (Int32.ofInt p12)), some (.ref q13), some (.ref q14), some (.int (Int32.ofInt 1)), some (.null), some (.int (Int32.ofInt n17_1)), some (.int (Int32.ofInt n18_1)), some (.int (Int32.ofInt v7)), some (.int (Int32.ofInt v15)), some (.int (Int32.ofInt v23)), some (.int (Int32.ofInt z22)), some (.int (Int32.ofInt b23)), none], [.int (Int32.ofInt v23), .int (Int32.ofInt (s_25 (g0 541) t day 1 1))], h31)) rfl ?_
      exact J33 (v23) (by unfold s_25; rw [ev23, eo34]; rfl)
    · have hb34 := hv_bnd2 F.2.2.2 ht eo34
      refine yy_fin.steps (n := 3) (s' := (785, [some (.ref 1), some (.ref w), some (.ref 0), some (.int (Int32.ofInt fr)), some (.int (Int32.ofInt (t : Int))), some (.int (Int32.ofInt day)), some (zz_val k6), some (.ref q34), some (.int (Int32.ofInt p8)), some (.ref k9), some (.int (Int32.ofInt s)), some (zz_val q11), some (.int (Int32.ofInt p12)), some (.ref q13), some (.ref q14), some (.int (Int32.ofInt 1)), some (.ref q34), some (.int (Int32.ofInt n17_1)), some (.int (Int32.ofInt n18_1)), some (.int (Int32.ofInt v7)), some (.int (Int32.ofInt v15)), some (.int (Int32.ofInt v23)), some (.int (Int32.ofInt z22)), some (.int (Int32.ofInt b23)), none], [.int (Int32.ofInt 1), .int (Int32.ofInt v23), .int (Int32.ofInt (s_25 (g0 541) t day 1 1))], h31)) rfl ?_
      refine yy_fin.if rfl (fun cK => ?_) (fun cK => absurd (by decide) cK)
      refine yy_fin.steps (n := 2) (s' := (796, [some (.ref 1), some (.ref w), some (.ref 0), some (.int (Int32.ofInt fr)), some (.int (Int32.ofInt (t : Int))), some (.int (Int32.ofInt day)), some (zz_val k6), some (.ref q34), some (.int (Int32.ofInt p8)), some (.ref k9), some (.int (Int32.ofInt s)), some (zz_val q11), some (.int (Int32.ofInt p12)), some (.ref q13), some (.ref q14), some (.int (Int32.ofInt 1)), some (.ref q34), some (.int (Int32.ofInt n17_1)), some (.int (Int32.ofInt n18_1)), some (.int (Int32.ofInt v7)), some (.int (Int32.ofInt v15)), some (.int (Int32.ofInt v23)), some (.int (Int32.ofInt z22)), some (.int (Int32.ofInt b23)), none], [.int ((Int32.ofInt v23) - (Int32.ofInt 86400)), .int (Int32.ofInt (s_25 (g0 541) t day 1 1))], h31)) rfl ?_
      rw [yi_sub v23 86400]
      exact J33 (v23 - 86400) (by unfold s_25; rw [ev23, eo34]; show u34 + (u34 + l34 - u34) / 2 - 86400 = u34 + l34 / 2 - 86400; rw [show u34 + l34 - u34 = l34 by omega])
  intro v33 ev33
  refine yy_fin.ic rfl (fun _ => ?_) (fun cz => absurd (y_ceq (congrArg Int32.ofInt ev33.symm)) cz)
  suffices K35 : yy_fin X 279 (803, [some (.ref 1), some (.ref w), some (.ref 0), some (.int (Int32.ofInt fr)), some (.int (Int32.ofInt (t : Int))), some (.int (Int32.ofInt day)), some (zz_val k6), some (zz_val k7), some (.int (Int32.ofInt p8)), some (.ref k9), some (.int (Int32.ofInt s)), some (zz_val q11), some (.int (Int32.ofInt p12)), some (.ref q13), some (.ref q14), some (.int (Int32.ofInt 1)), some (zz_val k7), some (.int (Int32.ofInt n17_1)), some (.int (Int32.ofInt n18_1)), some (.int (Int32.ofInt v7)), some (.int (Int32.ofInt v15)), some (.int (Int32.ofInt v23)), some (.int (Int32.ofInt z22)), some (.int (Int32.ofInt b23)), none], [zz_val k7], h31) φ by cases k7 <;> exact yy_fin.steps (n := 1) rfl K35
  suffices J36 : ∀ v36 : Int, v36 = y_el (hv_t (g0 541) t day 1) 0 (fun u l => u + l - u) → yy_fin X 279 (819, [some (.ref 1), some (.ref w), some (.ref 0), some (.int (Int32.ofInt fr)), some (.int (Int32.ofInt (t : Int))), some (.int (Int32.ofInt day)), some (zz_val k6), some (zz_val k7), some (.int (Int32.ofInt p8)), some (.ref k9), some (.int (Int32.ofInt s)), some (zz_val q11), some (.int (Int32.ofInt p12)), some (.ref q13), some (.ref q14), some (.int (Int32.ofInt 1)), some (zz_val k7), some (.int (Int32.ofInt n17_1)), some (.int (Int32.ofInt n18_1)), some (.int (Int32.ofInt v7)), some (.int (Int32.ofInt v15)), some (.int (Int32.ofInt v23)), some (.int (Int32.ofInt z22)), some (.int (Int32.ofInt b23)), none], [.int (Int32.ofInt v36)], h31) φ by
    rcases H7 with ⟨rfl, eo37⟩ | ⟨q37, u37, l37, rfl, eo37, R37⟩
    · refine yy_fin.steps (n := 3) (s' := (819, [some (.ref 1), some (.ref w), some (.ref 0), some (.int (Int32.ofInt fr)), some (.int (Int32.ofInt (t : Int))), some (.int (Int32.ofInt day)), some (zz_val k6), some (.null), some (.int (Int32.ofInt p8)), some (.ref k9), some (.int (Int32.ofInt s)), some (zz_val q11), some (.int (Int32.ofInt p12)), some (.ref q13), some (.ref q14), some (.int (Int32.ofInt 1)), some (.null), some (.int (Int32.ofInt n17_1)), some (.int (Int32.ofInt n18_1)), some (.int (Int32.ofInt v7)), some (.int (Int32.ofInt v15)), some (.int (Int32.ofInt v23)), some (.int (Int32.ofInt z22)), some (.int (Int32.ofInt b23)), none], [.int (Int32.ofInt 0)], h31)) rfl ?_
      exact J36 (0) (by rw [eo37]; rfl)
    · have hb37 := hv_bnd2 F.2.2.2 ht eo37
      refine yy_fin.steps (n := 3) (s' := (813, [some (.ref 1), some (.ref w), some (.ref 0), some (.int (Int32.ofInt fr)), some (.int (Int32.ofInt (t : Int))), some (.int (Int32.ofInt day)), some (zz_val k6), some (.ref q37), some (.int (Int32.ofInt p8)), some (.ref k9), some (.int (Int32.ofInt s)), some (zz_val q11), some (.int (Int32.ofInt p12)), some (.ref q13), some (.ref q14), some (.int (Int32.ofInt 1)), some (.ref q37), some (.int (Int32.ofInt n17_1)), some (.int (Int32.ofInt n18_1)), some (.int (Int32.ofInt v7)), some (.int (Int32.ofInt v15)), some (.int (Int32.ofInt v23)), some (.int (Int32.ofInt z22)), some (.int (Int32.ofInt b23)), none], [.int (Int32.ofInt 1), .ref q37], h31)) rfl ?_
      refine yy_fin.lp (j := 1) rfl R37.2 rfl (by decide) rfl ?_
      refine yy_fin.steps (n := 2) (s' := (817, [some (.ref 1), some (.ref w), some (.ref 0), some (.int (Int32.ofInt fr)), some (.int (Int32.ofInt (t : Int))), some (.int (Int32.ofInt day)), some (zz_val k6), some (.ref q37), some (.int (Int32.ofInt p8)), some (.ref k9), some (.int (Int32.ofInt s)), some (zz_val q11), some (.int (Int32.ofInt p12)), some (.ref q13), some (.ref q14), some (.int (Int32.ofInt 1)), some (.ref q37), some (.int (Int32.ofInt n17_1)), some (.int (Int32.ofInt n18_1)), some (.int (Int32.ofInt v7)), some (.int (Int32.ofInt v15)), some (.int (Int32.ofInt v23)), some (.int (Int32.ofInt z22)), some (.int (Int32.ofInt b23)), none], [.int (Int32.ofInt 0), .ref q37, .int (Int32.ofInt (u37 + l37))], h31)) rfl ?_
      refine yy_fin.lp (j := 0) rfl R37.2 rfl (by decide) rfl ?_
      refine yy_fin.steps (n := 1) (s' := (819, [some (.ref 1), some (.ref w), some (.ref 0), some (.int (Int32.ofInt fr)), some (.int (Int32.ofInt (t : Int))), some (.int (Int32.ofInt day)), some (zz_val k6), some (.ref q37), some (.int (Int32.ofInt p8)), some (.ref k9), some (.int (Int32.ofInt s)), some (zz_val q11), some (.int (Int32.ofInt p12)), some (.ref q13), some (.ref q14), some (.int (Int32.ofInt 1)), some (.ref q37), some (.int (Int32.ofInt n17_1)), some (.int (Int32.ofInt n18_1)), some (.int (Int32.ofInt v7)), some (.int (Int32.ofInt v15)), some (.int (Int32.ofInt v23)), some (.int (Int32.ofInt z22)), some (.int (Int32.ofInt b23)), none], [.int ((Int32.ofInt (u37 + l37)) - (Int32.ofInt u37))], h31)) rfl ?_
      rw [yi_sub (u37 + l37) u37]
      exact J36 ((u37 + l37) - u37) (by rw [eo37]; rfl)
  intro v36 ev36
  have hz36 : 0 ≤ v36 ∧ v36 ≤ 200000 := by
    rw [ev36]
    cases eo : hv_t (g0 541) t day 1 with
    | none => exact ⟨Int.le_refl _, by decide⟩
    | some p => obtain ⟨u, l⟩ := p; have := hv_bnd2 F.2.2.2 ht eo; show 0 ≤ u + l - u ∧ u + l - u ≤ 200000; omega
  have hG := (y_Gb v36).1
  refine yy_fin.steps (n := 3) (s' := (825, [some (.ref 1), some (.ref w), some (.ref 0), some (.int (Int32.ofInt fr)), some (.int (Int32.ofInt (t : Int))), some (.int (Int32.ofInt day)), some (zz_val k6), some (zz_val k7), some (.int (Int32.ofInt p8)), some (.ref k9), some (.int (Int32.ofInt s)), some (zz_val q11), some (.int (Int32.ofInt p12)), some (.ref q13), some (.ref q14), some (.int (Int32.ofInt 1)), some (zz_val k7), some (.int (Int32.ofInt n17_1)), some (.int (Int32.ofInt n18_1)), some (.int (Int32.ofInt v7)), some (.int (Int32.ofInt v15)), some (.int (Int32.ofInt v23)), some (.int (Int32.ofInt v36)), some (.int (Int32.ofInt 12)), none], [], h31)) rfl ?_
  refine yl_ex hz36 ?_ (12 - y_G v36).toNat 12 (by omega) (by omega)
  refine yy_fin.steps (n := 5) (s' := (855, [some (.ref 1), some (.ref w), some (.ref 0), some (.int (Int32.ofInt fr)), some (.int (Int32.ofInt (t : Int))), some (.int (Int32.ofInt day)), some (zz_val k6), some (zz_val k7), some (.int (Int32.ofInt p8)), some (.ref k9), some (.int (Int32.ofInt s)), some (zz_val q11), some (.int (Int32.ofInt p12)), some (.ref q13), some (.ref q14), some (.int (Int32.ofInt 1)), some (zz_val k7), some (.int (Int32.ofInt n17_1)), some (.int (Int32.ofInt n18_1)), some (.int (Int32.ofInt v7)), some (.int (Int32.ofInt v15)), some (.int (Int32.ofInt v23)), some (.int (Int32.ofInt v36)), some (.int (Int32.ofInt (y_G v36))), none], [.int (Int32.ofInt 0), .int (Int32.ofInt 1), .int (Int32.ofInt day), .int (Int32.ofInt (t : Int)), .ref 1], h31)) rfl ?_
  obtain ⟨g38, r38⟩ := qi_98 F C ht hd (f := 1) (Or.inr rfl) (i := 0) (Or.inl rfl)
  obtain ⟨fs38, oo38⟩ := C.o
  refine yy_fin.cv (as := [.int (Int32.ofInt (t : Int)), .int (Int32.ofInt day), .int (Int32.ofInt 1), .int (Int32.ofInt 0)]) rfl rfl rfl oo38 (Nat.le_of_ble_eq_true rfl) (Nat.le_of_ble_eq_true rfl) r38 ?_
  rintro v h38 ⟨rfl, C, x38⟩
  replace H6 := H6.k x38
  replace H7 := H7.k x38
  replace Y := Y.tr x38 (fun _ _ e => e)
  replace hY := Y.1
  suffices K39 : yy_fin X 279 (860, [some (.ref 1), some (.ref w), some (.ref 0), some (.int (Int32.ofInt fr)), some (.int (Int32.ofInt (t : Int))), some (.int (Int32.ofInt day)), some (zz_val k6), some (zz_val k7), some (.int (Int32.ofInt p8)), some (.ref k9), some (.int (Int32.ofInt s)), some (zz_val q11), some (.int (Int32.ofInt p12)), some (.ref q13), some (.ref q14), some (.int (Int32.ofInt 1)), some (zz_val k7), some (.int (Int32.ofInt n17_1)), some (.int (Int32.ofInt n18_1)), some (.int (Int32.ofInt v7)), some (.int (Int32.ofInt v15)), some (.int (Int32.ofInt v23)), some (.int (Int32.ofInt v36)), some (.int (Int32.ofInt (y_G v36))), none], [zz_val k7, .int (Int32.ofInt (s_98 (g0 541) t day 1 0))], h38) φ by cases k7 <;> exact yy_fin.steps (n := 1) rfl K39
  suffices J40 : ∀ v40 : Int, v40 = s_98 (g0 541) t day 1 0 → yy_fin X 279 (873, [some (.ref 1), some (.ref w), some (.ref 0), some (.int (Int32.ofInt fr)), some (.int (Int32.ofInt (t : Int))), some (.int (Int32.ofInt day)), some (zz_val k6), some (zz_val k7), some (.int (Int32.ofInt p8)), some (.ref k9), some (.int (Int32.ofInt s)), some (zz_val q11), some (.int (Int32.ofInt p12)), some (.ref q13), some (.ref q14), some (.int (Int32.ofInt 1)), some (zz_val k7), some (.int (Int32.ofInt n17_1)), some (.int (Int32.ofInt n18_1)), some (.int (Int32.ofInt v7)), some (.int (Int32.ofInt v15)), some (.int (Int32.ofInt v23)), some (.int (Int32.ofInt v36)), some (.int (Int32.ofInt (y_G v36))), none], [.int (Int32.ofInt v40), .int (Int32.ofInt (s_98 (g0 541) t day 1 0))], h38) φ by
    rcases H7 with ⟨rfl, eo41⟩ | ⟨q41, u41, l41, rfl, eo41, R41⟩
    · refine yy_fin.steps (n := 3) (s' := (873, [some (.ref 1), some (.ref w), some (.ref 0), some (.int (Int32.ofInt fr)), some (.int (Int32.ofInt (t : Int))), some (.int (Int32.ofInt day)), some (zz_val k6), some (.null), some (.int (Int32.ofInt p8)), some (.ref k9), some (.int (Int32.ofInt s)), some (zz_val q11), some (.int (Int32.ofInt p12)), some (.ref q13), some (.ref q14), some (.int (Int32.ofInt 1)), some (.null), some (.int (Int32.ofInt n17_1)), some (.int (Int32.ofInt n18_1)), some (.int (Int32.ofInt v7)), some (.int (Int32.ofInt v15)), some (.int (Int32.ofInt v23)), some (.int (Int32.ofInt v36)), some (.int (Int32.ofInt (y_G v36))), none], [.int (Int32.ofInt (-2)), .int (Int32.ofInt (s_98 (g0 541) t day 1 0))], h38)) rfl ?_
      exact J40 (-2) (by unfold s_98; rw [eo41])
    · have hb41 := hv_bnd2 F.2.2.2 ht eo41
      refine yy_fin.steps (n := 3) (s' := (872, [some (.ref 1), some (.ref w), some (.ref 0), some (.int (Int32.ofInt fr)), some (.int (Int32.ofInt (t : Int))), some (.int (Int32.ofInt day)), some (zz_val k6), some (.ref q41), some (.int (Int32.ofInt p8)), some (.ref k9), some (.int (Int32.ofInt s)), some (zz_val q11), some (.int (Int32.ofInt p12)), some (.ref q13), some (.ref q14), some (.int (Int32.ofInt 1)), some (.ref q41), some (.int (Int32.ofInt n17_1)), some (.int (Int32.ofInt n18_1)), some (.int (Int32.ofInt v7)), some (.int (Int32.ofInt v15)), some (.int (Int32.ofInt v23)), some (.int (Int32.ofInt v36)), some (.int (Int32.ofInt (y_G v36))), none], [.int (Int32.ofInt (y_G v36)), .int (Int32.ofInt v36), .int (Int32.ofInt (s_98 (g0 541) t day 1 0))], h38)) rfl ?_
      refine yy_fin.dv rfl (fun z => by have z := (yi_eq (a := y_G v36) (b := 0) (by omega) (by omega)).mp z; omega) ?_
      rw [yi_div (a := v36) (b := y_G v36) (by omega) (by omega)]
      exact J40 (v36 / (y_G v36)) (by unfold s_98; rw [eo41]; show v36 / y_G v36 = _; rw [ev36, eo41]; show (u41 + l41 - u41) / y_G (u41 + l41 - u41) = l41 / y_G l41; rw [show u41 + l41 - u41 = l41 by omega])
  intro v40 ev40
  refine yy_fin.ic rfl (fun cz => absurd (congrArg Int32.ofInt ev40.symm) (y_cne cz)) (fun _ => ?_)
  refine yy_fin.steps (n := 5) (s' := (884, [some (.ref 1), some (.ref w), some (.ref 0), some (.int (Int32.ofInt fr)), some (.int (Int32.ofInt (t : Int))), some (.int (Int32.ofInt day)), some (zz_val k6), some (zz_val k7), some (.int (Int32.ofInt p8)), some (.ref k9), some (.int (Int32.ofInt s)), some (zz_val q11), some (.int (Int32.ofInt p12)), some (.ref q13), some (.ref q14), some (.int (Int32.ofInt 1)), some (zz_val k7), some (.int (Int32.ofInt n17_1)), some (.int (Int32.ofInt n18_1)), some (.int (Int32.ofInt v7)), some (.int (Int32.ofInt v15)), some (.int (Int32.ofInt v23)), some (.int (Int32.ofInt v36)), some (.int (Int32.ofInt (y_G v36))), none], [.int (Int32.ofInt 1), .int (Int32.ofInt 1), .int (Int32.ofInt day), .int (Int32.ofInt (t : Int)), .ref 1], h38)) rfl ?_
  obtain ⟨g42, r42⟩ := qi_98 F C ht hd (f := 1) (Or.inr rfl) (i := 1) (Or.inr rfl)
  obtain ⟨fs42, oo42⟩ := C.o
  refine yy_fin.cv (as := [.int (Int32.ofInt (t : Int)), .int (Int32.ofInt day), .int (Int32.ofInt 1), .int (Int32.ofInt 1)]) rfl rfl rfl oo42 (Nat.le_of_ble_eq_true rfl) (Nat.le_of_ble_eq_true rfl) r42 ?_
  rintro v h42 ⟨rfl, C, x42⟩
  replace H6 := H6.k x42
  replace H7 := H7.k x42
  replace Y := Y.tr x42 (fun _ _ e => e)
  replace hY := Y.1
  suffices K43 : yy_fin X 279 (889, [some (.ref 1), some (.ref w), some (.ref 0), some (.int (Int32.ofInt fr)), some (.int (Int32.ofInt (t : Int))), some (.int (Int32.ofInt day)), some (zz_val k6), some (zz_val k7), some (.int (Int32.ofInt p8)), some (.ref k9), some (.int (Int32.ofInt s)), some (zz_val q11), some (.int (Int32.ofInt p12)), some (.ref q13), some (.ref q14), some (.int (Int32.ofInt 1)), some (zz_val k7), some (.int (Int32.ofInt n17_1)), some (.int (Int32.ofInt n18_1)), some (.int (Int32.ofInt v7)), some (.int (Int32.ofInt v15)), some (.int (Int32.ofInt v23)), some (.int (Int32.ofInt v36)), some (.int (Int32.ofInt (y_G v36))), none], [zz_val k7, .int (Int32.ofInt (s_98 (g0 541) t day 1 1))], h42) φ by cases k7 <;> exact yy_fin.steps (n := 1) rfl K43
  suffices J44 : ∀ v44 : Int, v44 = s_98 (g0 541) t day 1 1 → yy_fin X 279 (902, [some (.ref 1), some (.ref w), some (.ref 0), some (.int (Int32.ofInt fr)), some (.int (Int32.ofInt (t : Int))), some (.int (Int32.ofInt day)), some (zz_val k6), some (zz_val k7), some (.int (Int32.ofInt p8)), some (.ref k9), some (.int (Int32.ofInt s)), some (zz_val q11), some (.int (Int32.ofInt p12)), some (.ref q13), some (.ref q14), some (.int (Int32.ofInt 1)), some (zz_val k7), some (.int (Int32.ofInt n17_1)), some (.int (Int32.ofInt n18_1)), some (.int (Int32.ofInt v7)), some (.int (Int32.ofInt v15)), some (.int (Int32.ofInt v23)), some (.int (Int32.ofInt v36)), some (.int (Int32.ofInt (y_G v36))), none], [.int (Int32.ofInt v44), .int (Int32.ofInt (s_98 (g0 541) t day 1 1))], h42) φ by
    rcases H7 with ⟨rfl, eo45⟩ | ⟨q45, u45, l45, rfl, eo45, R45⟩
    · refine yy_fin.steps (n := 3) (s' := (902, [some (.ref 1), some (.ref w), some (.ref 0), some (.int (Int32.ofInt fr)), some (.int (Int32.ofInt (t : Int))), some (.int (Int32.ofInt day)), some (zz_val k6), some (.null), some (.int (Int32.ofInt p8)), some (.ref k9), some (.int (Int32.ofInt s)), some (zz_val q11), some (.int (Int32.ofInt p12)), some (.ref q13), some (.ref q14), some (.int (Int32.ofInt 1)), some (.null), some (.int (Int32.ofInt n17_1)), some (.int (Int32.ofInt n18_1)), some (.int (Int32.ofInt v7)), some (.int (Int32.ofInt v15)), some (.int (Int32.ofInt v23)), some (.int (Int32.ofInt v36)), some (.int (Int32.ofInt (y_G v36))), none], [.int (Int32.ofInt (-2)), .int (Int32.ofInt (s_98 (g0 541) t day 1 1))], h42)) rfl ?_
      exact J44 (-2) (by unfold s_98; rw [eo45])
    · have hb45 := hv_bnd2 F.2.2.2 ht eo45
      refine yy_fin.steps (n := 3) (s' := (901, [some (.ref 1), some (.ref w), some (.ref 0), some (.int (Int32.ofInt fr)), some (.int (Int32.ofInt (t : Int))), some (.int (Int32.ofInt day)), some (zz_val k6), some (.ref q45), some (.int (Int32.ofInt p8)), some (.ref k9), some (.int (Int32.ofInt s)), some (zz_val q11), some (.int (Int32.ofInt p12)), some (.ref q13), some (.ref q14), some (.int (Int32.ofInt 1)), some (.ref q45), some (.int (Int32.ofInt n17_1)), some (.int (Int32.ofInt n18_1)), some (.int (Int32.ofInt v7)), some (.int (Int32.ofInt v15)), some (.int (Int32.ofInt v23)), some (.int (Int32.ofInt v36)), some (.int (Int32.ofInt (y_G v36))), none], [.int (Int32.ofInt (y_G v36)), .int (Int32.ofInt 12), .int (Int32.ofInt (s_98 (g0 541) t day 1 1))], h42)) rfl ?_
      refine yy_fin.dv rfl (fun z => by have z := (yi_eq (a := y_G v36) (b := 0) (by omega) (by omega)).mp z; omega) ?_
      rw [yi_div (a := 12) (b := y_G v36) (by omega) (by omega)]
      exact J44 (12 / (y_G v36)) (by unfold s_98; rw [eo45]; show 12 / y_G v36 = _; rw [ev36, eo45]; show 12 / y_G (u45 + l45 - u45) = 12 / y_G l45; rw [show u45 + l45 - u45 = l45 by omega])
  intro v44 ev44
  refine yy_fin.ic rfl (fun _ => ?_) (fun cz => absurd (y_ceq (congrArg Int32.ofInt ev44.symm)) cz)
  refine yy_fin.steps (n := 2) (s' := (511, [some (.ref 1), some (.ref w), some (.ref 0), some (.int (Int32.ofInt fr)), some (.int (Int32.ofInt (t : Int))), some (.int (Int32.ofInt day)), some (zz_val k6), some (zz_val k7), some (.int (Int32.ofInt p8)), some (.ref k9), some (.int (Int32.ofInt s)), some (zz_val q11), some (.int (Int32.ofInt p12)), some (.ref q13), some (.ref q14), some (.int ((Int32.ofInt 1) + (Int32.ofInt 1))), some (zz_val k7), some (.int (Int32.ofInt n17_1)), some (.int (Int32.ofInt n18_1)), some (.int (Int32.ofInt v7)), some (.int (Int32.ofInt v15)), some (.int (Int32.ofInt v23)), some (.int (Int32.ofInt v36)), some (.int (Int32.ofInt (y_G v36))), none], [], h42)) rfl ?_
  rw [show (Int32.ofInt 1) + (Int32.ofInt 1) = Int32.ofInt 2 from by decide]
  exact kk _ _ k7 _ _ _ _ _ _ _ C (Y.le (by omega) (by omega)) H6 H7
theorem yl_d5 (F : yCf own w lst g0) (ht : (t : Int) < (g0 541 0).toInt) (hd : 0 ≤ day ∧ day ≤ 35999) (C : yCx own w lst g0 h g) (hB : h.1.1 + 200 < yy_B) {k6 k7 : Option Nat} (H6 : yHr h w k6 (hv_t (g0 541) t day 0)) (H7 : yHr h w k7 (hv_t (g0 541) t day 1)) {p8 p12 i15 : Int} {k9 q13 q14 : Nat} {q11 q16 : Option Nat} {n17 n18 v19 v20 m21 z22 b23 : Int} (kk : ∀ h' g' i15, yCx own w lst g0 h' g' → yx (yAk w) 20 60 h h' → yHr h' w k6 (hv_t (g0 541) t day 0) → yy_fin X 279 (1011, [some (.ref 1), some (.ref w), some (.ref 0), some (.int (Int32.ofInt fr)), some (.int (Int32.ofInt (t : Int))), some (.int (Int32.ofInt day)), some (zz_val k6), some (zz_val k7), some (.int (Int32.ofInt p8)), some (.ref k9), some (.int (Int32.ofInt s)), some (zz_val q11), some (.int (Int32.ofInt p12)), some (.ref q13), some (.ref q14), some (.int (Int32.ofInt i15)), some (zz_val q16), some (.int (Int32.ofInt n17)), some (.int (Int32.ofInt n18)), some (.int (Int32.ofInt v19)), some (.int (Int32.ofInt v20)), some (.int (Int32.ofInt m21)), some (.int (Int32.ofInt z22)), some (.int (Int32.ofInt b23)), none], [], h') φ) : yy_fin X 279 (913, [some (.ref 1), some (.ref w), some (.ref 0), some (.int (Int32.ofInt fr)), some (.int (Int32.ofInt (t : Int))), some (.int (Int32.ofInt day)), some (zz_val k6), some (zz_val k7), some (.int (Int32.ofInt p8)), some (.ref k9), some (.int (Int32.ofInt s)), some (zz_val q11), some (.int (Int32.ofInt p12)), some (.ref q13), some (.ref q14), some (.int (Int32.ofInt i15)), some (zz_val q16), some (.int (Int32.ofInt n17)), some (.int (Int32.ofInt n18)), some (.int (Int32.ofInt v19)), some (.int (Int32.ofInt v20)), some (.int (Int32.ofInt m21)), some (.int (Int32.ofInt z22)), some (.int (Int32.ofInt b23)), none], [], h) φ := by
  have n4 := F.2.2.2.1
  have hq := F.2.2.2.2.1
  have Y : yx (yAk w) 0 0 h h := yx.rf
  have hY := Y.1
  have hg := C.2.1.2
  refine yy_fin.steps (n := 4) (s' := (919, [some (.ref 1), some (.ref w), some (.ref 0), some (.int (Int32.ofInt fr)), some (.int (Int32.ofInt (t : Int))), some (.int (Int32.ofInt day)), some (zz_val k6), some (zz_val k7), some (.int (Int32.ofInt p8)), some (.ref k9), some (.int (Int32.ofInt s)), some (zz_val q11), some (.int (Int32.ofInt p12)), some (.ref q13), some (.ref q14), some (.int (Int32.ofInt 0)), some (zz_val q16), some (.int (Int32.ofInt n17)), some (.int (Int32.ofInt n18)), some (.int (Int32.ofInt v19)), some (.int (Int32.ofInt v20)), some (.int (Int32.ofInt m21)), some (.int (Int32.ofInt z22)), some (.int (Int32.ofInt b23)), none], [.int (Int32.ofInt 4), .int (Int32.ofInt 0)], h)) rfl ?_
  refine yy_fin.ic rfl (fun cK => absurd cK (by decide)) (fun cK => ?_)
  refine yy_fin.steps (n := 5) (s' := (930, [some (.ref 1), some (.ref w), some (.ref 0), some (.int (Int32.ofInt fr)), some (.int (Int32.ofInt (t : Int))), some (.int (Int32.ofInt day)), some (zz_val k6), some (zz_val k7), some (.int (Int32.ofInt p8)), some (.ref k9), some (.int (Int32.ofInt s)), some (zz_val q11), some (.int (Int32.ofInt p12)), some (.ref q13), some (.ref q14), some (.int (Int32.ofInt 0)), some (zz_val q16), some (.int (Int32.ofInt n17)), some (.int (Int32.ofInt n18)), some (.int (Int32.ofInt v19)), some (.int (Int32.ofInt v20)), some (.int (Int32.ofInt m21)), some (.int (Int32.ofInt z22)), some (.int (Int32.ofInt b23)), none], [.int (Int32.ofInt 0), .int (Int32.ofInt 0), .int (Int32.ofInt day), .int (Int32.ofInt (t : Int)), .ref 1], h)) rfl ?_
  obtain ⟨g1, r1⟩ := qi_99 F C ht hd (k := 0) (i := 0) (by omega) (Or.inl rfl)
  obtain ⟨fs1, oo1⟩ := C.o
  refine yy_fin.cv (as := [.int (Int32.ofInt (t : Int)), .int (Int32.ofInt day), .int (Int32.ofInt 0), .int (Int32.ofInt 0)]) rfl rfl rfl oo1 (Nat.le_of_ble_eq_true rfl) (Nat.le_of_ble_eq_true rfl) r1 ?_
  rintro v h1 ⟨rfl, C, x1⟩
  replace H6 := H6.k x1
  replace H7 := H7.k x1
  replace Y := Y.tr x1 (fun _ _ e => e)
  replace hY := Y.1
  suffices K2 : yy_fin X 279 (935, [some (.ref 1), some (.ref w), some (.ref 0), some (.int (Int32.ofInt fr)), some (.int (Int32.ofInt (t : Int))), some (.int (Int32.ofInt day)), some (zz_val k6), some (zz_val k7), some (.int (Int32.ofInt p8)), some (.ref k9), some (.int (Int32.ofInt s)), some (zz_val q11), some (.int (Int32.ofInt p12)), some (.ref q13), some (.ref q14), some (.int (Int32.ofInt 0)), some (zz_val q16), some (.int (Int32.ofInt n17)), some (.int (Int32.ofInt n18)), some (.int (Int32.ofInt v19)), some (.int (Int32.ofInt v20)), some (.int (Int32.ofInt m21)), some (.int (Int32.ofInt z22)), some (.int (Int32.ofInt b23)), none], [zz_val k7, .int (Int32.ofInt (s_99 (g0 541) t day 0 0))], h1) φ by cases k7 <;> exact yy_fin.steps (n := 1) rfl K2
  suffices J3 : ∀ v3 : Int, v3 = s_99 (g0 541) t day 0 0 → yy_fin X 279 (953, [some (.ref 1), some (.ref w), some (.ref 0), some (.int (Int32.ofInt fr)), some (.int (Int32.ofInt (t : Int))), some (.int (Int32.ofInt day)), some (zz_val k6), some (zz_val k7), some (.int (Int32.ofInt p8)), some (.ref k9), some (.int (Int32.ofInt s)), some (zz_val q11), some (.int (Int32.ofInt p12)), some (.ref q13), some (.ref q14), some (.int (Int32.ofInt 0)), some (zz_val q16), some (.int (Int32.ofInt n17)), some (.int (Int32.ofInt n18)), some (.int (Int32.ofInt v19)), some (.int (Int32.ofInt v20)), some (.int (Int32.ofInt m21)), some (.int (Int32.ofInt z22)), some (.int (Int32.ofInt b23)), none], [.int (Int32.ofInt v3), .int (Int32.ofInt (s_99 (g0 541) t day 0 0))], h1) φ by
    rcases H7 with ⟨rfl, eo4⟩ | ⟨q4, u4, l4, rfl, eo4, R4⟩
    · refine yy_fin.steps (n := 3) (s' := (953, [some (.ref 1), some (.ref w), some (.ref 0), some (.int (Int32.ofInt fr)), some (.int (Int32.ofInt (t : Int))), some (.int (Int32.ofInt day)), some (zz_val k6), some (.null), some (.int (Int32.ofInt p8)), some (.ref k9), some (.int (Int32.ofInt s)), some (zz_val q11), some (.int (Int32.ofInt p12)), some (.ref q13), some (.ref q14), some (.int (Int32.ofInt 0)), some (zz_val q16), some (.int (Int32.ofInt n17)), some (.int (Int32.ofInt n18)), some (.int (Int32.ofInt v19)), some (.int (Int32.ofInt v20)), some (.int (Int32.ofInt m21)), some (.int (Int32.ofInt z22)), some (.int (Int32.ofInt b23)), none], [.int (Int32.ofInt (-2)), .int (Int32.ofInt (s_99 (g0 541) t day 0 0))], h1)) rfl ?_
      exact J3 (-2) (by unfold s_99; rw [eo4])
    · have hb4 := hv_bnd2 F.2.2.2 ht eo4
      refine yy_fin.steps (n := 6) (s' := (950, [some (.ref 1), some (.ref w), some (.ref 0), some (.int (Int32.ofInt fr)), some (.int (Int32.ofInt (t : Int))), some (.int (Int32.ofInt day)), some (zz_val k6), some (.ref q4), some (.int (Int32.ofInt p8)), some (.ref k9), some (.int (Int32.ofInt s)), some (zz_val q11), some (.int (Int32.ofInt p12)), some (.ref q13), some (.ref q14), some (.int (Int32.ofInt 0)), some (zz_val q16), some (.int (Int32.ofInt n17)), some (.int (Int32.ofInt n18)), some (.int (Int32.ofInt v19)), some (.int (Int32.ofInt v20)), some (.int (Int32.ofInt m21)), some (.int (Int32.ofInt z22)), some (.int (Int32.ofInt b23)), none], [.int ((Int32.ofInt 3) * (Int32.ofInt 0)), .ref q4, .ref w, .int (Int32.ofInt (s_99 (g0 541) t day 0 0))], h1)) rfl ?_
      rw [yi_mul 3 0]
      obtain ⟨fw5, oW5⟩ := C.ow
      refine yy_fin.cv (as := [.ref q4, .int (Int32.ofInt (3 * 0))]) rfl rfl rfl oW5 (Nat.le_of_ble_eq_true rfl) (Nat.le_of_ble_eq_true rfl) (yc_hour F C R4 (hr := 3 * 0) (by omega) (by omega) (by omega)) ?_
      rintro v h9 ⟨rfl, e9⟩
      obtain rfl := e9.symm
      exact J3 (u4 + yk (g0 541 1).toInt ((3 * 0) * (g0 541 1).toInt) l4) (by unfold s_99; rw [eo4]; show u4 + yk (g0 541 1).toInt ((3 * 0) * (g0 541 1).toInt) l4 = u4 + s_h (3 * 0) l4; rw [yk_h (q := (g0 541 1).toInt) (x := 3 * 0) (l := l4) hq.1 (by omega) (by omega)])
  intro v3 ev3
  refine yy_fin.ic rfl (fun cz => absurd (congrArg Int32.ofInt ev3.symm) (y_cne cz)) (fun _ => ?_)
  refine yy_fin.steps (n := 5) (s' := (964, [some (.ref 1), some (.ref w), some (.ref 0), some (.int (Int32.ofInt fr)), some (.int (Int32.ofInt (t : Int))), some (.int (Int32.ofInt day)), some (zz_val k6), some (zz_val k7), some (.int (Int32.ofInt p8)), some (.ref k9), some (.int (Int32.ofInt s)), some (zz_val q11), some (.int (Int32.ofInt p12)), some (.ref q13), some (.ref q14), some (.int (Int32.ofInt 0)), some (zz_val q16), some (.int (Int32.ofInt n17)), some (.int (Int32.ofInt n18)), some (.int (Int32.ofInt v19)), some (.int (Int32.ofInt v20)), some (.int (Int32.ofInt m21)), some (.int (Int32.ofInt z22)), some (.int (Int32.ofInt b23)), none], [.int (Int32.ofInt 1), .int (Int32.ofInt 0), .int (Int32.ofInt day), .int (Int32.ofInt (t : Int)), .ref 1], h1)) rfl ?_
  obtain ⟨g6, r6⟩ := qi_99 F C ht hd (k := 0) (i := 1) (by omega) (Or.inr rfl)
  obtain ⟨fs6, oo6⟩ := C.o
  refine yy_fin.cv (as := [.int (Int32.ofInt (t : Int)), .int (Int32.ofInt day), .int (Int32.ofInt 0), .int (Int32.ofInt 1)]) rfl rfl rfl oo6 (Nat.le_of_ble_eq_true rfl) (Nat.le_of_ble_eq_true rfl) r6 ?_
  rintro v h6 ⟨rfl, C, x6⟩
  replace H6 := H6.k x6
  replace H7 := H7.k x6
  replace Y := Y.tr x6 (fun _ _ e => e)
  replace hY := Y.1
  suffices K7 : yy_fin X 279 (969, [some (.ref 1), some (.ref w), some (.ref 0), some (.int (Int32.ofInt fr)), some (.int (Int32.ofInt (t : Int))), some (.int (Int32.ofInt day)), some (zz_val k6), some (zz_val k7), some (.int (Int32.ofInt p8)), some (.ref k9), some (.int (Int32.ofInt s)), some (zz_val q11), some (.int (Int32.ofInt p12)), some (.ref q13), some (.ref q14), some (.int (Int32.ofInt 0)), some (zz_val q16), some (.int (Int32.ofInt n17)), some (.int (Int32.ofInt n18)), some (.int (Int32.ofInt v19)), some (.int (Int32.ofInt v20)), some (.int (Int32.ofInt m21)), some (.int (Int32.ofInt z22)), some (.int (Int32.ofInt b23)), none], [zz_val k7, .int (Int32.ofInt (s_99 (g0 541) t day 0 1))], h6) φ by cases k7 <;> exact yy_fin.steps (n := 1) rfl K7
  suffices J8 : ∀ v8 : Int, v8 = s_99 (g0 541) t day 0 1 → yy_fin X 279 (1000, [some (.ref 1), some (.ref w), some (.ref 0), some (.int (Int32.ofInt fr)), some (.int (Int32.ofInt (t : Int))), some (.int (Int32.ofInt day)), some (zz_val k6), some (zz_val k7), some (.int (Int32.ofInt p8)), some (.ref k9), some (.int (Int32.ofInt s)), some (zz_val q11), some (.int (Int32.ofInt p12)), some (.ref q13), some (.ref q14), some (.int (Int32.ofInt 0)), some (zz_val q16), some (.int (Int32.ofInt n17)), some (.int (Int32.ofInt n18)), some (.int (Int32.ofInt v19)), some (.int (Int32.ofInt v20)), some (.int (Int32.ofInt m21)), some (.int (Int32.ofInt z22)), some (.int (Int32.ofInt b23)), none], [.int (Int32.ofInt v8), .int (Int32.ofInt (s_99 (g0 541) t day 0 1))], h6) φ by
    rcases H7 with ⟨rfl, eo9⟩ | ⟨q9, u9, l9, rfl, eo9, R9⟩
    · refine yy_fin.steps (n := 3) (s' := (1000, [some (.ref 1), some (.ref w), some (.ref 0), some (.int (Int32.ofInt fr)), some (.int (Int32.ofInt (t : Int))), some (.int (Int32.ofInt day)), some (zz_val k6), some (.null), some (.int (Int32.ofInt p8)), some (.ref k9), some (.int (Int32.ofInt s)), some (zz_val q11), some (.int (Int32.ofInt p12)), some (.ref q13), some (.ref q14), some (.int (Int32.ofInt 0)), some (zz_val q16), some (.int (Int32.ofInt n17)), some (.int (Int32.ofInt n18)), some (.int (Int32.ofInt v19)), some (.int (Int32.ofInt v20)), some (.int (Int32.ofInt m21)), some (.int (Int32.ofInt z22)), some (.int (Int32.ofInt b23)), none], [.int (Int32.ofInt (-2)), .int (Int32.ofInt (s_99 (g0 541) t day 0 1))], h6)) rfl ?_
      exact J8 (-2) (by unfold s_99; rw [eo9])
    · have hb9 := hv_bnd2 F.2.2.2 ht eo9
      refine yy_fin.steps (n := 8) (s' := (986, [some (.ref 1), some (.ref w), some (.ref 0), some (.int (Int32.ofInt fr)), some (.int (Int32.ofInt (t : Int))), some (.int (Int32.ofInt day)), some (zz_val k6), some (.ref q9), some (.int (Int32.ofInt p8)), some (.ref k9), some (.int (Int32.ofInt s)), some (zz_val q11), some (.int (Int32.ofInt p12)), some (.ref q13), some (.ref q14), some (.int (Int32.ofInt 0)), some (zz_val q16), some (.int (Int32.ofInt n17)), some (.int (Int32.ofInt n18)), some (.int (Int32.ofInt v19)), some (.int (Int32.ofInt v20)), some (.int (Int32.ofInt m21)), some (.int (Int32.ofInt z22)), some (.int (Int32.ofInt b23)), none], [.int (((Int32.ofInt 3) * (Int32.ofInt 0)) + (Int32.ofInt 3)), .ref q9, .ref w, .int (Int32.ofInt (s_99 (g0 541) t day 0 1))], h6)) rfl ?_
      rw [yi_mul 3 0]
      rw [yi_add (3 * 0) 3]
      obtain ⟨fw10, oW10⟩ := C.ow
      refine yy_fin.cv (as := [.ref q9, .int (Int32.ofInt ((3 * 0) + 3))]) rfl rfl rfl oW10 (Nat.le_of_ble_eq_true rfl) (Nat.le_of_ble_eq_true rfl) (yc_hour F C R9 (hr := (3 * 0) + 3) (by omega) (by omega) (by omega)) ?_
      rintro v h9 ⟨rfl, e9⟩
      obtain rfl := e9.symm
      refine yy_fin.steps (n := 5) (s' := (996, [some (.ref 1), some (.ref w), some (.ref 0), some (.int (Int32.ofInt fr)), some (.int (Int32.ofInt (t : Int))), some (.int (Int32.ofInt day)), some (zz_val k6), some (.ref q9), some (.int (Int32.ofInt p8)), some (.ref k9), some (.int (Int32.ofInt s)), some (zz_val q11), some (.int (Int32.ofInt p12)), some (.ref q13), some (.ref q14), some (.int (Int32.ofInt 0)), some (zz_val q16), some (.int (Int32.ofInt n17)), some (.int (Int32.ofInt n18)), some (.int (Int32.ofInt v19)), some (.int (Int32.ofInt v20)), some (.int (Int32.ofInt m21)), some (.int (Int32.ofInt z22)), some (.int (Int32.ofInt b23)), none], [.int ((Int32.ofInt 3) * (Int32.ofInt 0)), .ref q9, .ref w, .int (Int32.ofInt (u9 + yk (g0 541 1).toInt (((3 * 0) + 3) * (g0 541 1).toInt) l9)), .int (Int32.ofInt (s_99 (g0 541) t day 0 1))], h6)) rfl ?_
      rw [yi_mul 3 0]
      obtain ⟨fw11, oW11⟩ := C.ow
      refine yy_fin.cv (as := [.ref q9, .int (Int32.ofInt (3 * 0))]) rfl rfl rfl oW11 (Nat.le_of_ble_eq_true rfl) (Nat.le_of_ble_eq_true rfl) (yc_hour F C R9 (hr := 3 * 0) (by omega) (by omega) (by omega)) ?_
      rintro v h9 ⟨rfl, e9⟩
      obtain rfl := e9.symm
      refine yy_fin.steps (n := 1) (s' := (1000, [some (.ref 1), some (.ref w), some (.ref 0), some (.int (Int32.ofInt fr)), some (.int (Int32.ofInt (t : Int))), some (.int (Int32.ofInt day)), some (zz_val k6), some (.ref q9), some (.int (Int32.ofInt p8)), some (.ref k9), some (.int (Int32.ofInt s)), some (zz_val q11), some (.int (Int32.ofInt p12)), some (.ref q13), some (.ref q14), some (.int (Int32.ofInt 0)), some (zz_val q16), some (.int (Int32.ofInt n17)), some (.int (Int32.ofInt n18)), some (.int (Int32.ofInt v19)), some (.int (Int32.ofInt v20)), some (.int (Int32.ofInt m21)), some (.int (Int32.ofInt z22)), some (.int (Int32.ofInt b23)), none], [.int ((Int32.ofInt (u9 + yk (g0 541 1).toInt (((3 * 0) + 3) * (g0 541 1).toInt) l9)) - (Int32.ofInt (u9 + yk (g0 541 1).toInt ((3 * 0) * (g0 541 1).toInt) l9))), .int (Int32.ofInt (s_99 (g0 541) t day 0 1))], h6)) rfl ?_
      rw [yi_sub (u9 + yk (g0 541 1).toInt (((3 * 0) + 3) * (g0 541 1).toInt) l9) (u9 + yk (g0 541 1).toInt ((3 * 0) * (g0 541 1).toInt) l9)]
      exact J8 ((u9 + yk (g0 541 1).toInt (((3 * 0) + 3) * (g0 541 1).toInt) l9) - (u9 + yk (g0 541 1).toInt ((3 * 0) * (g0 541 1).toInt) l9)) (by unfold s_99; rw [eo9]; show u9 + yk (g0 541 1).toInt ((3 * 0 + 3) * (g0 541 1).toInt) l9 - (u9 + yk (g0 541 1).toInt ((3 * 0) * (g0 541 1).toInt) l9) = s_h (3 * 0 + 3) l9 - s_h (3 * 0) l9; rw [yk_h (q := (g0 541 1).toInt) (x := 3 * 0 + 3) (l := l9) hq.1 (by omega) (by omega), yk_h (q := (g0 541 1).toInt) (x := 3 * 0) (l := l9) hq.1 (by omega) (by omega)]; omega)
  intro v8 ev8
  refine yy_fin.ic rfl (fun _ => ?_) (fun cz => absurd (y_ceq (congrArg Int32.ofInt ev8.symm)) cz)
  refine yy_fin.steps (n := 4) (s' := (919, [some (.ref 1), some (.ref w), some (.ref 0), some (.int (Int32.ofInt fr)), some (.int (Int32.ofInt (t : Int))), some (.int (Int32.ofInt day)), some (zz_val k6), some (zz_val k7), some (.int (Int32.ofInt p8)), some (.ref k9), some (.int (Int32.ofInt s)), some (zz_val q11), some (.int (Int32.ofInt p12)), some (.ref q13), some (.ref q14), some (.int ((Int32.ofInt 0) + (Int32.ofInt 1))), some (zz_val q16), some (.int (Int32.ofInt n17)), some (.int (Int32.ofInt n18)), some (.int (Int32.ofInt v19)), some (.int (Int32.ofInt v20)), some (.int (Int32.ofInt m21)), some (.int (Int32.ofInt z22)), some (.int (Int32.ofInt b23)), none], [.int (Int32.ofInt 4), .int ((Int32.ofInt 0) + (Int32.ofInt 1))], h6)) rfl ?_
  rw [show (Int32.ofInt 0) + (Int32.ofInt 1) = Int32.ofInt 1 from by decide]
  refine yy_fin.ic rfl (fun cK => absurd cK (by decide)) (fun cK => ?_)
  refine yy_fin.steps (n := 5) (s' := (930, [some (.ref 1), some (.ref w), some (.ref 0), some (.int (Int32.ofInt fr)), some (.int (Int32.ofInt (t : Int))), some (.int (Int32.ofInt day)), some (zz_val k6), some (zz_val k7), some (.int (Int32.ofInt p8)), some (.ref k9), some (.int (Int32.ofInt s)), some (zz_val q11), some (.int (Int32.ofInt p12)), some (.ref q13), some (.ref q14), some (.int (Int32.ofInt 1)), some (zz_val q16), some (.int (Int32.ofInt n17)), some (.int (Int32.ofInt n18)), some (.int (Int32.ofInt v19)), some (.int (Int32.ofInt v20)), some (.int (Int32.ofInt m21)), some (.int (Int32.ofInt z22)), some (.int (Int32.ofInt b23)), none], [.int (Int32.ofInt 0), .int (Int32.ofInt 1), .int (Int32.ofInt day), .int (Int32.ofInt (t : Int)), .ref 1], h6)) rfl ?_
  obtain ⟨g12, r12⟩ := qi_99 F C ht hd (k := 1) (i := 0) (by omega) (Or.inl rfl)
  obtain ⟨fs12, oo12⟩ := C.o
  refine yy_fin.cv (as := [.int (Int32.ofInt (t : Int)), .int (Int32.ofInt day), .int (Int32.ofInt 1), .int (Int32.ofInt 0)]) rfl rfl rfl oo12 (Nat.le_of_ble_eq_true rfl) (Nat.le_of_ble_eq_true rfl) r12 ?_
  rintro v h12 ⟨rfl, C, x12⟩
  replace H6 := H6.k x12
  replace H7 := H7.k x12
  replace Y := Y.tr x12 (fun _ _ e => e)
  replace hY := Y.1
  suffices K13 : yy_fin X 279 (935, [some (.ref 1), some (.ref w), some (.ref 0), some (.int (Int32.ofInt fr)), some (.int (Int32.ofInt (t : Int))), some (.int (Int32.ofInt day)), some (zz_val k6), some (zz_val k7), some (.int (Int32.ofInt p8)), some (.ref k9), some (.int (Int32.ofInt s)), some (zz_val q11), some (.int (Int32.ofInt p12)), some (.ref q13), some (.ref q14), some (.int (Int32.ofInt 1)), some (zz_val q16), some (.int (Int32.ofInt n17)), some (.int (Int32.ofInt n18)), some (.int (Int32.ofInt v19)), some (.int (Int32.ofInt v20)), some (.int (Int32.ofInt m21)), some (.int (Int32.ofInt z22)), some (.int (Int32.ofInt b23)), none], [zz_val k7, .int (Int32.ofInt (s_99 (g0 541) t day 1 0))], h12) φ by cases k7 <;> exact yy_fin.steps (n := 1) rfl K13
  suffices J14 : ∀ v14 : Int, v14 = s_99 (g0 541) t day 1 0 → yy_fin X 279 (953, [some (.ref 1), some (.ref w), some (.ref 0), some (.int (Int32.ofInt fr)), some (.int (Int32.ofInt (t : Int))), some (.int (Int32.ofInt day)), some (zz_val k6), some (zz_val k7), some (.int (Int32.ofInt p8)), some (.ref k9), some (.int (Int32.ofInt s)), some (zz_val q11), some (.int (Int32.ofInt p12)), some (.ref q13), some (.ref q14), some (.int (Int32.ofInt 1)), some (zz_val q16), some (.int (Int32.ofInt n17)), some (.int (Int32.ofInt n18)), some (.int (Int32.ofInt v19)), some (.int (Int32.ofInt v20)), some (.int (Int32.ofInt m21)), some (.int (Int32.ofInt z22)), some (.int (Int32.ofInt b23)), none], [.int (Int32.ofInt v14), .int (Int32.ofInt (s_99 (g0 541) t day 1 0))], h12) φ by
    rcases H7 with ⟨rfl, eo15⟩ | ⟨q15, u15, l15, rfl, eo15, R15⟩
    · refine yy_fin.steps (n := 3) (s' := (953, [some (.ref 1), some (.ref w), some (.ref 0), some (.int (Int32.ofInt fr)), some (.int (Int32.ofInt (t : Int))), some (.int (Int32.ofInt day)), some (zz_val k6), some (.null), some (.int (Int32.ofInt p8)), some (.ref k9), some (.int (Int32.ofInt s)), some (zz_val q11), some (.int (Int32.ofInt p12)), some (.ref q13), some (.ref q14), some (.int (Int32.ofInt 1)), some (zz_val q16), some (.int (Int32.ofInt n17)), some (.int (Int32.ofInt n18)), some (.int (Int32.ofInt v19)), some (.int (Int32.ofInt v20)), some (.int (Int32.ofInt m21)), some (.int (Int32.ofInt z22)), some (.int (Int32.ofInt b23)), none], [.int (Int32.ofInt (-2)), .int (Int32.ofInt (s_99 (g0 541) t day 1 0))], h12)) rfl ?_
      exact J14 (-2) (by unfold s_99; rw [eo15])
    · have hb15 := hv_bnd2 F.2.2.2 ht eo15
      refine yy_fin.steps (n := 6) (s' := (950, [some (.ref 1), some (.ref w), some (.ref 0), some (.int (Int32.ofInt fr)), some (.int (Int32.ofInt (t : Int))), some (.int (Int32.ofInt day)), some (zz_val k6), some (.ref q15), some (.int (Int32.ofInt p8)), some (.ref k9), some (.int (Int32.ofInt s)), some (zz_val q11), some (.int (Int32.ofInt p12)), some (.ref q13), some (.ref q14), some (.int (Int32.ofInt 1)), some (zz_val q16), some (.int (Int32.ofInt n17)), some (.int (Int32.ofInt n18)), some (.int (Int32.ofInt v19)), some (.int (Int32.ofInt v20)), some (.int (Int32.ofInt m21)), some (.int (Int32.ofInt z22)), some (.int (Int32.ofInt b23)), none], [.int ((Int32.ofInt 3) * (Int32.ofInt 1)), .ref q15, .ref w, .int (Int32.ofInt (s_99 (g0 541) t day 1 0))], h12)) rfl ?_
      rw [yi_mul 3 1]
      obtain ⟨fw16, oW16⟩ := C.ow
      refine yy_fin.cv (as := [.ref q15, .int (Int32.ofInt (3 * 1))]) rfl rfl rfl oW16 (Nat.le_of_ble_eq_true rfl) (Nat.le_of_ble_eq_true rfl) (yc_hour F C R15 (hr := 3 * 1) (by omega) (by omega) (by omega)) ?_
      rintro v h9 ⟨rfl, e9⟩
      obtain rfl := e9.symm
      exact J14 (u15 + yk (g0 541 1).toInt ((3 * 1) * (g0 541 1).toInt) l15) (by unfold s_99; rw [eo15]; show u15 + yk (g0 541 1).toInt ((3 * 1) * (g0 541 1).toInt) l15 = u15 + s_h (3 * 1) l15; rw [yk_h (q := (g0 541 1).toInt) (x := 3 * 1) (l := l15) hq.1 (by omega) (by omega)])
  intro v14 ev14
  refine yy_fin.ic rfl (fun cz => absurd (congrArg Int32.ofInt ev14.symm) (y_cne cz)) (fun _ => ?_)
  refine yy_fin.steps (n := 5) (s' := (964, [some (.ref 1), some (.ref w), some (.ref 0), some (.int (Int32.ofInt fr)), some (.int (Int32.ofInt (t : Int))), some (.int (Int32.ofInt day)), some (zz_val k6), some (zz_val k7), some (.int (Int32.ofInt p8)), some (.ref k9), some (.int (Int32.ofInt s)), some (zz_val q11), some (.int (Int32.ofInt p12)), some (.ref q13), some (.ref q14), some (.int (Int32.ofInt 1)), some (zz_val q16), some (.int (Int32.ofInt n17)), some (.int (Int32.ofInt n18)), some (.int (Int32.ofInt v19)), some (.int (Int32.ofInt v20)), some (.int (Int32.ofInt m21)), some (.int (Int32.ofInt z22)), some (.int (Int32.ofInt b23)), none], [.int (Int32.ofInt 1), .int (Int32.ofInt 1), .int (Int32.ofInt day), .int (Int32.ofInt (t : Int)), .ref 1], h12)) rfl ?_
  obtain ⟨g17, r17⟩ := qi_99 F C ht hd (k := 1) (i := 1) (by omega) (Or.inr rfl)
  obtain ⟨fs17, oo17⟩ := C.o
  refine yy_fin.cv (as := [.int (Int32.ofInt (t : Int)), .int (Int32.ofInt day), .int (Int32.ofInt 1), .int (Int32.ofInt 1)]) rfl rfl rfl oo17 (Nat.le_of_ble_eq_true rfl) (Nat.le_of_ble_eq_true rfl) r17 ?_
  rintro v h17 ⟨rfl, C, x17⟩
  replace H6 := H6.k x17
  replace H7 := H7.k x17
  replace Y := Y.tr x17 (fun _ _ e => e)
  replace hY := Y.1
  suffices K18 : yy_fin X 279 (969, [some (.ref 1), some (.ref w), some (.ref 0), some (.int (Int32.ofInt fr)), some (.int (Int32.ofInt (t : Int))), some (.int (Int32.ofInt day)), some (zz_val k6), some (zz_val k7), some (.int (Int32.ofInt p8)), some (.ref k9), some (.int (Int32.ofInt s)), some (zz_val q11), some (.int (Int32.ofInt p12)), some (.ref q13), some (.ref q14), some (.int (Int32.ofInt 1)), some (zz_val q16), some (.int (Int32.ofInt n17)), some (.int (Int32.ofInt n18)), some (.int (Int32.ofInt v19)), some (.int (Int32.ofInt v20)), some (.int (Int32.ofInt m21)), some (.int (Int32.ofInt z22)), some (.int (Int32.ofInt b23)), none], [zz_val k7, .int (Int32.ofInt (s_99 (g0 541) t day 1 1))], h17) φ by cases k7 <;> exact yy_fin.steps (n := 1) rfl K18
  suffices J19 : ∀ v19 : Int, v19 = s_99 (g0 541) t day 1 1 → yy_fin X 279 (1000, [some (.ref 1), some (.ref w), some (.ref 0), some (.int (Int32.ofInt fr)), some (.int (Int32.ofInt (t : Int))), some (.int (Int32.ofInt day)), some (zz_val k6), some (zz_val k7), some (.int (Int32.ofInt p8)), some (.ref k9), some (.int (Int32.ofInt s)), some (zz_val q11), some (.int (Int32.ofInt p12)), some (.ref q13), some (.ref q14), some (.int (Int32.ofInt 1)), some (zz_val q16), some (.int (Int32.ofInt n17)), some (.int (Int32.ofInt n18)), some (.int (Int32.ofInt v19)), some (.int (Int32.ofInt v20)), some (.int (Int32.ofInt m21)), some (.int (Int32.ofInt z22)), some (.int (Int32.ofInt b23)), none], [.int (Int32.ofInt v19), .int (Int32.ofInt (s_99 (g0 541) t day 1 1))], h17) φ by
    rcases H7 with ⟨rfl, eo20⟩ | ⟨q20, u20, l20, rfl, eo20, R20⟩
    · refine yy_fin.steps (n := 3) (s' := (1000, [some (.ref 1), some (.ref w), some (.ref 0), some (.int (Int32.ofInt fr)), some (.int (Int32.ofInt (t : Int))), some (.int (Int32.ofInt day)), some (zz_val k6), some (.null), some (.int (Int32.ofInt p8)), some (.ref k9), some (.int (Int32.ofInt s)), some (zz_val q11), some (.int (Int32.ofInt p12)), some (.ref q13), some (.ref q14), some (.int (Int32.ofInt 1)), some (zz_val q16), some (.int (Int32.ofInt n17)), some (.int (Int32.ofInt n18)), some (.int (Int32.ofInt v19)), some (.int (Int32.ofInt v20)), some (.int (Int32.ofInt m21)), some (.int (Int32.ofInt z22)), some (.int (Int32.ofInt b23)), none], [.int (Int32.ofInt (-2)), .int (Int32.ofInt (s_99 (g0 541) t day 1 1))], h17)) rfl ?_
      exact J19 (-2) (by unfold s_99; rw [eo20])
    · have hb20 := hv_bnd2 F.2.2.2 ht eo20
      refine yy_fin.steps (n := 8) (s' := (986, [some (.ref 1), some (.ref w), some (.ref 0), some (.int (Int32.ofInt fr)), some (.int (Int32.ofInt (t : Int))), some (.int (Int32.ofInt day)), some (zz_val k6), some (.ref q20), some (.int (Int32.ofInt p8)), some (.ref k9), some (.int (Int32.ofInt s)), some (zz_val q11), some (.int (Int32.ofInt p12)), some (.ref q13), some (.ref q14), some (.int (Int32.ofInt 1)), some (zz_val q16), some (.int (Int32.ofInt n17)), some (.int (Int32.ofInt n18)), some (.int (Int32.ofInt v19)), some (.int (Int32.ofInt v20)), some (.int (Int32.ofInt m21)), some (.int (Int32.ofInt z22)), some (.int (Int32.ofInt b23)), none], [.int (((Int32.ofInt 3) * (Int32.ofInt 1)) + (Int32.ofInt 3)), .ref q20, .ref w, .int (Int32.ofInt (s_99 (g0 541) t day 1 1))], h17)) rfl ?_
      rw [yi_mul 3 1]
      rw [yi_add (3 * 1) 3]
      obtain ⟨fw21, oW21⟩ := C.ow
      refine yy_fin.cv (as := [.ref q20, .int (Int32.ofInt ((3 * 1) + 3))]) rfl rfl rfl oW21 (Nat.le_of_ble_eq_true rfl) (Nat.le_of_ble_eq_true rfl) (yc_hour F C R20 (hr := (3 * 1) + 3) (by omega) (by omega) (by omega)) ?_
      rintro v h9 ⟨rfl, e9⟩
      obtain rfl := e9.symm
      refine yy_fin.steps (n := 5) (s' := (996, [some (.ref 1), some (.ref w), some (.ref 0), some (.int (Int32.ofInt fr)), some (.int (Int32.ofInt (t : Int))), some (.int (Int32.ofInt day)), some (zz_val k6), some (.ref q20), some (.int (Int32.ofInt p8)), some (.ref k9), some (.int (Int32.ofInt s)), some (zz_val q11), some (.int (Int32.ofInt p12)), some (.ref q13), some (.ref q14), some (.int (Int32.ofInt 1)), some (zz_val q16), some (.int (Int32.ofInt n17)), some (.int (Int32.ofInt n18)), some (.int (Int32.ofInt v19)), some (.int (Int32.ofInt v20)), some (.int (Int32.ofInt m21)), some (.int (Int32.ofInt z22)), some (.int (Int32.ofInt b23)), none], [.int ((Int32.ofInt 3) * (Int32.ofInt 1)), .ref q20, .ref w, .int (Int32.ofInt (u20 + yk (g0 541 1).toInt (((3 * 1) + 3) * (g0 541 1).toInt) l20)), .int (Int32.ofInt (s_99 (g0 541) t day 1 1))], h17)) rfl ?_
      rw [yi_mul 3 1]
      obtain ⟨fw22, oW22⟩ := C.ow
      refine yy_fin.cv (as := [.ref q20, .int (Int32.ofInt (3 * 1))]) rfl rfl rfl oW22 (Nat.le_of_ble_eq_true rfl) (Nat.le_of_ble_eq_true rfl) (yc_hour F C R20 (hr := 3 * 1) (by omega) (by omega) (by omega)) ?_
      rintro v h9 ⟨rfl, e9⟩
      obtain rfl := e9.symm
      refine yy_fin.steps (n := 1) (s' := (1000, [some (.ref 1), some (.ref w), some (.ref 0), some (.int (Int32.ofInt fr)), some (.int (Int32.ofInt (t : Int))), some (.int (Int32.ofInt day)), some (zz_val k6), some (.ref q20), some (.int (Int32.ofInt p8)), some (.ref k9), some (.int (Int32.ofInt s)), some (zz_val q11), some (.int (Int32.ofInt p12)), some (.ref q13), some (.ref q14), some (.int (Int32.ofInt 1)), some (zz_val q16), some (.int (Int32.ofInt n17)), some (.int (Int32.ofInt n18)), some (.int (Int32.ofInt v19)), some (.int (Int32.ofInt v20)), some (.int (Int32.ofInt m21)), some (.int (Int32.ofInt z22)), some (.int (Int32.ofInt b23)), none], [.int ((Int32.ofInt (u20 + yk (g0 541 1).toInt (((3 * 1) + 3) * (g0 541 1).toInt) l20)) - (Int32.ofInt (u20 + yk (g0 541 1).toInt ((3 * 1) * (g0 541 1).toInt) l20))), .int (Int32.ofInt (s_99 (g0 541) t day 1 1))], h17)) rfl ?_
      rw [yi_sub (u20 + yk (g0 541 1).toInt (((3 * 1) + 3) * (g0 541 1).toInt) l20) (u20 + yk (g0 541 1).toInt ((3 * 1) * (g0 541 1).toInt) l20)]
      exact J19 ((u20 + yk (g0 541 1).toInt (((3 * 1) + 3) * (g0 541 1).toInt) l20) - (u20 + yk (g0 541 1).toInt ((3 * 1) * (g0 541 1).toInt) l20)) (by unfold s_99; rw [eo20]; show u20 + yk (g0 541 1).toInt ((3 * 1 + 3) * (g0 541 1).toInt) l20 - (u20 + yk (g0 541 1).toInt ((3 * 1) * (g0 541 1).toInt) l20) = s_h (3 * 1 + 3) l20 - s_h (3 * 1) l20; rw [yk_h (q := (g0 541 1).toInt) (x := 3 * 1 + 3) (l := l20) hq.1 (by omega) (by omega), yk_h (q := (g0 541 1).toInt) (x := 3 * 1) (l := l20) hq.1 (by omega) (by omega)]; omega)
  intro v19 ev19
  refine yy_fin.ic rfl (fun _ => ?_) (fun cz => absurd (y_ceq (congrArg Int32.ofInt ev19.symm)) cz)
  refine yy_fin.steps (n := 4) (s' := (919, [some (.ref 1), some (.ref w), some (.ref 0), some (.int (Int32.ofInt fr)), some (.int (Int32.ofInt (t : Int))), some (.int (Int32.ofInt day)), some (zz_val k6), some (zz_val k7), some (.int (Int32.ofInt p8)), some (.ref k9), some (.int (Int32.ofInt s)), some (zz_val q11), some (.int (Int32.ofInt p12)), some (.ref q13), some (.ref q14), some (.int ((Int32.ofInt 1) + (Int32.ofInt 1))), some (zz_val q16), some (.int (Int32.ofInt n17)), some (.int (Int32.ofInt n18)), some (.int (Int32.ofInt v19)), some (.int (Int32.ofInt v20)), some (.int (Int32.ofInt m21)), some (.int (Int32.ofInt z22)), some (.int (Int32.ofInt b23)), none], [.int (Int32.ofInt 4), .int ((Int32.ofInt 1) + (Int32.ofInt 1))], h17)) rfl ?_
  rw [show (Int32.ofInt 1) + (Int32.ofInt 1) = Int32.ofInt 2 from by decide]
  refine yy_fin.ic rfl (fun cK => absurd cK (by decide)) (fun cK => ?_)
  refine yy_fin.steps (n := 5) (s' := (930, [some (.ref 1), some (.ref w), some (.ref 0), some (.int (Int32.ofInt fr)), some (.int (Int32.ofInt (t : Int))), some (.int (Int32.ofInt day)), some (zz_val k6), some (zz_val k7), some (.int (Int32.ofInt p8)), some (.ref k9), some (.int (Int32.ofInt s)), some (zz_val q11), some (.int (Int32.ofInt p12)), some (.ref q13), some (.ref q14), some (.int (Int32.ofInt 2)), some (zz_val q16), some (.int (Int32.ofInt n17)), some (.int (Int32.ofInt n18)), some (.int (Int32.ofInt v19)), some (.int (Int32.ofInt v20)), some (.int (Int32.ofInt m21)), some (.int (Int32.ofInt z22)), some (.int (Int32.ofInt b23)), none], [.int (Int32.ofInt 0), .int (Int32.ofInt 2), .int (Int32.ofInt day), .int (Int32.ofInt (t : Int)), .ref 1], h17)) rfl ?_
  obtain ⟨g23, r23⟩ := qi_99 F C ht hd (k := 2) (i := 0) (by omega) (Or.inl rfl)
  obtain ⟨fs23, oo23⟩ := C.o
  refine yy_fin.cv (as := [.int (Int32.ofInt (t : Int)), .int (Int32.ofInt day), .int (Int32.ofInt 2), .int (Int32.ofInt 0)]) rfl rfl rfl oo23 (Nat.le_of_ble_eq_true rfl) (Nat.le_of_ble_eq_true rfl) r23 ?_
  rintro v h23 ⟨rfl, C, x23⟩
  replace H6 := H6.k x23
  replace H7 := H7.k x23
  replace Y := Y.tr x23 (fun _ _ e => e)
  replace hY := Y.1
  suffices K24 : yy_fin X 279 (935, [some (.ref 1), some (.ref w), some (.ref 0), some (.int (Int32.ofInt fr)), some (.int (Int32.ofInt (t : Int))), some (.int (Int32.ofInt day)), some (zz_val k6), some (zz_val k7), some (.int (Int32.ofInt p8)), some (.ref k9), some (.int (Int32.ofInt s)), some (zz_val q11), some (.int (Int32.ofInt p12)), some (.ref q13), some (.ref q14), some (.int (Int32.ofInt 2)), some (zz_val q16), some (.int (Int32.ofInt n17)), some (.int (Int32.ofInt n18)), some (.int (Int32.ofInt v19)), some (.int (Int32.ofInt v20)), some (.int (Int32.ofInt m21)), some (.int (Int32.ofInt z22)), some (.int (Int32.ofInt b23)), none], [zz_val k7, .int (Int32.ofInt (s_99 (g0 541) t day 2 0))], h23) φ by cases k7 <;> exact yy_fin.steps (n := 1) rfl K24
  suffices J25 : ∀ v25 : Int, v25 = s_99 (g0 541) t day 2 0 → yy_fin X 279 (953, [some (.ref 1), some (.ref w), some (.ref 0), some (.int (Int32.ofInt fr)), some (.int (Int32.ofInt (t : Int))), some (.int (Int32.ofInt day)), some (zz_val k6), some (zz_val k7), some (.int (Int32.ofInt p8)), some (.ref k9), some (.int (Int32.ofInt s)), some (zz_val q11), some (.int (Int32.ofInt p12)), some (.ref q13), some (.ref q14), some (.int (Int32.ofInt 2)), some (zz_val q16), some (.int (Int32.ofInt n17)), some (.int (Int32.ofInt n18)), some (.int (Int32.ofInt v19)), some (.int (Int32.ofInt v20)), some (.int (Int32.ofInt m21)), some (.int (Int32.ofInt z22)), some (.int (Int32.ofInt b23)), none], [.int (Int32.ofInt v25), .int (Int32.ofInt (s_99 (g0 541) t day 2 0))], h23) φ by
    rcases H7 with ⟨rfl, eo26⟩ | ⟨q26, u26, l26, rfl, eo26, R26⟩
    · refine yy_fin.steps (n := 3) (s' := (953, [some (.ref 1), some (.ref w), some (.ref 0), some (.int (Int32.ofInt fr)), some (.int (Int32.ofInt (t : Int))), some (.int (Int32.ofInt day)), some (zz_val k6), some (.null), some (.int (Int32.ofInt p8)), some (.ref k9), some (.int (Int32.ofInt s)), some (zz_val q11), some (.int (Int32.ofInt p12)), some (.ref q13), some (.ref q14), some (.int (Int32.ofInt 2)), some (zz_val q16), some (.int (Int32.ofInt n17)), some (.int (Int32.ofInt n18)), some (.int (Int32.ofInt v19)), some (.int (Int32.ofInt v20)), some (.int (Int32.ofInt m21)), some (.int (Int32.ofInt z22)), some (.int (Int32.ofInt b23)), none], [.int (Int32.ofInt (-2)), .int (Int32.ofInt (s_99 (g0 541) t day 2 0))], h23)) rfl ?_
      exact J25 (-2) (by unfold s_99; rw [eo26])
    · have hb26 := hv_bnd2 F.2.2.2 ht eo26
      refine yy_fin.steps (n := 6) (s' := (950, [some (.ref 1), some (.ref w), some (.ref 0), some (.int (Int32.ofInt fr)), some (.int (Int32.ofInt (t : Int))), some (.int (Int32.ofInt day)), some (zz_val k6), some (.ref q26), some (.int (Int32.ofInt p8)), some (.ref k9), some (.int (Int32.ofInt s)), some (zz_val q11), some (.int (Int32.ofInt p12)), some (.ref q13), some (.ref q14), some (.int (Int32.ofInt 2)), some (zz_val q16), some (.int (Int32.ofInt n17)), some (.int (Int32.ofInt n18)), some (.int (Int32.ofInt v19)), some (.int (Int32.ofInt v20)), some (.int (Int32.ofInt m21)), some (.int (Int32.ofInt z22)), some (.int (Int32.ofInt b23)), none], [.int ((Int32.ofInt 3) * (Int32.ofInt 2)), .ref q26, .ref w, .int (Int32.ofInt (s_99 (g0 541) t day 2 0))], h23)) rfl ?_
      rw [yi_mul 3 2]
      obtain ⟨fw27, oW27⟩ := C.ow
      refine yy_fin.cv (as := [.ref q26, .int (Int32.ofInt (3 * 2))]) rfl rfl rfl oW27 (Nat.le_of_ble_eq_true rfl) (Nat.le_of_ble_eq_true rfl) (yc_hour F C R26 (hr := 3 * 2) (by omega) (by omega) (by omega)) ?_
      rintro v h9 ⟨rfl, e9⟩
      obtain rfl := e9.symm
      exact J25 (u26 + yk (g0 541 1).toInt ((3 * 2) * (g0 541 1).toInt) l26) (by unfold s_99; rw [eo26]; show u26 + yk (g0 541 1).toInt ((3 * 2) * (g0 541 1).toInt) l26 = u26 + s_h (3 * 2) l26; rw [yk_h (q := (g0 541 1).toInt) (x := 3 * 2) (l := l26) hq.1 (by omega) (by omega)])
  intro v25 ev25
  refine yy_fin.ic rfl (fun cz => absurd (congrArg Int32.ofInt ev25.symm) (y_cne cz)) (fun _ => ?_)
  refine yy_fin.steps (n := 5) (s' := (964, [some (.ref 1), some (.ref w), some (.ref 0), some (.int (Int32.ofInt fr)), some (.int (Int32.ofInt (t : Int))), some (.int (Int32.ofInt day)), some (zz_val k6), some (zz_val k7), some (.int (Int32.ofInt p8)), some (.ref k9), some (.int (Int32.ofInt s)), some (zz_val q11), some (.int (Int32.ofInt p12)), some (.ref q13), some (.ref q14), some (.int (Int32.ofInt 2)), some (zz_val q16), some (.int (Int32.ofInt n17)), some (.int (Int32.ofInt n18)), some (.int (Int32.ofInt v19)), some (.int (Int32.ofInt v20)), some (.int (Int32.ofInt m21)), some (.int (Int32.ofInt z22)), some (.int (Int32.ofInt b23)), none], [.int (Int32.ofInt 1), .int (Int32.ofInt 2), .int (Int32.ofInt day), .int (Int32.ofInt (t : Int)), .ref 1], h23)) rfl ?_
  obtain ⟨g28, r28⟩ := qi_99 F C ht hd (k := 2) (i := 1) (by omega) (Or.inr rfl)
  obtain ⟨fs28, oo28⟩ := C.o
  refine yy_fin.cv (as := [.int (Int32.ofInt (t : Int)), .int (Int32.ofInt day), .int (Int32.ofInt 2), .int (Int32.ofInt 1)]) rfl rfl rfl oo28 (Nat.le_of_ble_eq_true rfl) (Nat.le_of_ble_eq_true rfl) r28 ?_
  rintro v h28 ⟨rfl, C, x28⟩
  replace H6 := H6.k x28
  replace H7 := H7.k x28
  replace Y := Y.tr x28 (fun _ _ e => e)
  replace hY := Y.1
  suffices K29 : yy_fin X 279 (969, [some (.ref 1), some (.ref w), some (.ref 0), some (.int (Int32.ofInt fr)), some (.int (Int32.ofInt (t : Int))), some (.int (Int32.ofInt day)), some (zz_val k6), some (zz_val k7), some (.int (Int32.ofInt p8)), some (.ref k9), some (.int (Int32.ofInt s)), some (zz_val q11), some (.int (Int32.ofInt p12)), some (.ref q13), some (.ref q14), some (.int (Int32.ofInt 2)), some (zz_val q16), some (.int (Int32.ofInt n17)), some (.int (Int32.ofInt n18)), some (.int (Int32.ofInt v19)), some (.int (Int32.ofInt v20)), some (.int (Int32.ofInt m21)), some (.int (Int32.ofInt z22)), some (.int (Int32.ofInt b23)), none], [zz_val k7, .int (Int32.ofInt (s_99 (g0 541) t day 2 1))], h28) φ by cases k7 <;> exact yy_fin.steps (n := 1) rfl K29
  suffices J30 : ∀ v30 : Int, v30 = s_99 (g0 541) t day 2 1 → yy_fin X 279 (1000, [some (.ref 1), some (.ref w), some (.ref 0), some (.int (Int32.ofInt fr)), some (.int (Int32.ofInt (t : Int))), some (.int (Int32.ofInt day)), some (zz_val k6), some (zz_val k7), some (.int (Int32.ofInt p8)), some (.ref k9), some (.int (Int32.ofInt s)), some (zz_val q11), some (.int (Int32.ofInt p12)), some (.ref q13), some (.ref q14), some (.int (Int32.ofInt 2)), some (zz_val q16), some (.int (Int32.ofInt n17)), some (.int (Int32.ofInt n18)), some (.int (Int32.ofInt v19)), some (.int (Int32.ofInt v20)), some (.int (Int32.ofInt m21)), some (.int (Int32.ofInt z22)), some (.int (Int32.ofInt b23)), none], [.int (Int32.ofInt v30), .int (Int32.ofInt (s_99 (g0 541) t day 2 1))], h28) φ by
    rcases H7 with ⟨rfl, eo31⟩ | ⟨q31, u31, l31, rfl, eo31, R31⟩
    · refine yy_fin.steps (n := 3) (s' := (1000, [some (.ref 1), some (.ref w), some (.ref 0), some (.int (Int32.ofInt fr)), some (.int (Int32.ofInt (t : Int))), some (.int (Int32.ofInt day)), some (zz_val k6), some (.null), some (.int (Int32.ofInt p8)), some (.ref k9), some (.int (Int32.ofInt s)), some (zz_val q11), some (.int (Int32.ofInt p12)), some (.ref q13), some (.ref q14), some (.int (Int32.ofInt 2)), some (zz_val q16), some (.int (Int32.ofInt n17)), some (.int (Int32.ofInt n18)), some (.int (Int32.ofInt v19)), some (.int (Int32.ofInt v20)), some (.int (Int32.ofInt m21)), some (.int (Int32.ofInt z22)), some (.int (Int32.ofInt b23)), none], [.int (Int32.ofInt (-2)), .int (Int32.ofInt (s_99 (g0 541) t day 2 1))], h28)) rfl ?_
      exact J30 (-2) (by unfold s_99; rw [eo31])
    · have hb31 := hv_bnd2 F.2.2.2 ht eo31
      refine yy_fin.steps (n := 8) (s' := (986, [some (.ref 1), some (.ref w), some (.ref 0), some (.int (Int32.ofInt fr)), some (.int (Int32.ofInt (t : Int))), some (.int (Int32.ofInt day)), some (zz_val k6), some (.ref q31), some (.int (Int32.ofInt p8)), some (.ref k9), some (.int (Int32.ofInt s)), some (zz_val q11), some (.int (Int32.ofInt p12)), some (.ref q13), some (.ref q14), some (.int (Int32.ofInt 2)), some (zz_val q16), some (.int (Int32.ofInt n17)), some (.int (Int32.ofInt n18)), some (.int (Int32.ofInt v19)), some (.int (Int32.ofInt v20)), some (.int (Int32.ofInt m21)), some (.int (Int32.ofInt z22)), some (.int (Int32.ofInt b23)), none], [.int (((Int32.ofInt 3) * (Int32.ofInt 2)) + (Int32.ofInt 3)), .ref q31, .ref w, .int (Int32.ofInt (s_99 (g0 541) t day 2 1))], h28)) rfl ?_
      rw [yi_mul 3 2]
      rw [yi_add (3 * 2) 3]
      obtain ⟨fw32, oW32⟩ := C.ow
      refine yy_fin.cv (as := [.ref q31, .int (Int32.ofInt ((3 * 2) + 3))]) rfl rfl rfl oW32 (Nat.le_of_ble_eq_true rfl) (Nat.le_of_ble_eq_true rfl) (yc_hour F C R31 (hr := (3 * 2) + 3) (by omega) (by omega) (by omega)) ?_
      rintro v h9 ⟨rfl, e9⟩
      obtain rfl := e9.symm
      refine yy_fin.steps (n := 5) (s' := (996, [some (.ref 1), some (.ref w), some (.ref 0), some (.int (Int32.ofInt fr)), some (.int (Int32.ofInt (t : Int))), some (.int (Int32.ofInt day)), some (zz_val k6), some (.ref q31), some (.int (Int32.ofInt p8)), some (.ref k9), some (.int (Int32.ofInt s)), some (zz_val q11), some (.int (Int32.ofInt p12)), some (.ref q13), some (.ref q14), some (.int (Int32.ofInt 2)), some (zz_val q16), some (.int (Int32.ofInt n17)), some (.int (Int32.ofInt n18)), some (.int (Int32.ofInt v19)), some (.int (Int32.ofInt v20)), some (.int (Int32.ofInt m21)), some (.int (Int32.ofInt z22)), some (.int (Int32.ofInt b23)), none], [.int ((Int32.ofInt 3) * (Int32.ofInt 2)), .ref q31, .ref w, .int (Int32.ofInt (u31 + yk (g0 541 1).toInt (((3 * 2) + 3) * (g0 541 1).toInt) l31)), .int (Int32.ofInt (s_99 (g0 541) t day 2 1))], h28)) rfl ?_
      rw [yi_mul 3 2]
      obtain ⟨fw33, oW33⟩ := C.ow
      refine yy_fin.cv (as := [.ref q31, .int (Int32.ofInt (3 * 2))]) rfl rfl rfl oW33 (Nat.le_of_ble_eq_true rfl) (Nat.le_of_ble_eq_true rfl) (yc_hour F C R31 (hr := 3 * 2) (by omega) (by omega) (by omega)) ?_
      rintro v h9 ⟨rfl, e9⟩
      obtain rfl := e9.symm
      refine yy_fin.steps (n := 1) (s' := (1000, [some (.ref 1), some (.ref w), some (.ref 0), some (.int (Int32.ofInt fr)), some (.int (Int32.ofInt (t : Int))), some (.int (Int32.ofInt day)), some (zz_val k6), some (.ref q31), some (.int (Int32.ofInt p8)), some (.ref k9), some (.int (Int32.ofInt s)), some (zz_val q11), some (.int (Int32.ofInt p12)), some (.ref q13), some (.ref q14), some (.int (Int32.ofInt 2)), some (zz_val q16), some (.int (Int32.ofInt n17)), some (.int (Int32.ofInt n18)), some (.int (Int32.ofInt v19)), some (.int (Int32.ofInt v20)), some (.int (Int32.ofInt m21)), some (.int (Int32.ofInt z22)), some (.int (Int32.ofInt b23)), none], [.int ((Int32.ofInt (u31 + yk (g0 541 1).toInt (((3 * 2) + 3) * (g0 541 1).toInt) l31)) - (Int32.ofInt (u31 + yk (g0 541 1).toInt ((3 * 2) * (g0 541 1).toInt) l31))), .int (Int32.ofInt (s_99 (g0 541) t day 2 1))], h28)) rfl ?_
      rw [yi_sub (u31 + yk (g0 541 1).toInt (((3 * 2) + 3) * (g0 541 1).toInt) l31) (u31 + yk (g0 541 1).toInt ((3 * 2) * (g0 541 1).toInt) l31)]
      exact J30 ((u31 + yk (g0 541 1).toInt (((3 * 2) + 3) * (g0 541 1).toInt) l31) - (u31 + yk (g0 541 1).toInt ((3 * 2) * (g0 541 1).toInt) l31)) (by unfold s_99; rw [eo31]; show u31 + yk (g0 541 1).toInt ((3 * 2 + 3) * (g0 541 1).toInt) l31 - (u31 + yk (g0 541 1).toInt ((3 * 2) * (g0 541 1).toInt) l31) = s_h (3 * 2 + 3) l31 - s_h (3 * 2) l31; rw [yk_h (q := (g0 541 1).toInt) (x := 3 * 2 + 3) (l := l31) hq.1 (by omega) (by omega), yk_h (q := (g0 541 1).toInt) (x := 3 * 2) (l := l31) hq.1 (by omega) (by omega)]; omega)
  intro v30 ev30
  refine yy_fin.ic rfl (fun _ => ?_) (fun cz => absurd (y_ceq (congrArg Int32.ofInt ev30.symm)) cz)
  refine yy_fin.steps (n := 4) (s' := (919, [some (.ref 1), some (.ref w), some (.ref 0), some (.int (Int32.ofInt fr)), some (.int (Int32.ofInt (t : Int))), some (.int (Int32.ofInt day)), some (zz_val k6), some (zz_val k7), some (.int (Int32.ofInt p8)), some (.ref k9), some (.int (Int32.ofInt s)), some (zz_val q11), some (.int (Int32.ofInt p12)), some (.ref q13), some (.ref q14), some (.int ((Int32.ofInt 2) + (Int32.ofInt 1))), some (zz_val q16), some (.int (Int32.ofInt n17)), some (.int (Int32.ofInt n18)), some (.int (Int32.ofInt v19)), some (.int (Int32.ofInt v20)), some (.int (Int32.ofInt m21)), some (.int (Int32.ofInt z22)), some (.int (Int32.ofInt b23)), none], [.int (Int32.ofInt 4), .int ((Int32.ofInt 2) + (Int32.ofInt 1))], h28)) rfl ?_
  rw [show (Int32.ofInt 2) + (Int32.ofInt 1) = Int32.ofInt 3 from by decide]
  refine yy_fin.ic rfl (fun cK => absurd cK (by decide)) (fun cK => ?_)
  refine yy_fin.steps (n := 5) (s' := (930, [some (.ref 1), some (.ref w), some (.ref 0), some (.int (Int32.ofInt fr)), some (.int (Int32.ofInt (t : Int))), some (.int (Int32.ofInt day)), some (zz_val k6), some (zz_val k7), some (.int (Int32.ofInt p8)), some (.ref k9), some (.int (Int32.ofInt s)), some (zz_val q11), some (.int (Int32.ofInt p12)), some (.ref q13), some (.ref q14), some (.int (Int32.ofInt 3)), some (zz_val q16), some (.int (Int32.ofInt n17)), some (.int (Int32.ofInt n18)), some (.int (Int32.ofInt v19)), some (.int (Int32.ofInt v20)), some (.int (Int32.ofInt m21)), some (.int (Int32.ofInt z22)), some (.int (Int32.ofInt b23)), none], [.int (Int32.ofInt 0), .int (Int32.ofInt 3), .int (Int32.ofInt day), .int (Int32.ofInt (t : Int)), .ref 1], h28)) rfl ?_
  obtain ⟨g34, r34⟩ := qi_99 F C ht hd (k := 3) (i := 0) (by omega) (Or.inl rfl)
  obtain ⟨fs34, oo34⟩ := C.o
  refine yy_fin.cv (as := [.int (Int32.ofInt (t : Int)), .int (Int32.ofInt day), .int (Int32.ofInt 3), .int (Int32.ofInt 0)]) rfl rfl rfl oo34 (Nat.le_of_ble_eq_true rfl) (Nat.le_of_ble_eq_true rfl) r34 ?_
  rintro v h34 ⟨rfl, C, x34⟩
  replace H6 := H6.k x34
  replace H7 := H7.k x34
  replace Y := Y.tr x34 (fun _ _ e => e)
  replace hY := Y.1
  suffices K35 : yy_fin X 279 (935, [some (.ref 1), some (.ref w), some (.ref 0), some (.int (Int32.ofInt fr)), some (.int (Int32.ofInt (t : Int))), some (.int (Int32.ofInt day)), some (zz_val k6), some (zz_val k7), some (.int (Int32.ofInt p8)), some (.ref k9), some (.int (Int32.ofInt s)), some (zz_val q11), some (.int (Int32.ofInt p12)), some (.ref q13), some (.ref q14), some (.int (Int32.ofInt 3)), some (zz_val q16), some (.int (Int32.ofInt n17)), some (.int (Int32.ofInt n18)), some (.int (Int32.ofInt v19)), some (.int (Int32.ofInt v20)), some (.int (Int32.ofInt m21)), some (.int (Int32.ofInt z22)), some (.int (Int32.ofInt b23)), none], [zz_val k7, .int (Int32.ofInt (s_99 (g0 541) t day 3 0))], h34) φ by cases k7 <;> exact yy_fin.steps (n := 1) rfl K35
  suffices J36 : ∀ v36 : Int, v36 = s_99 (g0 541) t day 3 0 → yy_fin X 279 (953, [some (.ref 1), some (.ref w), some (.ref 0), some (.int (Int32.ofInt fr)), some (.int (Int32.ofInt (t : Int))), some (.int (Int32.ofInt day)), some (zz_val k6), some (zz_val k7), some (.int (Int32.ofInt p8)), some (.ref k9), some (.int (Int32.ofInt s)), some (zz_val q11), some (.int (Int32.ofInt p12)), some (.ref q13), some (.ref q14), some (.int (Int32.ofInt 3)), some (zz_val q16), some (.int (Int32.ofInt n17)), some (.int (Int32.ofInt n18)), some (.int (Int32.ofInt v19)), some (.int (Int32.ofInt v20)), some (.int (Int32.ofInt m21)), some (.int (Int32.ofInt z22)), some (.int (Int32.ofInt b23)), none], [.int (Int32.ofInt v36), .int (Int32.ofInt (s_99 (g0 541) t day 3 0))], h34) φ by
    rcases H7 with ⟨rfl, eo37⟩ | ⟨q37, u37, l37, rfl, eo37, R37⟩
    · refine yy_fin.steps (n := 3) (s' := (953, [some (.ref 1), some (.ref w), some (.ref 0), some (.int (Int32.ofInt fr)), some (.int (Int32.ofInt (t : Int))), some (.int (Int32.ofInt day)), some (zz_val k6), some (.null), some (.int (Int32.ofInt p8)), some (.ref k9), some (.int (Int32.ofInt s)), some (zz_val q11), some (.int (Int32.ofInt p12)), some (.ref q13), some (.ref q14), some (.int (Int32.ofInt 3)), some (zz_val q16), some (.int (Int32.ofInt n17)), some (.int (Int32.ofInt n18)), some (.int (Int32.ofInt v19)), some (.int (Int32.ofInt v20)), some (.int (Int32.ofInt m21)), some (.int (Int32.ofInt z22)), some (.int (Int32.ofInt b23)), none], [.int (Int32.ofInt (-2)), .int (Int32.ofInt (s_99 (g0 541) t day 3 0))], h34)) rfl ?_
      exact J36 (-2) (by unfold s_99; rw [eo37])
    · have hb37 := hv_bnd2 F.2.2.2 ht eo37
      refine yy_fin.steps (n := 6) (s' := (950, [some (.ref 1), some (.ref w), some (.ref 0), some (.int (Int32.ofInt fr)), some (.int (Int32.ofInt (t : Int))), some (.int (Int32.ofInt day)), some (zz_val k6), some (.ref q37), some (.int (Int32.ofInt p8)), some (.ref k9), some (.int (Int32.ofInt s)), some (zz_val q11), some (.int (Int32.ofInt p12)), some (.ref q13), some (.ref q14), some (.int (Int32.ofInt 3)), some (zz_val q16), some (.int (Int32.ofInt n17)), some (.int (Int32.ofInt n18)), some (.int (Int32.ofInt v19)), some (.int (Int32.ofInt v20)), some (.int (Int32.ofInt m21)), some (.int (Int32.ofInt z22)), some (.int (Int32.ofInt b23)), none], [.int ((Int32.ofInt 3) * (Int32.ofInt 3)), .ref q37, .ref w, .int (Int32.ofInt (s_99 (g0 541) t day 3 0))], h34)) rfl ?_
      rw [yi_mul 3 3]
      obtain ⟨fw38, oW38⟩ := C.ow
      refine yy_fin.cv (as := [.ref q37, .int (Int32.ofInt (3 * 3))]) rfl rfl rfl oW38 (Nat.le_of_ble_eq_true rfl) (Nat.le_of_ble_eq_true rfl) (yc_hour F C R37 (hr := 3 * 3) (by omega) (by omega) (by omega)) ?_
      rintro v h9 ⟨rfl, e9⟩
      obtain rfl := e9.symm
      exact J36 (u37 + yk (g0 541 1).toInt ((3 * 3) * (g0 541 1).toInt) l37) (by unfold s_99; rw [eo37]; show u37 + yk (g0 541 1).toInt ((3 * 3) * (g0 541 1).toInt) l37 = u37 + s_h (3 * 3) l37; rw [yk_h (q := (g0 541 1).toInt) (x := 3 * 3) (l := l37) hq.1 (by omega) (by omega)])
  intro v36 ev36
  refine yy_fin.ic rfl (fun cz => absurd (congrArg Int32.ofInt ev36.symm) (y_cne cz)) (fun _ => ?_)
  refine yy_fin.steps (n := 5) (s' := (964, [some (.ref 1), some (.ref w), some (.ref 0), some (.int (Int32.ofInt fr)), some (.int (Int32.ofInt (t : Int))), some (.int (Int32.ofInt day)), some (zz_val k6), some (zz_val k7), some (.int (Int32.ofInt p8)), some (.ref k9), some (.int (Int32.ofInt s)), some (zz_val q11), some (.int (Int32.ofInt p12)), some (.ref q13), some (.ref q14), some (.int (Int32.ofInt 3)), some (zz_val q16), some (.int (Int32.ofInt n17)), some (.int (Int32.ofInt n18)), some (.int (Int32.ofInt v19)), some (.int (Int32.ofInt v20)), some (.int (Int32.ofInt m21)), some (.int (Int32.ofInt z22)), some (.int (Int32.ofInt b23)), none], [.int (Int32.ofInt 1), .int (Int32.ofInt 3), .int (Int32.ofInt day), .int (Int32.ofInt (t : Int)), .ref 1], h34)) rfl ?_
  obtain ⟨g39, r39⟩ := qi_99 F C ht hd (k := 3) (i := 1) (by omega) (Or.inr rfl)
  obtain ⟨fs39, oo39⟩ := C.o
  refine yy_fin.cv (as := [.int (Int32.ofInt (t : Int)), .int (Int32.ofInt day), .int (Int32.ofInt 3), .int (Int32.ofInt 1)]) rfl rfl rfl oo39 (Nat.le_of_ble_eq_true rfl) (Nat.le_of_ble_eq_true rfl) r39 ?_
  rintro v h39 ⟨rfl, C, x39⟩
  replace H6 := H6.k x39
  replace H7 := H7.k x39
  replace Y := Y.tr x39 (fun _ _ e => e)
  replace hY := Y.1
  suffices K40 : yy_fin X 279 (969, [some (.ref 1), some (.ref w), some (.ref 0), some (.int (Int32.ofInt fr)), some (.int (Int32.ofInt (t : Int))), some (.int (Int32.ofInt day)), some (zz_val k6), some (zz_val k7), some (.int (Int32.ofInt p8)), some (.ref k9), some (.int (Int32.ofInt s)), some (zz_val q11), some (.int (Int32.ofInt p12)), some (.ref q13), some (.ref q14), some (.int (Int32.ofInt 3)), some (zz_val q16), some (.int (Int32.ofInt n17)), some (.int (Int32.ofInt n18)), some (.int (Int32.ofInt v19)), some (.int (Int32.ofInt v20)), some (.int (Int32.ofInt m21)), some (.int (Int32.ofInt z22)), some (.int (Int32.ofInt b23)), none], [zz_val k7, .int (Int32.ofInt (s_99 (g0 541) t day 3 1))], h39) φ by cases k7 <;> exact yy_fin.steps (n := 1) rfl K40
  suffices J41 : ∀ v41 : Int, v41 = s_99 (g0 541) t day 3 1 → yy_fin X 279 (1000, [some (.ref 1), some (.ref w), some (.ref 0), some (.int (Int32.ofInt fr)), some (.int (Int32.ofInt (t : Int))), some (.int (Int32.ofInt day)), some (zz_val k6), some (zz_val k7), some (.int (Int32.ofInt p8)), some (.ref k9), some (.int (Int32.ofInt s)), some (zz_val q11), some (.int (Int32.ofInt p12)), some (.ref q13), some (.ref q14), some (.int (Int32.ofInt 3)), some (zz_val q16), some (.int (Int32.ofInt n17)), some (.int (Int32.ofInt n18)), some (.int (Int32.ofInt v19)), some (.int (Int32.ofInt v20)), some (.int (Int32.ofInt m21)), some (.int (Int32.ofInt z22)), some (.int (Int32.ofInt b23)), none], [.int (Int32.ofInt v41), .int (Int32.ofInt (s_99 (g0 541) t day 3 1))], h39) φ by
    rcases H7 with ⟨rfl, eo42⟩ | ⟨q42, u42, l42, rfl, eo42, R42⟩
    · refine yy_fin.steps (n := 3) (s' := (1000, [some (.ref 1), some (.ref w), some (.ref 0), some (.int (Int32.ofInt fr)), some (.int (Int32.ofInt (t : Int))), some (.int (Int32.ofInt day)), some (zz_val k6), some (.null), some (.int (Int32.ofInt p8)), some (.ref k9), some (.int (Int32.ofInt s)), some (zz_val q11), some (.int (Int32.ofInt p12)), some (.ref q13), some (.ref q14), some (.int (Int32.ofInt 3)), some (zz_val q16), some (.int (Int32.ofInt n17)), some (.int (Int32.ofInt n18)), some (.int (Int32.ofInt v19)), some (.int (Int32.ofInt v20)), some (.int (Int32.ofInt m21)), some (.int (Int32.ofInt z22)), some (.int (Int32.ofInt b23)), none], [.int (Int32.ofInt (-2)), .int (Int32.ofInt (s_99 (g0 541) t day 3 1))], h39)) rfl ?_
      exact J41 (-2) (by unfold s_99; rw [eo42])
    · have hb42 := hv_bnd2 F.2.2.2 ht eo42
      refine yy_fin.steps (n := 8) (s' := (986, [some (.ref 1), some (.ref w), some (.ref 0), some (.int (Int32.ofInt fr)), some (.int (Int32.ofInt (t : Int))), some (.int (Int32.ofInt day)), some (zz_val k6), some (.ref q42), some (.int (Int32.ofInt p8)), some (.ref k9), some (.int (Int32.ofInt s)), some (zz_val q11), some (.int (Int32.ofInt p12)), some (.ref q13), some (.ref q14), some (.int (Int32.ofInt 3)), some (zz_val q16), some (.int (Int32.ofInt n17)), some (.int (Int32.ofInt n18)), some (.int (Int32.ofInt v19)), some (.int (Int32.ofInt v20)), some (.int (Int32.ofInt m21)), some (.int (Int32.ofInt z22)), some (.int (Int32.ofInt b23)), none], [.int (((Int32.ofInt 3) * (Int32.ofInt 3)) + (Int32.ofInt 3)), .ref q42, .ref w, .int (Int32.ofInt (s_99 (g0 541) t day 3 1))], h39)) rfl ?_
      rw [yi_mul 3 3]
      rw [yi_add (3 * 3) 3]
      obtain ⟨fw43, oW43⟩ := C.ow
      refine yy_fin.cv (as := [.ref q42, .int (Int32.ofInt ((3 * 3) + 3))]) rfl rfl rfl oW43 (Nat.le_of_ble_eq_true rfl) (Nat.le_of_ble_eq_true rfl) (yc_hour F C R42 (hr := (3 * 3) + 3) (by omega) (by omega) (by omega)) ?_
      rintro v h9 ⟨rfl, e9⟩
      obtain rfl := e9.symm
      refine yy_fin.steps (n := 5) (s' := (996, [some (.ref 1), some (.ref w), some (.ref 0), some (.int (Int32.ofInt fr)), some (.int (Int32.ofInt (t : Int))), some (.int (Int32.ofInt day)), some (zz_val k6), some (.ref q42), some (.int (Int32.ofInt p8)), some (.ref k9), some (.int (Int32.ofInt s)), some (zz_val q11), some (.int (Int32.ofInt p12)), some (.ref q13), some (.ref q14), some (.int (Int32.ofInt 3)), some (zz_val q16), some (.int (Int32.ofInt n17)), some (.int (Int32.ofInt n18)), some (.int (Int32.ofInt v19)), some (.int (Int32.ofInt v20)), some (.int (Int32.ofInt m21)), some (.int (Int32.ofInt z22)), some (.int (Int32.ofInt b23)), none], [.int ((Int32.ofInt 3) * (Int32.ofInt 3)), .ref q42, .ref w, .int (Int32.ofInt (u42 + yk (g0 541 1).toInt (((3 * 3) + 3) * (g0 541 1).toInt) l42)), .int (Int32.ofInt (s_99 (g0 541) t day 3 1))], h39)) rfl ?_
      rw [yi_mul 3 3]
      obtain ⟨fw44, oW44⟩ := C.ow
      refine yy_fin.cv (as := [.ref q42, .int (Int32.ofInt (3 * 3))]) rfl rfl rfl oW44 (Nat.le_of_ble_eq_true rfl) (Nat.le_of_ble_eq_true rfl) (yc_hour F C R42 (hr := 3 * 3) (by omega) (by omega) (by omega)) ?_
      rintro v h9 ⟨rfl, e9⟩
      obtain rfl := e9.symm
      refine yy_fin.steps (n := 1) (s' := (1000, [some (.ref 1), some (.ref w), some (.ref 0), some (.int (Int32.ofInt fr)), some (.int (Int32.ofInt (t : Int))), some (.int (Int32.ofInt day)), some (zz_val k6), some (.ref q42), some (.int (Int32.ofInt p8)), some (.ref k9), some (.int (Int32.ofInt s)), some (zz_val q11), some (.int (Int32.ofInt p12)), some (.ref q13), some (.ref q14), some (.int (Int32.ofInt 3)), some (zz_val q16), some (.int (Int32.ofInt n17)), some (.int (Int32.ofInt n18)), some (.int (Int32.ofInt v19)), some (.int (Int32.ofInt v20)), some (.int (Int32.ofInt m21)), some (.int (Int32.ofInt z22)), some (.int (Int32.ofInt b23)), none], [.int ((Int32.ofInt (u42 + yk (g0 541 1).toInt (((3 * 3) + 3) * (g0 541 1).toInt) l42)) - (Int32.ofInt (u42 + yk (g0 541 1).toInt ((3 * 3) * (g0 541 1).toInt) l42))), .int (Int32.ofInt (s_99 (g0 541) t day 3 1))], h39)) rfl ?_
      rw [yi_sub (u42 + yk (g0 541 1).toInt (((3 * 3) + 3) * (g0 541 1).toInt) l42) (u42 + yk (g0 541 1).toInt ((3 * 3) * (g0 541 1).toInt) l42)]
      exact J41 ((u42 + yk (g0 541 1).toInt (((3 * 3) + 3) * (g0 541 1).toInt) l42) - (u42 + yk (g0 541 1).toInt ((3 * 3) * (g0 541 1).toInt) l42)) (by unfold s_99; rw [eo42]; show u42 + yk (g0 541 1).toInt ((3 * 3 + 3) * (g0 541 1).toInt) l42 - (u42 + yk (g0 541 1).toInt ((3 * 3) * (g0 541 1).toInt) l42) = s_h (3 * 3 + 3) l42 - s_h (3 * 3) l42; rw [yk_h (q := (g0 541 1).toInt) (x := 3 * 3 + 3) (l := l42) hq.1 (by omega) (by omega), yk_h (q := (g0 541 1).toInt) (x := 3 * 3) (l := l42) hq.1 (by omega) (by omega)]; omega)
  intro v41 ev41
  refine yy_fin.ic rfl (fun _ => ?_) (fun cz => absurd (y_ceq (congrArg Int32.ofInt ev41.symm)) cz)
  refine yy_fin.steps (n := 4) (s' := (919, [some (.ref 1), some (.ref w), some (.ref 0), some (.int (Int32.ofInt fr)), some (.int (Int32.ofInt (t : Int))), some (.int (Int32.ofInt day)), some (zz_val k6), some (zz_val k7), some (.int (Int32.ofInt p8)), some (.ref k9), some (.int (Int32.ofInt s)), some (zz_val q11), some (.int (Int32.ofInt p12)), some (.ref q13), some (.ref q14), some (.int ((Int32.ofInt 3) + (Int32.ofInt 1))), some (zz_val q16), some (.int (Int32.ofInt n17)), some (.int (Int32.ofInt n18)), some (.int (Int32.ofInt v19)), some (.int (Int32.ofInt v20)), some (.int (Int32.ofInt m21)), some (.int (Int32.ofInt z22)), some (.int (Int32.ofInt b23)), none], [.int (Int32.ofInt 4), .int ((Int32.ofInt 3) + (Int32.ofInt 1))], h39)) rfl ?_
  rw [show (Int32.ofInt 3) + (Int32.ofInt 1) = Int32.ofInt 4 from by decide]
  refine yy_fin.ic rfl (fun cK => ?_) (fun cK => absurd (by decide) cK)
  exact kk _ _ _ C (Y.le (by omega) (by omega)) H6
theorem y_ppq {q l s : Int} (hq : 1 ≤ q ∧ q ≤ 3600) (hl : 1 ≤ l) (hs : 0 ≤ s ∧ s ≤ l) : s * 12 * q / l / q = s * 12 / l := by
  rw [Int.ediv_ediv_of_nonneg (by omega)]
  have e : s * 12 * q / (l * q) = s * 12 / l := Int.mul_ediv_mul_of_pos_left _ _ (by omega)
  exact e
theorem yl_d7 (F : yCf own w lst g0) (ht : (t : Int) < (g0 541 0).toInt) (hd : 0 ≤ day ∧ day ≤ 35999) (hX : X.1 = some (L, xs)) (hL : L ≤ 100000) (hfr : 0 ≤ fr ∧ fr ≤ 900000) (hs : 0 ≤ s ∧ s ≤ 86399) (C : yCx own w lst g0 h g) (hB : h.1.1 + 200 < yy_B) {k6 k7 : Option Nat} (H6 : yHr h w k6 (hv_t (g0 541) t day 0)) {p8 p12 : Int} {k9 q13 q14 q15 q16 : Nat} {q11 : Option Nat} {n17 n18 v19 v20 m21 z22 b23 : Int} (kk : ∀ h' g', yCx own w lst g0 h' g' → yx (yAk w) 20 60 h h' → φ (some (.int (Int32.ofInt 1))) h') : yy_fin X 279 (1345, [some (.ref 1), some (.ref w), some (.ref 0), some (.int (Int32.ofInt fr)), some (.int (Int32.ofInt (t : Int))), some (.int (Int32.ofInt day)), some (zz_val k6), some (zz_val k7), some (.int (Int32.ofInt p8)), some (.ref k9), some (.int (Int32.ofInt s)), some (zz_val q11), some (.int (Int32.ofInt p12)), some (.ref q13), some (.ref q14), some (.ref q15), some (.ref q16), some (.int (Int32.ofInt n17)), some (.int (Int32.ofInt n18)), some (.int (Int32.ofInt v19)), some (.int (Int32.ofInt v20)), some (.int (Int32.ofInt m21)), some (.int (Int32.ofInt z22)), some (.int (Int32.ofInt b23)), none], [], h) φ := by
  have n4 := F.2.2.2.1
  have hq := F.2.2.2.2.1
  have Y : yx (yAk w) 0 0 h h := yx.rf
  have hY := Y.1
  have hg := C.2.1.2
  refine yy_fin.steps (n := 4) (s' := (1350, [some (.ref 1), some (.ref w), some (.ref 0), some (.int (Int32.ofInt fr)), some (.int (Int32.ofInt (t : Int))), some (.int (Int32.ofInt day)), some (zz_val k6), some (zz_val k7), some (.int (Int32.ofInt p8)), some (.ref k9), some (.int (Int32.ofInt s)), some (zz_val q11), some (.int (Int32.ofInt p12)), some (.ref q13), some (.ref q14), some (.ref q15), some (.ref q16), some (.int (Int32.ofInt n17)), some (.int (Int32.ofInt n18)), some (.int (Int32.ofInt v19)), some (.int (Int32.ofInt v20)), some (.int (Int32.ofInt m21)), some (.int (Int32.ofInt z22)), some (.int (Int32.ofInt b23)), none], [.int ((Int32.ofInt fr) + (Int32.ofInt 6)), .ref 0], h)) rfl ?_
  rw [yi_add fr 6]
  refine yy_fin.calls (as := [.ref 0, .int (Int32.ofInt (fr + 6))]) rfl (by decide) rfl rfl (Nat.le_of_ble_eq_true rfl) (Nat.le_of_ble_eq_true rfl) (yl_pick hX hL (k := fr + 6) (by omega)) ?_
  rintro v h9 ⟨y21, rfl, ay21, by21, e9⟩
  obtain rfl := e9.symm
  refine yy_fin.steps (n := 1) (s' := (1356, [some (.ref 1), some (.ref w), some (.ref 0), some (.int (Int32.ofInt fr)), some (.int (Int32.ofInt (t : Int))), some (.int (Int32.ofInt day)), some (zz_val k6), some (zz_val k7), some (.int (Int32.ofInt p8)), some (.ref k9), some (.int (Int32.ofInt s)), some (zz_val q11), some (.int (Int32.ofInt p12)), some (.ref q13), some (.ref q14), some (.ref q15), some (.ref q16), some (.int (Int32.ofInt n17)), some (.int (Int32.ofInt n18)), some (.int (Int32.ofInt v19)), some (.int (Int32.ofInt v20)), some (.int (Int32.ofInt m21)), some (.int (Int32.ofInt z22)), some (.int (Int32.ofInt b23)), none], [.int (Int32.ofInt 720), .int (Int32.ofInt y21)], h)) rfl ?_
  refine yy_fin.rm rfl (by decide) ?_
  rw [yi_rem (a := y21) (b := 720) (by omega) (by omega)]
  obtain ⟨o, eo⟩ : ∃ z, z = y21 % 720 := ⟨_, rfl⟩
  rw [← eo]
  have ho : 0 ≤ o ∧ o ≤ 719 := by omega
  refine yy_fin.steps (n := 5) (s' := (1365, [some (.ref 1), some (.ref w), some (.ref 0), some (.int (Int32.ofInt fr)), some (.int (Int32.ofInt (t : Int))), some (.int (Int32.ofInt day)), some (zz_val k6), some (zz_val k7), some (.int (Int32.ofInt p8)), some (.ref k9), some (.int (Int32.ofInt s)), some (zz_val q11), some (.int (Int32.ofInt p12)), some (.ref q13), some (.ref q14), some (.ref q15), some (.ref q16), some (.int (Int32.ofInt n17)), some (.int (Int32.ofInt n18)), some (.int (Int32.ofInt v19)), some (.int (Int32.ofInt v20)), some (.int (Int32.ofInt o)), some (.int (Int32.ofInt z22)), some (.int (Int32.ofInt b23)), none], [.int (Int32.ofInt 0), .int (Int32.ofInt o), .int (Int32.ofInt (t : Int)), .ref w], h)) rfl ?_
  obtain ⟨fw1, oW1⟩ := C.ow
  refine yy_fin.cv (as := [.int (Int32.ofInt (t : Int)), .int (Int32.ofInt o), .int (Int32.ofInt 0)]) rfl rfl rfl oW1 (Nat.le_of_ble_eq_true rfl) (Nat.le_of_ble_eq_true rfl) (yc_half F C ht (day := o) (half := 0) (by omega) (Or.inl rfl) (by omega)) ?_
  rintro v h1 ⟨C, x1, z1⟩
  replace H6 := H6.k x1
  replace Y := Y.tr x1 (fun _ _ e => e)
  replace hY := Y.1
  have H22 : ∃ q, v = some (zz_val q) ∧ yHr h1 w q (hv_t (g0 541) t o 0) := by
    cases eo : hv_t (g0 541) t o 0 with
    | none => rw [eo] at z1; exact ⟨none, z1, Or.inl ⟨rfl, rfl⟩⟩
    | some p => obtain ⟨u, l⟩ := p; rw [eo] at z1; obtain ⟨q, z1, z2⟩ := z1; exact ⟨some q, z1, Or.inr ⟨q, u, l, rfl, rfl, z2⟩⟩
  obtain ⟨k22, rfl, H22⟩ := H22
  suffices K2 : yy_fin X 279 (1370, [some (.ref 1), some (.ref w), some (.ref 0), some (.int (Int32.ofInt fr)), some (.int (Int32.ofInt (t : Int))), some (.int (Int32.ofInt day)), some (zz_val k6), some (zz_val k7), some (.int (Int32.ofInt p8)), some (.ref k9), some (.int (Int32.ofInt s)), some (zz_val q11), some (.int (Int32.ofInt p12)), some (.ref q13), some (.ref q14), some (.ref q15), some (.ref q16), some (.int (Int32.ofInt n17)), some (.int (Int32.ofInt n18)), some (.int (Int32.ofInt v19)), some (.int (Int32.ofInt v20)), some (.int (Int32.ofInt o)), some (zz_val k22), some (.int (Int32.ofInt b23)), none], [], h1) φ by cases k22 <;> exact yy_fin.steps (n := 1) rfl K2
  suffices K3 : yy_fin X 279 (1372, [some (.ref 1), some (.ref w), some (.ref 0), some (.int (Int32.ofInt fr)), some (.int (Int32.ofInt (t : Int))), some (.int (Int32.ofInt day)), some (zz_val k6), some (zz_val k7), some (.int (Int32.ofInt p8)), some (.ref k9), some (.int (Int32.ofInt s)), some (zz_val q11), some (.int (Int32.ofInt p12)), some (.ref q13), some (.ref q14), some (.ref q15), some (.ref q16), some (.int (Int32.ofInt n17)), some (.int (Int32.ofInt n18)), some (.int (Int32.ofInt v19)), some (.int (Int32.ofInt v20)), some (.int (Int32.ofInt o)), some (zz_val k22), some (.int (Int32.ofInt b23)), none], [zz_val k6], h1) φ by cases k6 <;> exact yy_fin.steps (n := 1) rfl K3
  suffices J4 : ∀ v4 : Int, ((v4 = 1 ∧ (hv_t (g0 541) t day 0 = none ∨ hv_t (g0 541) t o 0 = none ∨ ∃ u2 l2, hv_t (g0 541) t o 0 = some (u2, l2) ∧ ¬ (u2 ≤ s ∧ s < u2 + l2))) ∨ (v4 = 0 ∧ ∃ q6 u l q2 u2 l2, k6 = some q6 ∧ k22 = some q2 ∧ hv_t (g0 541) t day 0 = some (u, l) ∧ hv_t (g0 541) t o 0 = some (u2, l2) ∧ (u2 ≤ s ∧ s < u2 + l2))) → yy_fin X 279 (1403, [some (.ref 1), some (.ref w), some (.ref 0), some (.int (Int32.ofInt fr)), some (.int (Int32.ofInt (t : Int))), some (.int (Int32.ofInt day)), some (zz_val k6), some (zz_val k7), some (.int (Int32.ofInt p8)), some (.ref k9), some (.int (Int32.ofInt s)), some (zz_val q11), some (.int (Int32.ofInt p12)), some (.ref q13), some (.ref q14), some (.ref q15), some (.ref q16), some (.int (Int32.ofInt n17)), some (.int (Int32.ofInt n18)), some (.int (Int32.ofInt v19)), some (.int (Int32.ofInt v20)), some (.int (Int32.ofInt o)), some (zz_val k22), some (.int (Int32.ofInt b23)), none], [.int (Int32.ofInt v4)], h1) φ by
    rcases H6 with ⟨rfl, eo5⟩ | ⟨q5, u5, l5, rfl, eo5, R5⟩
    · refine yy_fin.steps (n := 3) (s' := (1403, [some (.ref 1), some (.ref w), some (.ref 0), some (.int (Int32.ofInt fr)), some (.int (Int32.ofInt (t : Int))), some (.int (Int32.ofInt day)), some (.null), some (zz_val k7), some (.int (Int32.ofInt p8)), some (.ref k9), some (.int (Int32.ofInt s)), some (zz_val q11), some (.int (Int32.ofInt p12)), some (.ref q13), some (.ref q14), some (.ref q15), some (.ref q16), some (.int (Int32.ofInt n17)), some (.int (Int32.ofInt n18)), some (.int (Int32.ofInt v19)), some (.int (Int32.ofInt v20)), some (.int (Int32.ofInt o)), some (zz_val k22), some (.int (Int32.ofInt b23)), none], [.int (Int32.ofInt 1)], h1)) rfl ?_
      exact J4 (1) (Or.inl ⟨rfl, Or.inl eo5⟩)
    · have hb5 := hv_bnd2 F.2.2.2 ht eo5
      refine yy_fin.steps (n := 1) (s' := (1375, [some (.ref 1), some (.ref w), some (.ref 0), some (.int (Int32.ofInt fr)), some (.int (Int32.ofInt (t : Int))), some (.int (Int32.ofInt day)), some (.ref q5), some (zz_val k7), some (.int (Int32.ofInt p8)), some (.ref k9), some (.int (Int32.ofInt s)), some (zz_val q11), some (.int (Int32.ofInt p12)), some (.ref q13), some (.ref q14), some (.ref q15), some (.ref q16), some (.int (Int32.ofInt n17)), some (.int (Int32.ofInt n18)), some (.int (Int32.ofInt v19)), some (.int (Int32.ofInt v20)), some (.int (Int32.ofInt o)), some (zz_val k22), some (.int (Int32.ofInt b23)), none], [], h1)) rfl ?_
      suffices K6 : yy_fin X 279 (1377, [some (.ref 1), some (.ref w), some (.ref 0), some (.int (Int32.ofInt fr)), some (.int (Int32.ofInt (t : Int))), some (.int (Int32.ofInt day)), some (.ref q5), some (zz_val k7), some (.int (Int32.ofInt p8)), some (.ref k9), some (.int (Int32.ofInt s)), some (zz_val q11), some (.int (Int32.ofInt p12)), some (.ref q13), some (.ref q14), some (.ref q15), some (.ref q16), some (.int (Int32.ofInt n17)), some (.int (Int32.ofInt n18)), some (.int (Int32.ofInt v19)), some (.int (Int32.ofInt v20)), some (.int (Int32.ofInt o)), some (zz_val k22), some (.int (Int32.ofInt b23)), none], [zz_val k22], h1) φ by cases k22 <;> exact yy_fin.steps (n := 1) rfl K6
      rcases H22 with ⟨rfl, eo7⟩ | ⟨q7, u7, l7, rfl, eo7, R7⟩
      · refine yy_fin.steps (n := 3) (s' := (1403, [some (.ref 1), some (.ref w), some (.ref 0), some (.int (Int32.ofInt fr)), some (.int (Int32.ofInt (t : Int))), some (.int (Int32.ofInt day)), some (.ref q5), some (zz_val k7), some (.int (Int32.ofInt p8)), some (.ref k9), some (.int (Int32.ofInt s)), some (zz_val q11), some (.int (Int32.ofInt p12)), some (.ref q13), some (.ref q14), some (.ref q15), some (.ref q16), some (.int (Int32.ofInt n17)), some (.int (Int32.ofInt n18)), some (.int (Int32.ofInt v19)), some (.int (Int32.ofInt v20)), some (.int (Int32.ofInt o)), some (.null), some (.int (Int32.ofInt b23)), none], [.int (Int32.ofInt 1)], h1)) rfl ?_
        exact J4 (1) (Or.inl ⟨rfl, Or.inr (Or.inl eo7)⟩)
      · have hb7 := hv_bnd2 F.2.2.2 ht eo7
        refine yy_fin.steps (n := 4) (s' := (1385, [some (.ref 1), some (.ref w), some (.ref 0), some (.int (Int32.ofInt fr)), some (.int (Int32.ofInt (t : Int))), some (.int (Int32.ofInt day)), some (.ref q5), some (zz_val k7), some (.int (Int32.ofInt p8)), some (.ref k9), some (.int (Int32.ofInt s)), some (zz_val q11), some (.int (Int32.ofInt p12)), some (.ref q13), some (.ref q14), some (.ref q15), some (.ref q16), some (.int (Int32.ofInt n17)), some (.int (Int32.ofInt n18)), some (.int (Int32.ofInt v19)), some (.int (Int32.ofInt v20)), some (.int (Int32.ofInt o)), some (.ref q7), some (.int (Int32.ofInt b23)), none], [.int (Int32.ofInt 0), .ref q7, .int (Int32.ofInt s)], h1)) rfl ?_
        refine yy_fin.lp (j := 0) rfl R7.2 rfl (by decide) rfl ?_
        refine yy_fin.ic rfl (fun c8 => ?_) (fun c8 => ?_)
        · have c8 := (yi_c_lt (a := s) (b := u7) (by omega) (by omega)).mp c8
          refine yy_fin.steps (n := 2) (s' := (1403, [some (.ref 1), some (.ref w), some (.ref 0), some (.int (Int32.ofInt fr)), some (.int (Int32.ofInt (t : Int))), some (.int (Int32.ofInt day)), some (.ref q5), some (zz_val k7), some (.int (Int32.ofInt p8)), some (.ref k9), some (.int (Int32.ofInt s)), some (zz_val q11), some (.int (Int32.ofInt p12)), some (.ref q13), some (.ref q14), some (.ref q15), some (.ref q16), some (.int (Int32.ofInt n17)), some (.int (Int32.ofInt n18)), some (.int (Int32.ofInt v19)), some (.int (Int32.ofInt v20)), some (.int (Int32.ofInt o)), some (.ref q7), some (.int (Int32.ofInt b23)), none], [.int (Int32.ofInt 1)], h1)) rfl ?_
          exact J4 (1) (Or.inl ⟨rfl, Or.inr (Or.inr ⟨_, _, eo7, by omega⟩)⟩)
        · have c8 := mt (yi_c_lt (a := s) (b := u7) (by omega) (by omega)).mpr c8
          refine yy_fin.steps (n := 3) (s' := (1394, [some (.ref 1), some (.ref w), some (.ref 0), some (.int (Int32.ofInt fr)), some (.int (Int32.ofInt (t : Int))), some (.int (Int32.ofInt day)), some (.ref q5), some (zz_val k7), some (.int (Int32.ofInt p8)), some (.ref k9), some (.int (Int32.ofInt s)), some (zz_val q11), some (.int (Int32.ofInt p12)), some (.ref q13), some (.ref q14), some (.ref q15), some (.ref q16), some (.int (Int32.ofInt n17)), some (.int (Int32.ofInt n18)), some (.int (Int32.ofInt v19)), some (.int (Int32.ofInt v20)), some (.int (Int32.ofInt o)), some (.ref q7), some (.int (Int32.ofInt b23)), none], [.int (Int32.ofInt 1), .ref q7, .int (Int32.ofInt s)], h1)) rfl ?_
          refine yy_fin.lp (j := 1) rfl R7.2 rfl (by decide) rfl ?_
          refine yy_fin.ic rfl (fun c9 => ?_) (fun c9 => ?_)
          · have c9 := (yi_c_lt (a := s) (b := u7 + l7) (by omega) (by omega)).mp c9
            refine yy_fin.steps (n := 1) (s' := (1403, [some (.ref 1), some (.ref w), some (.ref 0), some (.int (Int32.ofInt fr)), some (.int (Int32.ofInt (t : Int))), some (.int (Int32.ofInt day)), some (.ref q5), some (zz_val k7), some (.int (Int32.ofInt p8)), some (.ref k9), some (.int (Int32.ofInt s)), some (zz_val q11), some (.int (Int32.ofInt p12)), some (.ref q13), some (.ref q14), some (.ref q15), some (.ref q16), some (.int (Int32.ofInt n17)), some (.int (Int32.ofInt n18)), some (.int (Int32.ofInt v19)), some (.int (Int32.ofInt v20)), some (.int (Int32.ofInt o)), some (.ref q7), some (.int (Int32.ofInt b23)), none], [.int (Int32.ofInt 0)], h1)) rfl ?_
            exact J4 (0) (Or.inr ⟨rfl, _, _, _, _, _, _, rfl, rfl, eo5, eo7, by omega⟩)
          · have c9 := mt (yi_c_lt (a := s) (b := u7 + l7) (by omega) (by omega)).mpr c9
            refine yy_fin.steps (n := 2) (s' := (1403, [some (.ref 1), some (.ref w), some (.ref 0), some (.int (Int32.ofInt fr)), some (.int (Int32.ofInt (t : Int))), some (.int (Int32.ofInt day)), some (.ref q5), some (zz_val k7), some (.int (Int32.ofInt p8)), some (.ref k9), some (.int (Int32.ofInt s)), some (zz_val q11), some (.int (Int32.ofInt p12)), some (.ref q13), some (.ref q14), some (.ref q15), some (.ref q16), some (.int (Int32.ofInt n17)), some (.int (Int32.ofInt n18)), some (.int (Int32.ofInt v19)), some (.int (Int32.ofInt v20)), some (.int (Int32.ofInt o)), some (.ref q7), some (.int (Int32.ofInt b23)), none], [.int (Int32.ofInt 1)], h1)) rfl ?_
            exact J4 (1) (Or.inl ⟨rfl, Or.inr (Or.inr ⟨_, _, eo7, by omega⟩)⟩)
  intro v4 no4
  rcases no4 with ⟨rfl, no⟩ | ⟨rfl, q6, u, l, q2, u2, l2, rfl, rfl, e6, e2, hu⟩
  · have s0 : ∀ k, s_21 (g0 541) t day o s k = -100 := fun k => by
      unfold s_21
      rcases no with e | e | ⟨u2, l2, e, hu⟩
      · rw [e]
      · rw [e]; cases hv_t (g0 541) t day 0 <;> rfl
      · rw [e]; cases hv_t (g0 541) t day 0 with
        | none => rfl
        | some p => exact if_pos hu
    suffices K10 : yy_fin X 279 (1405, [some (.ref 1), some (.ref w), some (.ref 0), some (.int (Int32.ofInt fr)), some (.int (Int32.ofInt (t : Int))), some (.int (Int32.ofInt day)), some (zz_val k6), some (zz_val k7), some (.int (Int32.ofInt p8)), some (.ref k9), some (.int (Int32.ofInt s)), some (zz_val q11), some (.int (Int32.ofInt p12)), some (.ref q13), some (.ref q14), some (.ref q15), some (.ref q16), some (.int (Int32.ofInt n17)), some (.int (Int32.ofInt n18)), some (.int (Int32.ofInt v19)), some (.int (Int32.ofInt v20)), some (.int (Int32.ofInt o)), some (zz_val k22), some (.int (Int32.ofInt 1)), none], [], h1) φ by cases k22 <;> exact yy_fin.steps (n := 1) rfl K10
    refine yy_fin.steps (n := 1) (s' := (1407, [some (.ref 1), some (.ref w), some (.ref 0), some (.int (Int32.ofInt fr)), some (.int (Int32.ofInt (t : Int))), some (.int (Int32.ofInt day)), some (zz_val k6), some (zz_val k7), some (.int (Int32.ofInt p8)), some (.ref k9), some (.int (Int32.ofInt s)), some (zz_val q11), some (.int (Int32.ofInt p12)), some (.ref q13), some (.ref q14), some (.ref q15), some (.ref q16), some (.int (Int32.ofInt n17)), some (.int (Int32.ofInt n18)), some (.int (Int32.ofInt v19)), some (.int (Int32.ofInt v20)), some (.int (Int32.ofInt o)), some (zz_val k22), some (.int (Int32.ofInt 1)), none], [.int (Int32.ofInt 1)], h1)) rfl ?_
    refine yy_fin.if rfl (fun cK => absurd cK (by decide)) (fun cK => ?_)
    refine yy_fin.steps (n := 9) (s' := (1452, [some (.ref 1), some (.ref w), some (.ref 0), some (.int (Int32.ofInt fr)), some (.int (Int32.ofInt (t : Int))), some (.int (Int32.ofInt day)), some (zz_val k6), some (zz_val k7), some (.int (Int32.ofInt p8)), some (.ref k9), some (.int (Int32.ofInt s)), some (zz_val q11), some (.int (Int32.ofInt p12)), some (.ref q13), some (.ref q14), some (.ref q15), some (.ref q16), some (.int (Int32.ofInt n17)), some (.int (Int32.ofInt n18)), some (.int (Int32.ofInt v19)), some (.int (Int32.ofInt v20)), some (.int (Int32.ofInt o)), some (zz_val k22), some (.int (Int32.ofInt 1)), some (.int (Int32.ofInt (-100)))], [.int (Int32.ofInt 0), .int (Int32.ofInt s), .int (Int32.ofInt o), .int (Int32.ofInt day), .int (Int32.ofInt (t : Int)), .ref 1], h1)) rfl ?_
    obtain ⟨g11, r11⟩ := qi_120 F C ht hd (d2 := o) (s := s) (k := 0) (by omega) hs (Or.inl rfl)
    obtain ⟨fs11, oo11⟩ := C.o
    refine yy_fin.cv (as := [.int (Int32.ofInt (t : Int)), .int (Int32.ofInt day), .int (Int32.ofInt o), .int (Int32.ofInt s), .int (Int32.ofInt 0)]) rfl rfl rfl oo11 (Nat.le_of_ble_eq_true rfl) (Nat.le_of_ble_eq_true rfl) r11 ?_
    rintro v h11 ⟨rfl, C, x11⟩
    replace H6 := H6.k x11
    replace H22 := H22.k x11
    replace Y := Y.tr x11 (fun _ _ e => e)
    replace hY := Y.1
    refine yy_fin.steps (n := 1) (s' := (1457, [some (.ref 1), some (.ref w), some (.ref 0), some (.int (Int32.ofInt fr)), some (.int (Int32.ofInt (t : Int))), some (.int (Int32.ofInt day)), some (zz_val k6), some (zz_val k7), some (.int (Int32.ofInt p8)), some (.ref k9), some (.int (Int32.ofInt s)), some (zz_val q11), some (.int (Int32.ofInt p12)), some (.ref q13), some (.ref q14), some (.ref q15), some (.ref q16), some (.int (Int32.ofInt n17)), some (.int (Int32.ofInt n18)), some (.int (Int32.ofInt v19)), some (.int (Int32.ofInt v20)), some (.int (Int32.ofInt o)), some (zz_val k22), some (.int (Int32.ofInt 1)), some (.int (Int32.ofInt (-100)))], [.int (Int32.ofInt (-100)), .int (Int32.ofInt (s_21 (g0 541) t day o s 0))], h11)) rfl ?_
    refine yy_fin.ic rfl (fun cz => absurd (congrArg Int32.ofInt (s0 0)) (y_cne cz)) (fun _ => ?_)
    refine yy_fin.steps (n := 6) (s' := (1470, [some (.ref 1), some (.ref w), some (.ref 0), some (.int (Int32.ofInt fr)), some (.int (Int32.ofInt (t : Int))), some (.int (Int32.ofInt day)), some (zz_val k6), some (zz_val k7), some (.int (Int32.ofInt p8)), some (.ref k9), some (.int (Int32.ofInt s)), some (zz_val q11), some (.int (Int32.ofInt p12)), some (.ref q13), some (.ref q14), some (.ref q15), some (.ref q16), some (.int (Int32.ofInt n17)), some (.int (Int32.ofInt n18)), some (.int (Int32.ofInt v19)), some (.int (Int32.ofInt v20)), some (.int (Int32.ofInt o)), some (zz_val k22), some (.int (Int32.ofInt 1)), some (.int (Int32.ofInt (-100)))], [.int (Int32.ofInt 1), .int (Int32.ofInt s), .int (Int32.ofInt o), .int (Int32.ofInt day), .int (Int32.ofInt (t : Int)), .ref 1], h11)) rfl ?_
    obtain ⟨g12, r12⟩ := qi_120 F C ht hd (d2 := o) (s := s) (k := 1) (by omega) hs (Or.inr rfl)
    obtain ⟨fs12, oo12⟩ := C.o
    refine yy_fin.cv (as := [.int (Int32.ofInt (t : Int)), .int (Int32.ofInt day), .int (Int32.ofInt o), .int (Int32.ofInt s), .int (Int32.ofInt 1)]) rfl rfl rfl oo12 (Nat.le_of_ble_eq_true rfl) (Nat.le_of_ble_eq_true rfl) r12 ?_
    rintro v h12 ⟨rfl, C, x12⟩
    replace H6 := H6.k x12
    replace H22 := H22.k x12
    replace Y := Y.tr x12 (fun _ _ e => e)
    replace hY := Y.1
    refine yy_fin.steps (n := 1) (s' := (1475, [some (.ref 1), some (.ref w), some (.ref 0), some (.int (Int32.ofInt fr)), some (.int (Int32.ofInt (t : Int))), some (.int (Int32.ofInt day)), some (zz_val k6), some (zz_val k7), some (.int (Int32.ofInt p8)), some (.ref k9), some (.int (Int32.ofInt s)), some (zz_val q11), some (.int (Int32.ofInt p12)), some (.ref q13), some (.ref q14), some (.ref q15), some (.ref q16), some (.int (Int32.ofInt n17)), some (.int (Int32.ofInt n18)), some (.int (Int32.ofInt v19)), some (.int (Int32.ofInt v20)), some (.int (Int32.ofInt o)), some (zz_val k22), some (.int (Int32.ofInt 1)), some (.int (Int32.ofInt (-100)))], [.int (Int32.ofInt 1), .int (Int32.ofInt (s_21 (g0 541) t day o s 1))], h12)) rfl ?_
    refine yy_fin.if rfl (fun cK => absurd cK (by decide)) (fun cK => ?_)
    refine yy_fin.steps (n := 2) (s' := (1499, [some (.ref 1), some (.ref w), some (.ref 0), some (.int (Int32.ofInt fr)), some (.int (Int32.ofInt (t : Int))), some (.int (Int32.ofInt day)), some (zz_val k6), some (zz_val k7), some (.int (Int32.ofInt p8)), some (.ref k9), some (.int (Int32.ofInt s)), some (zz_val q11), some (.int (Int32.ofInt p12)), some (.ref q13), some (.ref q14), some (.ref q15), some (.ref q16), some (.int (Int32.ofInt n17)), some (.int (Int32.ofInt n18)), some (.int (Int32.ofInt v19)), some (.int (Int32.ofInt v20)), some (.int (Int32.ofInt o)), some (zz_val k22), some (.int (Int32.ofInt 1)), some (.int (Int32.ofInt (-100)))], [.int (Int32.ofInt (-100)), .int (Int32.ofInt (s_21 (g0 541) t day o s 1))], h12)) rfl ?_
    refine yy_fin.ic rfl (fun cz => absurd (congrArg Int32.ofInt (s0 1)) (y_cne cz)) (fun _ => ?_)
    refine yy_fin.steps (n := 2) (s' := (1507, [some (.ref 1), some (.ref w), some (.ref 0), some (.int (Int32.ofInt fr)), some (.int (Int32.ofInt (t : Int))), some (.int (Int32.ofInt day)), some (zz_val k6), some (zz_val k7), some (.int (Int32.ofInt p8)), some (.ref k9), some (.int (Int32.ofInt s)), some (zz_val q11), some (.int (Int32.ofInt p12)), some (.ref q13), some (.ref q14), some (.ref q15), some (.ref q16), some (.int (Int32.ofInt n17)), some (.int (Int32.ofInt n18)), some (.int (Int32.ofInt v19)), some (.int (Int32.ofInt v20)), some (.int (Int32.ofInt o)), some (zz_val k22), some (.int (Int32.ofInt 1)), some (.int (Int32.ofInt (-100)))], [.int (Int32.ofInt 1)], h12)) rfl ?_
    exact yy_fin.at (n := 1) rfl (kk _ _ C (Y.le (by omega) (by omega)))
  · have R6 : yRw h1 w q6 [Int32.ofInt u, Int32.ofInt (u + l)] := by
      rcases H6 with ⟨z, -⟩ | ⟨q9, u9, l9, z1, z2, z3⟩
      · cases z
      · cases z1; rw [e6] at z2; cases z2; exact z3
    have R2 : yRw h1 w q2 [Int32.ofInt u2, Int32.ofInt (u2 + l2)] := by
      rcases H22 with ⟨z, -⟩ | ⟨q9, u9, l9, z1, z2, z3⟩
      · cases z
      · cases z1; rw [e2] at z2; cases z2; exact z3
    have hb6 := hv_bnd2 F.2.2.2 ht e6
    have hb2 := hv_bnd2 F.2.2.2 ht e2
    have m0 : 0 ≤ (s - u2) * 12 / l := Int.ediv_nonneg (by omega) (by omega)
    have m1 : (s - u2) * 12 / l ≤ (s - u2) * 12 := Int.ediv_le_self _ (by omega)
    have s0 : s_21 (g0 541) t day o s 0 = min 12 ((s - u2) * 12 / l) := by
      unfold s_21; rw [e6, e2]; show (if ¬ (u2 ≤ s ∧ s < u2 + l2) then (-100 : Int) else (if 12 < (s - u2) * 12 / l then 12 else (s - u2) * 12 / l) - 0) = _; rw [if_neg (by omega)]; split <;> omega
    have s1 : s_21 (g0 541) t day o s 1 = min 12 ((s - u2) * 12 / l) - (s - u2) * 12 / l2 := by
      unfold s_21; rw [e6, e2]; show (if ¬ (u2 ≤ s ∧ s < u2 + l2) then (-100 : Int) else (if 12 < (s - u2) * 12 / l then 12 else (s - u2) * 12 / l) - (s - u2) * 12 / l2) = _; rw [if_neg (by omega)]; split <;> omega
    refine yy_fin.steps (n := 2) (s' := (1407, [some (.ref 1), some (.ref w), some (.ref 0), some (.int (Int32.ofInt fr)), some (.int (Int32.ofInt (t : Int))), some (.int (Int32.ofInt day)), some (.ref q6), some (zz_val k7), some (.int (Int32.ofInt p8)), some (.ref k9), some (.int (Int32.ofInt s)), some (zz_val q11), some (.int (Int32.ofInt p12)), some (.ref q13), some (.ref q14), some (.ref q15), some (.ref q16), some (.int (Int32.ofInt n17)), some (.int (Int32.ofInt n18)), some (.int (Int32.ofInt v19)), some (.int (Int32.ofInt v20)), some (.int (Int32.ofInt o)), some (.ref q2), some (.int (Int32.ofInt 0)), none], [.int (Int32.ofInt 0)], h1)) rfl ?_
    refine yy_fin.if rfl (fun cK => ?_) (fun cK => absurd (by decide) cK)
    refine yy_fin.steps (n := 4) (s' := (1422, [some (.ref 1), some (.ref w), some (.ref 0), some (.int (Int32.ofInt fr)), some (.int (Int32.ofInt (t : Int))), some (.int (Int32.ofInt day)), some (.ref q6), some (zz_val k7), some (.int (Int32.ofInt p8)), some (.ref k9), some (.int (Int32.ofInt s)), some (zz_val q11), some (.int (Int32.ofInt p12)), some (.ref q13), some (.ref q14), some (.ref q15), some (.ref q16), some (.int (Int32.ofInt n17)), some (.int (Int32.ofInt n18)), some (.int (Int32.ofInt v19)), some (.int (Int32.ofInt v20)), some (.int (Int32.ofInt o)), some (.ref q2), some (.int (Int32.ofInt 0)), none], [.int (Int32.ofInt 0), .ref q2, .int (Int32.ofInt s), .int (Int32.ofInt 12)], h1)) rfl ?_
    refine yy_fin.lp (j := 0) rfl R2.2 rfl (by decide) rfl ?_
    refine yy_fin.steps (n := 5) (s' := (1430, [some (.ref 1), some (.ref w), some (.ref 0), some (.int (Int32.ofInt fr)), some (.int (Int32.ofInt (t : Int))), some (.int (Int32.ofInt day)), some (.ref q6), some (zz_val k7), some (.int (Int32.ofInt p8)), some (.ref k9), some (.int (Int32.ofInt s)), some (zz_val q11), some (.int (Int32.ofInt p12)), some (.ref q13), some (.ref q14), some (.ref q15), some (.ref q16), some (.int (Int32.ofInt n17)), some (.int (Int32.ofInt n18)), some (.int (Int32.ofInt v19)), some (.int (Int32.ofInt v20)), some (.int (Int32.ofInt o)), some (.ref q2), some (.int (Int32.ofInt 0)), none], [.int (Int32.ofInt 1), .ref q6, .int (((Int32.ofInt s) - (Int32.ofInt u2)) * (Int32.ofInt 12)), .int (Int32.ofInt 12)], h1)) rfl ?_
    rw [yi_sub s u2]
    rw [yi_mul (s - u2) 12]
    refine yy_fin.lp (j := 1) rfl R6.2 rfl (by decide) rfl ?_
    refine yy_fin.steps (n := 2) (s' := (1434, [some (.ref 1), some (.ref w), some (.ref 0), some (.int (Int32.ofInt fr)), some (.int (Int32.ofInt (t : Int))), some (.int (Int32.ofInt day)), some (.ref q6), some (zz_val k7), some (.int (Int32.ofInt p8)), some (.ref k9), some (.int (Int32.ofInt s)), some (zz_val q11), some (.int (Int32.ofInt p12)), some (.ref q13), some (.ref q14), some (.ref q15), some (.ref q16), some (.int (Int32.ofInt n17)), some (.int (Int32.ofInt n18)), some (.int (Int32.ofInt v19)), some (.int (Int32.ofInt v20)), some (.int (Int32.ofInt o)), some (.ref q2), some (.int (Int32.ofInt 0)), none], [.int (Int32.ofInt 0), .ref q6, .int (Int32.ofInt (u + l)), .int (Int32.ofInt ((s - u2) * 12)), .int (Int32.ofInt 12)], h1)) rfl ?_
    refine yy_fin.lp (j := 0) rfl R6.2 rfl (by decide) rfl ?_
    refine yy_fin.steps (n := 1) (s' := (1436, [some (.ref 1), some (.ref w), some (.ref 0), some (.int (Int32.ofInt fr)), some (.int (Int32.ofInt (t : Int))), some (.int (Int32.ofInt day)), some (.ref q6), some (zz_val k7), some (.int (Int32.ofInt p8)), some (.ref k9), some (.int (Int32.ofInt s)), some (zz_val q11), some (.int (Int32.ofInt p12)), some (.ref q13), some (.ref q14), some (.ref q15), some (.ref q16), some (.int (Int32.ofInt n17)), some (.int (Int32.ofInt n18)), some (.int (Int32.ofInt v19)), some (.int (Int32.ofInt v20)), some (.int (Int32.ofInt o)), some (.ref q2), some (.int (Int32.ofInt 0)), none], [.int ((Int32.ofInt (u + l)) - (Int32.ofInt u)), .int (Int32.ofInt ((s - u2) * 12)), .int (Int32.ofInt 12)], h1)) rfl ?_
    rw [yi_sub (u + l) u]
    refine yy_fin.dv rfl (fun z => by have z := (yi_eq (a := (u + l) - u) (b := 0) (by omega) (by omega)).mp z; omega) ?_
    rw [yi_div (a := (s - u2) * 12) (b := (u + l) - u) (by omega) (by omega), show u + l - u = l by omega]
    refine yy_fin.steps (n := 8) (s' := (1452, [some (.ref 1), some (.ref w), some (.ref 0), some (.int (Int32.ofInt fr)), some (.int (Int32.ofInt (t : Int))), some (.int (Int32.ofInt day)), some (.ref q6), some (zz_val k7), some (.int (Int32.ofInt p8)), some (.ref k9), some (.int (Int32.ofInt s)), some (zz_val q11), some (.int (Int32.ofInt p12)), some (.ref q13), some (.ref q14), some (.ref q15), some (.ref q16), some (.int (Int32.ofInt n17)), some (.int (Int32.ofInt n18)), some (.int (Int32.ofInt v19)), some (.int (Int32.ofInt v20)), some (.int (Int32.ofInt o)), some (.ref q2), some (.int (Int32.ofInt 0)), some (.int (if (Int32.ofInt ((s - u2) * 12 / l)) < (Int32.ofInt 12) then (Int32.ofInt ((s - u2) * 12 / l)) else (Int32.ofInt 12)))], [.int (Int32.ofInt 0), .int (Int32.ofInt s), .int (Int32.ofInt o), .int (Int32.ofInt day), .int (Int32.ofInt (t : Int)), .ref 1], h1)) rfl ?_
    rw [yi_min (a := 12) (b := (s - u2) * 12 / l) (by omega) (by omega)]
    obtain ⟨g13, r13⟩ := qi_120 F C ht hd (d2 := o) (s := s) (k := 0) (by omega) hs (Or.inl rfl)
    obtain ⟨fs13, oo13⟩ := C.o
    refine yy_fin.cv (as := [.int (Int32.ofInt (t : Int)), .int (Int32.ofInt day), .int (Int32.ofInt o), .int (Int32.ofInt s), .int (Int32.ofInt 0)]) rfl rfl rfl oo13 (Nat.le_of_ble_eq_true rfl) (Nat.le_of_ble_eq_true rfl) r13 ?_
    rintro v h13 ⟨rfl, C, x13⟩
    replace R6 := R6.k x13
    replace R2 := R2.k x13
    replace Y := Y.tr x13 (fun _ _ e => e)
    replace hY := Y.1
    refine yy_fin.steps (n := 1) (s' := (1457, [some (.ref 1), some (.ref w), some (.ref 0), some (.int (Int32.ofInt fr)), some (.int (Int32.ofInt (t : Int))), some (.int (Int32.ofInt day)), some (.ref q6), some (zz_val k7), some (.int (Int32.ofInt p8)), some (.ref k9), some (.int (Int32.ofInt s)), some (zz_val q11), some (.int (Int32.ofInt p12)), some (.ref q13), some (.ref q14), some (.ref q15), some (.ref q16), some (.int (Int32.ofInt n17)), some (.int (Int32.ofInt n18)), some (.int (Int32.ofInt v19)), some (.int (Int32.ofInt v20)), some (.int (Int32.ofInt o)), some (.ref q2), some (.int (Int32.ofInt 0)), some (.int (Int32.ofInt (min 12 ((s - u2) * 12 / l))))], [.int (Int32.ofInt (min 12 ((s - u2) * 12 / l))), .int (Int32.ofInt (s_21 (g0 541) t day o s 0))], h13)) rfl ?_
    refine yy_fin.ic rfl (fun cz => absurd (congrArg Int32.ofInt s0) (y_cne cz)) (fun _ => ?_)
    refine yy_fin.steps (n := 6) (s' := (1470, [some (.ref 1), some (.ref w), some (.ref 0), some (.int (Int32.ofInt fr)), some (.int (Int32.ofInt (t : Int))), some (.int (Int32.ofInt day)), some (.ref q6), some (zz_val k7), some (.int (Int32.ofInt p8)), some (.ref k9), some (.int (Int32.ofInt s)), some (zz_val q11), some (.int (Int32.ofInt p12)), some (.ref q13), some (.ref q14), some (.ref q15), some (.ref q16), some (.int (Int32.ofInt n17)), some (.int (Int32.ofInt n18)), some (.int (Int32.ofInt v19)), some (.int (Int32.ofInt v20)), some (.int (Int32.ofInt o)), some (.ref q2), some (.int (Int32.ofInt 0)), some (.int (Int32.ofInt (min 12 ((s - u2) * 12 / l))))], [.int (Int32.ofInt 1), .int (Int32.ofInt s), .int (Int32.ofInt o), .int (Int32.ofInt day), .int (Int32.ofInt (t : Int)), .ref 1], h13)) rfl ?_
    obtain ⟨g14, r14⟩ := qi_120 F C ht hd (d2 := o) (s := s) (k := 1) (by omega) hs (Or.inr rfl)
    obtain ⟨fs14, oo14⟩ := C.o
    refine yy_fin.cv (as := [.int (Int32.ofInt (t : Int)), .int (Int32.ofInt day), .int (Int32.ofInt o), .int (Int32.ofInt s), .int (Int32.ofInt 1)]) rfl rfl rfl oo14 (Nat.le_of_ble_eq_true rfl) (Nat.le_of_ble_eq_true rfl) r14 ?_
    rintro v h14 ⟨rfl, C, x14⟩
    replace R6 := R6.k x14
    replace R2 := R2.k x14
    replace Y := Y.tr x14 (fun _ _ e => e)
    replace hY := Y.1
    refine yy_fin.steps (n := 1) (s' := (1475, [some (.ref 1), some (.ref w), some (.ref 0), some (.int (Int32.ofInt fr)), some (.int (Int32.ofInt (t : Int))), some (.int (Int32.ofInt day)), some (.ref q6), some (zz_val k7), some (.int (Int32.ofInt p8)), some (.ref k9), some (.int (Int32.ofInt s)), some (zz_val q11), some (.int (Int32.ofInt p12)), some (.ref q13), some (.ref q14), some (.ref q15), some (.ref q16), some (.int (Int32.ofInt n17)), some (.int (Int32.ofInt n18)), some (.int (Int32.ofInt v19)), some (.int (Int32.ofInt v20)), some (.int (Int32.ofInt o)), some (.ref q2), some (.int (Int32.ofInt 0)), some (.int (Int32.ofInt (min 12 ((s - u2) * 12 / l))))], [.int (Int32.ofInt 0), .int (Int32.ofInt (s_21 (g0 541) t day o s 1))], h14)) rfl ?_
    refine yy_fin.if rfl (fun cK => ?_) (fun cK => absurd (by decide) cK)
    refine yy_fin.steps (n := 4) (s' := (1490, [some (.ref 1), some (.ref w), some (.ref 0), some (.int (Int32.ofInt fr)), some (.int (Int32.ofInt (t : Int))), some (.int (Int32.ofInt day)), some (.ref q6), some (zz_val k7), some (.int (Int32.ofInt p8)), some (.ref k9), some (.int (Int32.ofInt s)), some (zz_val q11), some (.int (Int32.ofInt p12)), some (.ref q13), some (.ref q14), some (.ref q15), some (.ref q16), some (.int (Int32.ofInt n17)), some (.int (Int32.ofInt n18)), some (.int (Int32.ofInt v19)), some (.int (Int32.ofInt v20)), some (.int (Int32.ofInt o)), some (.ref q2), some (.int (Int32.ofInt 0)), some (.int (Int32.ofInt (min 12 ((s - u2) * 12 / l))))], [.int (Int32.ofInt s), .ref q2, .ref w, .int (Int32.ofInt (min 12 ((s - u2) * 12 / l))), .int (Int32.ofInt (s_21 (g0 541) t day o s 1))], h14)) rfl ?_
    obtain ⟨fw15, oW15⟩ := C.ow
    refine yy_fin.cv (as := [.ref q2, .int (Int32.ofInt s)]) rfl rfl rfl oW15 (Nat.le_of_ble_eq_true rfl) (Nat.le_of_ble_eq_true rfl) (yc_place F C R2 (s := s) (by omega) (by omega) (by omega)) ?_
    rintro v h9 ⟨rfl, e9⟩
    obtain rfl := e9.symm
    have hp9 := yp_b (q := (g0 541 1).toInt) (l := l2) (s := s - u2) hq (by omega) (by omega)
    have hpq := y_ppq (q := (g0 541 1).toInt) (l := l2) (s := s - u2) hq (by omega) (by omega)
    obtain ⟨pl, epl⟩ : ∃ pl, pl = (s - u2) * 12 * (g0 541 1).toInt / l2 := ⟨_, rfl⟩
    rw [← epl] at hp9 hpq ⊢
    refine yy_fin.steps (n := 1) (s' := (1494, [some (.ref 1), some (.ref w), some (.ref 0), some (.int (Int32.ofInt fr)), some (.int (Int32.ofInt (t : Int))), some (.int (Int32.ofInt day)), some (.ref q6), some (zz_val k7), some (.int (Int32.ofInt p8)), some (.ref k9), some (.int (Int32.ofInt s)), some (zz_val q11), some (.int (Int32.ofInt p12)), some (.ref q13), some (.ref q14), some (.ref q15), some (.ref q16), some (.int (Int32.ofInt n17)), some (.int (Int32.ofInt n18)), some (.int (Int32.ofInt v19)), some (.int (Int32.ofInt v20)), some (.int (Int32.ofInt o)), some (.ref q2), some (.int (Int32.ofInt 0)), some (.int (Int32.ofInt (min 12 ((s - u2) * 12 / l))))], [.ref w, .int (Int32.ofInt pl), .int (Int32.ofInt (min 12 ((s - u2) * 12 / l))), .int (Int32.ofInt (s_21 (g0 541) t day o s 1))], h14)) rfl ?_
    obtain ⟨o16, p16, b16, t16, oP16, eP16⟩ := C.wp
    refine yy_fin.fi rfl oP16 rfl eP16 ?_
    refine yy_fin.dv rfl (fun z => by have z := (yi_eq (a := (g0 541 1).toInt) (b := 0) (by omega) (by omega)).mp z; omega) ?_
    rw [yi_div (a := pl) (b := (g0 541 1).toInt) (by omega) (by omega)]
    refine yy_fin.steps (n := 1) (s' := (1499, [some (.ref 1), some (.ref w), some (.ref 0), some (.int (Int32.ofInt fr)), some (.int (Int32.ofInt (t : Int))), some (.int (Int32.ofInt day)), some (.ref q6), some (zz_val k7), some (.int (Int32.ofInt p8)), some (.ref k9), some (.int (Int32.ofInt s)), some (zz_val q11), some (.int (Int32.ofInt p12)), some (.ref q13), some (.ref q14), some (.ref q15), some (.ref q16), some (.int (Int32.ofInt n17)), some (.int (Int32.ofInt n18)), some (.int (Int32.ofInt v19)), some (.int (Int32.ofInt v20)), some (.int (Int32.ofInt o)), some (.ref q2), some (.int (Int32.ofInt 0)), some (.int (Int32.ofInt (min 12 ((s - u2) * 12 / l))))], [.int ((Int32.ofInt (min 12 ((s - u2) * 12 / l))) - (Int32.ofInt (pl / ((g0 541 1).toInt)))), .int (Int32.ofInt (s_21 (g0 541) t day o s 1))], h14)) rfl ?_
    rw [yi_sub (min 12 ((s - u2) * 12 / l)) (pl / ((g0 541 1).toInt))]
    refine yy_fin.ic rfl (fun cz => absurd (congrArg Int32.ofInt (s1.trans (by rw [hpq]))) (y_cne cz)) (fun _ => ?_)
    refine yy_fin.steps (n := 2) (s' := (1507, [some (.ref 1), some (.ref w), some (.ref 0), some (.int (Int32.ofInt fr)), some (.int (Int32.ofInt (t : Int))), some (.int (Int32.ofInt day)), some (.ref q6), some (zz_val k7), some (.int (Int32.ofInt p8)), some (.ref k9), some (.int (Int32.ofInt s)), some (zz_val q11), some (.int (Int32.ofInt p12)), some (.ref q13), some (.ref q14), some (.ref q15), some (.ref q16), some (.int (Int32.ofInt n17)), some (.int (Int32.ofInt n18)), some (.int (Int32.ofInt v19)), some (.int (Int32.ofInt v20)), some (.int (Int32.ofInt o)), some (.ref q2), some (.int (Int32.ofInt 0)), some (.int (Int32.ofInt (min 12 ((s - u2) * 12 / l))))], [.int (Int32.ofInt 1)], h14)) rfl ?_
    exact yy_fin.at (n := 1) rfl (kk _ _ C (Y.le (by omega) (by omega)))
end YD10
