/-! THE LAW ASKS OF ONE DAY (279), in pieces (printed by wip/p54/w10.py) -/
theorem hv_n1 {a : Nat → Int32} {t : Nat} {d : Int} (e : hv_t a t d 0 = none) : hv_t a t d 1 = none := by
  cases e1 : hv_t a t d 1 with
  | none => rfl
  | some p =>
    obtain ⟨b, l⟩ := p
    obtain ⟨⟨b0, l0, g1, -⟩, -⟩ := tw_H_1 e1
    have g1 : hv_t a t d 0 = some (b0, l0) := g1
    rw [e] at g1
    cases g1
theorem hv_pn {a : Nat → Int32} {t : Nat} {d : Int} (hd : 0 ≤ d ∧ d ≤ 35999) (e : hv_t a t d 0 = none) : pv_t a t (d % 360) ≠ -1 := fun z => by
  unfold hv_t tw_H at e
  unfold pv_t at z
  rw [if_neg (by omega), if_neg (by omega), if_neg (fun q => q z)] at e
  cases e
theorem s_11_e {a : Nat → Int32} {t : Nat} {day : Int} : s_11 a t day 0 = y_el (hv_t a t day 0) (-2) (fun u _ => u) ∧ s_11 a t day 1 = y_el (hv_t a t day 0) (-2) (fun u l => u + l) ∧ s_11 a t day 2 = y_el (hv_t a t day 0) (-2) (fun u l => u + l - u) ∧ s_11 a t day 3 = y_el (hv_t a t day 1) (-2) (fun u l => u + l - u) ∧ s_11 a t day 4 = pv_t a t (day % 360) ∧ s_11 a t day 5 = -1 := by
  refine ⟨?_, ?_, ?_, ?_, rfl, rfl⟩
  · show (match hv_t a t day 0 with | none => (-2 : Int) | some (u, l) => if (0 : Int) = 0 then u else if (0 : Int) = 1 then u + l else l) = _
    cases hv_t a t day 0 with
    | none => rfl
    | some p => rfl
  · show (match hv_t a t day 0 with | none => (-2 : Int) | some (u, l) => if (1 : Int) = 0 then u else if (1 : Int) = 1 then u + l else l) = _
    cases hv_t a t day 0 with
    | none => rfl
    | some p => rfl
  · show (match hv_t a t day 0 with | none => (-2 : Int) | some (u, l) => if (2 : Int) = 0 then u else if (2 : Int) = 1 then u + l else l) = _
    cases hv_t a t day 0 with
    | none => rfl
    | some p =>
      show p.2 = p.1 + p.2 - p.1
      omega
  · show (match hv_t a t day 1 with | none => (-2 : Int) | some (u, l) => if (3 : Int) = 0 then u else if (3 : Int) = 1 then u + l else l) = _
    cases hv_t a t day 1 with
    | none => rfl
    | some p =>
      show p.2 = p.1 + p.2 - p.1
      omega
def y_tn (o : Option (Int × Int × Int × Int)) (f : Int → Int → Int → Int → Int) : Int := match o with
  | none => -2
  | some (d, x, b, l) => f d x b l
theorem s_12_e {a : Nat → Int32} {t : Nat} {day s : Int} : s_12 a t day s 0 = y_tn (wt_T a t day s) (fun d _ _ _ => d) ∧ s_12 a t day s 1 = y_tn (wt_T a t day s) (fun _ x _ _ => x) ∧ s_12 a t day s 2 = y_tn (wt_T a t day s) (fun d _ b l => (s + 86400 * (day - d) - b) * 12 * (a 1).toInt / l / (a 1).toInt) ∧ s_12 a t day s 3 = y_tn (wt_T a t day s) (fun d _ b l => (s + 86400 * (day - d) - b) * 12 * (a 1).toInt / l % (a 1).toInt) ∧ s_12 a t day s 4 = y_tn (wt_T a t day s) (fun d _ b l => (s + 86400 * (day - d) - b) * 12 * (a 1).toInt / l) ∧ s_12 a t day s 5 = y_tn (wt_T a t day s) (fun d _ b _ => s + 86400 * (day - d) - b) := by
  unfold s_12
  cases wt_T a t day s with
  | none => exact ⟨rfl, rfl, rfl, rfl, rfl, rfl⟩
  | some p => exact ⟨rfl, rfl, rfl, rfl, rfl, rfl⟩
theorem s_95_e {a : Nat → Int32} {t : Nat} {day s : Int} : s_95 a t day s 0 = day ∧ s_95 a t day s 1 = y_el (hv_t a t day 0) (-2) (fun u _ => if s < u then day - 1 else day) ∧ s_95 a t day s 2 = y_el (hv_t a t day 0) (-2) (fun u l => if s < u + l then day else day + 1) ∧ s_95 a t day s 3 = (if s < 43200 then day - 1 else day) ∧ s_95 a t day s 4 = -1 := by
  unfold s_95
  cases hv_t a t day 0 with
  | none => exact ⟨rfl, rfl, rfl, rfl, rfl⟩
  | some p => exact ⟨rfl, rfl, rfl, rfl, rfl⟩
section YD10
variable {X : yy_X} {own : yOwn} {w t L : Nat} {xs : Nat → Int32} {lst : List (yBell × List fl_T)} {g0 g : aa_G} {h : zz_H} {day fr s : Int} {φ : Option Value → zz_H → Prop}
theorem yl_d1 (F : yCf own w lst g0) (ht : (t : Int) < (g0 541 0).toInt) (hd : 0 ≤ day ∧ day ≤ 35999) (C : yCx own w lst g0 h g) (hB : h.1.1 + 200 < yy_B) (kk : ∀ h' g' k6 k7 p8 k9 i10, yCx own w lst g0 h' g' → yx (yAk w) 20 60 h h' → yHr h' w k6 (hv_t (g0 541) t day 0) → yHr h' w k7 (hv_t (g0 541) t day 1) → yy_fin X 279 (172, [some (.ref 1), some (.ref w), some (.ref 0), some (.int (Int32.ofInt fr)), some (.int (Int32.ofInt (t : Int))), some (.int (Int32.ofInt day)), some (zz_val k6), some (zz_val k7), some (.int (Int32.ofInt p8)), some (.ref k9), some (.int (Int32.ofInt i10)), none, none, none, none, none, none, none, none, none, none, none, none, none, none], [], h') φ) : yy_fin X 279 (0, zz_in [.ref 1, .ref w, .ref 0, .int (Int32.ofInt fr), .int (Int32.ofInt (t : Int)), .int (Int32.ofInt day)] (zz_nl 279), [], h) φ := by
  have n4 := F.2.2.2.1
  have hq := F.2.2.2.2.1
  have Y : yx (yAk w) 0 0 h h := yx.rf
  have hY := Y.1
  have hg := C.2.1.2
  refine yy_fin.steps (n := 4) (s' := (6, [some (.ref 1), some (.ref w), some (.ref 0), some (.int (Int32.ofInt fr)), some (.int (Int32.ofInt (t : Int))), some (.int (Int32.ofInt day)), none, none, none, none, none, none, none, none, none, none, none, none, none, none, none, none, none, none, none], [.int (Int32.ofInt 0), .int (Int32.ofInt day), .int (Int32.ofInt (t : Int)), .ref w], h)) rfl ?_
  obtain ⟨fw101, oW101⟩ := C.ow
  refine yy_fin.cv (as := [.int (Int32.ofInt (t : Int)), .int (Int32.ofInt day), .int (Int32.ofInt 0)]) rfl rfl rfl oW101 (Nat.le_of_ble_eq_true rfl) (Nat.le_of_ble_eq_true rfl) (yc_half F C ht (day := day) (half := 0) (by omega) (Or.inl rfl) (by omega)) ?_
  rintro v h101 ⟨C, x101, z101⟩
  replace Y := Y.tr x101 (fun _ _ e => e)
  replace hY := Y.1
  have H6 : ∃ q, v = some (zz_val q) ∧ yHr h101 w q (hv_t (g0 541) t day 0) := by
    cases eo : hv_t (g0 541) t day 0 with
    | none => rw [eo] at z101; exact ⟨none, z101, Or.inl ⟨rfl, rfl⟩⟩
    | some p => obtain ⟨u, l⟩ := p; rw [eo] at z101; obtain ⟨q, z1, z2⟩ := z101; exact ⟨some q, z1, Or.inr ⟨q, u, l, rfl, rfl, z2⟩⟩
  obtain ⟨k6, rfl, H6⟩ := H6
  suffices K102 : yy_fin X 279 (11, [some (.ref 1), some (.ref w), some (.ref 0), some (.int (Int32.ofInt fr)), some (.int (Int32.ofInt (t : Int))), some (.int (Int32.ofInt day)), some (zz_val k6), none, none, none, none, none, none, none, none, none, none, none, none, none, none, none, none, none, none], [], h101) φ by cases k6 <;> exact yy_fin.steps (n := 1) rfl K102
  refine yy_fin.steps (n := 4) (s' := (17, [some (.ref 1), some (.ref w), some (.ref 0), some (.int (Int32.ofInt fr)), some (.int (Int32.ofInt (t : Int))), some (.int (Int32.ofInt day)), some (zz_val k6), none, none, none, none, none, none, none, none, none, none, none, none, none, none, none, none, none, none], [.int (Int32.ofInt 1), .int (Int32.ofInt day), .int (Int32.ofInt (t : Int)), .ref w], h101)) rfl ?_
  obtain ⟨fw103, oW103⟩ := C.ow
  refine yy_fin.cv (as := [.int (Int32.ofInt (t : Int)), .int (Int32.ofInt day), .int (Int32.ofInt 1)]) rfl rfl rfl oW103 (Nat.le_of_ble_eq_true rfl) (Nat.le_of_ble_eq_true rfl) (yc_half F C ht (day := day) (half := 1) (by omega) (Or.inr rfl) (by omega)) ?_
  rintro v h103 ⟨C, x103, z103⟩
  replace H6 := H6.k x103
  replace Y := Y.tr x103 (fun _ _ e => e)
  replace hY := Y.1
  have H7 : ∃ q, v = some (zz_val q) ∧ yHr h103 w q (hv_t (g0 541) t day 1) := by
    cases eo : hv_t (g0 541) t day 1 with
    | none => rw [eo] at z103; exact ⟨none, z103, Or.inl ⟨rfl, rfl⟩⟩
    | some p => obtain ⟨u, l⟩ := p; rw [eo] at z103; obtain ⟨q, z1, z2⟩ := z103; exact ⟨some q, z1, Or.inr ⟨q, u, l, rfl, rfl, z2⟩⟩
  obtain ⟨k7, rfl, H7⟩ := H7
  suffices K104 : yy_fin X 279 (22, [some (.ref 1), some (.ref w), some (.ref 0), some (.int (Int32.ofInt fr)), some (.int (Int32.ofInt (t : Int))), some (.int (Int32.ofInt day)), some (zz_val k6), some (zz_val k7), none, none, none, none, none, none, none, none, none, none, none, none, none, none, none, none, none], [], h103) φ by cases k7 <;> cases k6 <;> exact yy_fin.steps (n := 1) rfl K104
  suffices K105 : yy_fin X 279 (24, [some (.ref 1), some (.ref w), some (.ref 0), some (.int (Int32.ofInt fr)), some (.int (Int32.ofInt (t : Int))), some (.int (Int32.ofInt day)), some (zz_val k6), some (zz_val k7), none, none, none, none, none, none, none, none, none, none, none, none, none, none, none, none, none], [zz_val k6], h103) φ by cases k6 <;> exact yy_fin.steps (n := 1) rfl K105
  suffices J106 : ∀ (v106 : Int) (h' : zz_H), v106 = pv_t (g0 541) t (day % 360) → yCx own w lst g0 h' g → yx (yAk w) 1 2 h103 h' → yy_fin X 279 (41, [some (.ref 1), some (.ref w), some (.ref 0), some (.int (Int32.ofInt fr)), some (.int (Int32.ofInt (t : Int))), some (.int (Int32.ofInt day)), some (zz_val k6), some (zz_val k7), none, none, none, none, none, none, none, none, none, none, none, none, none, none, none, none, none], [.int (Int32.ofInt v106)], h') φ by
    have Y : yx (yAk w) 0 0 h103 h103 := yx.rf
    have hZ := hY
    have hY := Y.1
    rcases H6 with ⟨rfl, eo107⟩ | ⟨q107, u107, l107, rfl, eo107, R107⟩
    · refine yy_fin.steps (n := 4) (s' := (32, [some (.ref 1), some (.ref w), some (.ref 0), some (.int (Int32.ofInt fr)), some (.int (Int32.ofInt (t : Int))), some (.int (Int32.ofInt day)), some (.null), some (zz_val k7), none, none, none, none, none, none, none, none, none, none, none, none, none, none, none, none, none], [.int (Int32.ofInt day), .int (Int32.ofInt (t : Int)), .ref w], h103)) rfl ?_
      have hpn := hv_pn hd eo107
      obtain ⟨fw108, oW108⟩ := C.ow
      refine yy_fin.cv (as := [.int (Int32.ofInt (t : Int)), .int (Int32.ofInt day)]) rfl rfl rfl oW108 (Nat.le_of_ble_eq_true rfl) (Nat.le_of_ble_eq_true rfl) (yc_table F C ht (day := day) (by omega) (by omega)) ?_
      rintro v h108 ⟨C, x108, k108, rfl, T108⟩
      replace H7 := H7.k x108
      replace Y := Y.tr x108 (fun _ _ e => e)
      replace hY := Y.1
      rw [if_neg hpn] at T108
      refine yy_fin.steps (n := 1) (s' := (36, [some (.ref 1), some (.ref w), some (.ref 0), some (.int (Int32.ofInt fr)), some (.int (Int32.ofInt (t : Int))), some (.int (Int32.ofInt day)), some (.null), some (zz_val k7), none, none, none, none, none, none, none, none, none, none, none, none, none, none, none, none, none], [.int (Int32.ofInt 0), .ref k108], h108)) rfl ?_
      refine yy_fin.lp (j := 0) rfl T108.2 rfl (by decide) rfl ?_
      refine yy_fin.steps (n := 1) (s' := (41, [some (.ref 1), some (.ref w), some (.ref 0), some (.int (Int32.ofInt fr)), some (.int (Int32.ofInt (t : Int))), some (.int (Int32.ofInt day)), some (.null), some (zz_val k7), none, none, none, none, none, none, none, none, none, none, none, none, none, none, none, none, none], [.int (Int32.ofInt (pv_t (g0 541) t (day % 360)))], h108)) rfl ?_
      exact J106 (pv_t (g0 541) t (day % 360)) _ rfl C (Y.le (by omega) (by omega))
    · have hb107 := hv_bnd2 F.2.2.2 ht eo107
      refine yy_fin.steps (n := 2) (s' := (41, [some (.ref 1), some (.ref w), some (.ref 0), some (.int (Int32.ofInt fr)), some (.int (Int32.ofInt (t : Int))), some (.int (Int32.ofInt day)), some (.ref q107), some (zz_val k7), none, none, none, none, none, none, none, none, none, none, none, none, none, none, none, none, none], [.int (Int32.ofInt (-1))], h103)) rfl ?_
      exact J106 (-1) _ (hv_pv eo107).symm C (Y.le (by omega) (by omega))
  intro v106 h106 ev106 C x106
  replace H6 := H6.k x106
  replace H7 := H7.k x106
  replace Y := Y.tr x106 (fun _ _ e => e)
  replace hY := Y.1
  suffices K109 : yy_fin X 279 (43, [some (.ref 1), some (.ref w), some (.ref 0), some (.int (Int32.ofInt fr)), some (.int (Int32.ofInt (t : Int))), some (.int (Int32.ofInt day)), some (zz_val k6), some (zz_val k7), some (.int (Int32.ofInt v106)), none, none, none, none, none, none, none, none, none, none, none, none, none, none, none, none], [], h106) φ by cases k7 <;> exact yy_fin.steps (n := 1) rfl K109
  refine yy_fin.steps (n := 1) (s' := (45, [some (.ref 1), some (.ref w), some (.ref 0), some (.int (Int32.ofInt fr)), some (.int (Int32.ofInt (t : Int))), some (.int (Int32.ofInt day)), some (zz_val k6), some (zz_val k7), some (.int (Int32.ofInt v106)), none, none, none, none, none, none, none, none, none, none, none, none, none, none, none, none], [.int (Int32.ofInt 6)], h106)) rfl ?_
  refine yy_fin.ni (n := 6) rfl (by decide) (by decide) (by decide) (by omega) C.2.2.2.2 fun h110 x110 e110 i110 z110 => ?_
  have Q : yQ h110 (h106.1.1 + 1) 6 [] := ⟨i110, fun j v e => nomatch e⟩
  have NQ : yx yF 1 6 h106 h110 := x110
  refine yy_fin.steps (n := 2) (s' := (49, [some (.ref 1), some (.ref w), some (.ref 0), some (.int (Int32.ofInt fr)), some (.int (Int32.ofInt (t : Int))), some (.int (Int32.ofInt day)), some (zz_val k6), some (zz_val k7), some (.int (Int32.ofInt v106)), none, none, none, none, none, none, none, none, none, none, none, none, none, none, none, none], [.int (Int32.ofInt 0), .ref (h106.1.1 + 1), .ref (h106.1.1 + 1)], h110)) rfl ?_
  suffices K111 : yy_fin X 279 (51, [some (.ref 1), some (.ref w), some (.ref 0), some (.int (Int32.ofInt fr)), some (.int (Int32.ofInt (t : Int))), some (.int (Int32.ofInt day)), some (zz_val k6), some (zz_val k7), some (.int (Int32.ofInt v106)), none, none, none, none, none, none, none, none, none, none, none, none, none, none, none, none], [zz_val k6, .int (Int32.ofInt 0), .ref (h106.1.1 + 1), .ref (h106.1.1 + 1)], h110) φ by cases k6 <;> exact yy_fin.steps (n := 1) rfl K111
  suffices J112 : ∀ v112 : Int, v112 = y_el (hv_t (g0 541) t day 0) (-2) (fun u _ => u) → yy_fin X 279 (63, [some (.ref 1), some (.ref w), some (.ref 0), some (.int (Int32.ofInt fr)), some (.int (Int32.ofInt (t : Int))), some (.int (Int32.ofInt day)), some (zz_val k6), some (zz_val k7), some (.int (Int32.ofInt v106)), none, none, none, none, none, none, none, none, none, none, none, none, none, none, none, none], [.int (Int32.ofInt v112), .int (Int32.ofInt 0), .ref (h106.1.1 + 1), .ref (h106.1.1 + 1)], h110) φ by
    rcases H6 with ⟨rfl, eo113⟩ | ⟨q113, u113, l113, rfl, eo113, R113⟩
    · refine yy_fin.steps (n := 3) (s' := (63, [some (.ref 1), some (.ref w), some (.ref 0), some (.int (Int32.ofInt fr)), some (.int (Int32.ofInt (t : Int))), some (.int (Int32.ofInt day)), some (.null), some (zz_val k7), some (.int (Int32.ofInt v106)), none, none, none, none, none, none, none, none, none, none, none, none, none, none, none, none], [.int (Int32.ofInt (-2)), .int (Int32.ofInt 0), .ref (h106.1.1 + 1), .ref (h106.1.1 + 1)], h110)) rfl ?_
      exact J112 (-2) (by rw [eo113]; rfl)
    · have hb113 := hv_bnd2 F.2.2.2 ht eo113
      refine yy_fin.steps (n := 3) (s' := (62, [some (.ref 1), some (.ref w), some (.ref 0), some (.int (Int32.ofInt fr)), some (.int (Int32.ofInt (t : Int))), some (.int (Int32.ofInt day)), some (.ref q113), some (zz_val k7), some (.int (Int32.ofInt v106)), none, none, none, none, none, none, none, none, none, none, none, none, none, none, none, none], [.int (Int32.ofInt 0), .ref q113, .int (Int32.ofInt 0), .ref (h106.1.1 + 1), .ref (h106.1.1 + 1)], h110)) rfl ?_
      refine yy_fin.lp (j := 0) rfl (R113.k NQ.ak).2 rfl (by decide) rfl ?_
      exact J112 (u113) (by rw [eo113]; rfl)
  intro v112 ev112
  refine yy_fin.sq rfl Q (by decide) rfl fun h114 x114 q114 => ?_
  replace Q := q114
  replace NQ := (NQ.tr x114 (fun q hq e => by have e : q = _ := e; have hq : q ≤ h106.1.1 := hq; omega)).le (a2 := 1) (d2 := 6) (Nat.le_refl _) (Nat.le_refl _)
  refine yy_fin.steps (n := 2) (s' := (66, [some (.ref 1), some (.ref w), some (.ref 0), some (.int (Int32.ofInt fr)), some (.int (Int32.ofInt (t : Int))), some (.int (Int32.ofInt day)), some (zz_val k6), some (zz_val k7), some (.int (Int32.ofInt v106)), none, none, none, none, none, none, none, none, none, none, none, none, none, none, none, none], [.int (Int32.ofInt 1), .ref (h106.1.1 + 1), .ref (h106.1.1 + 1)], h114)) rfl ?_
  suffices K115 : yy_fin X 279 (68, [some (.ref 1), some (.ref w), some (.ref 0), some (.int (Int32.ofInt fr)), some (.int (Int32.ofInt (t : Int))), some (.int (Int32.ofInt day)), some (zz_val k6), some (zz_val k7), some (.int (Int32.ofInt v106)), none, none, none, none, none, none, none, none, none, none, none, none, none, none, none, none], [zz_val k6, .int (Int32.ofInt 1), .ref (h106.1.1 + 1), .ref (h106.1.1 + 1)], h114) φ by cases k6 <;> exact yy_fin.steps (n := 1) rfl K115
  suffices J116 : ∀ v116 : Int, v116 = y_el (hv_t (g0 541) t day 0) (-2) (fun u l => u + l) → yy_fin X 279 (80, [some (.ref 1), some (.ref w), some (.ref 0), some (.int (Int32.ofInt fr)), some (.int (Int32.ofInt (t : Int))), some (.int (Int32.ofInt day)), some (zz_val k6), some (zz_val k7), some (.int (Int32.ofInt v106)), none, none, none, none, none, none, none, none, none, none, none, none, none, none, none, none], [.int (Int32.ofInt v116), .int (Int32.ofInt 1), .ref (h106.1.1 + 1), .ref (h106.1.1 + 1)], h114) φ by
    rcases H6 with ⟨rfl, eo117⟩ | ⟨q117, u117, l117, rfl, eo117, R117⟩
    · refine yy_fin.steps (n := 3) (s' := (80, [some (.ref 1), some (.ref w), some (.ref 0), some (.int (Int32.ofInt fr)), some (.int (Int32.ofInt (t : Int))), some (.int (Int32.ofInt day)), some (.null), some (zz_val k7), some (.int (Int32.ofInt v106)), none, none, none, none, none, none, none, none, none, none, none, none, none, none, none, none], [.int (Int32.ofInt (-2)), .int (Int32.ofInt 1), .ref (h106.1.1 + 1), .ref (h106.1.1 + 1)], h114)) rfl ?_
      exact J116 (-2) (by rw [eo117]; rfl)
    · have hb117 := hv_bnd2 F.2.2.2 ht eo117
      refine yy_fin.steps (n := 3) (s' := (79, [some (.ref 1), some (.ref w), some (.ref 0), some (.int (Int32.ofInt fr)), some (.int (Int32.ofInt (t : Int))), some (.int (Int32.ofInt day)), some (.ref q117), some (zz_val k7), some (.int (Int32.ofInt v106)), none, none, none, none, none, none, none, none, none, none, none, none, none, none, none, none], [.int (Int32.ofInt 1), .ref q117, .int (Int32.ofInt 1), .ref (h106.1.1 + 1), .ref (h106.1.1 + 1)], h114)) rfl ?_
      refine yy_fin.lp (j := 1) rfl (R117.k NQ.ak).2 rfl (by decide) rfl ?_
      exact J116 (u117 + l117) (by rw [eo117]; rfl)
  intro v116 ev116
  refine yy_fin.sq rfl Q (by decide) rfl fun h118 x118 q118 => ?_
  replace Q := q118
  replace NQ := (NQ.tr x118 (fun q hq e => by have e : q = _ := e; have hq : q ≤ h106.1.1 := hq; omega)).le (a2 := 1) (d2 := 6) (Nat.le_refl _) (Nat.le_refl _)
  refine yy_fin.steps (n := 2) (s' := (83, [some (.ref 1), some (.ref w), some (.ref 0), some (.int (Int32.ofInt fr)), some (.int (Int32.ofInt (t : Int))), some (.int (Int32.ofInt day)), some (zz_val k6), some (zz_val k7), some (.int (Int32.ofInt v106)), none, none, none, none, none, none, none, none, none, none, none, none, none, none, none, none], [.int (Int32.ofInt 2), .ref (h106.1.1 + 1), .ref (h106.1.1 + 1)], h118)) rfl ?_
  suffices K119 : yy_fin X 279 (85, [some (.ref 1), some (.ref w), some (.ref 0), some (.int (Int32.ofInt fr)), some (.int (Int32.ofInt (t : Int))), some (.int (Int32.ofInt day)), some (zz_val k6), some (zz_val k7), some (.int (Int32.ofInt v106)), none, none, none, none, none, none, none, none, none, none, none, none, none, none, none, none], [zz_val k6, .int (Int32.ofInt 2), .ref (h106.1.1 + 1), .ref (h106.1.1 + 1)], h118) φ by cases k6 <;> exact yy_fin.steps (n := 1) rfl K119
  suffices J120 : ∀ v120 : Int, v120 = y_el (hv_t (g0 541) t day 0) (-2) (fun u l => u + l - u) → yy_fin X 279 (102, [some (.ref 1), some (.ref w), some (.ref 0), some (.int (Int32.ofInt fr)), some (.int (Int32.ofInt (t : Int))), some (.int (Int32.ofInt day)), some (zz_val k6), some (zz_val k7), some (.int (Int32.ofInt v106)), none, none, none, none, none, none, none, none, none, none, none, none, none, none, none, none], [.int (Int32.ofInt v120), .int (Int32.ofInt 2), .ref (h106.1.1 + 1), .ref (h106.1.1 + 1)], h118) φ by
    rcases H6 with ⟨rfl, eo121⟩ | ⟨q121, u121, l121, rfl, eo121, R121⟩
    · refine yy_fin.steps (n := 3) (s' := (102, [some (.ref 1), some (.ref w), some (.ref 0), some (.int (Int32.ofInt fr)), some (.int (Int32.ofInt (t : Int))), some (.int (Int32.ofInt day)), some (.null), some (zz_val k7), some (.int (Int32.ofInt v106)), none, none, none, none, none, none, none, none, none, none, none, none, none, none, none, none], [.int (Int32.ofInt (-2)), .int (Int32.ofInt 2), .ref (h106.1.1 + 1), .ref (h106.1.1 + 1)], h118)) rfl ?_
      exact J120 (-2) (by rw [eo121]; rfl)
    · have hb121 := hv_bnd2 F.2.2.2 ht eo121
      refine yy_fin.steps (n := 3) (s' := (96, [some (.ref 1), some (.ref w), some (.ref 0), some (.int (Int32.ofInt fr)), some (.int (Int32.ofInt (t : Int))), some (.int (Int32.ofInt day)), some (.ref q121), some (zz_val k7), some (.int (Int32.ofInt v106)), none, none, none, none, none, none, none, none, none, none, none, none, none, none, none, none], [.int (Int32.ofInt 1), .ref q121, .int (Int32.ofInt 2), .ref (h106.1.1 + 1), .ref (h106.1.1 + 1)], h118)) rfl ?_
      refine yy_fin.lp (j := 1) rfl (R121.k NQ.ak).2 rfl (by decide) rfl ?_
      refine yy_fin.steps (n := 2) (s' := (100, [some (.ref 1), some (.ref w), some (.ref 0), some (.int (Int32.ofInt fr)), some (.int (Int32.ofInt (t : Int))), some (.int (Int32.ofInt day)), some (.ref q121), some (zz_val k7), some (.int (Int32.ofInt v106)), none, none, none, none, none, none, none, none, none, none, none, none, none, none, none, none], [.int (Int32.ofInt 0), .ref q121, .int (Int32.ofInt (u121 + l121)), .int (Int32.ofInt 2), .ref (h106.1.1 + 1), .ref (h106.1.1 + 1)], h118)) rfl ?_
      refine yy_fin.lp (j := 0) rfl (R121.k NQ.ak).2 rfl (by decide) rfl ?_
      refine yy_fin.steps (n := 1) (s' := (102, [some (.ref 1), some (.ref w), some (.ref 0), some (.int (Int32.ofInt fr)), some (.int (Int32.ofInt (t : Int))), some (.int (Int32.ofInt day)), some (.ref q121), some (zz_val k7), some (.int (Int32.ofInt v106)), none, none, none, none, none, none, none, none, none, none, none, none, none, none, none, none], [.int ((Int32.ofInt (u121 + l121)) - (Int32.ofInt u121)), .int (Int32.ofInt 2), .ref (h106.1.1 + 1), .ref (h106.1.1 + 1)], h118)) rfl ?_
      rw [yi_sub (u121 + l121) u121]
      exact J120 ((u121 + l121) - u121) (by rw [eo121]; rfl)
  intro v120 ev120
  refine yy_fin.sq rfl Q (by decide) rfl fun h122 x122 q122 => ?_
  replace Q := q122
  replace NQ := (NQ.tr x122 (fun q hq e => by have e : q = _ := e; have hq : q ≤ h106.1.1 := hq; omega)).le (a2 := 1) (d2 := 6) (Nat.le_refl _) (Nat.le_refl _)
  refine yy_fin.steps (n := 2) (s' := (105, [some (.ref 1), some (.ref w), some (.ref 0), some (.int (Int32.ofInt fr)), some (.int (Int32.ofInt (t : Int))), some (.int (Int32.ofInt day)), some (zz_val k6), some (zz_val k7), some (.int (Int32.ofInt v106)), none, none, none, none, none, none, none, none, none, none, none, none, none, none, none, none], [.int (Int32.ofInt 3), .ref (h106.1.1 + 1), .ref (h106.1.1 + 1)], h122)) rfl ?_
  suffices K123 : yy_fin X 279 (107, [some (.ref 1), some (.ref w), some (.ref 0), some (.int (Int32.ofInt fr)), some (.int (Int32.ofInt (t : Int))), some (.int (Int32.ofInt day)), some (zz_val k6), some (zz_val k7), some (.int (Int32.ofInt v106)), none, none, none, none, none, none, none, none, none, none, none, none, none, none, none, none], [zz_val k7, .int (Int32.ofInt 3), .ref (h106.1.1 + 1), .ref (h106.1.1 + 1)], h122) φ by cases k7 <;> exact yy_fin.steps (n := 1) rfl K123
  suffices J124 : ∀ v124 : Int, v124 = y_el (hv_t (g0 541) t day 1) (-2) (fun u l => u + l - u) → yy_fin X 279 (124, [some (.ref 1), some (.ref w), some (.ref 0), some (.int (Int32.ofInt fr)), some (.int (Int32.ofInt (t : Int))), some (.int (Int32.ofInt day)), some (zz_val k6), some (zz_val k7), some (.int (Int32.ofInt v106)), none, none, none, none, none, none, none, none, none, none, none, none, none, none, none, none], [.int (Int32.ofInt v124), .int (Int32.ofInt 3), .ref (h106.1.1 + 1), .ref (h106.1.1 + 1)], h122) φ by
    rcases H7 with ⟨rfl, eo125⟩ | ⟨q125, u125, l125, rfl, eo125, R125⟩
    · refine yy_fin.steps (n := 3) (s' := (124, [some (.ref 1), some (.ref w), some (.ref 0), some (.int (Int32.ofInt fr)), some (.int (Int32.ofInt (t : Int))), some (.int (Int32.ofInt day)), some (zz_val k6), some (.null), some (.int (Int32.ofInt v106)), none, none, none, none, none, none, none, none, none, none, none, none, none, none, none, none], [.int (Int32.ofInt (-2)), .int (Int32.ofInt 3), .ref (h106.1.1 + 1), .ref (h106.1.1 + 1)], h122)) rfl ?_
      exact J124 (-2) (by rw [eo125]; rfl)
    · have hb125 := hv_bnd2 F.2.2.2 ht eo125
      refine yy_fin.steps (n := 3) (s' := (118, [some (.ref 1), some (.ref w), some (.ref 0), some (.int (Int32.ofInt fr)), some (.int (Int32.ofInt (t : Int))), some (.int (Int32.ofInt day)), some (zz_val k6), some (.ref q125), some (.int (Int32.ofInt v106)), none, none, none, none, none, none, none, none, none, none, none, none, none, none, none, none], [.int (Int32.ofInt 1), .ref q125, .int (Int32.ofInt 3), .ref (h106.1.1 + 1), .ref (h106.1.1 + 1)], h122)) rfl ?_
      refine yy_fin.lp (j := 1) rfl (R125.k NQ.ak).2 rfl (by decide) rfl ?_
      refine yy_fin.steps (n := 2) (s' := (122, [some (.ref 1), some (.ref w), some (.ref 0), some (.int (Int32.ofInt fr)), some (.int (Int32.ofInt (t : Int))), some (.int (Int32.ofInt day)), some (zz_val k6), some (.ref q125), some (.int (Int32.ofInt v106)), none, none, none, none, none, none, none, none, none, none, none, none, none, none, none, none], [.int (Int32.ofInt 0), .ref q125, .int (Int32.ofInt (u125 + l125)), .int (Int32.ofInt 3), .ref (h106.1.1 + 1), .ref (h106.1.1 + 1)], h122)) rfl ?_
      refine yy_fin.lp (j := 0) rfl (R125.k NQ.ak).2 rfl (by decide) rfl ?_
      refine yy_fin.steps (n := 1) (s' := (124, [some (.ref 1), some (.ref w), some (.ref 0), some (.int (Int32.ofInt fr)), some (.int (Int32.ofInt (t : Int))), some (.int (Int32.ofInt day)), some (zz_val k6), some (.ref q125), some (.int (Int32.ofInt v106)), none, none, none, none, none, none, none, none, none, none, none, none, none, none, none, none], [.int ((Int32.ofInt (u125 + l125)) - (Int32.ofInt u125)), .int (Int32.ofInt 3), .ref (h106.1.1 + 1), .ref (h106.1.1 + 1)], h122)) rfl ?_
      rw [yi_sub (u125 + l125) u125]
      exact J124 ((u125 + l125) - u125) (by rw [eo125]; rfl)
  intro v124 ev124
  refine yy_fin.sq rfl Q (by decide) rfl fun h126 x126 q126 => ?_
  replace Q := q126
  replace NQ := (NQ.tr x126 (fun q hq e => by have e : q = _ := e; have hq : q ≤ h106.1.1 := hq; omega)).le (a2 := 1) (d2 := 6) (Nat.le_refl _) (Nat.le_refl _)
  refine yy_fin.steps (n := 3) (s' := (129, [some (.ref 1), some (.ref w), some (.ref 0), some (.int (Int32.ofInt fr)), some (.int (Int32.ofInt (t : Int))), some (.int (Int32.ofInt day)), some (zz_val k6), some (zz_val k7), some (.int (Int32.ofInt v106)), none, none, none, none, none, none, none, none, none, none, none, none, none, none, none, none], [.int (Int32.ofInt v106), .int (Int32.ofInt 4), .ref (h106.1.1 + 1), .ref (h106.1.1 + 1)], h126)) rfl ?_
  refine yy_fin.sq rfl Q (by decide) rfl fun h127 x127 q127 => ?_
  replace Q := q127
  replace NQ := (NQ.tr x127 (fun q hq e => by have e : q = _ := e; have hq : q ≤ h106.1.1 := hq; omega)).le (a2 := 1) (d2 := 6) (Nat.le_refl _) (Nat.le_refl _)
  refine yy_fin.steps (n := 3) (s' := (133, [some (.ref 1), some (.ref w), some (.ref 0), some (.int (Int32.ofInt fr)), some (.int (Int32.ofInt (t : Int))), some (.int (Int32.ofInt day)), some (zz_val k6), some (zz_val k7), some (.int (Int32.ofInt v106)), none, none, none, none, none, none, none, none, none, none, none, none, none, none, none, none], [.int (Int32.ofInt (-1)), .int (Int32.ofInt 5), .ref (h106.1.1 + 1), .ref (h106.1.1 + 1)], h127)) rfl ?_
  refine yy_fin.sq rfl Q (by decide) rfl fun h128 x128 q128 => ?_
  replace Q := q128
  replace NQ := (NQ.tr x128 (fun q hq e => by have e : q = _ := e; have hq : q ≤ h106.1.1 := hq; omega)).le (a2 := 1) (d2 := 6) (Nat.le_refl _) (Nat.le_refl _)
  have x129 : yx (yAk w) 1 6 h106 h128 := NQ.ak
  have hn129 : 539 < h106.1.1 + 1 := by have := C.2.1.2; omega
  have hw129 : h106.1.1 + 1 ≠ w := by have := C.wle; omega
  replace C := C.f NQ
  have T9 : yRw h128 w (h106.1.1 + 1) [(Int32.ofInt v112), (Int32.ofInt v116), (Int32.ofInt v120), (Int32.ofInt v124), (Int32.ofInt v106), (Int32.ofInt (-1))] := ⟨⟨hn129, hw129⟩, Q⟩
  replace H6 := H6.k x129
  replace H7 := H7.k x129
  replace Y := Y.tr x129 (fun _ _ e => e)
  replace hY := Y.1
  refine yy_fin.steps (n := 5) (s' := (143, [some (.ref 1), some (.ref w), some (.ref 0), some (.int (Int32.ofInt fr)), some (.int (Int32.ofInt (t : Int))), some (.int (Int32.ofInt day)), some (zz_val k6), some (zz_val k7), some (.int (Int32.ofInt v106)), some (.ref (h106.1.1 + 1)), some (.int (Int32.ofInt 0)), none, none, none, none, none, none, none, none, none, none, none, none, none, none], [.int (Int32.ofInt 6), .int (Int32.ofInt 0)], h128)) rfl ?_
  refine yy_fin.ic rfl (fun cK => absurd cK (by decide)) (fun cK => ?_)
  refine yy_fin.steps (n := 4) (s' := (153, [some (.ref 1), some (.ref w), some (.ref 0), some (.int (Int32.ofInt fr)), some (.int (Int32.ofInt (t : Int))), some (.int (Int32.ofInt day)), some (zz_val k6), some (zz_val k7), some (.int (Int32.ofInt v106)), some (.ref (h106.1.1 + 1)), some (.int (Int32.ofInt 0)), none, none, none, none, none, none, none, none, none, none, none, none, none, none], [.int (Int32.ofInt 0), .int (Int32.ofInt day), .int (Int32.ofInt (t : Int)), .ref 1], h128)) rfl ?_
  obtain ⟨g130, r130⟩ := qi_76 F C ht hd (i := 0) (by omega)
  obtain ⟨fs130, oo130⟩ := C.o
  refine yy_fin.cv (as := [.int (Int32.ofInt (t : Int)), .int (Int32.ofInt day), .int (Int32.ofInt 0)]) rfl rfl rfl oo130 (Nat.le_of_ble_eq_true rfl) (Nat.le_of_ble_eq_true rfl) r130 ?_
  rintro v h130 ⟨rfl, C, x130⟩
  replace T9 := T9.k x130
  replace H6 := H6.k x130
  replace H7 := H7.k x130
  replace Y := Y.tr x130 (fun _ _ e => e)
  replace hY := Y.1
  refine yy_fin.steps (n := 2) (s' := (160, [some (.ref 1), some (.ref w), some (.ref 0), some (.int (Int32.ofInt fr)), some (.int (Int32.ofInt (t : Int))), some (.int (Int32.ofInt day)), some (zz_val k6), some (zz_val k7), some (.int (Int32.ofInt v106)), some (.ref (h106.1.1 + 1)), some (.int (Int32.ofInt 0)), none, none, none, none, none, none, none, none, none, none, none, none, none, none], [.int (Int32.ofInt 0), .ref (h106.1.1 + 1), .int (Int32.ofInt (s_11 (g0 541) t day 0))], h130)) rfl ?_
  refine yy_fin.lp (j := 0) rfl T9.2 rfl (by decide) rfl ?_
  have q0 : s_11 (g0 541) t day 0 = v112 := (s_11_e.1).trans ev112.symm
  refine yy_fin.ic rfl (fun _ => ?_) (fun cz => absurd (y_ceq (congrArg Int32.ofInt q0)) cz)
  refine yy_fin.steps (n := 4) (s' := (143, [some (.ref 1), some (.ref w), some (.ref 0), some (.int (Int32.ofInt fr)), some (.int (Int32.ofInt (t : Int))), some (.int (Int32.ofInt day)), some (zz_val k6), some (zz_val k7), some (.int (Int32.ofInt v106)), some (.ref (h106.1.1 + 1)), some (.int ((Int32.ofInt 0) + (Int32.ofInt 1))), none, none, none, none, none, none, none, none, none, none, none, none, none, none], [.int (Int32.ofInt 6), .int ((Int32.ofInt 0) + (Int32.ofInt 1))], h130)) rfl ?_
  rw [show (Int32.ofInt 0) + (Int32.ofInt 1) = Int32.ofInt 1 from by decide]
  refine yy_fin.ic rfl (fun cK => absurd cK (by decide)) (fun cK => ?_)
  refine yy_fin.steps (n := 4) (s' := (153, [some (.ref 1), some (.ref w), some (.ref 0), some (.int (Int32.ofInt fr)), some (.int (Int32.ofInt (t : Int))), some (.int (Int32.ofInt day)), some (zz_val k6), some (zz_val k7), some (.int (Int32.ofInt v106)), some (.ref (h106.1.1 + 1)), some (.int (Int32.ofInt 1)), none, none, none, none, none, none, none, none, none, none, none, none, none, none], [.int (Int32.ofInt 1), .int (Int32.ofInt day), .int (Int32.ofInt (t : Int)), .ref 1], h130)) rfl ?_
  obtain ⟨g131, r131⟩ := qi_76 F C ht hd (i := 1) (by omega)
  obtain ⟨fs131, oo131⟩ := C.o
  refine yy_fin.cv (as := [.int (Int32.ofInt (t : Int)), .int (Int32.ofInt day), .int (Int32.ofInt 1)]) rfl rfl rfl oo131 (Nat.le_of_ble_eq_true rfl) (Nat.le_of_ble_eq_true rfl) r131 ?_
  rintro v h131 ⟨rfl, C, x131⟩
  replace T9 := T9.k x131
  replace H6 := H6.k x131
  replace H7 := H7.k x131
  replace Y := Y.tr x131 (fun _ _ e => e)
  replace hY := Y.1
  refine yy_fin.steps (n := 2) (s' := (160, [some (.ref 1), some (.ref w), some (.ref 0), some (.int (Int32.ofInt fr)), some (.int (Int32.ofInt (t : Int))), some (.int (Int32.ofInt day)), some (zz_val k6), some (zz_val k7), some (.int (Int32.ofInt v106)), some (.ref (h106.1.1 + 1)), some (.int (Int32.ofInt 1)), none, none, none, none, none, none, none, none, none, none, none, none, none, none], [.int (Int32.ofInt 1), .ref (h106.1.1 + 1), .int (Int32.ofInt (s_11 (g0 541) t day 1))], h131)) rfl ?_
  refine yy_fin.lp (j := 1) rfl T9.2 rfl (by decide) rfl ?_
  have q1 : s_11 (g0 541) t day 1 = v116 := (s_11_e.2.1).trans ev116.symm
  refine yy_fin.ic rfl (fun _ => ?_) (fun cz => absurd (y_ceq (congrArg Int32.ofInt q1)) cz)
  refine yy_fin.steps (n := 4) (s' := (143, [some (.ref 1), some (.ref w), some (.ref 0), some (.int (Int32.ofInt fr)), some (.int (Int32.ofInt (t : Int))), some (.int (Int32.ofInt day)), some (zz_val k6), some (zz_val k7), some (.int (Int32.ofInt v106)), some (.ref (h106.1.1 + 1)), some (.int ((Int32.ofInt 1) + (Int32.ofInt 1))), none, none, none, none, none, none, none, none, none, none, none, none, none, none], [.int (Int32.ofInt 6), .int ((Int32.ofInt 1) + (Int32.ofInt 1))], h131)) rfl ?_
  rw [show (Int32.ofInt 1) + (Int32.ofInt 1) = Int32.ofInt 2 from by decide]
  refine yy_fin.ic rfl (fun cK => absurd cK (by decide)) (fun cK => ?_)
  refine yy_fin.steps (n := 4) (s' := (153, [some (.ref 1), some (.ref w), some (.ref 0), some (.int (Int32.ofInt fr)), some (.int (Int32.ofInt (t : Int))), some (.int (Int32.ofInt day)), some (zz_val k6), some (zz_val k7), some (.int (Int32.ofInt v106)), some (.ref (h106.1.1 + 1)), some (.int (Int32.ofInt 2)), none, none, none, none, none, none, none, none, none, none, none, none, none, none], [.int (Int32.ofInt 2), .int (Int32.ofInt day), .int (Int32.ofInt (t : Int)), .ref 1], h131)) rfl ?_
  obtain ⟨g132, r132⟩ := qi_76 F C ht hd (i := 2) (by omega)
  obtain ⟨fs132, oo132⟩ := C.o
  refine yy_fin.cv (as := [.int (Int32.ofInt (t : Int)), .int (Int32.ofInt day), .int (Int32.ofInt 2)]) rfl rfl rfl oo132 (Nat.le_of_ble_eq_true rfl) (Nat.le_of_ble_eq_true rfl) r132 ?_
  rintro v h132 ⟨rfl, C, x132⟩
  replace T9 := T9.k x132
  replace H6 := H6.k x132
  replace H7 := H7.k x132
  replace Y := Y.tr x132 (fun _ _ e => e)
  replace hY := Y.1
  refine yy_fin.steps (n := 2) (s' := (160, [some (.ref 1), some (.ref w), some (.ref 0), some (.int (Int32.ofInt fr)), some (.int (Int32.ofInt (t : Int))), some (.int (Int32.ofInt day)), some (zz_val k6), some (zz_val k7), some (.int (Int32.ofInt v106)), some (.ref (h106.1.1 + 1)), some (.int (Int32.ofInt 2)), none, none, none, none, none, none, none, none, none, none, none, none, none, none], [.int (Int32.ofInt 2), .ref (h106.1.1 + 1), .int (Int32.ofInt (s_11 (g0 541) t day 2))], h132)) rfl ?_
  refine yy_fin.lp (j := 2) rfl T9.2 rfl (by decide) rfl ?_
  have q2 : s_11 (g0 541) t day 2 = v120 := (s_11_e.2.2.1).trans ev120.symm
  refine yy_fin.ic rfl (fun _ => ?_) (fun cz => absurd (y_ceq (congrArg Int32.ofInt q2)) cz)
  refine yy_fin.steps (n := 4) (s' := (143, [some (.ref 1), some (.ref w), some (.ref 0), some (.int (Int32.ofInt fr)), some (.int (Int32.ofInt (t : Int))), some (.int (Int32.ofInt day)), some (zz_val k6), some (zz_val k7), some (.int (Int32.ofInt v106)), some (.ref (h106.1.1 + 1)), some (.int ((Int32.ofInt 2) + (Int32.ofInt 1))), none, none, none, none, none, none, none, none, none, none, none, none, none, none], [.int (Int32.ofInt 6), .int ((Int32.ofInt 2) + (Int32.ofInt 1))], h132)) rfl ?_
  rw [show (Int32.ofInt 2) + (Int32.ofInt 1) = Int32.ofInt 3 from by decide]
  refine yy_fin.ic rfl (fun cK => absurd cK (by decide)) (fun cK => ?_)
  refine yy_fin.steps (n := 4) (s' := (153, [some (.ref 1), some (.ref w), some (.ref 0), some (.int (Int32.ofInt fr)), some (.int (Int32.ofInt (t : Int))), some (.int (Int32.ofInt day)), some (zz_val k6), some (zz_val k7), some (.int (Int32.ofInt v106)), some (.ref (h106.1.1 + 1)), some (.int (Int32.ofInt 3)), none, none, none, none, none, none, none, none, none, none, none, none, none, none], [.int (Int32.ofInt 3), .int (Int32.ofInt day), .int (Int32.ofInt (t : Int)), .ref 1], h132)) rfl ?_
  obtain ⟨g133, r133⟩ := qi_76 F C ht hd (i := 3) (by omega)
  obtain ⟨fs133, oo133⟩ := C.o
  refine yy_fin.cv (as := [.int (Int32.ofInt (t : Int)), .int (Int32.ofInt day), .int (Int32.ofInt 3)]) rfl rfl rfl oo133 (Nat.le_of_ble_eq_true rfl) (Nat.le_of_ble_eq_true rfl) r133 ?_
  rintro v h133 ⟨rfl, C, x133⟩
  replace T9 := T9.k x133
  replace H6 := H6.k x133
  replace H7 := H7.k x133
  replace Y := Y.tr x133 (fun _ _ e => e)
  replace hY := Y.1
  refine yy_fin.steps (n := 2) (s' := (160, [some (.ref 1), some (.ref w), some (.ref 0), some (.int (Int32.ofInt fr)), some (.int (Int32.ofInt (t : Int))), some (.int (Int32.ofInt day)), some (zz_val k6), some (zz_val k7), some (.int (Int32.ofInt v106)), some (.ref (h106.1.1 + 1)), some (.int (Int32.ofInt 3)), none, none, none, none, none, none, none, none, none, none, none, none, none, none], [.int (Int32.ofInt 3), .ref (h106.1.1 + 1), .int (Int32.ofInt (s_11 (g0 541) t day 3))], h133)) rfl ?_
  refine yy_fin.lp (j := 3) rfl T9.2 rfl (by decide) rfl ?_
  have q3 : s_11 (g0 541) t day 3 = v124 := (s_11_e.2.2.2.1).trans ev124.symm
  refine yy_fin.ic rfl (fun _ => ?_) (fun cz => absurd (y_ceq (congrArg Int32.ofInt q3)) cz)
  refine yy_fin.steps (n := 4) (s' := (143, [some (.ref 1), some (.ref w), some (.ref 0), some (.int (Int32.ofInt fr)), some (.int (Int32.ofInt (t : Int))), some (.int (Int32.ofInt day)), some (zz_val k6), some (zz_val k7), some (.int (Int32.ofInt v106)), some (.ref (h106.1.1 + 1)), some (.int ((Int32.ofInt 3) + (Int32.ofInt 1))), none, none, none, none, none, none, none, none, none, none, none, none, none, none], [.int (Int32.ofInt 6), .int ((Int32.ofInt 3) + (Int32.ofInt 1))], h133)) rfl ?_
  rw [show (Int32.ofInt 3) + (Int32.ofInt 1) = Int32.ofInt 4 from by decide]
  refine yy_fin.ic rfl (fun cK => absurd cK (by decide)) (fun cK => ?_)
  refine yy_fin.steps (n := 4) (s' := (153, [some (.ref 1), some (.ref w), some (.ref 0), some (.int (Int32.ofInt fr)), some (.int (Int32.ofInt (t : Int))), some (.int (Int32.ofInt day)), some (zz_val k6), some (zz_val k7), some (.int (Int32.ofInt v106)), some (.ref (h106.1.1 + 1)), some (.int (Int32.ofInt 4)), none, none, none, none, none, none, none, none, none, none, none, none, none, none], [.int (Int32.ofInt 4), .int (Int32.ofInt day), .int (Int32.ofInt (t : Int)), .ref 1], h133)) rfl ?_
  obtain ⟨g134, r134⟩ := qi_76 F C ht hd (i := 4) (by omega)
  obtain ⟨fs134, oo134⟩ := C.o
  refine yy_fin.cv (as := [.int (Int32.ofInt (t : Int)), .int (Int32.ofInt day), .int (Int32.ofInt 4)]) rfl rfl rfl oo134 (Nat.le_of_ble_eq_true rfl) (Nat.le_of_ble_eq_true rfl) r134 ?_
  rintro v h134 ⟨rfl, C, x134⟩
  replace T9 := T9.k x134
  replace H6 := H6.k x134
  replace H7 := H7.k x134
  replace Y := Y.tr x134 (fun _ _ e => e)
  replace hY := Y.1
  refine yy_fin.steps (n := 2) (s' := (160, [some (.ref 1), some (.ref w), some (.ref 0), some (.int (Int32.ofInt fr)), some (.int (Int32.ofInt (t : Int))), some (.int (Int32.ofInt day)), some (zz_val k6), some (zz_val k7), some (.int (Int32.ofInt v106)), some (.ref (h106.1.1 + 1)), some (.int (Int32.ofInt 4)), none, none, none, none, none, none, none, none, none, none, none, none, none, none], [.int (Int32.ofInt 4), .ref (h106.1.1 + 1), .int (Int32.ofInt (s_11 (g0 541) t day 4))], h134)) rfl ?_
  refine yy_fin.lp (j := 4) rfl T9.2 rfl (by decide) rfl ?_
  have q4 : s_11 (g0 541) t day 4 = v106 := (s_11_e.2.2.2.2.1).trans ev106.symm
  refine yy_fin.ic rfl (fun _ => ?_) (fun cz => absurd (y_ceq (congrArg Int32.ofInt q4)) cz)
  refine yy_fin.steps (n := 4) (s' := (143, [some (.ref 1), some (.ref w), some (.ref 0), some (.int (Int32.ofInt fr)), some (.int (Int32.ofInt (t : Int))), some (.int (Int32.ofInt day)), some (zz_val k6), some (zz_val k7), some (.int (Int32.ofInt v106)), some (.ref (h106.1.1 + 1)), some (.int ((Int32.ofInt 4) + (Int32.ofInt 1))), none, none, none, none, none, none, none, none, none, none, none, none, none, none], [.int (Int32.ofInt 6), .int ((Int32.ofInt 4) + (Int32.ofInt 1))], h134)) rfl ?_
  rw [show (Int32.ofInt 4) + (Int32.ofInt 1) = Int32.ofInt 5 from by decide]
  refine yy_fin.ic rfl (fun cK => absurd cK (by decide)) (fun cK => ?_)
  refine yy_fin.steps (n := 4) (s' := (153, [some (.ref 1), some (.ref w), some (.ref 0), some (.int (Int32.ofInt fr)), some (.int (Int32.ofInt (t : Int))), some (.int (Int32.ofInt day)), some (zz_val k6), some (zz_val k7), some (.int (Int32.ofInt v106)), some (.ref (h106.1.1 + 1)), some (.int (Int32.ofInt 5)), none, none, none, none, none, none, none, none, none, none, none, none, none, none], [.int (Int32.ofInt 5), .int (Int32.ofInt day), .int (Int32.ofInt (t : Int)), .ref 1], h134)) rfl ?_
  obtain ⟨g135, r135⟩ := qi_76 F C ht hd (i := 5) (by omega)
  obtain ⟨fs135, oo135⟩ := C.o
  refine yy_fin.cv (as := [.int (Int32.ofInt (t : Int)), .int (Int32.ofInt day), .int (Int32.ofInt 5)]) rfl rfl rfl oo135 (Nat.le_of_ble_eq_true rfl) (Nat.le_of_ble_eq_true rfl) r135 ?_
  rintro v h135 ⟨rfl, C, x135⟩
  replace T9 := T9.k x135
  replace H6 := H6.k x135
  replace H7 := H7.k x135
  replace Y := Y.tr x135 (fun _ _ e => e)
  replace hY := Y.1
  refine yy_fin.steps (n := 2) (s' := (160, [some (.ref 1), some (.ref w), some (.ref 0), some (.int (Int32.ofInt fr)), some (.int (Int32.ofInt (t : Int))), some (.int (Int32.ofInt day)), some (zz_val k6), some (zz_val k7), some (.int (Int32.ofInt v106)), some (.ref (h106.1.1 + 1)), some (.int (Int32.ofInt 5)), none, none, none, none, none, none, none, none, none, none, none, none, none, none], [.int (Int32.ofInt 5), .ref (h106.1.1 + 1), .int (Int32.ofInt (s_11 (g0 541) t day 5))], h135)) rfl ?_
  refine yy_fin.lp (j := 5) rfl T9.2 rfl (by decide) rfl ?_
  have q5 : s_11 (g0 541) t day 5 = -1 := s_11_e.2.2.2.2.2
  refine yy_fin.ic rfl (fun _ => ?_) (fun cz => absurd (y_ceq (congrArg Int32.ofInt q5)) cz)
  refine yy_fin.steps (n := 4) (s' := (143, [some (.ref 1), some (.ref w), some (.ref 0), some (.int (Int32.ofInt fr)), some (.int (Int32.ofInt (t : Int))), some (.int (Int32.ofInt day)), some (zz_val k6), some (zz_val k7), some (.int (Int32.ofInt v106)), some (.ref (h106.1.1 + 1)), some (.int ((Int32.ofInt 5) + (Int32.ofInt 1))), none, none, none, none, none, none, none, none, none, none, none, none, none, none], [.int (Int32.ofInt 6), .int ((Int32.ofInt 5) + (Int32.ofInt 1))], h135)) rfl ?_
  rw [show (Int32.ofInt 5) + (Int32.ofInt 1) = Int32.ofInt 6 from by decide]
  refine yy_fin.ic rfl (fun cK => ?_) (fun cK => absurd (by decide) cK)
  exact kk _ _ k6 k7 _ _ _ C (Y.le (by omega) (by omega)) H6 H7
theorem yl_d2 (F : yCf own w lst g0) (ht : (t : Int) < (g0 541 0).toInt) (hd : 0 ≤ day ∧ day ≤ 35999) (hX : X.1 = some (L, xs)) (hL : L ≤ 100000) (hfr : 0 ≤ fr ∧ fr ≤ 900000) (C : yCx own w lst g0 h g) (hB : h.1.1 + 200 < yy_B) {k6 k7 : Option Nat} (H6 : yHr h w k6 (hv_t (g0 541) t day 0)) (H7 : yHr h w k7 (hv_t (g0 541) t day 1)) {p8 i10 : Int} {k9 : Nat} (kk : ∀ h' g' y10 q11 p12 q13 i14, (0 ≤ y10 ∧ y10 ≤ 86399) → yCx own w lst g0 h' g' → yx (yAk w) 100 400 h h' → yHr h' w k6 (hv_t (g0 541) t day 0) → yHr h' w k7 (hv_t (g0 541) t day 1) → yy_fin X 279 (376, [some (.ref 1), some (.ref w), some (.ref 0), some (.int (Int32.ofInt fr)), some (.int (Int32.ofInt (t : Int))), some (.int (Int32.ofInt day)), some (zz_val k6), some (zz_val k7), some (.int (Int32.ofInt p8)), some (.ref k9), some (.int (Int32.ofInt y10)), some (zz_val q11), some (.int (Int32.ofInt p12)), some (.ref q13), some (.int (Int32.ofInt i14)), none, none, none, none, none, none, none, none, none, none], [], h') φ) : yy_fin X 279 (172, [some (.ref 1), some (.ref w), some (.ref 0), some (.int (Int32.ofInt fr)), some (.int (Int32.ofInt (t : Int))), some (.int (Int32.ofInt day)), some (zz_val k6), some (zz_val k7), some (.int (Int32.ofInt p8)), some (.ref k9), some (.int (Int32.ofInt i10)), none, none, none, none, none, none, none, none, none, none, none, none, none, none], [], h) φ := by
  have n4 := F.2.2.2.1
  have hq := F.2.2.2.2.1
  have Y : yx (yAk w) 0 0 h h := yx.rf
  have hY := Y.1
  have hg := C.2.1.2
  refine yy_fin.steps (n := 2) (s' := (174, [some (.ref 1), some (.ref w), some (.ref 0), some (.int (Int32.ofInt fr)), some (.int (Int32.ofInt (t : Int))), some (.int (Int32.ofInt day)), some (zz_val k6), some (zz_val k7), some (.int (Int32.ofInt p8)), some (.ref k9), some (.int (Int32.ofInt i10)), none, none, none, none, none, none, none, none, none, none, none, none, none, none], [.int (Int32.ofInt fr), .ref 0], h)) rfl ?_
  refine yy_fin.calls (as := [.ref 0, .int (Int32.ofInt fr)]) rfl (by decide) rfl rfl (Nat.le_of_ble_eq_true rfl) (Nat.le_of_ble_eq_true rfl) (yl_pick hX hL (k := fr) (by omega)) ?_
  rintro v h9 ⟨y1, rfl, ay1, by1, e9⟩
  obtain rfl := e9.symm
  refine yy_fin.steps (n := 1) (s' := (179, [some (.ref 1), some (.ref w), some (.ref 0), some (.int (Int32.ofInt fr)), some (.int (Int32.ofInt (t : Int))), some (.int (Int32.ofInt day)), some (zz_val k6), some (zz_val k7), some (.int (Int32.ofInt p8)), some (.ref k9), some (.int (Int32.ofInt i10)), none, none, none, none, none, none, none, none, none, none, none, none, none, none], [.int (Int32.ofInt 86400), .int (Int32.ofInt y1)], h)) rfl ?_
  refine yy_fin.rm rfl (by decide) ?_
  rw [yi_rem (a := y1) (b := 86400) (by omega) (by omega)]
  obtain ⟨s, es⟩ : ∃ z, z = y1 % 86400 := ⟨_, rfl⟩
  rw [← es]
  have hs : 0 ≤ s ∧ s ≤ 86399 := by omega
  refine yy_fin.steps (n := 5) (s' := (189, [some (.ref 1), some (.ref w), some (.ref 0), some (.int (Int32.ofInt fr)), some (.int (Int32.ofInt (t : Int))), some (.int (Int32.ofInt day)), some (zz_val k6), some (zz_val k7), some (.int (Int32.ofInt p8)), some (.ref k9), some (.int (Int32.ofInt s)), none, none, none, none, none, none, none, none, none, none, none, none, none, none], [.int (Int32.ofInt s), .int (Int32.ofInt day), .int (Int32.ofInt (t : Int)), .ref w], h)) rfl ?_
  obtain ⟨fw101, oW101⟩ := C.ow
  refine yy_fin.cv (as := [.int (Int32.ofInt (t : Int)), .int (Int32.ofInt day), .int (Int32.ofInt s)]) rfl rfl rfl oW101 (Nat.le_of_ble_eq_true rfl) (Nat.le_of_ble_eq_true rfl) (yc_bel F C ht (day := day) (s := s) (by omega) (by omega) (by omega)) ?_
  rintro v h101 ⟨C, x101, z101⟩
  replace H6 := H6.k x101
  replace H7 := H7.k x101
  replace Y := Y.tr x101 (fun _ _ e => e)
  replace hY := Y.1
  suffices J : ∀ (h' : zz_H) (q11 : Option Nat) (p12 : Int) (q13 : Nat), yCx own w lst g0 h' g → yx (yAk w) 20 60 h101 h' → yRw h' w q13 [Int32.ofInt (y_tn (wt_T (g0 541) t day s) (fun d _ _ _ => d)), Int32.ofInt (y_tn (wt_T (g0 541) t day s) (fun _ x _ _ => x)), Int32.ofInt (y_tn (wt_T (g0 541) t day s) (fun d _ b l => (s + 86400 * (day - d) - b) * 12 * (g0 541 1).toInt / l / (g0 541 1).toInt)), Int32.ofInt (y_tn (wt_T (g0 541) t day s) (fun d _ b l => (s + 86400 * (day - d) - b) * 12 * (g0 541 1).toInt / l % (g0 541 1).toInt)), Int32.ofInt (y_tn (wt_T (g0 541) t day s) (fun d _ b l => (s + 86400 * (day - d) - b) * 12 * (g0 541 1).toInt / l)), Int32.ofInt (y_tn (wt_T (g0 541) t day s) (fun d _ b _ => s + 86400 * (day - d) - b))] → yy_fin X 279 (338, [some (.ref 1), some (.ref w), some (.ref 0), some (.int (Int32.ofInt fr)), some (.int (Int32.ofInt (t : Int))), some (.int (Int32.ofInt day)), some (zz_val k6), some (zz_val k7), some (.int (Int32.ofInt p8)), some (.ref k9), some (.int (Int32.ofInt s)), some (zz_val q11), some (.int (Int32.ofInt p12)), some (.ref q13), none, none, none, none, none, none, none, none, none, none, none], [], h') φ by
    have Y : yx (yAk w) 0 0 h101 h101 := yx.rf
    have hZ := hY
    have hY := Y.1
    cases eb : wt_T (g0 541) t day s with
    | none =>
      rw [eb] at z101
      subst z101
      refine yy_fin.steps (n := 9) (s' := (251, [some (.ref 1), some (.ref w), some (.ref 0), some (.int (Int32.ofInt fr)), some (.int (Int32.ofInt (t : Int))), some (.int (Int32.ofInt day)), some (zz_val k6), some (zz_val k7), some (.int (Int32.ofInt p8)), some (.ref k9), some (.int (Int32.ofInt s)), some (.null), some (.int (Int32.ofInt 0)), none, none, none, none, none, none, none, none, none, none, none, none], [.int (Int32.ofInt 6)], h101)) rfl ?_
      refine yy_fin.ni (n := 6) rfl (by decide) (by decide) (by decide) (by omega) C.2.2.2.2 fun h102 x102 e102 i102 z102 => ?_
      have Q : yQ h102 (h101.1.1 + 1) 6 [] := ⟨i102, fun j v e => nomatch e⟩
      have NQ : yx yF 1 6 h101 h102 := x102
      refine yy_fin.steps (n := 3) (s' := (257, [some (.ref 1), some (.ref w), some (.ref 0), some (.int (Int32.ofInt fr)), some (.int (Int32.ofInt (t : Int))), some (.int (Int32.ofInt day)), some (zz_val k6), some (zz_val k7), some (.int (Int32.ofInt p8)), some (.ref k9), some (.int (Int32.ofInt s)), some (.null), some (.int (Int32.ofInt 0)), none, none, none, none, none, none, none, none, none, none, none, none], [.int (Int32.ofInt (-2)), .int (Int32.ofInt 0), .ref (h101.1.1 + 1), .ref (h101.1.1 + 1)], h102)) rfl ?_
      refine yy_fin.sq rfl Q (by decide) rfl fun h103 x103 q103 => ?_
      replace Q := q103
      replace NQ := (NQ.tr x103 (fun q hq e => by have e : q = _ := e; have hq : q ≤ h101.1.1 := hq; omega)).le (a2 := 1) (d2 := 6) (Nat.le_refl _) (Nat.le_refl _)
      refine yy_fin.steps (n := 3) (s' := (262, [some (.ref 1), some (.ref w), some (.ref 0), some (.int (Int32.ofInt fr)), some (.int (Int32.ofInt (t : Int))), some (.int (Int32.ofInt day)), some (zz_val k6), some (zz_val k7), some (.int (Int32.ofInt p8)), some (.ref k9), some (.int (Int32.ofInt s)), some (.null), some (.int (Int32.ofInt 0)), none, none, none, none, none, none, none, none, none, none, none, none], [.int (Int32.ofInt (-2)), .int (Int32.ofInt 1), .ref (h101.1.1 + 1), .ref (h101.1.1 + 1)], h103)) rfl ?_
      refine yy_fin.sq rfl Q (by decide) rfl fun h104 x104 q104 => ?_
      replace Q := q104
      replace NQ := (NQ.tr x104 (fun q hq e => by have e : q = _ := e; have hq : q ≤ h101.1.1 := hq; omega)).le (a2 := 1) (d2 := 6) (Nat.le_refl _) (Nat.le_refl _)
      refine yy_fin.steps (n := 3) (s' := (267, [some (.ref 1), some (.ref w), some (.ref 0), some (.int (Int32.ofInt fr)), some (.int (Int32.ofInt (t : Int))), some (.int (Int32.ofInt day)), some (zz_val k6), some (zz_val k7), some (.int (Int32.ofInt p8)), some (.ref k9), some (.int (Int32.ofInt s)), some (.null), some (.int (Int32.ofInt 0)), none, none, none, none, none, none, none, none, none, none, none, none], [.int (Int32.ofInt (-2)), .int (Int32.ofInt 2), .ref (h101.1.1 + 1), .ref (h101.1.1 + 1)], h104)) rfl ?_
      refine yy_fin.sq rfl Q (by decide) rfl fun h105 x105 q105 => ?_
      replace Q := q105
      replace NQ := (NQ.tr x105 (fun q hq e => by have e : q = _ := e; have hq : q ≤ h101.1.1 := hq; omega)).le (a2 := 1) (d2 := 6) (Nat.le_refl _) (Nat.le_refl _)
      refine yy_fin.steps (n := 3) (s' := (272, [some (.ref 1), some (.ref w), some (.ref 0), some (.int (Int32.ofInt fr)), some (.int (Int32.ofInt (t : Int))), some (.int (Int32.ofInt day)), some (zz_val k6), some (zz_val k7), some (.int (Int32.ofInt p8)), some (.ref k9), some (.int (Int32.ofInt s)), some (.null), some (.int (Int32.ofInt 0)), none, none, none, none, none, none, none, none, none, none, none, none], [.int (Int32.ofInt (-2)), .int (Int32.ofInt 3), .ref (h101.1.1 + 1), .ref (h101.1.1 + 1)], h105)) rfl ?_
      refine yy_fin.sq rfl Q (by decide) rfl fun h106 x106 q106 => ?_
      replace Q := q106
      replace NQ := (NQ.tr x106 (fun q hq e => by have e : q = _ := e; have hq : q ≤ h101.1.1 := hq; omega)).le (a2 := 1) (d2 := 6) (Nat.le_refl _) (Nat.le_refl _)
      refine yy_fin.steps (n := 3) (s' := (277, [some (.ref 1), some (.ref w), some (.ref 0), some (.int (Int32.ofInt fr)), some (.int (Int32.ofInt (t : Int))), some (.int (Int32.ofInt day)), some (zz_val k6), some (zz_val k7), some (.int (Int32.ofInt p8)), some (.ref k9), some (.int (Int32.ofInt s)), some (.null), some (.int (Int32.ofInt 0)), none, none, none, none, none, none, none, none, none, none, none, none], [.int (Int32.ofInt (-2)), .int (Int32.ofInt 4), .ref (h101.1.1 + 1), .ref (h101.1.1 + 1)], h106)) rfl ?_
      refine yy_fin.sq rfl Q (by decide) rfl fun h107 x107 q107 => ?_
      replace Q := q107
      replace NQ := (NQ.tr x107 (fun q hq e => by have e : q = _ := e; have hq : q ≤ h101.1.1 := hq; omega)).le (a2 := 1) (d2 := 6) (Nat.le_refl _) (Nat.le_refl _)
      refine yy_fin.steps (n := 3) (s' := (282, [some (.ref 1), some (.ref w), some (.ref 0), some (.int (Int32.ofInt fr)), some (.int (Int32.ofInt (t : Int))), some (.int (Int32.ofInt day)), some (zz_val k6), some (zz_val k7), some (.int (Int32.ofInt p8)), some (.ref k9), some (.int (Int32.ofInt s)), some (.null), some (.int (Int32.ofInt 0)), none, none, none, none, none, none, none, none, none, none, none, none], [.int (Int32.ofInt (-2)), .int (Int32.ofInt 5), .ref (h101.1.1 + 1), .ref (h101.1.1 + 1)], h107)) rfl ?_
      refine yy_fin.sq rfl Q (by decide) rfl fun h108 x108 q108 => ?_
      replace Q := q108
      replace NQ := (NQ.tr x108 (fun q hq e => by have e : q = _ := e; have hq : q ≤ h101.1.1 := hq; omega)).le (a2 := 1) (d2 := 6) (Nat.le_refl _) (Nat.le_refl _)
      refine yy_fin.steps (n := 1) (s' := (336, [some (.ref 1), some (.ref w), some (.ref 0), some (.int (Int32.ofInt fr)), some (.int (Int32.ofInt (t : Int))), some (.int (Int32.ofInt day)), some (zz_val k6), some (zz_val k7), some (.int (Int32.ofInt p8)), some (.ref k9), some (.int (Int32.ofInt s)), some (.null), some (.int (Int32.ofInt 0)), none, none, none, none, none, none, none, none, none, none, none, none], [.ref (h101.1.1 + 1)], h108)) rfl ?_
      have x109 : yx (yAk w) 1 6 h101 h108 := NQ.ak
      have hn109 : 539 < h101.1.1 + 1 := by have := C.2.1.2; omega
      have hw109 : h101.1.1 + 1 ≠ w := by have := C.wle; omega
      replace C := C.f NQ
      have T13 : yRw h108 w (h101.1.1 + 1) [(Int32.ofInt (-2)), (Int32.ofInt (-2)), (Int32.ofInt (-2)), (Int32.ofInt (-2)), (Int32.ofInt (-2)), (Int32.ofInt (-2))] := ⟨⟨hn109, hw109⟩, Q⟩
      replace H6 := H6.k x109
      replace H7 := H7.k x109
      replace Y := Y.tr x109 (fun _ _ e => e)
      replace hY := Y.1
      refine yy_fin.steps (n := 1) (s' := (338, [some (.ref 1), some (.ref w), some (.ref 0), some (.int (Int32.ofInt fr)), some (.int (Int32.ofInt (t : Int))), some (.int (Int32.ofInt day)), some (zz_val k6), some (zz_val k7), some (.int (Int32.ofInt p8)), some (.ref k9), some (.int (Int32.ofInt s)), some (.null), some (.int (Int32.ofInt 0)), some (.ref (h101.1.1 + 1)), none, none, none, none, none, none, none, none, none, none, none], [], h108)) rfl ?_
      refine J h108 none _ _ C (Y.le (by omega) (by omega)) ?_
      rw [eb]
      exact T13
    | some p =>
      obtain ⟨d, f, b, l⟩ := p
      rw [eb] at z101
      obtain ⟨kb, rfl, RB⟩ := z101
      obtain ⟨w1, w2, w3, w4, w5, w6, w7⟩ := wt_bnd F.2.2.2 ht hs eb
      obtain ⟨e, ee⟩ : ∃ e, e = s + 86400 * (day - d) - b := ⟨_, rfl⟩
      rw [← ee] at RB w6 w7
      refine yy_fin.steps (n := 8) (s' := (210, [some (.ref 1), some (.ref w), some (.ref 0), some (.int (Int32.ofInt fr)), some (.int (Int32.ofInt (t : Int))), some (.int (Int32.ofInt day)), some (zz_val k6), some (zz_val k7), some (.int (Int32.ofInt p8)), some (.ref k9), some (.int (Int32.ofInt s)), some (.ref kb), none, none, none, none, none, none, none, none, none, none, none, none, none], [.int (Int32.ofInt 0), .ref kb, .int (Int32.ofInt (t : Int)), .ref w, .ref w], h101)) rfl ?_
      refine yy_fin.lp (j := 0) rfl RB.2 rfl (by decide) rfl ?_
      refine yy_fin.steps (n := 2) (s' := (214, [some (.ref 1), some (.ref w), some (.ref 0), some (.int (Int32.ofInt fr)), some (.int (Int32.ofInt (t : Int))), some (.int (Int32.ofInt day)), some (zz_val k6), some (zz_val k7), some (.int (Int32.ofInt p8)), some (.ref k9), some (.int (Int32.ofInt s)), some (.ref kb), none, none, none, none, none, none, none, none, none, none, none, none, none], [.int (Int32.ofInt 1), .ref kb, .int (Int32.ofInt d), .int (Int32.ofInt (t : Int)), .ref w, .ref w], h101)) rfl ?_
      refine yy_fin.lp (j := 1) rfl RB.2 rfl (by decide) rfl ?_
      obtain ⟨fw110, oW110⟩ := C.ow
      refine yy_fin.cv (as := [.int (Int32.ofInt (t : Int)), .int (Int32.ofInt d), .int (Int32.ofInt f)]) rfl rfl rfl oW110 (Nat.le_of_ble_eq_true rfl) (Nat.le_of_ble_eq_true rfl) (yc_half F C ht (day := d) (half := f) (by omega) w2 (by omega)) ?_
      rintro v h110 ⟨C, x110, z110⟩
      replace RB := RB.k x110
      replace H6 := H6.k x110
      replace H7 := H7.k x110
      replace Y := Y.tr x110 (fun _ _ e => e)
      replace hY := Y.1
      rw [w3] at z110
      obtain ⟨k110, rfl, R110⟩ := z110
      refine yy_fin.steps (n := 4) (s' := (224, [some (.ref 1), some (.ref w), some (.ref 0), some (.int (Int32.ofInt fr)), some (.int (Int32.ofInt (t : Int))), some (.int (Int32.ofInt day)), some (zz_val k6), some (zz_val k7), some (.int (Int32.ofInt p8)), some (.ref k9), some (.int (Int32.ofInt s)), some (.ref kb), none, none, none, none, none, none, none, none, none, none, none, none, none], [.int (Int32.ofInt 0), .ref kb, .int (Int32.ofInt (t : Int)), .ref w, .ref k110, .ref w], h110)) rfl ?_
      refine yy_fin.lp (j := 0) rfl RB.2 rfl (by decide) rfl ?_
      refine yy_fin.steps (n := 2) (s' := (228, [some (.ref 1), some (.ref w), some (.ref 0), some (.int (Int32.ofInt fr)), some (.int (Int32.ofInt (t : Int))), some (.int (Int32.ofInt day)), some (zz_val k6), some (zz_val k7), some (.int (Int32.ofInt p8)), some (.ref k9), some (.int (Int32.ofInt s)), some (.ref kb), none, none, none, none, none, none, none, none, none, none, none, none, none], [.int (Int32.ofInt 1), .ref kb, .int (Int32.ofInt d), .int (Int32.ofInt (t : Int)), .ref w, .ref k110, .ref w], h110)) rfl ?_
      refine yy_fin.lp (j := 1) rfl RB.2 rfl (by decide) rfl ?_
      obtain ⟨fw111, oW111⟩ := C.ow
      refine yy_fin.cv (as := [.int (Int32.ofInt (t : Int)), .int (Int32.ofInt d), .int (Int32.ofInt f)]) rfl rfl rfl oW111 (Nat.le_of_ble_eq_true rfl) (Nat.le_of_ble_eq_true rfl) (yc_half F C ht (day := d) (half := f) (by omega) w2 (by omega)) ?_
      rintro v h111 ⟨C, x111, z111⟩
      replace RB := RB.k x111
      replace R110 := R110.k x111
      replace H6 := H6.k x111
      replace H7 := H7.k x111
      replace Y := Y.tr x111 (fun _ _ e => e)
      replace hY := Y.1
      rw [w3] at z111
      obtain ⟨k111, rfl, R111⟩ := z111
      refine yy_fin.steps (n := 1) (s' := (233, [some (.ref 1), some (.ref w), some (.ref 0), some (.int (Int32.ofInt fr)), some (.int (Int32.ofInt (t : Int))), some (.int (Int32.ofInt day)), some (zz_val k6), some (zz_val k7), some (.int (Int32.ofInt p8)), some (.ref k9), some (.int (Int32.ofInt s)), some (.ref kb), none, none, none, none, none, none, none, none, none, none, none, none, none], [.int (Int32.ofInt 0), .ref k111, .ref k110, .ref w], h111)) rfl ?_
      refine yy_fin.lp (j := 0) rfl R111.2 rfl (by decide) rfl ?_
      refine yy_fin.steps (n := 2) (s' := (237, [some (.ref 1), some (.ref w), some (.ref 0), some (.int (Int32.ofInt fr)), some (.int (Int32.ofInt (t : Int))), some (.int (Int32.ofInt day)), some (zz_val k6), some (zz_val k7), some (.int (Int32.ofInt p8)), some (.ref k9), some (.int (Int32.ofInt s)), some (.ref kb), none, none, none, none, none, none, none, none, none, none, none, none, none], [.int (Int32.ofInt 2), .ref kb, .int (Int32.ofInt b), .ref k110, .ref w], h111)) rfl ?_
      refine yy_fin.lp (j := 2) rfl RB.2 rfl (by decide) rfl ?_
      refine yy_fin.steps (n := 1) (s' := (239, [some (.ref 1), some (.ref w), some (.ref 0), some (.int (Int32.ofInt fr)), some (.int (Int32.ofInt (t : Int))), some (.int (Int32.ofInt day)), some (zz_val k6), some (zz_val k7), some (.int (Int32.ofInt p8)), some (.ref k9), some (.int (Int32.ofInt s)), some (.ref kb), none, none, none, none, none, none, none, none, none, none, none, none, none], [.int ((Int32.ofInt b) + (Int32.ofInt e)), .ref k110, .ref w], h111)) rfl ?_
      rw [yi_add b e]
      obtain ⟨fw112, oW112⟩ := C.ow
      refine yy_fin.cv (as := [.ref k110, .int (Int32.ofInt (b + e))]) rfl rfl rfl oW112 (Nat.le_of_ble_eq_true rfl) (Nat.le_of_ble_eq_true rfl) (yc_place F C R110 (s := b + e) (by omega) (by omega) (by omega)) ?_
      rintro v h9 ⟨rfl, e9⟩
      obtain rfl := e9.symm
      rw [show (b + e - b) * 12 * (g0 541 1).toInt / l = e * 12 * (g0 541 1).toInt / l by rw [show b + e - b = e by omega]]
      have hpl := yp_b (q := (g0 541 1).toInt) (l := l) (s := e) hq w5.1 ⟨w6, by omega⟩
      obtain ⟨pl, epl⟩ : ∃ pl, pl = e * 12 * (g0 541 1).toInt / l := ⟨_, rfl⟩
      rw [← epl] at hpl ⊢
      refine yy_fin.steps (n := 4) (s' := (288, [some (.ref 1), some (.ref w), some (.ref 0), some (.int (Int32.ofInt fr)), some (.int (Int32.ofInt (t : Int))), some (.int (Int32.ofInt day)), some (zz_val k6), some (zz_val k7), some (.int (Int32.ofInt p8)), some (.ref k9), some (.int (Int32.ofInt s)), some (.ref kb), some (.int (Int32.ofInt pl)), none, none, none, none, none, none, none, none, none, none, none, none], [.int (Int32.ofInt 6)], h111)) rfl ?_
      refine yy_fin.ni (n := 6) rfl (by decide) (by decide) (by decide) (by omega) C.2.2.2.2 fun h113 x113 e113 i113 z113 => ?_
      have Q : yQ h113 (h111.1.1 + 1) 6 [] := ⟨i113, fun j v e => nomatch e⟩
      have NQ : yx yF 1 6 h111 h113 := x113
      refine yy_fin.steps (n := 4) (s' := (295, [some (.ref 1), some (.ref w), some (.ref 0), some (.int (Int32.ofInt fr)), some (.int (Int32.ofInt (t : Int))), some (.int (Int32.ofInt day)), some (zz_val k6), some (zz_val k7), some (.int (Int32.ofInt p8)), some (.ref k9), some (.int (Int32.ofInt s)), some (.ref kb), some (.int (Int32.ofInt pl)), none, none, none, none, none, none, none, none, none, none, none, none], [.int (Int32.ofInt 0), .ref kb, .int (Int32.ofInt 0), .ref (h111.1.1 + 1), .ref (h111.1.1 + 1)], h113)) rfl ?_
      refine yy_fin.lp (j := 0) rfl (RB.k NQ.ak).2 rfl (by decide) rfl ?_
      refine yy_fin.sq rfl Q (by decide) rfl fun h114 x114 q114 => ?_
      replace Q := q114
      replace NQ := (NQ.tr x114 (fun q hq e => by have e : q = _ := e; have hq : q ≤ h111.1.1 := hq; omega)).le (a2 := 1) (d2 := 6) (Nat.le_refl _) (Nat.le_refl _)
      refine yy_fin.steps (n := 4) (s' := (302, [some (.ref 1), some (.ref w), some (.ref 0), some (.int (Int32.ofInt fr)), some (.int (Int32.ofInt (t : Int))), some (.int (Int32.ofInt day)), some (zz_val k6), some (zz_val k7), some (.int (Int32.ofInt p8)), some (.ref k9), some (.int (Int32.ofInt s)), some (.ref kb), some (.int (Int32.ofInt pl)), none, none, none, none, none, none, none, none, none, none, none, none], [.int (Int32.ofInt 1), .ref kb, .int (Int32.ofInt 1), .ref (h111.1.1 + 1), .ref (h111.1.1 + 1)], h114)) rfl ?_
      refine yy_fin.lp (j := 1) rfl (RB.k NQ.ak).2 rfl (by decide) rfl ?_
      refine yy_fin.sq rfl Q (by decide) rfl fun h115 x115 q115 => ?_
      replace Q := q115
      replace NQ := (NQ.tr x115 (fun q hq e => by have e : q = _ := e; have hq : q ≤ h111.1.1 := hq; omega)).le (a2 := 1) (d2 := 6) (Nat.le_refl _) (Nat.le_refl _)
      refine yy_fin.steps (n := 4) (s' := (309, [some (.ref 1), some (.ref w), some (.ref 0), some (.int (Int32.ofInt fr)), some (.int (Int32.ofInt (t : Int))), some (.int (Int32.ofInt day)), some (zz_val k6), some (zz_val k7), some (.int (Int32.ofInt p8)), some (.ref k9), some (.int (Int32.ofInt s)), some (.ref kb), some (.int (Int32.ofInt pl)), none, none, none, none, none, none, none, none, none, none, none, none], [.ref w, .int (Int32.ofInt pl), .int (Int32.ofInt 2), .ref (h111.1.1 + 1), .ref (h111.1.1 + 1)], h115)) rfl ?_
      obtain ⟨o116, p116, b116, t116, oP116, eP116⟩ := (C.f NQ).wp
      refine yy_fin.fi rfl oP116 rfl eP116 ?_
      refine yy_fin.dv rfl (fun z => by have z := (yi_eq (a := (g0 541 1).toInt) (b := 0) (by omega) (by omega)).mp z; omega) ?_
      rw [yi_div (a := pl) (b := (g0 541 1).toInt) (by omega) (by omega)]
      refine yy_fin.sq rfl Q (by decide) rfl fun h117 x117 q117 => ?_
      replace Q := q117
      replace NQ := (NQ.tr x117 (fun q hq e => by have e : q = _ := e; have hq : q ≤ h111.1.1 := hq; omega)).le (a2 := 1) (d2 := 6) (Nat.le_refl _) (Nat.le_refl _)
      refine yy_fin.steps (n := 4) (s' := (319, [some (.ref 1), some (.ref w), some (.ref 0), some (.int (Int32.ofInt fr)), some (.int (Int32.ofInt (t : Int))), some (.int (Int32.ofInt day)), some (zz_val k6), some (zz_val k7), some (.int (Int32.ofInt p8)), some (.ref k9), some (.int (Int32.ofInt s)), some (.ref kb), some (.int (Int32.ofInt pl)), none, none, none, none, none, none, none, none, none, none, none, none], [.ref w, .int (Int32.ofInt pl), .int (Int32.ofInt 3), .ref (h111.1.1 + 1), .ref (h111.1.1 + 1)], h117)) rfl ?_
      obtain ⟨o118, p118, b118, t118, oP118, eP118⟩ := (C.f NQ).wp
      refine yy_fin.fi rfl oP118 rfl eP118 ?_
      refine yy_fin.rm rfl (fun z => by have z := (yi_eq (a := (g0 541 1).toInt) (b := 0) (by omega) (by omega)).mp z; omega) ?_
      rw [yi_rem (a := pl) (b := (g0 541 1).toInt) (by omega) (by omega)]
      refine yy_fin.sq rfl Q (by decide) rfl fun h119 x119 q119 => ?_
      replace Q := q119
      replace NQ := (NQ.tr x119 (fun q hq e => by have e : q = _ := e; have hq : q ≤ h111.1.1 := hq; omega)).le (a2 := 1) (d2 := 6) (Nat.le_refl _) (Nat.le_refl _)
      refine yy_fin.steps (n := 3) (s' := (328, [some (.ref 1), some (.ref w), some (.ref 0), some (.int (Int32.ofInt fr)), some (.int (Int32.ofInt (t : Int))), some (.int (Int32.ofInt day)), some (zz_val k6), some (zz_val k7), some (.int (Int32.ofInt p8)), some (.ref k9), some (.int (Int32.ofInt s)), some (.ref kb), some (.int (Int32.ofInt pl)), none, none, none, none, none, none, none, none, none, none, none, none], [.int (Int32.ofInt pl), .int (Int32.ofInt 4), .ref (h111.1.1 + 1), .ref (h111.1.1 + 1)], h119)) rfl ?_
      refine yy_fin.sq rfl Q (by decide) rfl fun h120 x120 q120 => ?_
      replace Q := q120
      replace NQ := (NQ.tr x120 (fun q hq e => by have e : q = _ := e; have hq : q ≤ h111.1.1 := hq; omega)).le (a2 := 1) (d2 := 6) (Nat.le_refl _) (Nat.le_refl _)
      refine yy_fin.steps (n := 4) (s' := (334, [some (.ref 1), some (.ref w), some (.ref 0), some (.int (Int32.ofInt fr)), some (.int (Int32.ofInt (t : Int))), some (.int (Int32.ofInt day)), some (zz_val k6), some (zz_val k7), some (.int (Int32.ofInt p8)), some (.ref k9), some (.int (Int32.ofInt s)), some (.ref kb), some (.int (Int32.ofInt pl)), none, none, none, none, none, none, none, none, none, none, none, none], [.int (Int32.ofInt 2), .ref kb, .int (Int32.ofInt 5), .ref (h111.1.1 + 1), .ref (h111.1.1 + 1)], h120)) rfl ?_
      refine yy_fin.lp (j := 2) rfl (RB.k NQ.ak).2 rfl (by decide) rfl ?_
      refine yy_fin.sq rfl Q (by decide) rfl fun h121 x121 q121 => ?_
      replace Q := q121
      replace NQ := (NQ.tr x121 (fun q hq e => by have e : q = _ := e; have hq : q ≤ h111.1.1 := hq; omega)).le (a2 := 1) (d2 := 6) (Nat.le_refl _) (Nat.le_refl _)
      have x122 : yx (yAk w) 1 6 h111 h121 := NQ.ak
      have hn122 : 539 < h111.1.1 + 1 := by have := C.2.1.2; omega
      have hw122 : h111.1.1 + 1 ≠ w := by have := C.wle; omega
      replace C := C.f NQ
      have T13 : yRw h121 w (h111.1.1 + 1) [(Int32.ofInt d), (Int32.ofInt f), (Int32.ofInt (pl / ((g0 541 1).toInt))), (Int32.ofInt (pl % ((g0 541 1).toInt))), (Int32.ofInt pl), (Int32.ofInt e)] := ⟨⟨hn122, hw122⟩, Q⟩
      replace RB := RB.k x122
      replace R110 := R110.k x122
      replace R111 := R111.k x122
      replace H6 := H6.k x122
      replace H7 := H7.k x122
      replace Y := Y.tr x122 (fun _ _ e => e)
      replace hY := Y.1
      refine yy_fin.steps (n := 1) (s' := (338, [some (.ref 1), some (.ref w), some (.ref 0), some (.int (Int32.ofInt fr)), some (.int (Int32.ofInt (t : Int))), some (.int (Int32.ofInt day)), some (zz_val k6), some (zz_val k7), some (.int (Int32.ofInt p8)), some (.ref k9), some (.int (Int32.ofInt s)), some (.ref kb), some (.int (Int32.ofInt pl)), some (.ref (h111.1.1 + 1)), none, none, none, none, none, none, none, none, none, none, none], [], h121)) rfl ?_
      refine J h121 (some _) _ _ C (Y.le (by omega) (by omega)) ?_
      rw [eb]
      rw [epl, ee] at T13
      exact T13
  intro h1010 q11 p12 q13 C x1010 T13
  replace H6 := H6.k x1010
  replace H7 := H7.k x1010
  replace Y := Y.tr x1010 (fun _ _ e => e)
  replace hY := Y.1
  refine yy_fin.steps (n := 4) (s' := (345, [some (.ref 1), some (.ref w), some (.ref 0), some (.int (Int32.ofInt fr)), some (.int (Int32.ofInt (t : Int))), some (.int (Int32.ofInt day)), some (zz_val k6), some (zz_val k7), some (.int (Int32.ofInt p8)), some (.ref k9), some (.int (Int32.ofInt s)), some (zz_val q11), some (.int (Int32.ofInt p12)), some (.ref q13), some (.int (Int32.ofInt 0)), none, none, none, none, none, none, none, none, none, none], [.int (Int32.ofInt 6), .int (Int32.ofInt 0)], h1010)) rfl ?_
  refine yy_fin.ic rfl (fun cK => absurd cK (by decide)) (fun cK => ?_)
  refine yy_fin.steps (n := 5) (s' := (357, [some (.ref 1), some (.ref w), some (.ref 0), some (.int (Int32.ofInt fr)), some (.int (Int32.ofInt (t : Int))), some (.int (Int32.ofInt day)), some (zz_val k6), some (zz_val k7), some (.int (Int32.ofInt p8)), some (.ref k9), some (.int (Int32.ofInt s)), some (zz_val q11), some (.int (Int32.ofInt p12)), some (.ref q13), some (.int (Int32.ofInt 0)), none, none, none, none, none, none, none, none, none, none], [.int (Int32.ofInt 0), .int (Int32.ofInt s), .int (Int32.ofInt day), .int (Int32.ofInt (t : Int)), .ref 1], h1010)) rfl ?_
  obtain ⟨g123, r123⟩ := qi_85 F C ht hd hs (i := 0) (by omega)
  obtain ⟨fs123, oo123⟩ := C.o
  refine yy_fin.cv (as := [.int (Int32.ofInt (t : Int)), .int (Int32.ofInt day), .int (Int32.ofInt s), .int (Int32.ofInt 0)]) rfl rfl rfl oo123 (Nat.le_of_ble_eq_true rfl) (Nat.le_of_ble_eq_true rfl) r123 ?_
  rintro v h123 ⟨rfl, C, x123⟩
  replace T13 := T13.k x123
  replace H6 := H6.k x123
  replace H7 := H7.k x123
  replace Y := Y.tr x123 (fun _ _ e => e)
  replace hY := Y.1
  refine yy_fin.steps (n := 2) (s' := (364, [some (.ref 1), some (.ref w), some (.ref 0), some (.int (Int32.ofInt fr)), some (.int (Int32.ofInt (t : Int))), some (.int (Int32.ofInt day)), some (zz_val k6), some (zz_val k7), some (.int (Int32.ofInt p8)), some (.ref k9), some (.int (Int32.ofInt s)), some (zz_val q11), some (.int (Int32.ofInt p12)), some (.ref q13), some (.int (Int32.ofInt 0)), none, none, none, none, none, none, none, none, none, none], [.int (Int32.ofInt 0), .ref q13, .int (Int32.ofInt (s_12 (g0 541) t day s 0))], h123)) rfl ?_
  refine yy_fin.lp (j := 0) rfl T13.2 rfl (by decide) rfl ?_
  refine yy_fin.ic rfl (fun _ => ?_) (fun cz => absurd (y_ceq (congrArg Int32.ofInt (s_12_e.1))) cz)
  refine yy_fin.steps (n := 4) (s' := (345, [some (.ref 1), some (.ref w), some (.ref 0), some (.int (Int32.ofInt fr)), some (.int (Int32.ofInt (t : Int))), some (.int (Int32.ofInt day)), some (zz_val k6), some (zz_val k7), some (.int (Int32.ofInt p8)), some (.ref k9), some (.int (Int32.ofInt s)), some (zz_val q11), some (.int (Int32.ofInt p12)), some (.ref q13), some (.int ((Int32.ofInt 0) + (Int32.ofInt 1))), none, none, none, none, none, none, none, none, none, none], [.int (Int32.ofInt 6), .int ((Int32.ofInt 0) + (Int32.ofInt 1))], h123)) rfl ?_
  rw [show (Int32.ofInt 0) + (Int32.ofInt 1) = Int32.ofInt 1 from by decide]
  refine yy_fin.ic rfl (fun cK => absurd cK (by decide)) (fun cK => ?_)
  refine yy_fin.steps (n := 5) (s' := (357, [some (.ref 1), some (.ref w), some (.ref 0), some (.int (Int32.ofInt fr)), some (.int (Int32.ofInt (t : Int))), some (.int (Int32.ofInt day)), some (zz_val k6), some (zz_val k7), some (.int (Int32.ofInt p8)), some (.ref k9), some (.int (Int32.ofInt s)), some (zz_val q11), some (.int (Int32.ofInt p12)), some (.ref q13), some (.int (Int32.ofInt 1)), none, none, none, none, none, none, none, none, none, none], [.int (Int32.ofInt 1), .int (Int32.ofInt s), .int (Int32.ofInt day), .int (Int32.ofInt (t : Int)), .ref 1], h123)) rfl ?_
  obtain ⟨g124, r124⟩ := qi_85 F C ht hd hs (i := 1) (by omega)
  obtain ⟨fs124, oo124⟩ := C.o
  refine yy_fin.cv (as := [.int (Int32.ofInt (t : Int)), .int (Int32.ofInt day), .int (Int32.ofInt s), .int (Int32.ofInt 1)]) rfl rfl rfl oo124 (Nat.le_of_ble_eq_true rfl) (Nat.le_of_ble_eq_true rfl) r124 ?_
  rintro v h124 ⟨rfl, C, x124⟩
  replace T13 := T13.k x124
  replace H6 := H6.k x124
  replace H7 := H7.k x124
  replace Y := Y.tr x124 (fun _ _ e => e)
  replace hY := Y.1
  refine yy_fin.steps (n := 2) (s' := (364, [some (.ref 1), some (.ref w), some (.ref 0), some (.int (Int32.ofInt fr)), some (.int (Int32.ofInt (t : Int))), some (.int (Int32.ofInt day)), some (zz_val k6), some (zz_val k7), some (.int (Int32.ofInt p8)), some (.ref k9), some (.int (Int32.ofInt s)), some (zz_val q11), some (.int (Int32.ofInt p12)), some (.ref q13), some (.int (Int32.ofInt 1)), none, none, none, none, none, none, none, none, none, none], [.int (Int32.ofInt 1), .ref q13, .int (Int32.ofInt (s_12 (g0 541) t day s 1))], h124)) rfl ?_
  refine yy_fin.lp (j := 1) rfl T13.2 rfl (by decide) rfl ?_
  refine yy_fin.ic rfl (fun _ => ?_) (fun cz => absurd (y_ceq (congrArg Int32.ofInt (s_12_e.2.1))) cz)
  refine yy_fin.steps (n := 4) (s' := (345, [some (.ref 1), some (.ref w), some (.ref 0), some (.int (Int32.ofInt fr)), some (.int (Int32.ofInt (t : Int))), some (.int (Int32.ofInt day)), some (zz_val k6), some (zz_val k7), some (.int (Int32.ofInt p8)), some (.ref k9), some (.int (Int32.ofInt s)), some (zz_val q11), some (.int (Int32.ofInt p12)), some (.ref q13), some (.int ((Int32.ofInt 1) + (Int32.ofInt 1))), none, none, none, none, none, none, none, none, none, none], [.int (Int32.ofInt 6), .int ((Int32.ofInt 1) + (Int32.ofInt 1))], h124)) rfl ?_
  rw [show (Int32.ofInt 1) + (Int32.ofInt 1) = Int32.ofInt 2 from by decide]
  refine yy_fin.ic rfl (fun cK => absurd cK (by decide)) (fun cK => ?_)
  refine yy_fin.steps (n := 5) (s' := (357, [some (.ref 1), some (.ref w), some (.ref 0), some (.int (Int32.ofInt fr)), some (.int (Int32.ofInt (t : Int))), some (.int (Int32.ofInt day)), some (zz_val k6), some (zz_val k7), some (.int (Int32.ofInt p8)), some (.ref k9), some (.int (Int32.ofInt s)), some (zz_val q11), some (.int (Int32.ofInt p12)), some (.ref q13), some (.int (Int32.ofInt 2)), none, none, none, none, none, none, none, none, none, none], [.int (Int32.ofInt 2), .int (Int32.ofInt s), .int (Int32.ofInt day), .int (Int32.ofInt (t : Int)), .ref 1], h124)) rfl ?_
  obtain ⟨g125, r125⟩ := qi_85 F C ht hd hs (i := 2) (by omega)
  obtain ⟨fs125, oo125⟩ := C.o
  refine yy_fin.cv (as := [.int (Int32.ofInt (t : Int)), .int (Int32.ofInt day), .int (Int32.ofInt s), .int (Int32.ofInt 2)]) rfl rfl rfl oo125 (Nat.le_of_ble_eq_true rfl) (Nat.le_of_ble_eq_true rfl) r125 ?_
  rintro v h125 ⟨rfl, C, x125⟩
  replace T13 := T13.k x125
  replace H6 := H6.k x125
  replace H7 := H7.k x125
  replace Y := Y.tr x125 (fun _ _ e => e)
  replace hY := Y.1
  refine yy_fin.steps (n := 2) (s' := (364, [some (.ref 1), some (.ref w), some (.ref 0), some (.int (Int32.ofInt fr)), some (.int (Int32.ofInt (t : Int))), some (.int (Int32.ofInt day)), some (zz_val k6), some (zz_val k7), some (.int (Int32.ofInt p8)), some (.ref k9), some (.int (Int32.ofInt s)), some (zz_val q11), some (.int (Int32.ofInt p12)), some (.ref q13), some (.int (Int32.ofInt 2)), none, none, none, none, none, none, none, none, none, none], [.int (Int32.ofInt 2), .ref q13, .int (Int32.ofInt (s_12 (g0 541) t day s 2))], h125)) rfl ?_
  refine yy_fin.lp (j := 2) rfl T13.2 rfl (by decide) rfl ?_
  refine yy_fin.ic rfl (fun _ => ?_) (fun cz => absurd (y_ceq (congrArg Int32.ofInt (s_12_e.2.2.1))) cz)
  refine yy_fin.steps (n := 4) (s' := (345, [some (.ref 1), some (.ref w), some (.ref 0), some (.int (Int32.ofInt fr)), some (.int (Int32.ofInt (t : Int))), some (.int (Int32.ofInt day)), some (zz_val k6), some (zz_val k7), some (.int (Int32.ofInt p8)), some (.ref k9), some (.int (Int32.ofInt s)), some (zz_val q11), some (.int (Int32.ofInt p12)), some (.ref q13), some (.int ((Int32.ofInt 2) + (Int32.ofInt 1))), none, none, none, none, none, none, none, none, none, none], [.int (Int32.ofInt 6), .int ((Int32.ofInt 2) + (Int32.ofInt 1))], h125)) rfl ?_
  rw [show (Int32.ofInt 2) + (Int32.ofInt 1) = Int32.ofInt 3 from by decide]
  refine yy_fin.ic rfl (fun cK => absurd cK (by decide)) (fun cK => ?_)
  refine yy_fin.steps (n := 5) (s' := (357, [some (.ref 1), some (.ref w), some (.ref 0), some (.int (Int32.ofInt fr)), some (.int (Int32.ofInt (t : Int))), some (.int (Int32.ofInt day)), some (zz_val k6), some (zz_val k7), some (.int (Int32.ofInt p8)), some (.ref k9), some (.int (Int32.ofInt s)), some (zz_val q11), some (.int (Int32.ofInt p12)), some (.ref q13), some (.int (Int32.ofInt 3)), none, none, none, none, none, none, none, none, none, none], [.int (Int32.ofInt 3), .int (Int32.ofInt s), .int (Int32.ofInt day), .int (Int32.ofInt (t : Int)), .ref 1], h125)) rfl ?_
  obtain ⟨g126, r126⟩ := qi_85 F C ht hd hs (i := 3) (by omega)
  obtain ⟨fs126, oo126⟩ := C.o
  refine yy_fin.cv (as := [.int (Int32.ofInt (t : Int)), .int (Int32.ofInt day), .int (Int32.ofInt s), .int (Int32.ofInt 3)]) rfl rfl rfl oo126 (Nat.le_of_ble_eq_true rfl) (Nat.le_of_ble_eq_true rfl) r126 ?_
  rintro v h126 ⟨rfl, C, x126⟩
  replace T13 := T13.k x126
  replace H6 := H6.k x126
  replace H7 := H7.k x126
  replace Y := Y.tr x126 (fun _ _ e => e)
  replace hY := Y.1
  refine yy_fin.steps (n := 2) (s' := (364, [some (.ref 1), some (.ref w), some (.ref 0), some (.int (Int32.ofInt fr)), some (.int (Int32.ofInt (t : Int))), some (.int (Int32.ofInt day)), some (zz_val k6), some (zz_val k7), some (.int (Int32.ofInt p8)), some (.ref k9), some (.int (Int32.ofInt s)), some (zz_val q11), some (.int (Int32.ofInt p12)), some (.ref q13), some (.int (Int32.ofInt 3)), none, none, none, none, none, none, none, none, none, none], [.int (Int32.ofInt 3), .ref q13, .int (Int32.ofInt (s_12 (g0 541) t day s 3))], h126)) rfl ?_
  refine yy_fin.lp (j := 3) rfl T13.2 rfl (by decide) rfl ?_
  refine yy_fin.ic rfl (fun _ => ?_) (fun cz => absurd (y_ceq (congrArg Int32.ofInt (s_12_e.2.2.2.1))) cz)
  refine yy_fin.steps (n := 4) (s' := (345, [some (.ref 1), some (.ref w), some (.ref 0), some (.int (Int32.ofInt fr)), some (.int (Int32.ofInt (t : Int))), some (.int (Int32.ofInt day)), some (zz_val k6), some (zz_val k7), some (.int (Int32.ofInt p8)), some (.ref k9), some (.int (Int32.ofInt s)), some (zz_val q11), some (.int (Int32.ofInt p12)), some (.ref q13), some (.int ((Int32.ofInt 3) + (Int32.ofInt 1))), none, none, none, none, none, none, none, none, none, none], [.int (Int32.ofInt 6), .int ((Int32.ofInt 3) + (Int32.ofInt 1))], h126)) rfl ?_
  rw [show (Int32.ofInt 3) + (Int32.ofInt 1) = Int32.ofInt 4 from by decide]
  refine yy_fin.ic rfl (fun cK => absurd cK (by decide)) (fun cK => ?_)
  refine yy_fin.steps (n := 5) (s' := (357, [some (.ref 1), some (.ref w), some (.ref 0), some (.int (Int32.ofInt fr)), some (.int (Int32.ofInt (t : Int))), some (.int (Int32.ofInt day)), some (zz_val k6), some (zz_val k7), some (.int (Int32.ofInt p8)), some (.ref k9), some (.int (Int32.ofInt s)), some (zz_val q11), some (.int (Int32.ofInt p12)), some (.ref q13), some (.int (Int32.ofInt 4)), none, none, none, none, none, none, none, none, none, none], [.int (Int32.ofInt 4), .int (Int32.ofInt s), .int (Int32.ofInt day), .int (Int32.ofInt (t : Int)), .ref 1], h126)) rfl ?_
  obtain ⟨g127, r127⟩ := qi_85 F C ht hd hs (i := 4) (by omega)
  obtain ⟨fs127, oo127⟩ := C.o
  refine yy_fin.cv (as := [.int (Int32.ofInt (t : Int)), .int (Int32.ofInt day), .int (Int32.ofInt s), .int (Int32.ofInt 4)]) rfl rfl rfl oo127 (Nat.le_of_ble_eq_true rfl) (Nat.le_of_ble_eq_true rfl) r127 ?_
  rintro v h127 ⟨rfl, C, x127⟩
  replace T13 := T13.k x127
  replace H6 := H6.k x127
  replace H7 := H7.k x127
  replace Y := Y.tr x127 (fun _ _ e => e)
  replace hY := Y.1
  refine yy_fin.steps (n := 2) (s' := (364, [some (.ref 1), some (.ref w), some (.ref 0), some (.int (Int32.ofInt fr)), some (.int (Int32.ofInt (t : Int))), some (.int (Int32.ofInt day)), some (zz_val k6), some (zz_val k7), some (.int (Int32.ofInt p8)), some (.ref k9), some (.int (Int32.ofInt s)), some (zz_val q11), some (.int (Int32.ofInt p12)), some (.ref q13), some (.int (Int32.ofInt 4)), none, none, none, none, none, none, none, none, none, none], [.int (Int32.ofInt 4), .ref q13, .int (Int32.ofInt (s_12 (g0 541) t day s 4))], h127)) rfl ?_
  refine yy_fin.lp (j := 4) rfl T13.2 rfl (by decide) rfl ?_
  refine yy_fin.ic rfl (fun _ => ?_) (fun cz => absurd (y_ceq (congrArg Int32.ofInt (s_12_e.2.2.2.2.1))) cz)
  refine yy_fin.steps (n := 4) (s' := (345, [some (.ref 1), some (.ref w), some (.ref 0), some (.int (Int32.ofInt fr)), some (.int (Int32.ofInt (t : Int))), some (.int (Int32.ofInt day)), some (zz_val k6), some (zz_val k7), some (.int (Int32.ofInt p8)), some (.ref k9), some (.int (Int32.ofInt s)), some (zz_val q11), some (.int (Int32.ofInt p12)), some (.ref q13), some (.int ((Int32.ofInt 4) + (Int32.ofInt 1))), none, none, none, none, none, none, none, none, none, none], [.int (Int32.ofInt 6), .int ((Int32.ofInt 4) + (Int32.ofInt 1))], h127)) rfl ?_
  rw [show (Int32.ofInt 4) + (Int32.ofInt 1) = Int32.ofInt 5 from by decide]
  refine yy_fin.ic rfl (fun cK => absurd cK (by decide)) (fun cK => ?_)
  refine yy_fin.steps (n := 5) (s' := (357, [some (.ref 1), some (.ref w), some (.ref 0), some (.int (Int32.ofInt fr)), some (.int (Int32.ofInt (t : Int))), some (.int (Int32.ofInt day)), some (zz_val k6), some (zz_val k7), some (.int (Int32.ofInt p8)), some (.ref k9), some (.int (Int32.ofInt s)), some (zz_val q11), some (.int (Int32.ofInt p12)), some (.ref q13), some (.int (Int32.ofInt 5)), none, none, none, none, none, none, none, none, none, none], [.int (Int32.ofInt 5), .int (Int32.ofInt s), .int (Int32.ofInt day), .int (Int32.ofInt (t : Int)), .ref 1], h127)) rfl ?_
  obtain ⟨g128, r128⟩ := qi_85 F C ht hd hs (i := 5) (by omega)
  obtain ⟨fs128, oo128⟩ := C.o
  refine yy_fin.cv (as := [.int (Int32.ofInt (t : Int)), .int (Int32.ofInt day), .int (Int32.ofInt s), .int (Int32.ofInt 5)]) rfl rfl rfl oo128 (Nat.le_of_ble_eq_true rfl) (Nat.le_of_ble_eq_true rfl) r128 ?_
  rintro v h128 ⟨rfl, C, x128⟩
  replace T13 := T13.k x128
  replace H6 := H6.k x128
  replace H7 := H7.k x128
  replace Y := Y.tr x128 (fun _ _ e => e)
  replace hY := Y.1
  refine yy_fin.steps (n := 2) (s' := (364, [some (.ref 1), some (.ref w), some (.ref 0), some (.int (Int32.ofInt fr)), some (.int (Int32.ofInt (t : Int))), some (.int (Int32.ofInt day)), some (zz_val k6), some (zz_val k7), some (.int (Int32.ofInt p8)), some (.ref k9), some (.int (Int32.ofInt s)), some (zz_val q11), some (.int (Int32.ofInt p12)), some (.ref q13), some (.int (Int32.ofInt 5)), none, none, none, none, none, none, none, none, none, none], [.int (Int32.ofInt 5), .ref q13, .int (Int32.ofInt (s_12 (g0 541) t day s 5))], h128)) rfl ?_
  refine yy_fin.lp (j := 5) rfl T13.2 rfl (by decide) rfl ?_
  refine yy_fin.ic rfl (fun _ => ?_) (fun cz => absurd (y_ceq (congrArg Int32.ofInt (s_12_e.2.2.2.2.2))) cz)
  refine yy_fin.steps (n := 4) (s' := (345, [some (.ref 1), some (.ref w), some (.ref 0), some (.int (Int32.ofInt fr)), some (.int (Int32.ofInt (t : Int))), some (.int (Int32.ofInt day)), some (zz_val k6), some (zz_val k7), some (.int (Int32.ofInt p8)), some (.ref k9), some (.int (Int32.ofInt s)), some (zz_val q11), some (.int (Int32.ofInt p12)), some (.ref q13), some (.int ((Int32.ofInt 5) + (Int32.ofInt 1))), none, none, none, none, none, none, none, none, none, none], [.int (Int32.ofInt 6), .int ((Int32.ofInt 5) + (Int32.ofInt 1))], h128)) rfl ?_
  rw [show (Int32.ofInt 5) + (Int32.ofInt 1) = Int32.ofInt 6 from by decide]
  refine yy_fin.ic rfl (fun cK => ?_) (fun cK => absurd (by decide) cK)
  exact kk _ _ s q11 _ _ _ hs C (Y.le (by omega) (by omega)) H6 H7
theorem yl_d3 (F : yCf own w lst g0) (ht : (t : Int) < (g0 541 0).toInt) (hd : 0 ≤ day ∧ day ≤ 35999) (hs : 0 ≤ s ∧ s ≤ 86399) (C : yCx own w lst g0 h g) (hB : h.1.1 + 200 < yy_B) {k6 k7 : Option Nat} (H6 : yHr h w k6 (hv_t (g0 541) t day 0)) (H7 : yHr h w k7 (hv_t (g0 541) t day 1)) {p8 p12 i14 : Int} {k9 q13 : Nat} {q11 : Option Nat} (kk : ∀ h' g' q14 i15, yCx own w lst g0 h' g' → yx (yAk w) 20 60 h h' → yHr h' w k6 (hv_t (g0 541) t day 0) → yHr h' w k7 (hv_t (g0 541) t day 1) → yy_fin X 279 (508, [some (.ref 1), some (.ref w), some (.ref 0), some (.int (Int32.ofInt fr)), some (.int (Int32.ofInt (t : Int))), some (.int (Int32.ofInt day)), some (zz_val k6), some (zz_val k7), some (.int (Int32.ofInt p8)), some (.ref k9), some (.int (Int32.ofInt s)), some (zz_val q11), some (.int (Int32.ofInt p12)), some (.ref q13), some (.ref q14), some (.int (Int32.ofInt i15)), none, none, none, none, none, none, none, none, none], [], h') φ) : yy_fin X 279 (376, [some (.ref 1), some (.ref w), some (.ref 0), some (.int (Int32.ofInt fr)), some (.int (Int32.ofInt (t : Int))), some (.int (Int32.ofInt day)), some (zz_val k6), some (zz_val k7), some (.int (Int32.ofInt p8)), some (.ref k9), some (.int (Int32.ofInt s)), some (zz_val q11), some (.int (Int32.ofInt p12)), some (.ref q13), some (.int (Int32.ofInt i14)), none, none, none, none, none, none, none, none, none, none], [], h) φ := by
  have n4 := F.2.2.2.1
  have hq := F.2.2.2.2.1
  have Y : yx (yAk w) 0 0 h h := yx.rf
  have hY := Y.1
  have hg := C.2.1.2
  refine yy_fin.steps (n := 1) (s' := (377, [some (.ref 1), some (.ref w), some (.ref 0), some (.int (Int32.ofInt fr)), some (.int (Int32.ofInt (t : Int))), some (.int (Int32.ofInt day)), some (zz_val k6), some (zz_val k7), some (.int (Int32.ofInt p8)), some (.ref k9), some (.int (Int32.ofInt s)), some (zz_val q11), some (.int (Int32.ofInt p12)), some (.ref q13), some (.int (Int32.ofInt i14)), none, none, none, none, none, none, none, none, none, none], [.int (Int32.ofInt 5)], h)) rfl ?_
  refine yy_fin.ni (n := 5) rfl (by decide) (by decide) (by decide) (by omega) C.2.2.2.2 fun h101 x101 e101 i101 z101 => ?_
  have Q : yQ h101 (h.1.1 + 1) 5 [] := ⟨i101, fun j v e => nomatch e⟩
  have NQ : yx yF 1 5 h h101 := x101
  refine yy_fin.steps (n := 3) (s' := (383, [some (.ref 1), some (.ref w), some (.ref 0), some (.int (Int32.ofInt fr)), some (.int (Int32.ofInt (t : Int))), some (.int (Int32.ofInt day)), some (zz_val k6), some (zz_val k7), some (.int (Int32.ofInt p8)), some (.ref k9), some (.int (Int32.ofInt s)), some (zz_val q11), some (.int (Int32.ofInt p12)), some (.ref q13), some (.int (Int32.ofInt i14)), none, none, none, none, none, none, none, none, none, none], [.int (Int32.ofInt day), .int (Int32.ofInt 0), .ref (h.1.1 + 1), .ref (h.1.1 + 1)], h101)) rfl ?_
  refine yy_fin.sq rfl Q (by decide) rfl fun h102 x102 q102 => ?_
  replace Q := q102
  replace NQ := (NQ.tr x102 (fun q hq e => by have e : q = _ := e; have hq : q ≤ h.1.1 := hq; omega)).le (a2 := 1) (d2 := 5) (Nat.le_refl _) (Nat.le_refl _)
  refine yy_fin.steps (n := 2) (s' := (386, [some (.ref 1), some (.ref w), some (.ref 0), some (.int (Int32.ofInt fr)), some (.int (Int32.ofInt (t : Int))), some (.int (Int32.ofInt day)), some (zz_val k6), some (zz_val k7), some (.int (Int32.ofInt p8)), some (.ref k9), some (.int (Int32.ofInt s)), some (zz_val q11), some (.int (Int32.ofInt p12)), some (.ref q13), some (.int (Int32.ofInt i14)), none, none, none, none, none, none, none, none, none, none], [.int (Int32.ofInt 1), .ref (h.1.1 + 1), .ref (h.1.1 + 1)], h102)) rfl ?_
  suffices K103 : yy_fin X 279 (388, [some (.ref 1), some (.ref w), some (.ref 0), some (.int (Int32.ofInt fr)), some (.int (Int32.ofInt (t : Int))), some (.int (Int32.ofInt day)), some (zz_val k6), some (zz_val k7), some (.int (Int32.ofInt p8)), some (.ref k9), some (.int (Int32.ofInt s)), some (zz_val q11), some (.int (Int32.ofInt p12)), some (.ref q13), some (.int (Int32.ofInt i14)), none, none, none, none, none, none, none, none, none, none], [zz_val k6, .int (Int32.ofInt 1), .ref (h.1.1 + 1), .ref (h.1.1 + 1)], h102) φ by cases k6 <;> exact yy_fin.steps (n := 1) rfl K103
  suffices J104 : ∀ v104 : Int, v104 = y_el (hv_t (g0 541) t day 0) (-2) (fun u _ => if s < u then day - 1 else day) → yy_fin X 279 (414, [some (.ref 1), some (.ref w), some (.ref 0), some (.int (Int32.ofInt fr)), some (.int (Int32.ofInt (t : Int))), some (.int (Int32.ofInt day)), some (zz_val k6), some (zz_val k7), some (.int (Int32.ofInt p8)), some (.ref k9), some (.int (Int32.ofInt s)), some (zz_val q11), some (.int (Int32.ofInt p12)), some (.ref q13), some (.int (Int32.ofInt i14)), none, none, none, none, none, none, none, none, none, none], [.int (Int32.ofInt v104), .int (Int32.ofInt 1), .ref (h.1.1 + 1), .ref (h.1.1 + 1)], h102) φ by
    rcases H6 with ⟨rfl, eo105⟩ | ⟨q105, u105, l105, rfl, eo105, R105⟩
    · refine yy_fin.steps (n := 3) (s' := (414, [some (.ref 1), some (.ref w), some (.ref 0), some (.int (Int32.ofInt fr)), some (.int (Int32.ofInt (t : Int))), some (.int (Int32.ofInt day)), some (.null), some (zz_val k7), some (.int (Int32.ofInt p8)), some (.ref k9), some (.int (Int32.ofInt s)), some (zz_val q11), some (.int (Int32.ofInt p12)), some (.ref q13), some (.int (Int32.ofInt i14)), none, none, none, none, none, none, none, none, none, none], [.int (Int32.ofInt (-2)), .int (Int32.ofInt 1), .ref (h.1.1 + 1), .ref (h.1.1 + 1)], h102)) rfl ?_
      exact J104 (-2) (by rw [eo105]; rfl)
    · have hb105 := hv_bnd2 F.2.2.2 ht eo105
      refine yy_fin.steps (n := 4) (s' := (401, [some (.ref 1), some (.ref w), some (.ref 0), some (.int (Int32.ofInt fr)), some (.int (Int32.ofInt (t : Int))), some (.int (Int32.ofInt day)), some (.ref q105), some (zz_val k7), some (.int (Int32.ofInt p8)), some (.ref k9), some (.int (Int32.ofInt s)), some (zz_val q11), some (.int (Int32.ofInt p12)), some (.ref q13), some (.int (Int32.ofInt i14)), none, none, none, none, none, none, none, none, none, none], [.int (Int32.ofInt 0), .ref q105, .int (Int32.ofInt s), .int (Int32.ofInt 1), .ref (h.1.1 + 1), .ref (h.1.1 + 1)], h102)) rfl ?_
      refine yy_fin.lp (j := 0) rfl (R105.k NQ.ak).2 rfl (by decide) rfl ?_
      refine yy_fin.ic rfl (fun c106 => ?_) (fun c106 => ?_)
      · have c106 := (yi_c_ge (a := s) (b := u105) (by omega) (by omega)).mp c106
        refine yy_fin.steps (n := 1) (s' := (414, [some (.ref 1), some (.ref w), some (.ref 0), some (.int (Int32.ofInt fr)), some (.int (Int32.ofInt (t : Int))), some (.int (Int32.ofInt day)), some (.ref q105), some (zz_val k7), some (.int (Int32.ofInt p8)), some (.ref k9), some (.int (Int32.ofInt s)), some (zz_val q11), some (.int (Int32.ofInt p12)), some (.ref q13), some (.int (Int32.ofInt i14)), none, none, none, none, none, none, none, none, none, none], [.int (Int32.ofInt day), .int (Int32.ofInt 1), .ref (h.1.1 + 1), .ref (h.1.1 + 1)], h102)) rfl ?_
        exact J104 (day) (by rw [eo105]; exact (if_neg (by omega)).symm)
      · have c106 := mt (yi_c_ge (a := s) (b := u105) (by omega) (by omega)).mpr c106
        refine yy_fin.steps (n := 4) (s' := (414, [some (.ref 1), some (.ref w), some (.ref 0), some (.int (Int32.ofInt fr)), some (.int (Int32.ofInt (t : Int))), some (.int (Int32.ofInt day)), some (.ref q105), some (zz_val k7), some (.int (Int32.ofInt p8)), some (.ref k9), some (.int (Int32.ofInt s)), some (zz_val q11), some (.int (Int32.ofInt p12)), some (.ref q13), some (.int (Int32.ofInt i14)), none, none, none, none, none, none, none, none, none, none], [.int ((Int32.ofInt day) - (Int32.ofInt 1)), .int (Int32.ofInt 1), .ref (h.1.1 + 1), .ref (h.1.1 + 1)], h102)) rfl ?_
        rw [yi_sub day 1]
        exact J104 (day - 1) (by rw [eo105]; exact (if_pos (by omega)).symm)
  intro v104 ev104
  refine yy_fin.sq rfl Q (by decide) rfl fun h107 x107 q107 => ?_
  replace Q := q107
  replace NQ := (NQ.tr x107 (fun q hq e => by have e : q = _ := e; have hq : q ≤ h.1.1 := hq; omega)).le (a2 := 1) (d2 := 5) (Nat.le_refl _) (Nat.le_refl _)
  refine yy_fin.steps (n := 2) (s' := (417, [some (.ref 1), some (.ref w), some (.ref 0), some (.int (Int32.ofInt fr)), some (.int (Int32.ofInt (t : Int))), some (.int (Int32.ofInt day)), some (zz_val k6), some (zz_val k7), some (.int (Int32.ofInt p8)), some (.ref k9), some (.int (Int32.ofInt s)), some (zz_val q11), some (.int (Int32.ofInt p12)), some (.ref q13), some (.int (Int32.ofInt i14)), none, none, none, none, none, none, none, none, none, none], [.int (Int32.ofInt 2), .ref (h.1.1 + 1), .ref (h.1.1 + 1)], h107)) rfl ?_
  suffices K108 : yy_fin X 279 (419, [some (.ref 1), some (.ref w), some (.ref 0), some (.int (Int32.ofInt fr)), some (.int (Int32.ofInt (t : Int))), some (.int (Int32.ofInt day)), some (zz_val k6), some (zz_val k7), some (.int (Int32.ofInt p8)), some (.ref k9), some (.int (Int32.ofInt s)), some (zz_val q11), some (.int (Int32.ofInt p12)), some (.ref q13), some (.int (Int32.ofInt i14)), none, none, none, none, none, none, none, none, none, none], [zz_val k6, .int (Int32.ofInt 2), .ref (h.1.1 + 1), .ref (h.1.1 + 1)], h107) φ by cases k6 <;> exact yy_fin.steps (n := 1) rfl K108
  suffices J109 : ∀ v109 : Int, v109 = y_el (hv_t (g0 541) t day 0) (-2) (fun u l => if s < u + l then day else day + 1) → yy_fin X 279 (445, [some (.ref 1), some (.ref w), some (.ref 0), some (.int (Int32.ofInt fr)), some (.int (Int32.ofInt (t : Int))), some (.int (Int32.ofInt day)), some (zz_val k6), some (zz_val k7), some (.int (Int32.ofInt p8)), some (.ref k9), some (.int (Int32.ofInt s)), some (zz_val q11), some (.int (Int32.ofInt p12)), some (.ref q13), some (.int (Int32.ofInt i14)), none, none, none, none, none, none, none, none, none, none], [.int (Int32.ofInt v109), .int (Int32.ofInt 2), .ref (h.1.1 + 1), .ref (h.1.1 + 1)], h107) φ by
    rcases H6 with ⟨rfl, eo110⟩ | ⟨q110, u110, l110, rfl, eo110, R110⟩
    · refine yy_fin.steps (n := 3) (s' := (445, [some (.ref 1), some (.ref w), some (.ref 0), some (.int (Int32.ofInt fr)), some (.int (Int32.ofInt (t : Int))), some (.int (Int32.ofInt day)), some (.null), some (zz_val k7), some (.int (Int32.ofInt p8)), some (.ref k9), some (.int (Int32.ofInt s)), some (zz_val q11), some (.int (Int32.ofInt p12)), some (.ref q13), some (.int (Int32.ofInt i14)), none, none, none, none, none, none, none, none, none, none], [.int (Int32.ofInt (-2)), .int (Int32.ofInt 2), .ref (h.1.1 + 1), .ref (h.1.1 + 1)], h107)) rfl ?_
      exact J109 (-2) (by rw [eo110]; rfl)
    · have hb110 := hv_bnd2 F.2.2.2 ht eo110
      refine yy_fin.steps (n := 4) (s' := (432, [some (.ref 1), some (.ref w), some (.ref 0), some (.int (Int32.ofInt fr)), some (.int (Int32.ofInt (t : Int))), some (.int (Int32.ofInt day)), some (.ref q110), some (zz_val k7), some (.int (Int32.ofInt p8)), some (.ref k9), some (.int (Int32.ofInt s)), some (zz_val q11), some (.int (Int32.ofInt p12)), some (.ref q13), some (.int (Int32.ofInt i14)), none, none, none, none, none, none, none, none, none, none], [.int (Int32.ofInt 1), .ref q110, .int (Int32.ofInt s), .int (Int32.ofInt 2), .ref (h.1.1 + 1), .ref (h.1.1 + 1)], h107)) rfl ?_
      refine yy_fin.lp (j := 1) rfl (R110.k NQ.ak).2 rfl (by decide) rfl ?_
      refine yy_fin.ic rfl (fun c111 => ?_) (fun c111 => ?_)
      · have c111 := (yi_c_ge (a := s) (b := u110 + l110) (by omega) (by omega)).mp c111
        refine yy_fin.steps (n := 3) (s' := (445, [some (.ref 1), some (.ref w), some (.ref 0), some (.int (Int32.ofInt fr)), some (.int (Int32.ofInt (t : Int))), some (.int (Int32.ofInt day)), some (.ref q110), some (zz_val k7), some (.int (Int32.ofInt p8)), some (.ref k9), some (.int (Int32.ofInt s)), some (zz_val q11), some (.int (Int32.ofInt p12)), some (.ref q13), some (.int (Int32.ofInt i14)), none, none, none, none, none, none, none, none, none, none], [.int ((Int32.ofInt day) + (Int32.ofInt 1)), .int (Int32.ofInt 2), .ref (h.1.1 + 1), .ref (h.1.1 + 1)], h107)) rfl ?_
        rw [yi_add day 1]
        exact J109 (day + 1) (by rw [eo110]; exact (if_neg (by omega)).symm)
      · have c111 := mt (yi_c_ge (a := s) (b := u110 + l110) (by omega) (by omega)).mpr c111
        refine yy_fin.steps (n := 2) (s' := (445, [some (.ref 1), some (.ref w), some (.ref 0), some (.int (Int32.ofInt fr)), some (.int (Int32.ofInt (t : Int))), some (.int (Int32.ofInt day)), some (.ref q110), some (zz_val k7), some (.int (Int32.ofInt p8)), some (.ref k9), some (.int (Int32.ofInt s)), some (zz_val q11), some (.int (Int32.ofInt p12)), some (.ref q13), some (.int (Int32.ofInt i14)), none, none, none, none, none, none, none, none, none, none], [.int (Int32.ofInt day), .int (Int32.ofInt 2), .ref (h.1.1 + 1), .ref (h.1.1 + 1)], h107)) rfl ?_
        exact J109 (day) (by rw [eo110]; exact (if_pos (by omega)).symm)
  intro v109 ev109
  refine yy_fin.sq rfl Q (by decide) rfl fun h112 x112 q112 => ?_
  replace Q := q112
  replace NQ := (NQ.tr x112 (fun q hq e => by have e : q = _ := e; have hq : q ≤ h.1.1 := hq; omega)).le (a2 := 1) (d2 := 5) (Nat.le_refl _) (Nat.le_refl _)
  refine yy_fin.steps (n := 4) (s' := (452, [some (.ref 1), some (.ref w), some (.ref 0), some (.int (Int32.ofInt fr)), some (.int (Int32.ofInt (t : Int))), some (.int (Int32.ofInt day)), some (zz_val k6), some (zz_val k7), some (.int (Int32.ofInt p8)), some (.ref k9), some (.int (Int32.ofInt s)), some (zz_val q11), some (.int (Int32.ofInt p12)), some (.ref q13), some (.int (Int32.ofInt i14)), none, none, none, none, none, none, none, none, none, none], [.int (Int32.ofInt 43200), .int (Int32.ofInt s), .int (Int32.ofInt 3), .ref (h.1.1 + 1), .ref (h.1.1 + 1)], h112)) rfl ?_
  suffices J113 : ∀ v113 : Int, v113 = (if s < 43200 then day - 1 else day) → yy_fin X 279 (464, [some (.ref 1), some (.ref w), some (.ref 0), some (.int (Int32.ofInt fr)), some (.int (Int32.ofInt (t : Int))), some (.int (Int32.ofInt day)), some (zz_val k6), some (zz_val k7), some (.int (Int32.ofInt p8)), some (.ref k9), some (.int (Int32.ofInt s)), some (zz_val q11), some (.int (Int32.ofInt p12)), some (.ref q13), some (.int (Int32.ofInt i14)), none, none, none, none, none, none, none, none, none, none], [.int (Int32.ofInt v113), .int (Int32.ofInt 3), .ref (h.1.1 + 1), .ref (h.1.1 + 1)], h112) φ by
    refine yy_fin.ic rfl (fun c114 => ?_) (fun c114 => ?_)
    · have c114 := (yi_c_ge (a := s) (b := 43200) (by omega) (by omega)).mp c114
      refine yy_fin.steps (n := 1) (s' := (464, [some (.ref 1), some (.ref w), some (.ref 0), some (.int (Int32.ofInt fr)), some (.int (Int32.ofInt (t : Int))), some (.int (Int32.ofInt day)), some (zz_val k6), some (zz_val k7), some (.int (Int32.ofInt p8)), some (.ref k9), some (.int (Int32.ofInt s)), some (zz_val q11), some (.int (Int32.ofInt p12)), some (.ref q13), some (.int (Int32.ofInt i14)), none, none, none, none, none, none, none, none, none, none], [.int (Int32.ofInt day), .int (Int32.ofInt 3), .ref (h.1.1 + 1), .ref (h.1.1 + 1)], h112)) rfl ?_
      exact J113 (day) (if_neg (by omega)).symm
    · have c114 := mt (yi_c_ge (a := s) (b := 43200) (by omega) (by omega)).mpr c114
      refine yy_fin.steps (n := 4) (s' := (464, [some (.ref 1), some (.ref w), some (.ref 0), some (.int (Int32.ofInt fr)), some (.int (Int32.ofInt (t : Int))), some (.int (Int32.ofInt day)), some (zz_val k6), some (zz_val k7), some (.int (Int32.ofInt p8)), some (.ref k9), some (.int (Int32.ofInt s)), some (zz_val q11), some (.int (Int32.ofInt p12)), some (.ref q13), some (.int (Int32.ofInt i14)), none, none, none, none, none, none, none, none, none, none], [.int ((Int32.ofInt day) - (Int32.ofInt 1)), .int (Int32.ofInt 3), .ref (h.1.1 + 1), .ref (h.1.1 + 1)], h112)) rfl ?_
      rw [yi_sub day 1]
      exact J113 (day - 1) (if_pos (by omega)).symm
  intro v113 ev113
  refine yy_fin.sq rfl Q (by decide) rfl fun h115 x115 q115 => ?_
  replace Q := q115
  replace NQ := (NQ.tr x115 (fun q hq e => by have e : q = _ := e; have hq : q ≤ h.1.1 := hq; omega)).le (a2 := 1) (d2 := 5) (Nat.le_refl _) (Nat.le_refl _)
  refine yy_fin.steps (n := 3) (s' := (468, [some (.ref 1), some (.ref w), some (.ref 0), some (.int (Int32.ofInt fr)), some (.int (Int32.ofInt (t : Int))), some (.int (Int32.ofInt day)), some (zz_val k6), some (zz_val k7), some (.int (Int32.ofInt p8)), some (.ref k9), some (.int (Int32.ofInt s)), some (zz_val q11), some (.int (Int32.ofInt p12)), some (.ref q13), some (.int (Int32.ofInt i14)), none, none, none, none, none, none, none, none, none, none], [.int (Int32.ofInt (-1)), .int (Int32.ofInt 4), .ref (h.1.1 + 1), .ref (h.1.1 + 1)], h115)) rfl ?_
  refine yy_fin.sq rfl Q (by decide) rfl fun h116 x116 q116 => ?_
  replace Q := q116
  replace NQ := (NQ.tr x116 (fun q hq e => by have e : q = _ := e; have hq : q ≤ h.1.1 := hq; omega)).le (a2 := 1) (d2 := 5) (Nat.le_refl _) (Nat.le_refl _)
  have x117 : yx (yAk w) 1 5 h h116 := NQ.ak
  have hn117 : 539 < h.1.1 + 1 := by have := C.2.1.2; omega
  have hw117 : h.1.1 + 1 ≠ w := by have := C.wle; omega
  replace C := C.f NQ
  have T14 : yRw h116 w (h.1.1 + 1) [(Int32.ofInt day), (Int32.ofInt v104), (Int32.ofInt v109), (Int32.ofInt v113), (Int32.ofInt (-1))] := ⟨⟨hn117, hw117⟩, Q⟩
  replace H6 := H6.k x117
  replace H7 := H7.k x117
  replace Y := Y.tr x117 (fun _ _ e => e)
  replace hY := Y.1
  refine yy_fin.steps (n := 5) (s' := (477, [some (.ref 1), some (.ref w), some (.ref 0), some (.int (Int32.ofInt fr)), some (.int (Int32.ofInt (t : Int))), some (.int (Int32.ofInt day)), some (zz_val k6), some (zz_val k7), some (.int (Int32.ofInt p8)), some (.ref k9), some (.int (Int32.ofInt s)), some (zz_val q11), some (.int (Int32.ofInt p12)), some (.ref q13), some (.ref (h.1.1 + 1)), some (.int (Int32.ofInt 0)), none, none, none, none, none, none, none, none, none], [.int (Int32.ofInt 5), .int (Int32.ofInt 0)], h116)) rfl ?_
  refine yy_fin.ic rfl (fun cK => absurd cK (by decide)) (fun cK => ?_)
  refine yy_fin.steps (n := 5) (s' := (489, [some (.ref 1), some (.ref w), some (.ref 0), some (.int (Int32.ofInt fr)), some (.int (Int32.ofInt (t : Int))), some (.int (Int32.ofInt day)), some (zz_val k6), some (zz_val k7), some (.int (Int32.ofInt p8)), some (.ref k9), some (.int (Int32.ofInt s)), some (zz_val q11), some (.int (Int32.ofInt p12)), some (.ref q13), some (.ref (h.1.1 + 1)), some (.int (Int32.ofInt 0)), none, none, none, none, none, none, none, none, none], [.int (Int32.ofInt 0), .int (Int32.ofInt s), .int (Int32.ofInt day), .int (Int32.ofInt (t : Int)), .ref 1], h116)) rfl ?_
  obtain ⟨g118, r118⟩ := qi_95 F C ht hd hs (k := 0) (by omega)
  obtain ⟨fs118, oo118⟩ := C.o
  refine yy_fin.cv (as := [.int (Int32.ofInt (t : Int)), .int (Int32.ofInt day), .int (Int32.ofInt s), .int (Int32.ofInt 0)]) rfl rfl rfl oo118 (Nat.le_of_ble_eq_true rfl) (Nat.le_of_ble_eq_true rfl) r118 ?_
  rintro v h118 ⟨rfl, C, x118⟩
  replace T14 := T14.k x118
  replace H6 := H6.k x118
  replace H7 := H7.k x118
  replace Y := Y.tr x118 (fun _ _ e => e)
  replace hY := Y.1
  refine yy_fin.steps (n := 2) (s' := (496, [some (.ref 1), some (.ref w), some (.ref 0), some (.int (Int32.ofInt fr)), some (.int (Int32.ofInt (t : Int))), some (.int (Int32.ofInt day)), some (zz_val k6), some (zz_val k7), some (.int (Int32.ofInt p8)), some (.ref k9), some (.int (Int32.ofInt s)), some (zz_val q11), some (.int (Int32.ofInt p12)), some (.ref q13), some (.ref (h.1.1 + 1)), some (.int (Int32.ofInt 0)), none, none, none, none, none, none, none, none, none], [.int (Int32.ofInt 0), .ref (h.1.1 + 1), .int (Int32.ofInt (s_95 (g0 541) t day s 0))], h118)) rfl ?_
  refine yy_fin.lp (j := 0) rfl T14.2 rfl (by decide) rfl ?_
  have q0 : s_95 (g0 541) t day s 0 = day := s_95_e.1
  refine yy_fin.ic rfl (fun _ => ?_) (fun cz => absurd (y_ceq (congrArg Int32.ofInt q0)) cz)
  refine yy_fin.steps (n := 4) (s' := (477, [some (.ref 1), some (.ref w), some (.ref 0), some (.int (Int32.ofInt fr)), some (.int (Int32.ofInt (t : Int))), some (.int (Int32.ofInt day)), some (zz_val k6), some (zz_val k7), some (.int (Int32.ofInt p8)), some (.ref k9), some (.int (Int32.ofInt s)), some (zz_val q11), some (.int (Int32.ofInt p12)), some (.ref q13), some (.ref (h.1.1 + 1)), some (.int ((Int32.ofInt 0) + (Int32.ofInt 1))), none, none, none, none, none, none, none, none, none], [.int (Int32.ofInt 5), .int ((Int32.ofInt 0) + (Int32.ofInt 1))], h118)) rfl ?_
  rw [show (Int32.ofInt 0) + (Int32.ofInt 1) = Int32.ofInt 1 from by decide]
  refine yy_fin.ic rfl (fun cK => absurd cK (by decide)) (fun cK => ?_)
  refine yy_fin.steps (n := 5) (s' := (489, [some (.ref 1), some (.ref w), some (.ref 0), some (.int (Int32.ofInt fr)), some (.int (Int32.ofInt (t : Int))), some (.int (Int32.ofInt day)), some (zz_val k6), some (zz_val k7), some (.int (Int32.ofInt p8)), some (.ref k9), some (.int (Int32.ofInt s)), some (zz_val q11), some (.int (Int32.ofInt p12)), some (.ref q13), some (.ref (h.1.1 + 1)), some (.int (Int32.ofInt 1)), none, none, none, none, none, none, none, none, none], [.int (Int32.ofInt 1), .int (Int32.ofInt s), .int (Int32.ofInt day), .int (Int32.ofInt (t : Int)), .ref 1], h118)) rfl ?_
  obtain ⟨g119, r119⟩ := qi_95 F C ht hd hs (k := 1) (by omega)
  obtain ⟨fs119, oo119⟩ := C.o
  refine yy_fin.cv (as := [.int (Int32.ofInt (t : Int)), .int (Int32.ofInt day), .int (Int32.ofInt s), .int (Int32.ofInt 1)]) rfl rfl rfl oo119 (Nat.le_of_ble_eq_true rfl) (Nat.le_of_ble_eq_true rfl) r119 ?_
  rintro v h119 ⟨rfl, C, x119⟩
  replace T14 := T14.k x119
  replace H6 := H6.k x119
  replace H7 := H7.k x119
  replace Y := Y.tr x119 (fun _ _ e => e)
  replace hY := Y.1
  refine yy_fin.steps (n := 2) (s' := (496, [some (.ref 1), some (.ref w), some (.ref 0), some (.int (Int32.ofInt fr)), some (.int (Int32.ofInt (t : Int))), some (.int (Int32.ofInt day)), some (zz_val k6), some (zz_val k7), some (.int (Int32.ofInt p8)), some (.ref k9), some (.int (Int32.ofInt s)), some (zz_val q11), some (.int (Int32.ofInt p12)), some (.ref q13), some (.ref (h.1.1 + 1)), some (.int (Int32.ofInt 1)), none, none, none, none, none, none, none, none, none], [.int (Int32.ofInt 1), .ref (h.1.1 + 1), .int (Int32.ofInt (s_95 (g0 541) t day s 1))], h119)) rfl ?_
  refine yy_fin.lp (j := 1) rfl T14.2 rfl (by decide) rfl ?_
  have q1 : s_95 (g0 541) t day s 1 = v104 := (s_95_e.2.1).trans ev104.symm
  refine yy_fin.ic rfl (fun _ => ?_) (fun cz => absurd (y_ceq (congrArg Int32.ofInt q1)) cz)
  refine yy_fin.steps (n := 4) (s' := (477, [some (.ref 1), some (.ref w), some (.ref 0), some (.int (Int32.ofInt fr)), some (.int (Int32.ofInt (t : Int))), some (.int (Int32.ofInt day)), some (zz_val k6), some (zz_val k7), some (.int (Int32.ofInt p8)), some (.ref k9), some (.int (Int32.ofInt s)), some (zz_val q11), some (.int (Int32.ofInt p12)), some (.ref q13), some (.ref (h.1.1 + 1)), some (.int ((Int32.ofInt 1) + (Int32.ofInt 1))), none, none, none, none, none, none, none, none, none], [.int (Int32.ofInt 5), .int ((Int32.ofInt 1) + (Int32.ofInt 1))], h119)) rfl ?_
  rw [show (Int32.ofInt 1) + (Int32.ofInt 1) = Int32.ofInt 2 from by decide]
  refine yy_fin.ic rfl (fun cK => absurd cK (by decide)) (fun cK => ?_)
  refine yy_fin.steps (n := 5) (s' := (489, [some (.ref 1), some (.ref w), some (.ref 0), some (.int (Int32.ofInt fr)), some (.int (Int32.ofInt (t : Int))), some (.int (Int32.ofInt day)), some (zz_val k6), some (zz_val k7), some (.int (Int32.ofInt p8)), some (.ref k9), some (.int (Int32.ofInt s)), some (zz_val q11), some (.int (Int32.ofInt p12)), some (.ref q13), some (.ref (h.1.1 + 1)), some (.int (Int32.ofInt 2)), none, none, none, none, none, none, none, none, none], [.int (Int32.ofInt 2), .int (Int32.ofInt s), .int (Int32.ofInt day), .int (Int32.ofInt (t : Int)), .ref 1], h119)) rfl ?_
  obtain ⟨g120, r120⟩ := qi_95 F C ht hd hs (k := 2) (by omega)
  obtain ⟨fs120, oo120⟩ := C.o
  refine yy_fin.cv (as := [.int (Int32.ofInt (t : Int)), .int (Int32.ofInt day), .int (Int32.ofInt s), .int (Int32.ofInt 2)]) rfl rfl rfl oo120 (Nat.le_of_ble_eq_true rfl) (Nat.le_of_ble_eq_true rfl) r120 ?_
  rintro v h120 ⟨rfl, C, x120⟩
  replace T14 := T14.k x120
  replace H6 := H6.k x120
  replace H7 := H7.k x120
  replace Y := Y.tr x120 (fun _ _ e => e)
  replace hY := Y.1
  refine yy_fin.steps (n := 2) (s' := (496, [some (.ref 1), some (.ref w), some (.ref 0), some (.int (Int32.ofInt fr)), some (.int (Int32.ofInt (t : Int))), some (.int (Int32.ofInt day)), some (zz_val k6), some (zz_val k7), some (.int (Int32.ofInt p8)), some (.ref k9), some (.int (Int32.ofInt s)), some (zz_val q11), some (.int (Int32.ofInt p12)), some (.ref q13), some (.ref (h.1.1 + 1)), some (.int (Int32.ofInt 2)), none, none, none, none, none, none, none, none, none], [.int (Int32.ofInt 2), .ref (h.1.1 + 1), .int (Int32.ofInt (s_95 (g0 541) t day s 2))], h120)) rfl ?_
  refine yy_fin.lp (j := 2) rfl T14.2 rfl (by decide) rfl ?_
  have q2 : s_95 (g0 541) t day s 2 = v109 := (s_95_e.2.2.1).trans ev109.symm
  refine yy_fin.ic rfl (fun _ => ?_) (fun cz => absurd (y_ceq (congrArg Int32.ofInt q2)) cz)
  refine yy_fin.steps (n := 4) (s' := (477, [some (.ref 1), some (.ref w), some (.ref 0), some (.int (Int32.ofInt fr)), some (.int (Int32.ofInt (t : Int))), some (.int (Int32.ofInt day)), some (zz_val k6), some (zz_val k7), some (.int (Int32.ofInt p8)), some (.ref k9), some (.int (Int32.ofInt s)), some (zz_val q11), some (.int (Int32.ofInt p12)), some (.ref q13), some (.ref (h.1.1 + 1)), some (.int ((Int32.ofInt 2) + (Int32.ofInt 1))), none, none, none, none, none, none, none, none, none], [.int (Int32.ofInt 5), .int ((Int32.ofInt 2) + (Int32.ofInt 1))], h120)) rfl ?_
  rw [show (Int32.ofInt 2) + (Int32.ofInt 1) = Int32.ofInt 3 from by decide]
  refine yy_fin.ic rfl (fun cK => absurd cK (by decide)) (fun cK => ?_)
  refine yy_fin.steps (n := 5) (s' := (489, [some (.ref 1), some (.ref w), some (.ref 0), some (.int (Int32.ofInt fr)), some (.int (Int32.ofInt (t : Int))), some (.int (Int32.ofInt day)), some (zz_val k6), some (zz_val k7), some (.int (Int32.ofInt p8)), some (.ref k9), some (.int (Int32.ofInt s)), some (zz_val q11), some (.int (Int32.ofInt p12)), some (.ref q13), some (.ref (h.1.1 + 1)), some (.int (Int32.ofInt 3)), none, none, none, none, none, none, none, none, none], [.int (Int32.ofInt 3), .int (Int32.ofInt s), .int (Int32.ofInt day), .int (Int32.ofInt (t : Int)), .ref 1], h120)) rfl ?_
  obtain ⟨g121, r121⟩ := qi_95 F C ht hd hs (k := 3) (by omega)
  obtain ⟨fs121, oo121⟩ := C.o
  refine yy_fin.cv (as := [.int (Int32.ofInt (t : Int)), .int (Int32.ofInt day), .int (Int32.ofInt s), .int (Int32.ofInt 3)]) rfl rfl rfl oo121 (Nat.le_of_ble_eq_true rfl) (Nat.le_of_ble_eq_true rfl) r121 ?_
  rintro v h121 ⟨rfl, C, x121⟩
  replace T14 := T14.k x121
  replace H6 := H6.k x121
  replace H7 := H7.k x121
  replace Y := Y.tr x121 (fun _ _ e => e)
  replace hY := Y.1
  refine yy_fin.steps (n := 2) (s' := (496, [some (.ref 1), some (.ref w), some (.ref 0), some (.int (Int32.ofInt fr)), some (.int (Int32.ofInt (t : Int))), some (.int (Int32.ofInt day)), some (zz_val k6), some (zz_val k7), some (.int (Int32.ofInt p8)), some (.ref k9), some (.int (Int32.ofInt s)), some (zz_val q11), some (.int (Int32.ofInt p12)), some (.ref q13), some (.ref (h.1.1 + 1)), some (.int (Int32.ofInt 3)), none, none, none, none, none, none, none, none, none], [.int (Int32.ofInt 3), .ref (h.1.1 + 1), .int (Int32.ofInt (s_95 (g0 541) t day s 3))], h121)) rfl ?_
  refine yy_fin.lp (j := 3) rfl T14.2 rfl (by decide) rfl ?_
  have q3 : s_95 (g0 541) t day s 3 = v113 := (s_95_e.2.2.2.1).trans ev113.symm
  refine yy_fin.ic rfl (fun _ => ?_) (fun cz => absurd (y_ceq (congrArg Int32.ofInt q3)) cz)
  refine yy_fin.steps (n := 4) (s' := (477, [some (.ref 1), some (.ref w), some (.ref 0), some (.int (Int32.ofInt fr)), some (.int (Int32.ofInt (t : Int))), some (.int (Int32.ofInt day)), some (zz_val k6), some (zz_val k7), some (.int (Int32.ofInt p8)), some (.ref k9), some (.int (Int32.ofInt s)), some (zz_val q11), some (.int (Int32.ofInt p12)), some (.ref q13), some (.ref (h.1.1 + 1)), some (.int ((Int32.ofInt 3) + (Int32.ofInt 1))), none, none, none, none, none, none, none, none, none], [.int (Int32.ofInt 5), .int ((Int32.ofInt 3) + (Int32.ofInt 1))], h121)) rfl ?_
  rw [show (Int32.ofInt 3) + (Int32.ofInt 1) = Int32.ofInt 4 from by decide]
  refine yy_fin.ic rfl (fun cK => absurd cK (by decide)) (fun cK => ?_)
  refine yy_fin.steps (n := 5) (s' := (489, [some (.ref 1), some (.ref w), some (.ref 0), some (.int (Int32.ofInt fr)), some (.int (Int32.ofInt (t : Int))), some (.int (Int32.ofInt day)), some (zz_val k6), some (zz_val k7), some (.int (Int32.ofInt p8)), some (.ref k9), some (.int (Int32.ofInt s)), some (zz_val q11), some (.int (Int32.ofInt p12)), some (.ref q13), some (.ref (h.1.1 + 1)), some (.int (Int32.ofInt 4)), none, none, none, none, none, none, none, none, none], [.int (Int32.ofInt 4), .int (Int32.ofInt s), .int (Int32.ofInt day), .int (Int32.ofInt (t : Int)), .ref 1], h121)) rfl ?_
  obtain ⟨g122, r122⟩ := qi_95 F C ht hd hs (k := 4) (by omega)
  obtain ⟨fs122, oo122⟩ := C.o
  refine yy_fin.cv (as := [.int (Int32.ofInt (t : Int)), .int (Int32.ofInt day), .int (Int32.ofInt s), .int (Int32.ofInt 4)]) rfl rfl rfl oo122 (Nat.le_of_ble_eq_true rfl) (Nat.le_of_ble_eq_true rfl) r122 ?_
  rintro v h122 ⟨rfl, C, x122⟩
  replace T14 := T14.k x122
  replace H6 := H6.k x122
  replace H7 := H7.k x122
  replace Y := Y.tr x122 (fun _ _ e => e)
  replace hY := Y.1
  refine yy_fin.steps (n := 2) (s' := (496, [some (.ref 1), some (.ref w), some (.ref 0), some (.int (Int32.ofInt fr)), some (.int (Int32.ofInt (t : Int))), some (.int (Int32.ofInt day)), some (zz_val k6), some (zz_val k7), some (.int (Int32.ofInt p8)), some (.ref k9), some (.int (Int32.ofInt s)), some (zz_val q11), some (.int (Int32.ofInt p12)), some (.ref q13), some (.ref (h.1.1 + 1)), some (.int (Int32.ofInt 4)), none, none, none, none, none, none, none, none, none], [.int (Int32.ofInt 4), .ref (h.1.1 + 1), .int (Int32.ofInt (s_95 (g0 541) t day s 4))], h122)) rfl ?_
  refine yy_fin.lp (j := 4) rfl T14.2 rfl (by decide) rfl ?_
  have q4 : s_95 (g0 541) t day s 4 = -1 := s_95_e.2.2.2.2
  refine yy_fin.ic rfl (fun _ => ?_) (fun cz => absurd (y_ceq (congrArg Int32.ofInt q4)) cz)
  refine yy_fin.steps (n := 4) (s' := (477, [some (.ref 1), some (.ref w), some (.ref 0), some (.int (Int32.ofInt fr)), some (.int (Int32.ofInt (t : Int))), some (.int (Int32.ofInt day)), some (zz_val k6), some (zz_val k7), some (.int (Int32.ofInt p8)), some (.ref k9), some (.int (Int32.ofInt s)), some (zz_val q11), some (.int (Int32.ofInt p12)), some (.ref q13), some (.ref (h.1.1 + 1)), some (.int ((Int32.ofInt 4) + (Int32.ofInt 1))), none, none, none, none, none, none, none, none, none], [.int (Int32.ofInt 5), .int ((Int32.ofInt 4) + (Int32.ofInt 1))], h122)) rfl ?_
  rw [show (Int32.ofInt 4) + (Int32.ofInt 1) = Int32.ofInt 5 from by decide]
  refine yy_fin.ic rfl (fun cK => ?_) (fun cK => absurd (by decide) cK)
  exact kk _ _ _ _ C (Y.le (by omega) (by omega)) H6 H7
theorem s_25_e {a : Nat → Int32} {t : Nat} {day f : Int} : s_25 a t day f 0 = y_el (hv_t a t day f) (-1000000) (fun u l => u + (u + l - u) / 2) := by
  unfold s_25
  cases hv_t a t day f with
  | none => rfl
  | some p =>
    show p.1 + p.2 / 2 = p.1 + (p.1 + p.2 - p.1) / 2
    rw [show p.1 + p.2 - p.1 = p.2 by omega]
theorem yl_ex {k6 k7 q11 q16 : Option Nat} {p8 p12 i15 n17 n18 v19 v20 m21 : Int} {k9 q13 q14 : Nat} {z22 : Int} (hz : 0 ≤ z22 ∧ z22 ≤ 200000) (kk : yy_fin X 279 (847, [some (.ref 1), some (.ref w), some (.ref 0), some (.int (Int32.ofInt fr)), some (.int (Int32.ofInt (t : Int))), some (.int (Int32.ofInt day)), some (zz_val k6), some (zz_val k7), some (.int (Int32.ofInt p8)), some (.ref k9), some (.int (Int32.ofInt s)), some (zz_val q11), some (.int (Int32.ofInt p12)), some (.ref q13), some (.ref q14), some (.int (Int32.ofInt i15)), some (zz_val q16), some (.int (Int32.ofInt n17)), some (.int (Int32.ofInt n18)), some (.int (Int32.ofInt v19)), some (.int (Int32.ofInt v20)), some (.int (Int32.ofInt m21)), some (.int (Int32.ofInt z22)), some (.int (Int32.ofInt (y_G z22))), none], [], h) φ) : ∀ (d : Nat) (b : Int), b = y_G z22 + d → b ≤ 12 → yy_fin X 279 (825, [some (.ref 1), some (.ref w), some (.ref 0), some (.int (Int32.ofInt fr)), some (.int (Int32.ofInt (t : Int))), some (.int (Int32.ofInt day)), some (zz_val k6), some (zz_val k7), some (.int (Int32.ofInt p8)), some (.ref k9), some (.int (Int32.ofInt s)), some (zz_val q11), some (.int (Int32.ofInt p12)), some (.ref q13), some (.ref q14), some (.int (Int32.ofInt i15)), some (zz_val q16), some (.int (Int32.ofInt n17)), some (.int (Int32.ofInt n18)), some (.int (Int32.ofInt v19)), some (.int (Int32.ofInt v20)), some (.int (Int32.ofInt m21)), some (.int (Int32.ofInt z22)), some (.int (Int32.ofInt b)), none], [], h) φ
  | 0, b, e, hb => by
    obtain ⟨G1, G2, G3⟩ := y_Gb z22
    have e9 : b = y_G z22 := by omega
    rw [← e9] at kk G1 G2
    obtain ⟨G4, G5⟩ := G2
    have G6 := Int.emod_nonneg z22 (show b ≠ 0 by omega)
    refine yy_fin.steps (n := 2) (s' := (829, [some (.ref 1), some (.ref w), some (.ref 0), some (.int (Int32.ofInt fr)), some (.int (Int32.ofInt (t : Int))), some (.int (Int32.ofInt day)), some (zz_val k6), some (zz_val k7), some (.int (Int32.ofInt p8)), some (.ref k9), some (.int (Int32.ofInt s)), some (zz_val q11), some (.int (Int32.ofInt p12)), some (.ref q13), some (.ref q14), some (.int (Int32.ofInt i15)), some (zz_val q16), some (.int (Int32.ofInt n17)), some (.int (Int32.ofInt n18)), some (.int (Int32.ofInt v19)), some (.int (Int32.ofInt v20)), some (.int (Int32.ofInt m21)), some (.int (Int32.ofInt z22)), some (.int (Int32.ofInt b)), none], [.int (Int32.ofInt b), .int (Int32.ofInt z22)], h)) rfl ?_
    refine yy_fin.rm rfl (fun z => by have z := (yi_eq (a := b) (b := 0) (by omega) (by omega)).mp z; omega) ?_
    rw [yi_rem (a := z22) (b := b) (by omega) (by omega)]
    refine yy_fin.if rfl (fun cq => absurd ((yi_z_ne (a := z22 % b) (by omega)).mp cq) (by omega)) (fun cq => ?_)
    have cq := mt (yi_z_ne (a := z22 % b) (by omega)).mpr cq
    refine yy_fin.steps (n := 2) (s' := (837, [some (.ref 1), some (.ref w), some (.ref 0), some (.int (Int32.ofInt fr)), some (.int (Int32.ofInt (t : Int))), some (.int (Int32.ofInt day)), some (zz_val k6), some (zz_val k7), some (.int (Int32.ofInt p8)), some (.ref k9), some (.int (Int32.ofInt s)), some (zz_val q11), some (.int (Int32.ofInt p12)), some (.ref q13), some (.ref q14), some (.int (Int32.ofInt i15)), some (zz_val q16), some (.int (Int32.ofInt n17)), some (.int (Int32.ofInt n18)), some (.int (Int32.ofInt v19)), some (.int (Int32.ofInt v20)), some (.int (Int32.ofInt m21)), some (.int (Int32.ofInt z22)), some (.int (Int32.ofInt b)), none], [.int (Int32.ofInt b), .int (Int32.ofInt 12)], h)) rfl ?_
    refine yy_fin.rm rfl (fun z => by have z := (yi_eq (a := b) (b := 0) (by omega) (by omega)).mp z; omega) ?_
    rw [yi_rem (a := 12) (b := b) (by omega) (by omega)]
    refine yy_fin.if rfl (fun cq => ?_) (fun cq => absurd ((yi_z_eq (a := 12 % b) (by omega)).mpr (by omega)) cq)
    have cq := (yi_z_eq (a := 12 % b) (by omega)).mp cq
    exact kk
  | d + 1, b, e, hb => by
    obtain ⟨G1, G2, G3⟩ := y_Gb z22
    have G7 := G3 b (by omega) hb
    have m1 := Int.emod_nonneg z22 (show b ≠ 0 by omega)
    have m2 := Int.emod_lt_of_pos z22 (show 0 < b by omega)
    have m3 := Int.emod_nonneg 12 (show b ≠ 0 by omega)
    have m4 := Int.emod_lt_of_pos 12 (show 0 < b by omega)
    obtain ⟨x1, ex1⟩ : ∃ x, x = z22 % b := ⟨_, rfl⟩
    obtain ⟨x2, ex2⟩ : ∃ x, x = 12 % b := ⟨_, rfl⟩
    rw [← ex1] at G7 m1 m2
    rw [← ex2] at G7 m3 m4
    refine yy_fin.steps (n := 2) (s' := (829, [some (.ref 1), some (.ref w), some (.ref 0), some (.int (Int32.ofInt fr)), some (.int (Int32.ofInt (t : Int))), some (.int (Int32.ofInt day)), some (zz_val k6), some (zz_val k7), some (.int (Int32.ofInt p8)), some (.ref k9), some (.int (Int32.ofInt s)), some (zz_val q11), some (.int (Int32.ofInt p12)), some (.ref q13), some (.ref q14), some (.int (Int32.ofInt i15)), some (zz_val q16), some (.int (Int32.ofInt n17)), some (.int (Int32.ofInt n18)), some (.int (Int32.ofInt v19)), some (.int (Int32.ofInt v20)), some (.int (Int32.ofInt m21)), some (.int (Int32.ofInt z22)), some (.int (Int32.ofInt b)), none], [.int (Int32.ofInt b), .int (Int32.ofInt z22)], h)) rfl ?_
    refine yy_fin.rm rfl (fun z => by have z := (yi_eq (a := b) (b := 0) (by omega) (by omega)).mp z; omega) ?_
    rw [yi_rem (a := z22) (b := b) (by omega) (by omega), ← ex1]
    refine yy_fin.if rfl (fun c101 => ?_) (fun c101 => ?_)
    · have c101 := (yi_z_ne (a := x1) (by omega)).mp c101
      refine yy_fin.steps (n := 2) (s' := (825, [some (.ref 1), some (.ref w), some (.ref 0), some (.int (Int32.ofInt fr)), some (.int (Int32.ofInt (t : Int))), some (.int (Int32.ofInt day)), some (zz_val k6), some (zz_val k7), some (.int (Int32.ofInt p8)), some (.ref k9), some (.int (Int32.ofInt s)), some (zz_val q11), some (.int (Int32.ofInt p12)), some (.ref q13), some (.ref q14), some (.int (Int32.ofInt i15)), some (zz_val q16), some (.int (Int32.ofInt n17)), some (.int (Int32.ofInt n18)), some (.int (Int32.ofInt v19)), some (.int (Int32.ofInt v20)), some (.int (Int32.ofInt m21)), some (.int (Int32.ofInt z22)), some (.int ((Int32.ofInt b) + (Int32.ofInt (-1)))), none], [], h)) rfl ?_
      rw [yi_add b (-1)]
      exact yl_ex hz kk d _ (by omega) (by omega)
    · have c101 := mt (yi_z_ne (a := x1) (by omega)).mpr c101
      refine yy_fin.steps (n := 2) (s' := (837, [some (.ref 1), some (.ref w), some (.ref 0), some (.int (Int32.ofInt fr)), some (.int (Int32.ofInt (t : Int))), some (.int (Int32.ofInt day)), some (zz_val k6), some (zz_val k7), some (.int (Int32.ofInt p8)), some (.ref k9), some (.int (Int32.ofInt s)), some (zz_val q11), some (.int (Int32.ofInt p12)), some (.ref q13), some (.ref q14), some (.int (Int32.ofInt i15)), some (zz_val q16), some (.int (Int32.ofInt n17)), some (.int (Int32.ofInt n18)), some (.int (Int32.ofInt v19)), some (.int (Int32.ofInt v20)), some (.int (Int32.ofInt m21)), some (.int (Int32.ofInt z22)), some (.int (Int32.ofInt b)), none], [.int (Int32.ofInt b), .int (Int32.ofInt 12)], h)) rfl ?_
      refine yy_fin.rm rfl (fun z => by have z := (yi_eq (a := b) (b := 0) (by omega) (by omega)).mp z; omega) ?_
      rw [yi_rem (a := 12) (b := b) (by omega) (by omega), ← ex2]
      refine yy_fin.if rfl (fun cq => absurd ((yi_z_eq (a := x2) (by omega)).mp cq) (by omega)) (fun cq => ?_)
      have cq := mt (yi_z_eq (a := x2) (by omega)).mpr cq
      refine yy_fin.steps (n := 2) (s' := (825, [some (.ref 1), some (.ref w), some (.ref 0), some (.int (Int32.ofInt fr)), some (.int (Int32.ofInt (t : Int))), some (.int (Int32.ofInt day)), some (zz_val k6), some (zz_val k7), some (.int (Int32.ofInt p8)), some (.ref k9), some (.int (Int32.ofInt s)), some (zz_val q11), some (.int (Int32.ofInt p12)), some (.ref q13), some (.ref q14), some (.int (Int32.ofInt i15)), some (zz_val q16), some (.int (Int32.ofInt n17)), some (.int (Int32.ofInt n18)), some (.int (Int32.ofInt v19)), some (.int (Int32.ofInt v20)), some (.int (Int32.ofInt m21)), some (.int (Int32.ofInt z22)), some (.int ((Int32.ofInt b) + (Int32.ofInt (-1)))), none], [], h)) rfl ?_
      rw [yi_add b (-1)]
      exact yl_ex hz kk d _ (by omega) (by omega)
theorem yl_d40 (F : yCf own w lst g0) (ht : (t : Int) < (g0 541 0).toInt) (hd : 0 ≤ day ∧ day ≤ 35999) (hX : X.1 = some (L, xs)) (hL : L ≤ 100000) (hfr : 0 ≤ fr ∧ fr ≤ 900000) (hs : 0 ≤ s ∧ s ≤ 86399) (C : yCx own w lst g0 h g) (hB : h.1.1 + 200 < yy_B) {k6 k7 : Option Nat} (H6 : yHr h w k6 (hv_t (g0 541) t day 0)) (H7 : yHr h w k7 (hv_t (g0 541) t day 1)) {p8 p12 : Int} {k9 q13 q14 : Nat} {q11 : Option Nat} (kk : ∀ h' g' (q16 : Option Nat) n17 n18 v19 v20 m21 z22 b23, yCx own w lst g0 h' g' → yx (yAk w) 20 60 h h' → yHr h' w k6 (hv_t (g0 541) t day 0) → yHr h' w k7 (hv_t (g0 541) t day 1) → yy_fin X 279 (511, [some (.ref 1), some (.ref w), some (.ref 0), some (.int (Int32.ofInt fr)), some (.int (Int32.ofInt (t : Int))), some (.int (Int32.ofInt day)), some (zz_val k6), some (zz_val k7), some (.int (Int32.ofInt p8)), some (.ref k9), some (.int (Int32.ofInt s)), some (zz_val q11), some (.int (Int32.ofInt p12)), some (.ref q13), some (.ref q14), some (.int (Int32.ofInt 1)), some (zz_val q16), some (.int (Int32.ofInt n17)), some (.int (Int32.ofInt n18)), some (.int (Int32.ofInt v19)), some (.int (Int32.ofInt v20)), some (.int (Int32.ofInt m21)), some (.int (Int32.ofInt z22)), some (.int (Int32.ofInt b23)), none], [], h') φ) : yy_fin X 279 (511, [some (.ref 1), some (.ref w), some (.ref 0), some (.int (Int32.ofInt fr)), some (.int (Int32.ofInt (t : Int))), some (.int (Int32.ofInt day)), some (zz_val k6), some (zz_val k7), some (.int (Int32.ofInt p8)), some (.ref k9), some (.int (Int32.ofInt s)), some (zz_val q11), some (.int (Int32.ofInt p12)), some (.ref q13), some (.ref q14), some (.int (Int32.ofInt 0)), none, none, none, none, none, none, none, none, none], [], h) φ := by
  have n4 := F.2.2.2.1
  have hq := F.2.2.2.2.1
  have Y : yx (yAk w) 0 0 h h := yx.rf
  have hY := Y.1
  have hg := C.2.1.2
  refine yy_fin.steps (n := 2) (s' := (514, [some (.ref 1), some (.ref w), some (.ref 0), some (.int (Int32.ofInt fr)), some (.int (Int32.ofInt (t : Int))), some (.int (Int32.ofInt day)), some (zz_val k6), some (zz_val k7), some (.int (Int32.ofInt p8)), some (.ref k9), some (.int (Int32.ofInt s)), some (zz_val q11), some (.int (Int32.ofInt p12)), some (.ref q13), some (.ref q14), some (.int (Int32.ofInt 0)), none, none, none, none, none, none, none, none, none], [.int (Int32.ofInt 2), .int (Int32.ofInt 0)], h)) rfl ?_
  refine yy_fin.ic rfl (fun cK => absurd cK (by decide)) (fun cK => ?_)
  refine yy_fin.steps (n := 1) (s' := (519, [some (.ref 1), some (.ref w), some (.ref 0), some (.int (Int32.ofInt fr)), some (.int (Int32.ofInt (t : Int))), some (.int (Int32.ofInt day)), some (zz_val k6), some (zz_val k7), some (.int (Int32.ofInt p8)), some (.ref k9), some (.int (Int32.ofInt s)), some (zz_val q11), some (.int (Int32.ofInt p12)), some (.ref q13), some (.ref q14), some (.int (Int32.ofInt 0)), none, none, none, none, none, none, none, none, none], [.int (Int32.ofInt 0)], h)) rfl ?_
  refine yy_fin.if rfl (fun cK => absurd cK (by decide)) (fun cK => ?_)
  suffices K101 : yy_fin X 279 (524, [some (.ref 1), some (.ref w), some (.ref 0), some (.int (Int32.ofInt fr)), some (.int (Int32.ofInt (t : Int))), some (.int (Int32.ofInt day)), some (zz_val k6), some (zz_val k7), some (.int (Int32.ofInt p8)), some (.ref k9), some (.int (Int32.ofInt s)), some (zz_val q11), some (.int (Int32.ofInt p12)), some (.ref q13), some (.ref q14), some (.int (Int32.ofInt 0)), none, none, none, none, none, none, none, none, none], [zz_val k6], h) φ by cases k6 <;> exact yy_fin.steps (n := 1) rfl K101
  refine yy_fin.steps (n := 1) (s' := (529, [some (.ref 1), some (.ref w), some (.ref 0), some (.int (Int32.ofInt fr)), some (.int (Int32.ofInt (t : Int))), some (.int (Int32.ofInt day)), some (zz_val k6), some (zz_val k7), some (.int (Int32.ofInt p8)), some (.ref k9), some (.int (Int32.ofInt s)), some (zz_val q11), some (.int (Int32.ofInt p12)), some (.ref q13), some (.ref q14), some (.int (Int32.ofInt 0)), none, none, none, none, none, none, none, none, none], [zz_val k6], h)) rfl ?_
  suffices K102 : yy_fin X 279 (531, [some (.ref 1), some (.ref w), some (.ref 0), some (.int (Int32.ofInt fr)), some (.int (Int32.ofInt (t : Int))), some (.int (Int32.ofInt day)), some (zz_val k6), some (zz_val k7), some (.int (Int32.ofInt p8)), some (.ref k9), some (.int (Int32.ofInt s)), some (zz_val q11), some (.int (Int32.ofInt p12)), some (.ref q13), some (.ref q14), some (.int (Int32.ofInt 0)), some (zz_val k6), none, none, none, none, none, none, none, none], [], h) φ by cases k6 <;> exact yy_fin.steps (n := 1) rfl K102
  refine yy_fin.steps (n := 6) (s' := (538, [some (.ref 1), some (.ref w), some (.ref 0), some (.int (Int32.ofInt fr)), some (.int (Int32.ofInt (t : Int))), some (.int (Int32.ofInt day)), some (zz_val k6), some (zz_val k7), some (.int (Int32.ofInt p8)), some (.ref k9), some (.int (Int32.ofInt s)), some (zz_val q11), some (.int (Int32.ofInt p12)), some (.ref q13), some (.ref q14), some (.int (Int32.ofInt 0)), some (zz_val k6), none, none, none, none, none, none, none, none], [.int (((Int32.ofInt fr) + (Int32.ofInt 1)) + (Int32.ofInt 0)), .ref 0], h)) rfl ?_
  rw [yi_add fr 1]
  rw [yi_add (fr + 1) 0]
  refine yy_fin.calls (as := [.ref 0, .int (Int32.ofInt ((fr + 1) + 0))]) rfl (by decide) rfl rfl (Nat.le_of_ble_eq_true rfl) (Nat.le_of_ble_eq_true rfl) (yl_pick hX hL (k := (fr + 1) + 0) (by omega)) ?_
  rintro v h9 ⟨y17, rfl, ay17, by17, e9⟩
  obtain rfl := e9.symm
  refine yy_fin.steps (n := 2) (s' := (544, [some (.ref 1), some (.ref w), some (.ref 0), some (.int (Int32.ofInt fr)), some (.int (Int32.ofInt (t : Int))), some (.int (Int32.ofInt day)), some (zz_val k6), some (zz_val k7), some (.int (Int32.ofInt p8)), some (.ref k9), some (.int (Int32.ofInt s)), some (zz_val q11), some (.int (Int32.ofInt p12)), some (.ref q13), some (.ref q14), some (.int (Int32.ofInt 0)), some (zz_val k6), none, none, none, none, none, none, none, none], [.ref w, .int (Int32.ofInt 12), .int (Int32.ofInt y17)], h)) rfl ?_
  obtain ⟨o103, p103, b103, t103, oP103, eP103⟩ := C.wp
  refine yy_fin.fi rfl oP103 rfl eP103 ?_
  refine yy_fin.steps (n := 1) (s' := (548, [some (.ref 1), some (.ref w), some (.ref 0), some (.int (Int32.ofInt fr)), some (.int (Int32.ofInt (t : Int))), some (.int (Int32.ofInt day)), some (zz_val k6), some (zz_val k7), some (.int (Int32.ofInt p8)), some (.ref k9), some (.int (Int32.ofInt s)), some (zz_val q11), some (.int (Int32.ofInt p12)), some (.ref q13), some (.ref q14), some (.int (Int32.ofInt 0)), some (zz_val k6), none, none, none, none, none, none, none, none], [.int ((Int32.ofInt 12) * (Int32.ofInt ((g0 541 1).toInt))), .int (Int32.ofInt y17)], h)) rfl ?_
  rw [yi_mul 12 ((g0 541 1).toInt)]
  refine yy_fin.rm rfl (fun z => by have z := (yi_eq (a := 12 * (g0 541 1).toInt) (b := 0) (by omega) (by omega)).mp z; omega) ?_
  rw [yi_rem (a := y17) (b := 12 * ((g0 541 1).toInt)) (by omega) (by omega)]
  have mn17_0 := Int.emod_nonneg y17 (show 12 * (g0 541 1).toInt ≠ 0 by omega)
  have nn17_0 := Int.emod_lt_of_pos y17 (show 0 < 12 * (g0 541 1).toInt by omega)
  obtain ⟨n17_0, en17_0⟩ : ∃ z, z = y17 % (12 * (g0 541 1).toInt) := ⟨_, rfl⟩
  rw [← en17_0] at mn17_0 nn17_0 ⊢
  suffices K104 : yy_fin X 279 (551, [some (.ref 1), some (.ref w), some (.ref 0), some (.int (Int32.ofInt fr)), some (.int (Int32.ofInt (t : Int))), some (.int (Int32.ofInt day)), some (zz_val k6), some (zz_val k7), some (.int (Int32.ofInt p8)), some (.ref k9), some (.int (Int32.ofInt s)), some (zz_val q11), some (.int (Int32.ofInt p12)), some (.ref q13), some (.ref q14), some (.int (Int32.ofInt 0)), some (zz_val k6), some (.int (Int32.ofInt n17_0)), none, none, none, none, none, none, none], [], h) φ by cases k6 <;> exact yy_fin.steps (n := 1) rfl K104
  refine yy_fin.steps (n := 6) (s' := (558, [some (.ref 1), some (.ref w), some (.ref 0), some (.int (Int32.ofInt fr)), some (.int (Int32.ofInt (t : Int))), some (.int (Int32.ofInt day)), some (zz_val k6), some (zz_val k7), some (.int (Int32.ofInt p8)), some (.ref k9), some (.int (Int32.ofInt s)), some (zz_val q11), some (.int (Int32.ofInt p12)), some (.ref q13), some (.ref q14), some (.int (Int32.ofInt 0)), some (zz_val k6), some (.int (Int32.ofInt n17_0)), none, none, none, none, none, none, none], [.int (((Int32.ofInt fr) + (Int32.ofInt 3)) + (Int32.ofInt 0)), .ref 0], h)) rfl ?_
  rw [yi_add fr 3]
  rw [yi_add (fr + 3) 0]
  refine yy_fin.calls (as := [.ref 0, .int (Int32.ofInt ((fr + 3) + 0))]) rfl (by decide) rfl rfl (Nat.le_of_ble_eq_true rfl) (Nat.le_of_ble_eq_true rfl) (yl_pick hX hL (k := (fr + 3) + 0) (by omega)) ?_
  rintro v h9 ⟨y18, rfl, ay18, by18, e9⟩
  obtain rfl := e9.symm
  refine yy_fin.steps (n := 2) (s' := (564, [some (.ref 1), some (.ref w), some (.ref 0), some (.int (Int32.ofInt fr)), some (.int (Int32.ofInt (t : Int))), some (.int (Int32.ofInt day)), some (zz_val k6), some (zz_val k7), some (.int (Int32.ofInt p8)), some (.ref k9), some (.int (Int32.ofInt s)), some (zz_val q11), some (.int (Int32.ofInt p12)), some (.ref q13), some (.ref q14), some (.int (Int32.ofInt 0)), some (zz_val k6), some (.int (Int32.ofInt n17_0)), none, none, none, none, none, none, none], [.ref w, .int (Int32.ofInt 12), .int (Int32.ofInt y18)], h)) rfl ?_
  obtain ⟨o105, p105, b105, t105, oP105, eP105⟩ := C.wp
  refine yy_fin.fi rfl oP105 rfl eP105 ?_
  refine yy_fin.steps (n := 1) (s' := (568, [some (.ref 1), some (.ref w), some (.ref 0), some (.int (Int32.ofInt fr)), some (.int (Int32.ofInt (t : Int))), some (.int (Int32.ofInt day)), some (zz_val k6), some (zz_val k7), some (.int (Int32.ofInt p8)), some (.ref k9), some (.int (Int32.ofInt s)), some (zz_val q11), some (.int (Int32.ofInt p12)), some (.ref q13), some (.ref q14), some (.int (Int32.ofInt 0)), some (zz_val k6), some (.int (Int32.ofInt n17_0)), none, none, none, none, none, none, none], [.int ((Int32.ofInt 12) * (Int32.ofInt ((g0 541 1).toInt))), .int (Int32.ofInt y18)], h)) rfl ?_
  rw [yi_mul 12 ((g0 541 1).toInt)]
  refine yy_fin.rm rfl (fun z => by have z := (yi_eq (a := 12 * (g0 541 1).toInt) (b := 0) (by omega) (by omega)).mp z; omega) ?_
  rw [yi_rem (a := y18) (b := 12 * ((g0 541 1).toInt)) (by omega) (by omega)]
  have mn18_0 := Int.emod_nonneg y18 (show 12 * (g0 541 1).toInt ≠ 0 by omega)
  have nn18_0 := Int.emod_lt_of_pos y18 (show 0 < 12 * (g0 541 1).toInt by omega)
  obtain ⟨n18_0, en18_0⟩ : ∃ z, z = y18 % (12 * (g0 541 1).toInt) := ⟨_, rfl⟩
  rw [← en18_0] at mn18_0 nn18_0 ⊢
  refine yy_fin.steps (n := 1) (s' := (571, [some (.ref 1), some (.ref w), some (.ref 0), some (.int (Int32.ofInt fr)), some (.int (Int32.ofInt (t : Int))), some (.int (Int32.ofInt day)), some (zz_val k6), some (zz_val k7), some (.int (Int32.ofInt p8)), some (.ref k9), some (.int (Int32.ofInt s)), some (zz_val q11), some (.int (Int32.ofInt p12)), some (.ref q13), some (.ref q14), some (.int (Int32.ofInt 0)), some (zz_val k6), some (.int (Int32.ofInt n17_0)), some (.int (Int32.ofInt n18_0)), none, none, none, none, none, none], [], h)) rfl ?_
  suffices K106 : yy_fin X 279 (573, [some (.ref 1), some (.ref w), some (.ref 0), some (.int (Int32.ofInt fr)), some (.int (Int32.ofInt (t : Int))), some (.int (Int32.ofInt day)), some (zz_val k6), some (zz_val k7), some (.int (Int32.ofInt p8)), some (.ref k9), some (.int (Int32.ofInt s)), some (zz_val q11), some (.int (Int32.ofInt p12)), some (.ref q13), some (.ref q14), some (.int (Int32.ofInt 0)), some (zz_val k6), some (.int (Int32.ofInt n17_0)), some (.int (Int32.ofInt n18_0)), none, none, none, none, none, none], [zz_val k6], h) φ by cases k6 <;> exact yy_fin.steps (n := 1) rfl K106
  suffices J107 : ∀ v107 : Int, v107 = s_90 (g0 541) t day 0 n17_0 → yy_fin X 279 (604, [some (.ref 1), some (.ref w), some (.ref 0), some (.int (Int32.ofInt fr)), some (.int (Int32.ofInt (t : Int))), some (.int (Int32.ofInt day)), some (zz_val k6), some (zz_val k7), some (.int (Int32.ofInt p8)), some (.ref k9), some (.int (Int32.ofInt s)), some (zz_val q11), some (.int (Int32.ofInt p12)), some (.ref q13), some (.ref q14), some (.int (Int32.ofInt 0)), some (zz_val k6), some (.int (Int32.ofInt n17_0)), some (.int (Int32.ofInt n18_0)), none, none, none, none, none, none], [.int (Int32.ofInt v107)], h) φ by
    rcases H6 with ⟨rfl, eo108⟩ | ⟨q108, u108, l108, rfl, eo108, R108⟩
    · refine yy_fin.steps (n := 3) (s' := (604, [some (.ref 1), some (.ref w), some (.ref 0), some (.int (Int32.ofInt fr)), some (.int (Int32.ofInt (t : Int))), some (.int (Int32.ofInt day)), some (.null), some (zz_val k7), some (.int (Int32.ofInt p8)), some (.ref k9), some (.int (Int32.ofInt s)), some (zz_val q11), some (.int (Int32.ofInt p12)), some (.ref q13), some (.ref q14), some (.int (Int32.ofInt 0)), some (.null), some (.int (Int32.ofInt n17_0)), some (.int (Int32.ofInt n18_0)), none, none, none, none, none, none], [.int (Int32.ofInt (-2))], h)) rfl ?_
      exact J107 (-2) (by show _ = s_b _ _ _; rw [eo108]; rfl)
    · have hb108 := hv_bnd2 F.2.2.2 ht eo108
      refine yy_fin.steps (n := 4) (s' := (581, [some (.ref 1), some (.ref w), some (.ref 0), some (.int (Int32.ofInt fr)), some (.int (Int32.ofInt (t : Int))), some (.int (Int32.ofInt day)), some (.ref q108), some (zz_val k7), some (.int (Int32.ofInt p8)), some (.ref k9), some (.int (Int32.ofInt s)), some (zz_val q11), some (.int (Int32.ofInt p12)), some (.ref q13), some (.ref q14), some (.int (Int32.ofInt 0)), some (.ref q108), some (.int (Int32.ofInt n17_0)), some (.int (Int32.ofInt n18_0)), none, none, none, none, none, none], [.int (Int32.ofInt n17_0), .ref q108, .ref w], h)) rfl ?_
      have hk109 := yk_b (q := (g0 541 1).toInt) (n := n17_0) (l := l108) (by omega) (by omega) (by omega)
      obtain ⟨fw110, oW110⟩ := C.ow
      refine yy_fin.cv (as := [.ref q108, .int (Int32.ofInt n17_0)]) rfl rfl rfl oW110 (Nat.le_of_ble_eq_true rfl) (Nat.le_of_ble_eq_true rfl) (yc_back F C R108 (n := n17_0) (by omega) (by omega) (by omega)) ?_
      rintro v h9 ⟨rfl, e9⟩
      obtain rfl := e9.symm
      refine yy_fin.steps (n := 2) (s' := (587, [some (.ref 1), some (.ref w), some (.ref 0), some (.int (Int32.ofInt fr)), some (.int (Int32.ofInt (t : Int))), some (.int (Int32.ofInt day)), some (.ref q108), some (zz_val k7), some (.int (Int32.ofInt p8)), some (.ref k9), some (.int (Int32.ofInt s)), some (zz_val q11), some (.int (Int32.ofInt p12)), some (.ref q13), some (.ref q14), some (.int (Int32.ofInt 0)), some (.ref q108), some (.int (Int32.ofInt n17_0)), some (.int (Int32.ofInt n18_0)), none, none, none, none, none, none], [.int (Int32.ofInt 1), .ref q108, .int (Int32.ofInt (u108 + yk (g0 541 1).toInt n17_0 l108))], h)) rfl ?_
      refine yy_fin.lp (j := 1) rfl R108.2 rfl (by decide) rfl ?_
      refine yy_fin.ic rfl (fun c111 => ?_) (fun c111 => ?_)
      · have c111 := (yi_c_ne (a := u108 + yk (g0 541 1).toInt n17_0 l108) (b := u108 + l108) (by omega) (by omega)).mp c111
        refine yy_fin.steps (n := 3) (s' := (601, [some (.ref 1), some (.ref w), some (.ref 0), some (.int (Int32.ofInt fr)), some (.int (Int32.ofInt (t : Int))), some (.int (Int32.ofInt day)), some (.ref q108), some (zz_val k7), some (.int (Int32.ofInt p8)), some (.ref k9), some (.int (Int32.ofInt s)), some (zz_val q11), some (.int (Int32.ofInt p12)), some (.ref q13), some (.ref q14), some (.int (Int32.ofInt 0)), some (.ref q108), some (.int (Int32.ofInt n17_0)), some (.int (Int32.ofInt n18_0)), none, none, none, none, none, none], [.int (Int32.ofInt n17_0), .ref q108, .ref w], h)) rfl ?_
        have hk112 := yk_b (q := (g0 541 1).toInt) (n := n17_0) (l := l108) (by omega) (by omega) (by omega)
        obtain ⟨fw113, oW113⟩ := C.ow
        refine yy_fin.cv (as := [.ref q108, .int (Int32.ofInt n17_0)]) rfl rfl rfl oW113 (Nat.le_of_ble_eq_true rfl) (Nat.le_of_ble_eq_true rfl) (yc_back F C R108 (n := n17_0) (by omega) (by omega) (by omega)) ?_
        rintro v h9 ⟨rfl, e9⟩
        obtain rfl := e9.symm
        exact J107 (u108 + yk (g0 541 1).toInt n17_0 l108) (by show _ = s_b _ _ _; rw [eo108]; exact (if_neg (by omega)).symm)
      · have c111 := mt (yi_c_ne (a := u108 + yk (g0 541 1).toInt n17_0 l108) (b := u108 + l108) (by omega) (by omega)).mpr c111
        refine yy_fin.steps (n := 2) (s' := (604, [some (.ref 1), some (.ref w), some (.ref 0), some (.int (Int32.ofInt fr)), some (.int (Int32.ofInt (t : Int))), some (.int (Int32.ofInt day)), some (.ref q108), some (zz_val k7), some (.int (Int32.ofInt p8)), some (.ref k9), some (.int (Int32.ofInt s)), some (zz_val q11), some (.int (Int32.ofInt p12)), some (.ref q13), some (.ref q14), some (.int (Int32.ofInt 0)), some (.ref q108), some (.int (Int32.ofInt n17_0)), some (.int (Int32.ofInt n18_0)), none, none, none, none, none, none], [.int (Int32.ofInt (-2))], h)) rfl ?_
        exact J107 (-2) (by show _ = s_b _ _ _; rw [eo108]; exact (if_pos (by omega)).symm)
  intro v107 ev107
  have hb107 := s_90_b (day := day) (f := 0) (n := n17_0) F.2.2.2 ht (by omega)
  rw [← ev107] at hb107
  refine yy_fin.steps (n := 1) (s' := (606, [some (.ref 1), some (.ref w), some (.ref 0), some (.int (Int32.ofInt fr)), some (.int (Int32.ofInt (t : Int))), some (.int (Int32.ofInt day)), some (zz_val k6), some (zz_val k7), some (.int (Int32.ofInt p8)), some (.ref k9), some (.int (Int32.ofInt s)), some (zz_val q11), some (.int (Int32.ofInt p12)), some (.ref q13), some (.ref q14), some (.int (Int32.ofInt 0)), some (zz_val k6), some (.int (Int32.ofInt n17_0)), some (.int (Int32.ofInt n18_0)), some (.int (Int32.ofInt v107)), none, none, none, none, none], [], h)) rfl ?_
  suffices K114 : yy_fin X 279 (608, [some (.ref 1), some (.ref w), some (.ref 0), some (.int (Int32.ofInt fr)), some (.int (Int32.ofInt (t : Int))), some (.int (Int32.ofInt day)), some (zz_val k6), some (zz_val k7), some (.int (Int32.ofInt p8)), some (.ref k9), some (.int (Int32.ofInt s)), some (zz_val q11), some (.int (Int32.ofInt p12)), some (.ref q13), some (.ref q14), some (.int (Int32.ofInt 0)), some (zz_val k6), some (.int (Int32.ofInt n17_0)), some (.int (Int32.ofInt n18_0)), some (.int (Int32.ofInt v107)), none, none, none, none, none], [zz_val k6], h) φ by cases k6 <;> exact yy_fin.steps (n := 1) rfl K114
  suffices J115 : ∀ v115 : Int, v115 = s_90 (g0 541) t day 0 n18_0 → yy_fin X 279 (639, [some (.ref 1), some (.ref w), some (.ref 0), some (.int (Int32.ofInt fr)), some (.int (Int32.ofInt (t : Int))), some (.int (Int32.ofInt day)), some (zz_val k6), some (zz_val k7), some (.int (Int32.ofInt p8)), some (.ref k9), some (.int (Int32.ofInt s)), some (zz_val q11), some (.int (Int32.ofInt p12)), some (.ref q13), some (.ref q14), some (.int (Int32.ofInt 0)), some (zz_val k6), some (.int (Int32.ofInt n17_0)), some (.int (Int32.ofInt n18_0)), some (.int (Int32.ofInt v107)), none, none, none, none, none], [.int (Int32.ofInt v115)], h) φ by
    rcases H6 with ⟨rfl, eo116⟩ | ⟨q116, u116, l116, rfl, eo116, R116⟩
    · refine yy_fin.steps (n := 3) (s' := (639, [some (.ref 1), some (.ref w), some (.ref 0), some (.int (Int32.ofInt fr)), some (.int (Int32.ofInt (t : Int))), some (.int (Int32.ofInt day)), some (.null), some (zz_val k7), some (.int (Int32.ofInt p8)), some (.ref k9), some (.int (Int32.ofInt s)), some (zz_val q11), some (.int (Int32.ofInt p12)), some (.ref q13), some (.ref q14), some (.int (Int32.ofInt 0)), some (.null), some (.int (Int32.ofInt n17_0)), some (.int (Int32.ofInt n18_0)), some (.int (Int32.ofInt v107)), none, none, none, none, none], [.int (Int32.ofInt (-2))], h)) rfl ?_
      exact J115 (-2) (by show _ = s_b _ _ _; rw [eo116]; rfl)
    · have hb116 := hv_bnd2 F.2.2.2 ht eo116
      refine yy_fin.steps (n := 4) (s' := (616, [some (.ref 1), some (.ref w), some (.ref 0), some (.int (Int32.ofInt fr)), some (.int (Int32.ofInt (t : Int))), some (.int (Int32.ofInt day)), some (.ref q116), some (zz_val k7), some (.int (Int32.ofInt p8)), some (.ref k9), some (.int (Int32.ofInt s)), some (zz_val q11), some (.int (Int32.ofInt p12)), some (.ref q13), some (.ref q14), some (.int (Int32.ofInt 0)), some (.ref q116), some (.int (Int32.ofInt n17_0)), some (.int (Int32.ofInt n18_0)), some (.int (Int32.ofInt v107)), none, none, none, none, none], [.int (Int32.ofInt n18_0), .ref q116, .ref w], h)) rfl ?_
      have hk117 := yk_b (q := (g0 541 1).toInt) (n := n18_0) (l := l116) (by omega) (by omega) (by omega)
      obtain ⟨fw118, oW118⟩ := C.ow
      refine yy_fin.cv (as := [.ref q116, .int (Int32.ofInt n18_0)]) rfl rfl rfl oW118 (Nat.le_of_ble_eq_true rfl) (Nat.le_of_ble_eq_true rfl) (yc_back F C R116 (n := n18_0) (by omega) (by omega) (by omega)) ?_
      rintro v h9 ⟨rfl, e9⟩
      obtain rfl := e9.symm
      refine yy_fin.steps (n := 2) (s' := (622, [some (.ref 1), some (.ref w), some (.ref 0), some (.int (Int32.ofInt fr)), some (.int (Int32.ofInt (t : Int))), some (.int (Int32.ofInt day)), some (.ref q116), some (zz_val k7), some (.int (Int32.ofInt p8)), some (.ref k9), some (.int (Int32.ofInt s)), some (zz_val q11), some (.int (Int32.ofInt p12)), some (.ref q13), some (.ref q14), some (.int (Int32.ofInt 0)), some (.ref q116), some (.int (Int32.ofInt n17_0)), some (.int (Int32.ofInt n18_0)), some (.int (Int32.ofInt v107)), none, none, none, none, none], [.int (Int32.ofInt 1), .ref q116, .int (Int32.ofInt (u116 + yk (g0 541 1).toInt n18_0 l116))], h)) rfl ?_
      refine yy_fin.lp (j := 1) rfl R116.2 rfl (by decide) rfl ?_
      refine yy_fin.ic rfl (fun c119 => ?_) (fun c119 => ?_)
      · have c119 := (yi_c_ne (a := u116 + yk (g0 541 1).toInt n18_0 l116) (b := u116 + l116) (by omega) (by omega)).mp c119
        refine yy_fin.steps (n := 3) (s' := (636, [some (.ref 1), some (.ref w), some (.ref 0), some (.int (Int32.ofInt fr)), some (.int (Int32.ofInt (t : Int))), some (.int (Int32.ofInt day)), some (.ref q116), some (zz_val k7), some (.int (Int32.ofInt p8)), some (.ref k9), some (.int (Int32.ofInt s)), some (zz_val q11), some (.int (Int32.ofInt p12)), some (.ref q13), some (.ref q14), some (.int (Int32.ofInt 0)), some (.ref q116), some (.int (Int32.ofInt n17_0)), some (.int (Int32.ofInt n18_0)), some (.int (Int32.ofInt v107)), none, none, none, none, none], [.int (Int32.ofInt n18_0), .ref q116, .ref w], h)) rfl ?_
        have hk120 := yk_b (q := (g0 541 1).toInt) (n := n18_0) (l := l116) (by omega) (by omega) (by omega)
        obtain ⟨fw121, oW121⟩ := C.ow
        refine yy_fin.cv (as := [.ref q116, .int (Int32.ofInt n18_0)]) rfl rfl rfl oW121 (Nat.le_of_ble_eq_true rfl) (Nat.le_of_ble_eq_true rfl) (yc_back F C R116 (n := n18_0) (by omega) (by omega) (by omega)) ?_
        rintro v h9 ⟨rfl, e9⟩
        obtain rfl := e9.symm
        exact J115 (u116 + yk (g0 541 1).toInt n18_0 l116) (by show _ = s_b _ _ _; rw [eo116]; exact (if_neg (by omega)).symm)
      · have c119 := mt (yi_c_ne (a := u116 + yk (g0 541 1).toInt n18_0 l116) (b := u116 + l116) (by omega) (by omega)).mpr c119
        refine yy_fin.steps (n := 2) (s' := (639, [some (.ref 1), some (.ref w), some (.ref 0), some (.int (Int32.ofInt fr)), some (.int (Int32.ofInt (t : Int))), some (.int (Int32.ofInt day)), some (.ref q116), some (zz_val k7), some (.int (Int32.ofInt p8)), some (.ref k9), some (.int (Int32.ofInt s)), some (zz_val q11), some (.int (Int32.ofInt p12)), some (.ref q13), some (.ref q14), some (.int (Int32.ofInt 0)), some (.ref q116), some (.int (Int32.ofInt n17_0)), some (.int (Int32.ofInt n18_0)), some (.int (Int32.ofInt v107)), none, none, none, none, none], [.int (Int32.ofInt (-2))], h)) rfl ?_
        exact J115 (-2) (by show _ = s_b _ _ _; rw [eo116]; exact (if_pos (by omega)).symm)
  intro v115 ev115
  have hb115 := s_90_b (day := day) (f := 0) (n := n18_0) F.2.2.2 ht (by omega)
  rw [← ev115] at hb115
  refine yy_fin.steps (n := 1) (s' := (641, [some (.ref 1), some (.ref w), some (.ref 0), some (.int (Int32.ofInt fr)), some (.int (Int32.ofInt (t : Int))), some (.int (Int32.ofInt day)), some (zz_val k6), some (zz_val k7), some (.int (Int32.ofInt p8)), some (.ref k9), some (.int (Int32.ofInt s)), some (zz_val q11), some (.int (Int32.ofInt p12)), some (.ref q13), some (.ref q14), some (.int (Int32.ofInt 0)), some (zz_val k6), some (.int (Int32.ofInt n17_0)), some (.int (Int32.ofInt n18_0)), some (.int (Int32.ofInt v107)), some (.int (Int32.ofInt v115)), none, none, none, none], [], h)) rfl ?_
  suffices K122 : yy_fin X 279 (643, [some (.ref 1), some (.ref w), some (.ref 0), some (.int (Int32.ofInt fr)), some (.int (Int32.ofInt (t : Int))), some (.int (Int32.ofInt day)), some (zz_val k6), some (zz_val k7), some (.int (Int32.ofInt p8)), some (.ref k9), some (.int (Int32.ofInt s)), some (zz_val q11), some (.int (Int32.ofInt p12)), some (.ref q13), some (.ref q14), some (.int (Int32.ofInt 0)), some (zz_val k6), some (.int (Int32.ofInt n17_0)), some (.int (Int32.ofInt n18_0)), some (.int (Int32.ofInt v107)), some (.int (Int32.ofInt v115)), none, none, none, none], [zz_val k6], h) φ by cases k6 <;> exact yy_fin.steps (n := 1) rfl K122
  suffices J123 : ∀ v123 : Int, v123 = y_el (hv_t (g0 541) t day 0) (-1000000) (fun u l => u + (u + l - u) / 2) → yy_fin X 279 (667, [some (.ref 1), some (.ref w), some (.ref 0), some (.int (Int32.ofInt fr)), some (.int (Int32.ofInt (t : Int))), some (.int (Int32.ofInt day)), some (zz_val k6), some (zz_val k7), some (.int (Int32.ofInt p8)), some (.ref k9), some (.int (Int32.ofInt s)), some (zz_val q11), some (.int (Int32.ofInt p12)), some (.ref q13), some (.ref q14), some (.int (Int32.ofInt 0)), some (zz_val k6), some (.int (Int32.ofInt n17_0)), some (.int (Int32.ofInt n18_0)), some (.int (Int32.ofInt v107)), some (.int (Int32.ofInt v115)), none, none, none, none], [.int (Int32.ofInt v123)], h) φ by
    rcases H6 with ⟨rfl, eo124⟩ | ⟨q124, u124, l124, rfl, eo124, R124⟩
    · refine yy_fin.steps (n := 3) (s' := (667, [some (.ref 1), some (.ref w), some (.ref 0), some (.int (Int32.ofInt fr)), some (.int (Int32.ofInt (t : Int))), some (.int (Int32.ofInt day)), some (.null), some (zz_val k7), some (.int (Int32.ofInt p8)), some (.ref k9), some (.int (Int32.ofInt s)), some (zz_val q11), some (.int (Int32.ofInt p12)), some (.ref q13), some (.ref q14), some (.int (Int32.ofInt 0)), some (.null), some (.int (Int32.ofInt n17_0)), some (.int (Int32.ofInt n18_0)), some (.int (Int32.ofInt v107)), some (.int (Int32.ofInt v115)), none, none, none, none], [.int (Int32.ofInt (-1000000))], h)) rfl ?_
      exact J123 (-1000000) (by rw [eo124]; rfl)
    · have hb124 := hv_bnd2 F.2.2.2 ht eo124
      refine yy_fin.steps (n := 3) (s' := (654, [some (.ref 1), some (.ref w), some (.ref 0), some (.int (Int32.ofInt fr)), some (.int (Int32.ofInt (t : Int))), some (.int (Int32.ofInt day)), some (.ref q124), some (zz_val k7), some (.int (Int32.ofInt p8)), some (.ref k9), some (.int (Int32.ofInt s)), some (zz_val q11), some (.int (Int32.ofInt p12)), some (.ref q13), some (.ref q14), some (.int (Int32.ofInt 0)), some (.ref q124), some (.int (Int32.ofInt n17_0)), some (.int (Int32.ofInt n18_0)), some (.int (Int32.ofInt v107)), some (.int (Int32.ofInt v115)), none, none, none, none], [.int (Int32.ofInt 0), .ref q124], h)) rfl ?_
      refine yy_fin.lp (j := 0) rfl R124.2 rfl (by decide) rfl ?_
      refine yy_fin.steps (n := 2) (s' := (658, [some (.ref 1), some (.ref w), some (.ref 0), some (.int (Int32.ofInt fr)), some (.int (Int32.ofInt (t : Int))), some (.int (Int32.ofInt day)), some (.ref q124), some (zz_val k7), some (.int (Int32.ofInt p8)), some (.ref k9), some (.int (Int32.ofInt s)), some (zz_val q11), some (.int (Int32.ofInt p12)), some (.ref q13), some (.ref q14), some (.int (Int32.ofInt 0)), some (.ref q124), some (.int (Int32.ofInt n17_0)), some (.int (Int32.ofInt n18_0)), some (.int (Int32.ofInt v107)), some (.int (Int32.ofInt v115)), none, none, none, none], [.int (Int32.ofInt 1), .ref q124, .int (Int32.ofInt u124)], h)) rfl ?_
      refine yy_fin.lp (j := 1) rfl R124.2 rfl (by decide) rfl ?_
      refine yy_fin.steps (n := 2) (s' := (662, [some (.ref 1), some (.ref w), some (.ref 0), some (.int (Int32.ofInt fr)), some (.int (Int32.ofInt (t : Int))), some (.int (Int32.ofInt day)), some (.ref q124), some (zz_val k7), some (.int (Int32.ofInt p8)), some (.ref k9), some (.int (Int32.ofInt s)), some (zz_val q11), some (.int (Int32.ofInt p12)), some (.ref q13), some (.ref q14), some (.int (Int32.ofInt 0)), some (.ref q124), some (.int (Int32.ofInt n17_0)), some (.int (Int32.ofInt n18_0)), some (.int (Int32.ofInt v107)), some (.int (Int32.ofInt v115)), none, none, none, none], [.int (Int32.ofInt 0), .ref q124, .int (Int32.ofInt (u124 + l124)), .int (Int32.ofInt u124)], h)) rfl ?_
      refine yy_fin.lp (j := 0) rfl R124.2 rfl (by decide) rfl ?_
      refine yy_fin.steps (n := 2) (s' := (665, [some (.ref 1), some (.ref w), some (.ref 0), some (.int (Int32.ofInt fr)), some (.int (Int32.ofInt (t : Int))), some (.int (Int32.ofInt day)), some (.ref q124), some (zz_val k7), some (.int (Int32.ofInt p8)), some (.ref k9), some (.int (Int32.ofInt s)), some (zz_val q11), some (.int (Int32.ofInt p12)), some (.ref q13), some (.ref q14), some (.int (Int32.ofInt 0)), some (.ref q124), some (.int (Int32.ofInt n17_0)), some (.int (Int32.ofInt n18_0)), some (.int (Int32.ofInt v107)), some (.int (Int32.ofInt v115)), none, none, none, none], [.int (Int32.ofInt 2), .int ((Int32.ofInt (u124 + l124)) - (Int32.ofInt u124)), .int (Int32.ofInt u124)], h)) rfl ?_
      rw [yi_sub (u124 + l124) u124]
      refine yy_fin.dv rfl (by decide) ?_
      rw [yi_div (a := (u124 + l124) - u124) (b := 2) (by omega) (by omega)]
      refine yy_fin.steps (n := 1) (s' := (667, [some (.ref 1), some (.ref w), some (.ref 0), some (.int (Int32.ofInt fr)), some (.int (Int32.ofInt (t : Int))), some (.int (Int32.ofInt day)), some (.ref q124), some (zz_val k7), some (.int (Int32.ofInt p8)), some (.ref k9), some (.int (Int32.ofInt s)), some (zz_val q11), some (.int (Int32.ofInt p12)), some (.ref q13), some (.ref q14), some (.int (Int32.ofInt 0)), some (.ref q124), some (.int (Int32.ofInt n17_0)), some (.int (Int32.ofInt n18_0)), some (.int (Int32.ofInt v107)), some (.int (Int32.ofInt v115)), none, none, none, none], [.int ((Int32.ofInt u124) + (Int32.ofInt (((u124 + l124) - u124) / 2)))], h)) rfl ?_
      rw [yi_add u124 (((u124 + l124) - u124) / 2)]
      exact J123 (u124 + (((u124 + l124) - u124) / 2)) (by rw [eo124]; rfl)
  intro v123 ev123
  refine yy_fin.steps (n := 6) (s' := (678, [some (.ref 1), some (.ref w), some (.ref 0), some (.int (Int32.ofInt fr)), some (.int (Int32.ofInt (t : Int))), some (.int (Int32.ofInt day)), some (zz_val k6), some (zz_val k7), some (.int (Int32.ofInt p8)), some (.ref k9), some (.int (Int32.ofInt s)), some (zz_val q11), some (.int (Int32.ofInt p12)), some (.ref q13), some (.ref q14), some (.int (Int32.ofInt 0)), some (zz_val k6), some (.int (Int32.ofInt n17_0)), some (.int (Int32.ofInt n18_0)), some (.int (Int32.ofInt v107)), some (.int (Int32.ofInt v115)), some (.int (Int32.ofInt v123)), none, none, none], [.int (Int32.ofInt n17_0), .int (Int32.ofInt 0), .int (Int32.ofInt day), .int (Int32.ofInt (t : Int)), .ref 1], h)) rfl ?_
  obtain ⟨g125, r125⟩ := qi_90 F C ht hd (f := 0) (Or.inl rfl) (n := n17_0) (by omega)
  obtain ⟨fs125, oo125⟩ := C.o
  refine yy_fin.cv (as := [.int (Int32.ofInt (t : Int)), .int (Int32.ofInt day), .int (Int32.ofInt 0), .int (Int32.ofInt n17_0)]) rfl rfl rfl oo125 (Nat.le_of_ble_eq_true rfl) (Nat.le_of_ble_eq_true rfl) r125 ?_
  rintro v h125 ⟨rfl, C, x125⟩
  replace H6 := H6.k x125
  replace H7 := H7.k x125
  replace Y := Y.tr x125 (fun _ _ e => e)
  replace hY := Y.1
  refine yy_fin.steps (n := 1) (s' := (683, [some (.ref 1), some (.ref w), some (.ref 0), some (.int (Int32.ofInt fr)), some (.int (Int32.ofInt (t : Int))), some (.int (Int32.ofInt day)), some (zz_val k6), some (zz_val k7), some (.int (Int32.ofInt p8)), some (.ref k9), some (.int (Int32.ofInt s)), some (zz_val q11), some (.int (Int32.ofInt p12)), some (.ref q13), some (.ref q14), some (.int (Int32.ofInt 0)), some (zz_val k6), some (.int (Int32.ofInt n17_0)), some (.int (Int32.ofInt n18_0)), some (.int (Int32.ofInt v107)), some (.int (Int32.ofInt v115)), some (.int (Int32.ofInt v123)), none, none, none], [.int (Int32.ofInt v107), .int (Int32.ofInt (s_90 (g0 541) t day 0 n17_0))], h125)) rfl ?_
  refine yy_fin.ic rfl (fun cz => absurd (congrArg Int32.ofInt ev107.symm) (y_cne cz)) (fun _ => ?_)
  refine yy_fin.steps (n := 5) (s' := (695, [some (.ref 1), some (.ref w), some (.ref 0), some (.int (Int32.ofInt fr)), some (.int (Int32.ofInt (t : Int))), some (.int (Int32.ofInt day)), some (zz_val k6), some (zz_val k7), some (.int (Int32.ofInt p8)), some (.ref k9), some (.int (Int32.ofInt s)), some (zz_val q11), some (.int (Int32.ofInt p12)), some (.ref q13), some (.ref q14), some (.int (Int32.ofInt 0)), some (zz_val k6), some (.int (Int32.ofInt n17_0)), some (.int (Int32.ofInt n18_0)), some (.int (Int32.ofInt v107)), some (.int (Int32.ofInt v115)), some (.int (Int32.ofInt v123)), none, none, none], [.int (Int32.ofInt n18_0), .int (Int32.ofInt 0), .int (Int32.ofInt day), .int (Int32.ofInt (t : Int)), .ref 1], h125)) rfl ?_
  obtain ⟨g126, r126⟩ := qi_90 F C ht hd (f := 0) (Or.inl rfl) (n := n18_0) (by omega)
  obtain ⟨fs126, oo126⟩ := C.o
  refine yy_fin.cv (as := [.int (Int32.ofInt (t : Int)), .int (Int32.ofInt day), .int (Int32.ofInt 0), .int (Int32.ofInt n18_0)]) rfl rfl rfl oo126 (Nat.le_of_ble_eq_true rfl) (Nat.le_of_ble_eq_true rfl) r126 ?_
  rintro v h126 ⟨rfl, C, x126⟩
  replace H6 := H6.k x126
  replace H7 := H7.k x126
  replace Y := Y.tr x126 (fun _ _ e => e)
  replace hY := Y.1
  refine yy_fin.steps (n := 1) (s' := (700, [some (.ref 1), some (.ref w), some (.ref 0), some (.int (Int32.ofInt fr)), some (.int (Int32.ofInt (t : Int))), some (.int (Int32.ofInt day)), some (zz_val k6), some (zz_val k7), some (.int (Int32.ofInt p8)), some (.ref k9), some (.int (Int32.ofInt s)), some (zz_val q11), some (.int (Int32.ofInt p12)), some (.ref q13), some (.ref q14), some (.int (Int32.ofInt 0)), some (zz_val k6), some (.int (Int32.ofInt n17_0)), some (.int (Int32.ofInt n18_0)), some (.int (Int32.ofInt v107)), some (.int (Int32.ofInt v115)), some (.int (Int32.ofInt v123)), none, none, none], [.int (Int32.ofInt v115), .int (Int32.ofInt (s_90 (g0 541) t day 0 n18_0))], h126)) rfl ?_
  refine yy_fin.ic rfl (fun cz => absurd (congrArg Int32.ofInt ev115.symm) (y_cne cz)) (fun _ => ?_)
  refine yy_fin.steps (n := 6) (s' := (714, [some (.ref 1), some (.ref w), some (.ref 0), some (.int (Int32.ofInt fr)), some (.int (Int32.ofInt (t : Int))), some (.int (Int32.ofInt day)), some (zz_val k6), some (zz_val k7), some (.int (Int32.ofInt p8)), some (.ref k9), some (.int (Int32.ofInt s)), some (zz_val q11), some (.int (Int32.ofInt p12)), some (.ref q13), some (.ref q14), some (.int (Int32.ofInt 0)), some (zz_val k6), some (.int (Int32.ofInt n17_0)), some (.int (Int32.ofInt n18_0)), some (.int (Int32.ofInt v107)), some (.int (Int32.ofInt v115)), some (.int (Int32.ofInt v123)), none, none, none], [.int (Int32.ofInt n18_0), .int (Int32.ofInt n17_0), .int (Int32.ofInt 0), .int (Int32.ofInt day), .int (Int32.ofInt (t : Int)), .ref 1], h126)) rfl ?_
  obtain ⟨g127, r127⟩ := qi_97 F C ht hd (f := 0) (Or.inl rfl) (n := n17_0) (m := n18_0) (by omega) (by omega)
  obtain ⟨fs127, oo127⟩ := C.o
  refine yy_fin.cv (as := [.int (Int32.ofInt (t : Int)), .int (Int32.ofInt day), .int (Int32.ofInt 0), .int (Int32.ofInt n17_0), .int (Int32.ofInt n18_0)]) rfl rfl rfl oo127 (Nat.le_of_ble_eq_true rfl) (Nat.le_of_ble_eq_true rfl) r127 ?_
  rintro v h127 ⟨rfl, C, x127⟩
  replace H6 := H6.k x127
  replace H7 := H7.k x127
  replace Y := Y.tr x127 (fun _ _ e => e)
  replace hY := Y.1
  refine yy_fin.steps (n := 2) (s' := (721, [some (.ref 1), some (.ref w), some (.ref 0), some (.int (Int32.ofInt fr)), some (.int (Int32.ofInt (t : Int))), some (.int (Int32.ofInt day)), some (zz_val k6), some (zz_val k7), some (.int (Int32.ofInt p8)), some (.ref k9), some (.int (Int32.ofInt s)), some (zz_val q11), some (.int (Int32.ofInt p12)), some (.ref q13), some (.ref q14), some (.int (Int32.ofInt 0)), some (zz_val k6), some (.int (Int32.ofInt n17_0)), some (.int (Int32.ofInt n18_0)), some (.int (Int32.ofInt v107)), some (.int (Int32.ofInt v115)), some (.int (Int32.ofInt v123)), none, none, none], [.int (Int32.ofInt (-2)), .int (Int32.ofInt v107), .int (Int32.ofInt (s_26 (g0 541) t day 0 n17_0 n18_0))], h127)) rfl ?_
  suffices J9 : ∀ v9 : Int, v9 = s_26 (g0 541) t day 0 n17_0 n18_0 → yy_fin X 279 (741, [some (.ref 1), some (.ref w), some (.ref 0), some (.int (Int32.ofInt fr)), some (.int (Int32.ofInt (t : Int))), some (.int (Int32.ofInt day)), some (zz_val k6), some (zz_val k7), some (.int (Int32.ofInt p8)), some (.ref k9), some (.int (Int32.ofInt s)), some (zz_val q11), some (.int (Int32.ofInt p12)), some (.ref q13), some (.ref q14), some (.int (Int32.ofInt 0)), some (zz_val k6), some (.int (Int32.ofInt n17_0)), some (.int (Int32.ofInt n18_0)), some (.int (Int32.ofInt v107)), some (.int (Int32.ofInt v115)), some (.int (Int32.ofInt v123)), none, none, none], [.int (Int32.ofInt v9), .int (Int32.ofInt (s_26 (g0 541) t day 0 n17_0 n18_0))], h127) φ by
    refine yy_fin.ic rfl (fun c128 => ?_) (fun c128 => ?_)
    · have c128 := (yi_c_eq (a := v107) (b := -2) (by omega) (by omega)).mp c128
      refine yy_fin.steps (n := 2) (s' := (741, [some (.ref 1), some (.ref w), some (.ref 0), some (.int (Int32.ofInt fr)), some (.int (Int32.ofInt (t : Int))), some (.int (Int32.ofInt day)), some (zz_val k6), some (zz_val k7), some (.int (Int32.ofInt p8)), some (.ref k9), some (.int (Int32.ofInt s)), some (zz_val q11), some (.int (Int32.ofInt p12)), some (.ref q13), some (.ref q14), some (.int (Int32.ofInt 0)), some (zz_val k6), some (.int (Int32.ofInt n17_0)), some (.int (Int32.ofInt n18_0)), some (.int (Int32.ofInt v107)), some (.int (Int32.ofInt v115)), some (.int (Int32.ofInt v123)), none, none, none], [.int (Int32.ofInt (-1000000)), .int (Int32.ofInt (s_26 (g0 541) t day 0 n17_0 n18_0))], h127)) rfl ?_
      exact J9 (-1000000) (by unfold s_26; rw [← ev107, ← ev115]; rw [if_pos (by omega)])
    · have c128 := mt (yi_c_eq (a := v107) (b := -2) (by omega) (by omega)).mpr c128
      refine yy_fin.steps (n := 2) (s' := (728, [some (.ref 1), some (.ref w), some (.ref 0), some (.int (Int32.ofInt fr)), some (.int (Int32.ofInt (t : Int))), some (.int (Int32.ofInt day)), some (zz_val k6), some (zz_val k7), some (.int (Int32.ofInt p8)), some (.ref k9), some (.int (Int32.ofInt s)), some (zz_val q11), some (.int (Int32.ofInt p12)), some (.ref q13), some (.ref q14), some (.int (Int32.ofInt 0)), some (zz_val k6), some (.int (Int32.ofInt n17_0)), some (.int (Int32.ofInt n18_0)), some (.int (Int32.ofInt v107)), some (.int (Int32.ofInt v115)), some (.int (Int32.ofInt v123)), none, none, none], [.int (Int32.ofInt (-2)), .int (Int32.ofInt v115), .int (Int32.ofInt (s_26 (g0 541) t day 0 n17_0 n18_0))], h127)) rfl ?_
      refine yy_fin.ic rfl (fun c129 => ?_) (fun c129 => ?_)
      · have c129 := (yi_c_ne (a := v115) (b := -2) (by omega) (by omega)).mp c129
        refine yy_fin.steps (n := 3) (s' := (741, [some (.ref 1), some (.ref w), some (.ref 0), some (.int (Int32.ofInt fr)), some (.int (Int32.ofInt (t : Int))), some (.int (Int32.ofInt day)), some (zz_val k6), some (zz_val k7), some (.int (Int32.ofInt p8)), some (.ref k9), some (.int (Int32.ofInt s)), some (zz_val q11), some (.int (Int32.ofInt p12)), some (.ref q13), some (.ref q14), some (.int (Int32.ofInt 0)), some (zz_val k6), some (.int (Int32.ofInt n17_0)), some (.int (Int32.ofInt n18_0)), some (.int (Int32.ofInt v107)), some (.int (Int32.ofInt v115)), some (.int (Int32.ofInt v123)), none, none, none], [.int ((Int32.ofInt v115) - (Int32.ofInt v107)), .int (Int32.ofInt (s_26 (g0 541) t day 0 n17_0 n18_0))], h127)) rfl ?_
        rw [yi_sub v115 v107]
        exact J9 (v115 - v107) (by unfold s_26; rw [← ev107, ← ev115]; rw [if_neg (by omega), if_pos (by omega)])
      · have c129 := mt (yi_c_ne (a := v115) (b := -2) (by omega) (by omega)).mpr c129
        refine yy_fin.steps (n := 2) (s' := (741, [some (.ref 1), some (.ref w), some (.ref 0), some (.int (Int32.ofInt fr)), some (.int (Int32.ofInt (t : Int))), some (.int (Int32.ofInt day)), some (zz_val k6), some (zz_val k7), some (.int (Int32.ofInt p8)), some (.ref k9), some (.int (Int32.ofInt s)), some (zz_val q11), some (.int (Int32.ofInt p12)), some (.ref q13), some (.ref q14), some (.int (Int32.ofInt 0)), some (zz_val k6), some (.int (Int32.ofInt n17_0)), some (.int (Int32.ofInt n18_0)), some (.int (Int32.ofInt v107)), some (.int (Int32.ofInt v115)), some (.int (Int32.ofInt v123)), none, none, none], [.int (Int32.ofInt (-1000000)), .int (Int32.ofInt (s_26 (g0 541) t day 0 n17_0 n18_0))], h127)) rfl ?_
        exact J9 (-1000000) (by unfold s_26; rw [← ev107, ← ev115]; rw [if_neg (by omega), if_neg (by omega)])
  intro v9 ev9
  refine yy_fin.ic rfl (fun cz => absurd (congrArg Int32.ofInt ev9.symm) (y_cne cz)) (fun _ => ?_)
  refine yy_fin.steps (n := 5) (s' := (752, [some (.ref 1), some (.ref w), some (.ref 0), some (.int (Int32.ofInt fr)), some (.int (Int32.ofInt (t : Int))), some (.int (Int32.ofInt day)), some (zz_val k6), some (zz_val k7), some (.int (Int32.ofInt p8)), some (.ref k9), some (.int (Int32.ofInt s)), some (zz_val q11), some (.int (Int32.ofInt p12)), some (.ref q13), some (.ref q14), some (.int (Int32.ofInt 0)), some (zz_val k6), some (.int (Int32.ofInt n17_0)), some (.int (Int32.ofInt n18_0)), some (.int (Int32.ofInt v107)), some (.int (Int32.ofInt v115)), some (.int (Int32.ofInt v123)), none, none, none], [.int (Int32.ofInt 0), .int (Int32.ofInt 0), .int (Int32.ofInt day), .int (Int32.ofInt (t : Int)), .ref 1], h127)) rfl ?_
  obtain ⟨g130, r130⟩ := qi_96 F C ht hd (f := 0) (Or.inl rfl) (k := 0) (Or.inl rfl)
  obtain ⟨fs130, oo130⟩ := C.o
  refine yy_fin.cv (as := [.int (Int32.ofInt (t : Int)), .int (Int32.ofInt day), .int (Int32.ofInt 0), .int (Int32.ofInt 0)]) rfl rfl rfl oo130 (Nat.le_of_ble_eq_true rfl) (Nat.le_of_ble_eq_true rfl) r130 ?_
  rintro v h130 ⟨rfl, C, x130⟩
  replace H6 := H6.k x130
  replace H7 := H7.k x130
  replace Y := Y.tr x130 (fun _ _ e => e)
  replace hY := Y.1
  refine yy_fin.steps (n := 1) (s' := (757, [some (.ref 1), some (.ref w), some (.ref 0), some (.int (Int32.ofInt fr)), some (.int (Int32.ofInt (t : Int))), some (.int (Int32.ofInt day)), some (zz_val k6), some (zz_val k7), some (.int (Int32.ofInt p8)), some (.ref k9), some (.int (Int32.ofInt s)), some (zz_val q11), some (.int (Int32.ofInt p12)), some (.ref q13), some (.ref q14), some (.int (Int32.ofInt 0)), some (zz_val k6), some (.int (Int32.ofInt n17_0)), some (.int (Int32.ofInt n18_0)), some (.int (Int32.ofInt v107)), some (.int (Int32.ofInt v115)), some (.int (Int32.ofInt v123)), none, none, none], [.int (Int32.ofInt v123), .int (Int32.ofInt (s_25 (g0 541) t day 0 0))], h130)) rfl ?_
  refine yy_fin.ic rfl (fun cz => absurd (congrArg Int32.ofInt (s_25_e.trans ev123.symm)) (y_cne cz)) (fun _ => ?_)
  refine yy_fin.steps (n := 5) (s' := (768, [some (.ref 1), some (.ref w), some (.ref 0), some (.int (Int32.ofInt fr)), some (.int (Int32.ofInt (t : Int))), some (.int (Int32.ofInt day)), some (zz_val k6), some (zz_val k7), some (.int (Int32.ofInt p8)), some (.ref k9), some (.int (Int32.ofInt s)), some (zz_val q11), some (.int (Int32.ofInt p12)), some (.ref q13), some (.ref q14), some (.int (Int32.ofInt 0)), some (zz_val k6), some (.int (Int32.ofInt n17_0)), some (.int (Int32.ofInt n18_0)), some (.int (Int32.ofInt v107)), some (.int (Int32.ofInt v115)), some (.int (Int32.ofInt v123)), none, none, none], [.int (Int32.ofInt 1), .int (Int32.ofInt 0), .int (Int32.ofInt day), .int (Int32.ofInt (t : Int)), .ref 1], h130)) rfl ?_
  obtain ⟨g131, r131⟩ := qi_96 F C ht hd (f := 0) (Or.inl rfl) (k := 1) (Or.inr rfl)
  obtain ⟨fs131, oo131⟩ := C.o
  refine yy_fin.cv (as := [.int (Int32.ofInt (t : Int)), .int (Int32.ofInt day), .int (Int32.ofInt 0), .int (Int32.ofInt 1)]) rfl rfl rfl oo131 (Nat.le_of_ble_eq_true rfl) (Nat.le_of_ble_eq_true rfl) r131 ?_
  rintro v h131 ⟨rfl, C, x131⟩
  replace H6 := H6.k x131
  replace H7 := H7.k x131
  replace Y := Y.tr x131 (fun _ _ e => e)
  replace hY := Y.1
  suffices K132 : yy_fin X 279 (773, [some (.ref 1), some (.ref w), some (.ref 0), some (.int (Int32.ofInt fr)), some (.int (Int32.ofInt (t : Int))), some (.int (Int32.ofInt day)), some (zz_val k6), some (zz_val k7), some (.int (Int32.ofInt p8)), some (.ref k9), some (.int (Int32.ofInt s)), some (zz_val q11), some (.int (Int32.ofInt p12)), some (.ref q13), some (.ref q14), some (.int (Int32.ofInt 0)), some (zz_val k6), some (.int (Int32.ofInt n17_0)), some (.int (Int32.ofInt n18_0)), some (.int (Int32.ofInt v107)), some (.int (Int32.ofInt v115)), some (.int (Int32.ofInt v123)), none, none, none], [zz_val k6, .int (Int32.ofInt (s_25 (g0 541) t day 0 1))], h131) φ by cases k6 <;> exact yy_fin.steps (n := 1) rfl K132
  suffices J133 : ∀ v133 : Int, v133 = s_25 (g0 541) t day 0 1 → yy_fin X 279 (796, [some (.ref 1), some (.ref w), some (.ref 0), some (.int (Int32.ofInt fr)), some (.int (Int32.ofInt (t : Int))), some (.int (Int32.ofInt day)), some (zz_val k6), some (zz_val k7), some (.int (Int32.ofInt p8)), some (.ref k9), some (.int (Int32.ofInt s)), some (zz_val q11), some (.int (Int32.ofInt p12)), some (.ref q13), some (.ref q14), some (.int (Int32.ofInt 0)), some (zz_val k6), some (.int (Int32.ofInt n17_0)), some (.int (Int32.ofInt n18_0)), some (.int (Int32.ofInt v107)), some (.int (Int32.ofInt v115)), some (.int (Int32.ofInt v123)), none, none, none], [.int (Int32.ofInt v133), .int (Int32.ofInt (s_25 (g0 541) t day 0 1))], h131) φ by
    rcases H6 with ⟨rfl, eo134⟩ | ⟨q134, u134, l134, rfl, eo134, R134⟩
    · refine yy_fin.steps (n := 3) (s' := (796, [some (.ref 1), some (.ref w), some (.ref 0), some (.int (Int32.ofInt fr)), some (.int (Int32.ofInt (t : Int))), some (.int (Int32.ofInt day)), some (.null), some (zz_val k7), some (.int (Int32.ofInt p8)), some (.ref k9), some (.int (Int32.ofInt s)), some (zz_val q11), some (.int (Int32.ofInt p12)), some (.ref q13), some (.ref q14), some (.int (Int32.ofInt 0)), some (.null), some (.int (Int32.ofInt n17_0)), some (.int (Int32.ofInt n18_0)), some (.int (Int32.ofInt v107)), some (.int (Int32.ofInt v115)), some (.int (Int32.ofInt v123)), none, none, none], [.int (Int32.ofInt v123), .int (Int32.ofInt (s_25 (g0 541) t day 0 1))], h131)) rfl ?_
      exact J133 (v123) (by unfold s_25; rw [ev123, eo134]; rfl)
    · have hb134 := hv_bnd2 F.2.2.2 ht eo134
      refine yy_fin.steps (n := 3) (s' := (785, [some (.ref 1), some (.ref w), some (.ref 0), some (.int (Int32.ofInt fr)), some (.int (Int32.ofInt (t : Int))), some (.int (Int32.ofInt day)), some (.ref q134), some (zz_val k7), some (.int (Int32.ofInt p8)), some (.ref k9), some (.int (Int32.ofInt s)), some (zz_val q11), some (.int (Int32.ofInt p12)), some (.ref q13), some (.ref q14), some (.int (Int32.ofInt 0)), some (.ref q134), some (.int (Int32.ofInt n17_0)), some (.int (Int32.ofInt n18_0)), some (.int (Int32.ofInt v107)), some (.int (Int32.ofInt v115)), some (.int (Int32.ofInt v123)), none, none, none], [.int (Int32.ofInt 0), .int (Int32.ofInt v123), .int (Int32.ofInt (s_25 (g0 541) t day 0 1))], h131)) rfl ?_
      refine yy_fin.if rfl (fun cK => absurd cK (by decide)) (fun cK => ?_)
      refine yy_fin.steps (n := 3) (s' := (796, [some (.ref 1), some (.ref w), some (.ref 0), some (.int (Int32.ofInt fr)), some (.int (Int32.ofInt (t : Int))), some (.int (Int32.ofInt day)), some (.ref q134), some (zz_val k7), some (.int (Int32.ofInt p8)), some (.ref k9), some (.int (Int32.ofInt s)), some (zz_val q11), some (.int (Int32.ofInt p12)), some (.ref q13), some (.ref q14), some (.int (Int32.ofInt 0)), some (.ref q134), some (.int (Int32.ofInt n17_0)), some (.int (Int32.ofInt n18_0)), some (.int (Int32.ofInt v107)), some (.int (Int32.ofInt v115)), some (.int (Int32.ofInt v123)), none, none, none], [.int ((Int32.ofInt v123) - (Int32.ofInt 43200)), .int (Int32.ofInt (s_25 (g0 541) t day 0 1))], h131)) rfl ?_
      rw [yi_sub v123 43200]
      exact J133 (v123 - 43200) (by unfold s_25; rw [ev123, eo134]; show u134 + (u134 + l134 - u134) / 2 - 43200 = u134 + l134 / 2 - 43200; rw [show u134 + l134 - u134 = l134 by omega])
  intro v133 ev133
  refine yy_fin.ic rfl (fun _ => ?_) (fun cz => absurd (y_ceq (congrArg Int32.ofInt ev133.symm)) cz)
  suffices K135 : yy_fin X 279 (803, [some (.ref 1), some (.ref w), some (.ref 0), some (.int (Int32.ofInt fr)), some (.int (Int32.ofInt (t : Int))), some (.int (Int32.ofInt day)), some (zz_val k6), some (zz_val k7), some (.int (Int32.ofInt p8)), some (.ref k9), some (.int (Int32.ofInt s)), some (zz_val q11), some (.int (Int32.ofInt p12)), some (.ref q13), some (.ref q14), some (.int (Int32.ofInt 0)), some (zz_val k6), some (.int (Int32.ofInt n17_0)), some (.int (Int32.ofInt n18_0)), some (.int (Int32.ofInt v107)), some (.int (Int32.ofInt v115)), some (.int (Int32.ofInt v123)), none, none, none], [zz_val k6], h131) φ by cases k6 <;> exact yy_fin.steps (n := 1) rfl K135
  suffices J136 : ∀ v136 : Int, v136 = y_el (hv_t (g0 541) t day 0) 0 (fun u l => u + l - u) → yy_fin X 279 (819, [some (.ref 1), some (.ref w), some (.ref 0), some (.int (Int32.ofInt fr)), some (.int (Int32.ofInt (t : Int))), some (.int (Int32.ofInt day)), some (zz_val k6), some (zz_val k7), some (.int (Int32.ofInt p8)), some (.ref k9), some (.int (Int32.ofInt s)), some (zz_val q11), some (.int (Int32.ofInt p12)), some (.ref q13), some (.ref q14), some (.int (Int32.ofInt 0)), some (zz_val k6), some (.int (Int32.ofInt n17_0)), some (.int (Int32.ofInt n18_0)), some (.int (Int32.ofInt v107)), some (.int (Int32.ofInt v115)), some (.int (Int32.ofInt v123)), none, none, none], [.int (Int32.ofInt v136)], h131) φ by
    rcases H6 with ⟨rfl, eo137⟩ | ⟨q137, u137, l137, rfl, eo137, R137⟩
    · refine yy_fin.steps (n := 3) (s' := (819, [some (.ref 1), some (.ref w), some (.ref 0), some (.int (Int32.ofInt fr)), some (.int (Int32.ofInt (t : Int))), some (.int (Int32.ofInt day)), some (.null), some (zz_val k7), some (.int (Int32.ofInt p8)), some (.ref k9), some (.int (Int32.ofInt s)), some (zz_val q11), some (.int (Int32.ofInt p12)), some (.ref q13), some (.ref q14), some (.int (Int32.ofInt 0)), some (.null), some (.int (Int32.ofInt n17_0)), some (.int (Int32.ofInt n18_0)), some (.int (Int32.ofInt v107)), some (.int (Int32.ofInt v115)), some (.int (Int32.ofInt v123)), none, none, none], [.int (Int32.ofInt 0)], h131)) rfl ?_
      exact J136 (0) (by rw [eo137]; rfl)
    · have hb137 := hv_bnd2 F.2.2.2 ht eo137
      refine yy_fin.steps (n := 3) (s' := (813, [some (.ref 1), some (.ref w), some (.ref 0), some (.int (Int32.ofInt fr)), some (.int (Int32.ofInt (t : Int))), some (.int (Int32.ofInt day)), some (.ref q137), some (zz_val k7), some (.int (Int32.ofInt p8)), some (.ref k9), some (.int (Int32.ofInt s)), some (zz_val q11), some (.int (Int32.ofInt p12)), some (.ref q13), some (.ref q14), some (.int (Int32.ofInt 0)), some (.ref q137), some (.int (Int32.ofInt n17_0)), some (.int (Int32.ofInt n18_0)), some (.int (Int32.ofInt v107)), some (.int (Int32.ofInt v115)), some (.int (Int32.ofInt v123)), none, none, none], [.int (Int32.ofInt 1), .ref q137], h131)) rfl ?_
      refine yy_fin.lp (j := 1) rfl R137.2 rfl (by decide) rfl ?_
      refine yy_fin.steps (n := 2) (s' := (817, [some (.ref 1), some (.ref w), some (.ref 0), some (.int (Int32.ofInt fr)), some (.int (Int32.ofInt (t : Int))), some (.int (Int32.ofInt day)), some (.ref q137), some (zz_val k7), some (.int (Int32.ofInt p8)), some (.ref k9), some (.int (Int32.ofInt s)), some (zz_val q11), some (.int (Int32.ofInt p12)), some (.ref q13), some (.ref q14), some (.int (Int32.ofInt 0)), some (.ref q137), some (.int (Int32.ofInt n17_0)), some (.int (Int32.ofInt n18_0)), some (.int (Int32.ofInt v107)), some (.int (Int32.ofInt v115)), some (.int (Int32.ofInt v123)), none, none, none], [.int (Int32.ofInt 0), .ref q137, .int (Int32.ofInt (u137 + l137))], h131)) rfl ?_
      refine yy_fin.lp (j := 0) rfl R137.2 rfl (by decide) rfl ?_
      refine yy_fin.steps (n := 1) (s' := (819, [some (.ref 1), some (.ref w), some (.ref 0), some (.int (Int32.ofInt fr)), some (.int (Int32.ofInt (t : Int))), some (.int (Int32.ofInt day)), some (.ref q137), some (zz_val k7), some (.int (Int32.ofInt p8)), some (.ref k9), some (.int (Int32.ofInt s)), some (zz_val q11), some (.int (Int32.ofInt p12)), some (.ref q13), some (.ref q14), some (.int (Int32.ofInt 0)), some (.ref q137), some (.int (Int32.ofInt n17_0)), some (.int (Int32.ofInt n18_0)), some (.int (Int32.ofInt v107)), some (.int (Int32.ofInt v115)), some (.int (Int32.ofInt v123)), none, none, none], [.int ((Int32.ofInt (u137 + l137)) - (Int32.ofInt u137))], h131)) rfl ?_
      rw [yi_sub (u137 + l137) u137]
      exact J136 ((u137 + l137) - u137) (by rw [eo137]; rfl)
  intro v136 ev136
  have hz136 : 0 ≤ v136 ∧ v136 ≤ 200000 := by
    rw [ev136]
    cases eo : hv_t (g0 541) t day 0 with
    | none => exact ⟨Int.le_refl _, by decide⟩
    | some p => obtain ⟨u, l⟩ := p; have := hv_bnd2 F.2.2.2 ht eo; show 0 ≤ u + l - u ∧ u + l - u ≤ 200000; omega
  have hG := (y_Gb v136).1
  refine yy_fin.steps (n := 3) (s' := (825, [some (.ref 1), some (.ref w), some (.ref 0), some (.int (Int32.ofInt fr)), some (.int (Int32.ofInt (t : Int))), some (.int (Int32.ofInt day)), some (zz_val k6), some (zz_val k7), some (.int (Int32.ofInt p8)), some (.ref k9), some (.int (Int32.ofInt s)), some (zz_val q11), some (.int (Int32.ofInt p12)), some (.ref q13), some (.ref q14), some (.int (Int32.ofInt 0)), some (zz_val k6), some (.int (Int32.ofInt n17_0)), some (.int (Int32.ofInt n18_0)), some (.int (Int32.ofInt v107)), some (.int (Int32.ofInt v115)), some (.int (Int32.ofInt v123)), some (.int (Int32.ofInt v136)), some (.int (Int32.ofInt 12)), none], [], h131)) rfl ?_
  refine yl_ex hz136 ?_ (12 - y_G v136).toNat 12 (by omega) (by omega)
  refine yy_fin.steps (n := 5) (s' := (855, [some (.ref 1), some (.ref w), some (.ref 0), some (.int (Int32.ofInt fr)), some (.int (Int32.ofInt (t : Int))), some (.int (Int32.ofInt day)), some (zz_val k6), some (zz_val k7), some (.int (Int32.ofInt p8)), some (.ref k9), some (.int (Int32.ofInt s)), some (zz_val q11), some (.int (Int32.ofInt p12)), some (.ref q13), some (.ref q14), some (.int (Int32.ofInt 0)), some (zz_val k6), some (.int (Int32.ofInt n17_0)), some (.int (Int32.ofInt n18_0)), some (.int (Int32.ofInt v107)), some (.int (Int32.ofInt v115)), some (.int (Int32.ofInt v123)), some (.int (Int32.ofInt v136)), some (.int (Int32.ofInt (y_G v136))), none], [.int (Int32.ofInt 0), .int (Int32.ofInt 0), .int (Int32.ofInt day), .int (Int32.ofInt (t : Int)), .ref 1], h131)) rfl ?_
  obtain ⟨g138, r138⟩ := qi_98 F C ht hd (f := 0) (Or.inl rfl) (i := 0) (Or.inl rfl)
  obtain ⟨fs138, oo138⟩ := C.o
  refine yy_fin.cv (as := [.int (Int32.ofInt (t : Int)), .int (Int32.ofInt day), .int (Int32.ofInt 0), .int (Int32.ofInt 0)]) rfl rfl rfl oo138 (Nat.le_of_ble_eq_true rfl) (Nat.le_of_ble_eq_true rfl) r138 ?_
  rintro v h138 ⟨rfl, C, x138⟩
  replace H6 := H6.k x138
  replace H7 := H7.k x138
  replace Y := Y.tr x138 (fun _ _ e => e)
  replace hY := Y.1
  suffices K139 : yy_fin X 279 (860, [some (.ref 1), some (.ref w), some (.ref 0), some (.int (Int32.ofInt fr)), some (.int (Int32.ofInt (t : Int))), some (.int (Int32.ofInt day)), some (zz_val k6), some (zz_val k7), some (.int (Int32.ofInt p8)), some (.ref k9), some (.int (Int32.ofInt s)), some (zz_val q11), some (.int (Int32.ofInt p12)), some (.ref q13), some (.ref q14), some (.int (Int32.ofInt 0)), some (zz_val k6), some (.int (Int32.ofInt n17_0)), some (.int (Int32.ofInt n18_0)), some (.int (Int32.ofInt v107)), some (.int (Int32.ofInt v115)), some (.int (Int32.ofInt v123)), some (.int (Int32.ofInt v136)), some (.int (Int32.ofInt (y_G v136))), none], [zz_val k6, .int (Int32.ofInt (s_98 (g0 541) t day 0 0))], h138) φ by cases k6 <;> exact yy_fin.steps (n := 1) rfl K139
  suffices J140 : ∀ v140 : Int, v140 = s_98 (g0 541) t day 0 0 → yy_fin X 279 (873, [some (.ref 1), some (.ref w), some (.ref 0), some (.int (Int32.ofInt fr)), some (.int (Int32.ofInt (t : Int))), some (.int (Int32.ofInt day)), some (zz_val k6), some (zz_val k7), some (.int (Int32.ofInt p8)), some (.ref k9), some (.int (Int32.ofInt s)), some (zz_val q11), some (.int (Int32.ofInt p12)), some (.ref q13), some (.ref q14), some (.int (Int32.ofInt 0)), some (zz_val k6), some (.int (Int32.ofInt n17_0)), some (.int (Int32.ofInt n18_0)), some (.int (Int32.ofInt v107)), some (.int (Int32.ofInt v115)), some (.int (Int32.ofInt v123)), some (.int (Int32.ofInt v136)), some (.int (Int32.ofInt (y_G v136))), none], [.int (Int32.ofInt v140), .int (Int32.ofInt (s_98 (g0 541) t day 0 0))], h138) φ by
    rcases H6 with ⟨rfl, eo141⟩ | ⟨q141, u141, l141, rfl, eo141, R141⟩
    · refine yy_fin.steps (n := 3) (s' := (873, [some (.ref 1), some (.ref w), some (.ref 0), some (.int (Int32.ofInt fr)), some (.int (Int32.ofInt (t : Int))), some (.int (Int32.ofInt day)), some (.null), some (zz_val k7), some (.int (Int32.ofInt p8)), some (.ref k9), some (.int (Int32.ofInt s)), some (zz_val q11), some (.int (Int32.ofInt p12)), some (.ref q13), some (.ref q14), some (.int (Int32.ofInt 0)), some (.null), some (.int (Int32.ofInt n17_0)), some (.int (Int32.ofInt n18_0)), some (.int (Int32.ofInt v107)), some (.int (Int32.ofInt v115)), some (.int (Int32.ofInt v123)), some (.int (Int32.ofInt v136)), some (.int (Int32.ofInt (y_G v136))), none], [.int (Int32.ofInt (-2)), .int (Int32.ofInt (s_98 (g0 541) t day 0 0))], h138)) rfl ?_
      exact J140 (-2) (by unfold s_98; rw [eo141])
    · have hb141 := hv_bnd2 F.2.2.2 ht eo141
      refine yy_fin.steps (n := 3) (s' := (872, [some (.ref 1), some (.ref w), some (.ref 0), some (.int (Int32.ofInt fr)), some (.int (Int32.ofInt (t : Int))), some (.int (Int32.ofInt day)), some (.ref q141), some (zz_val k7), some (.int (Int32.ofInt p8)), some (.ref k9), some (.int (Int32.ofInt s)), some (zz_val q11), some (.int (Int32.ofInt p12)), some (.ref q13), some (.ref q14), some (.int (Int32.ofInt 0)), some (.ref q141), some (.int (Int32.ofInt n17_0)), some (.int (Int32.ofInt n18_0)), some (.int (Int32.ofInt v107)), some (.int (Int32.ofInt v115)), some (.int (Int32.ofInt v123)), some (.int (Int32.ofInt v136)), some (.int (Int32.ofInt (y_G v136))), none], [.int (Int32.ofInt (y_G v136)), .int (Int32.ofInt v136), .int (Int32.ofInt (s_98 (g0 541) t day 0 0))], h138)) rfl ?_
      refine yy_fin.dv rfl (fun z => by have z := (yi_eq (a := y_G v136) (b := 0) (by omega) (by omega)).mp z; omega) ?_
      rw [yi_div (a := v136) (b := y_G v136) (by omega) (by omega)]
      exact J140 (v136 / (y_G v136)) (by unfold s_98; rw [eo141]; show v136 / y_G v136 = _; rw [ev136, eo141]; show (u141 + l141 - u141) / y_G (u141 + l141 - u141) = l141 / y_G l141; rw [show u141 + l141 - u141 = l141 by omega])
  intro v140 ev140
  refine yy_fin.ic rfl (fun cz => absurd (congrArg Int32.ofInt ev140.symm) (y_cne cz)) (fun _ => ?_)
  refine yy_fin.steps (n := 5) (s' := (884, [some (.ref 1), some (.ref w), some (.ref 0), some (.int (Int32.ofInt fr)), some (.int (Int32.ofInt (t : Int))), some (.int (Int32.ofInt day)), some (zz_val k6), some (zz_val k7), some (.int (Int32.ofInt p8)), some (.ref k9), some (.int (Int32.ofInt s)), some (zz_val q11), some (.int (Int32.ofInt p12)), some (.ref q13), some (.ref q14), some (.int (Int32.ofInt 0)), some (zz_val k6), some (.int (Int32.ofInt n17_0)), some (.int (Int32.ofInt n18_0)), some (.int (Int32.ofInt v107)), some (.int (Int32.ofInt v115)), some (.int (Int32.ofInt v123)), some (.int (Int32.ofInt v136)), some (.int (Int32.ofInt (y_G v136))), none], [.int (Int32.ofInt 1), .int (Int32.ofInt 0), .int (Int32.ofInt day), .int (Int32.ofInt (t : Int)), .ref 1], h138)) rfl ?_
  obtain ⟨g142, r142⟩ := qi_98 F C ht hd (f := 0) (Or.inl rfl) (i := 1) (Or.inr rfl)
  obtain ⟨fs142, oo142⟩ := C.o
  refine yy_fin.cv (as := [.int (Int32.ofInt (t : Int)), .int (Int32.ofInt day), .int (Int32.ofInt 0), .int (Int32.ofInt 1)]) rfl rfl rfl oo142 (Nat.le_of_ble_eq_true rfl) (Nat.le_of_ble_eq_true rfl) r142 ?_
  rintro v h142 ⟨rfl, C, x142⟩
  replace H6 := H6.k x142
  replace H7 := H7.k x142
  replace Y := Y.tr x142 (fun _ _ e => e)
  replace hY := Y.1
  suffices K143 : yy_fin X 279 (889, [some (.ref 1), some (.ref w), some (.ref 0), some (.int (Int32.ofInt fr)), some (.int (Int32.ofInt (t : Int))), some (.int (Int32.ofInt day)), some (zz_val k6), some (zz_val k7), some (.int (Int32.ofInt p8)), some (.ref k9), some (.int (Int32.ofInt s)), some (zz_val q11), some (.int (Int32.ofInt p12)), some (.ref q13), some (.ref q14), some (.int (Int32.ofInt 0)), some (zz_val k6), some (.int (Int32.ofInt n17_0)), some (.int (Int32.ofInt n18_0)), some (.int (Int32.ofInt v107)), some (.int (Int32.ofInt v115)), some (.int (Int32.ofInt v123)), some (.int (Int32.ofInt v136)), some (.int (Int32.ofInt (y_G v136))), none], [zz_val k6, .int (Int32.ofInt (s_98 (g0 541) t day 0 1))], h142) φ by cases k6 <;> exact yy_fin.steps (n := 1) rfl K143
  suffices J144 : ∀ v144 : Int, v144 = s_98 (g0 541) t day 0 1 → yy_fin X 279 (902, [some (.ref 1), some (.ref w), some (.ref 0), some (.int (Int32.ofInt fr)), some (.int (Int32.ofInt (t : Int))), some (.int (Int32.ofInt day)), some (zz_val k6), some (zz_val k7), some (.int (Int32.ofInt p8)), some (.ref k9), some (.int (Int32.ofInt s)), some (zz_val q11), some (.int (Int32.ofInt p12)), some (.ref q13), some (.ref q14), some (.int (Int32.ofInt 0)), some (zz_val k6), some (.int (Int32.ofInt n17_0)), some (.int (Int32.ofInt n18_0)), some (.int (Int32.ofInt v107)), some (.int (Int32.ofInt v115)), some (.int (Int32.ofInt v123)), some (.int (Int32.ofInt v136)), some (.int (Int32.ofInt (y_G v136))), none], [.int (Int32.ofInt v144), .int (Int32.ofInt (s_98 (g0 541) t day 0 1))], h142) φ by
    rcases H6 with ⟨rfl, eo145⟩ | ⟨q145, u145, l145, rfl, eo145, R145⟩
    · refine yy_fin.steps (n := 3) (s' := (902, [some (.ref 1), some (.ref w), some (.ref 0), some (.int (Int32.ofInt fr)), some (.int (Int32.ofInt (t : Int))), some (.int (Int32.ofInt day)), some (.null), some (zz_val k7), some (.int (Int32.ofInt p8)), some (.ref k9), some (.int (Int32.ofInt s)), some (zz_val q11), some (.int (Int32.ofInt p12)), some (.ref q13), some (.ref q14), some (.int (Int32.ofInt 0)), some (.null), some (.int (Int32.ofInt n17_0)), some (.int (Int32.ofInt n18_0)), some (.int (Int32.ofInt v107)), some (.int (Int32.ofInt v115)), some (.int (Int32.ofInt v123)), some (.int (Int32.ofInt v136)), some (.int (Int32.ofInt (y_G v136))), none], [.int (Int32.ofInt (-2)), .int (Int32.ofInt (s_98 (g0 541) t day 0 1))], h142)) rfl ?_
      exact J144 (-2) (by unfold s_98; rw [eo145])
    · have hb145 := hv_bnd2 F.2.2.2 ht eo145
      refine yy_fin.steps (n := 3) (s' := (901, [some (.ref 1), some (.ref w), some (.ref 0), some (.int (Int32.ofInt fr)), some (.int (Int32.ofInt (t : Int))), some (.int (Int32.ofInt day)), some (.ref q145), some (zz_val k7), some (.int (Int32.ofInt p8)), some (.ref k9), some (.int (Int32.ofInt s)), some (zz_val q11), some (.int (Int32.ofInt p12)), some (.ref q13), some (.ref q14), some (.int (Int32.ofInt 0)), some (.ref q145), some (.int (Int32.ofInt n17_0)), some (.int (Int32.ofInt n18_0)), some (.int (Int32.ofInt v107)), some (.int (Int32.ofInt v115)), some (.int (Int32.ofInt v123)), some (.int (Int32.ofInt v136)), some (.int (Int32.ofInt (y_G v136))), none], [.int (Int32.ofInt (y_G v136)), .int (Int32.ofInt 12), .int (Int32.ofInt (s_98 (g0 541) t day 0 1))], h142)) rfl ?_
      refine yy_fin.dv rfl (fun z => by have z := (yi_eq (a := y_G v136) (b := 0) (by omega) (by omega)).mp z; omega) ?_
      rw [yi_div (a := 12) (b := y_G v136) (by omega) (by omega)]
      exact J144 (12 / (y_G v136)) (by unfold s_98; rw [eo145]; show 12 / y_G v136 = _; rw [ev136, eo145]; show 12 / y_G (u145 + l145 - u145) = 12 / y_G l145; rw [show u145 + l145 - u145 = l145 by omega])
  intro v144 ev144
  refine yy_fin.ic rfl (fun _ => ?_) (fun cz => absurd (y_ceq (congrArg Int32.ofInt ev144.symm)) cz)
  refine yy_fin.steps (n := 2) (s' := (511, [some (.ref 1), some (.ref w), some (.ref 0), some (.int (Int32.ofInt fr)), some (.int (Int32.ofInt (t : Int))), some (.int (Int32.ofInt day)), some (zz_val k6), some (zz_val k7), some (.int (Int32.ofInt p8)), some (.ref k9), some (.int (Int32.ofInt s)), some (zz_val q11), some (.int (Int32.ofInt p12)), some (.ref q13), some (.ref q14), some (.int ((Int32.ofInt 0) + (Int32.ofInt 1))), some (zz_val k6), some (.int (Int32.ofInt n17_0)), some (.int (Int32.ofInt n18_0)), some (.int (Int32.ofInt v107)), some (.int (Int32.ofInt v115)), some (.int (Int32.ofInt v123)), some (.int (Int32.ofInt v136)), some (.int (Int32.ofInt (y_G v136))), none], [], h142)) rfl ?_
  rw [show (Int32.ofInt 0) + (Int32.ofInt 1) = Int32.ofInt 1 from by decide]
  exact kk _ _ k6 _ _ _ _ _ _ _ C (Y.le (by omega) (by omega)) H6 H7
theorem yl_d41 (F : yCf own w lst g0) (ht : (t : Int) < (g0 541 0).toInt) (hd : 0 ≤ day ∧ day ≤ 35999) (hX : X.1 = some (L, xs)) (hL : L ≤ 100000) (hfr : 0 ≤ fr ∧ fr ≤ 900000) (hs : 0 ≤ s ∧ s ≤ 86399) (C : yCx own w lst g0 h g) (hB : h.1.1 + 200 < yy_B) {k6 k7 : Option Nat} (H6 : yHr h w k6 (hv_t (g0 541) t day 0)) (H7 : yHr h w k7 (hv_t (g0 541) t day 1)) {p8 p12 : Int} {k9 q13 q14 : Nat} {q11 : Option Nat} {q16 : Option Nat} {n17 n18 v19 v20 m21 z22 b23 : Int} (kk : ∀ h' g' (q16 : Option Nat) n17 n18 v19 v20 m21 z22 b23, yCx own w lst g0 h' g' → yx (yAk w) 20 60 h h' → yHr h' w k6 (hv_t (g0 541) t day 0) → yHr h' w k7 (hv_t (g0 541) t day 1) → yy_fin X 279 (511, [some (.ref 1), some (.ref w), some (.ref 0), some (.int (Int32.ofInt fr)), some (.int (Int32.ofInt (t : Int))), some (.int (Int32.ofInt day)), some (zz_val k6), some (zz_val k7), some (.int (Int32.ofInt p8)), some (.ref k9), some (.int (Int32.ofInt s)), some (zz_val q11), some (.int (Int32.ofInt p12)), some (.ref q13), some (.ref q14), some (.int (Int32.ofInt 2)), some (zz_val q16), some (.int (Int32.ofInt n17)), some (.int (Int32.ofInt n18)), some (.int (Int32.ofInt v19)), some (.int (Int32.ofInt v20)), some (.int (Int32.ofInt m21)), some (.int (Int32.ofInt z22)), some (.int (Int32.ofInt b23)), none], [], h') φ) : yy_fin X 279 (511, [some (.ref 1), some (.ref w), some (.ref 0), some (.int (Int32.ofInt fr)), some (.int (Int32.ofInt (t : Int))), some (.int (Int32.ofInt day)), some (zz_val k6), some (zz_val k7), some (.int (Int32.ofInt p8)), some (.ref k9), some (.int (Int32.ofInt s)), some (zz_val q11), some (.int (Int32.ofInt p12)), some (.ref q13), some (.ref q14), some (.int (Int32.ofInt 1)), some (zz_val q16), some (.int (Int32.ofInt n17)), some (.int (Int32.ofInt n18)), some (.int (Int32.ofInt v19)), some (.int (Int32.ofInt v20)), some (.int (Int32.ofInt m21)), some (.int (Int32.ofInt z22)), some (.int (Int32.ofInt b23)), none], [], h) φ := by
  have n4 := F.2.2.2.1
  have hq := F.2.2.2.2.1
  have Y : yx (yAk w) 0 0 h h := yx.rf
  have hY := Y.1
  have hg := C.2.1.2
  refine yy_fin.steps (n := 2) (s' := (514, [some (.ref 1), some (.ref w), some (.ref 0), some (.int (Int32.ofInt fr)), some (.int (Int32.ofInt (t : Int))), some (.int (Int32.ofInt day)), some (zz_val k6), some (zz_val k7), some (.int (Int32.ofInt p8)), some (.ref k9), some (.int (Int32.ofInt s)), some (zz_val q11), some (.int (Int32.ofInt p12)), some (.ref q13), some (.ref q14), some (.int (Int32.ofInt 1)), some (zz_val q16), some (.int (Int32.ofInt n17)), some (.int (Int32.ofInt n18)), some (.int (Int32.ofInt v19)), some (.int (Int32.ofInt v20)), some (.int (Int32.ofInt m21)), some (.int (Int32.ofInt z22)), some (.int (Int32.ofInt b23)), none], [.int (Int32.ofInt 2), .int (Int32.ofInt 1)], h)) rfl ?_
  refine yy_fin.ic rfl (fun cK => absurd cK (by decide)) (fun cK => ?_)
  refine yy_fin.steps (n := 1) (s' := (519, [some (.ref 1), some (.ref w), some (.ref 0), some (.int (Int32.ofInt fr)), some (.int (Int32.ofInt (t : Int))), some (.int (Int32.ofInt day)), some (zz_val k6), some (zz_val k7), some (.int (Int32.ofInt p8)), some (.ref k9), some (.int (Int32.ofInt s)), some (zz_val q11), some (.int (Int32.ofInt p12)), some (.ref q13), some (.ref q14), some (.int (Int32.ofInt 1)), some (zz_val q16), some (.int (Int32.ofInt n17)), some (.int (Int32.ofInt n18)), some (.int (Int32.ofInt v19)), some (.int (Int32.ofInt v20)), some (.int (Int32.ofInt m21)), some (.int (Int32.ofInt z22)), some (.int (Int32.ofInt b23)), none], [.int (Int32.ofInt 1)], h)) rfl ?_
  refine yy_fin.if rfl (fun cK => ?_) (fun cK => absurd (by decide) cK)
  suffices K101 : yy_fin X 279 (529, [some (.ref 1), some (.ref w), some (.ref 0), some (.int (Int32.ofInt fr)), some (.int (Int32.ofInt (t : Int))), some (.int (Int32.ofInt day)), some (zz_val k6), some (zz_val k7), some (.int (Int32.ofInt p8)), some (.ref k9), some (.int (Int32.ofInt s)), some (zz_val q11), some (.int (Int32.ofInt p12)), some (.ref q13), some (.ref q14), some (.int (Int32.ofInt 1)), some (zz_val q16), some (.int (Int32.ofInt n17)), some (.int (Int32.ofInt n18)), some (.int (Int32.ofInt v19)), some (.int (Int32.ofInt v20)), some (.int (Int32.ofInt m21)), some (.int (Int32.ofInt z22)), some (.int (Int32.ofInt b23)), none], [zz_val k7], h) φ by cases k7 <;> exact yy_fin.steps (n := 1) rfl K101
  suffices K102 : yy_fin X 279 (531, [some (.ref 1), some (.ref w), some (.ref 0), some (.int (Int32.ofInt fr)), some (.int (Int32.ofInt (t : Int))), some (.int (Int32.ofInt day)), some (zz_val k6), some (zz_val k7), some (.int (Int32.ofInt p8)), some (.ref k9), some (.int (Int32.ofInt s)), some (zz_val q11), some (.int (Int32.ofInt p12)), some (.ref q13), some (.ref q14), some (.int (Int32.ofInt 1)), some (zz_val k7), some (.int (Int32.ofInt n17)), some (.int (Int32.ofInt n18)), some (.int (Int32.ofInt v19)), some (.int (Int32.ofInt v20)), some (.int (Int32.ofInt m21)), some (.int (Int32.ofInt z22)), some (.int (Int32.ofInt b23)), none], [], h) φ by cases k7 <;> exact yy_fin.steps (n := 1) rfl K102
  refine yy_fin.steps (n := 6) (s' := (538, [some (.ref 1), some (.ref w), some (.ref 0), some (.int (Int32.ofInt fr)), some (.int (Int32.ofInt (t : Int))), some (.int (Int32.ofInt day)), some (zz_val k6), some (zz_val k7), some (.int (Int32.ofInt p8)), some (.ref k9), some (.int (Int32.ofInt s)), some (zz_val q11), some (.int (Int32.ofInt p12)), some (.ref q13), some (.ref q14), some (.int (Int32.ofInt 1)), some (zz_val k7), some (.int (Int32.ofInt n17)), some (.int (Int32.ofInt n18)), some (.int (Int32.ofInt v19)), some (.int (Int32.ofInt v20)), some (.int (Int32.ofInt m21)), some (.int (Int32.ofInt z22)), some (.int (Int32.ofInt b23)), none], [.int (((Int32.ofInt fr) + (Int32.ofInt 1)) + (Int32.ofInt 1)), .ref 0], h)) rfl ?_
  rw [yi_add fr 1]
  rw [yi_add (fr + 1) 1]
  refine yy_fin.calls (as := [.ref 0, .int (Int32.ofInt ((fr + 1) + 1))]) rfl (by decide) rfl rfl (Nat.le_of_ble_eq_true rfl) (Nat.le_of_ble_eq_true rfl) (yl_pick hX hL (k := (fr + 1) + 1) (by omega)) ?_
  rintro v h9 ⟨y17, rfl, ay17, by17, e9⟩
  obtain rfl := e9.symm
  refine yy_fin.steps (n := 2) (s' := (544, [some (.ref 1), some (.ref w), some (.ref 0), some (.int (Int32.ofInt fr)), some (.int (Int32.ofInt (t : Int))), some (.int (Int32.ofInt day)), some (zz_val k6), some (zz_val k7), some (.int (Int32.ofInt p8)), some (.ref k9), some (.int (Int32.ofInt s)), some (zz_val q11), some (.int (Int32.ofInt p12)), some (.ref q13), some (.ref q14), some (.int (Int32.ofInt 1)), some (zz_val k7), some (.int (Int32.ofInt n17)), some (.int (Int32.ofInt n18)), some (.int (Int32.ofInt v19)), some (.int (Int32.ofInt v20)), some (.int (Int32.ofInt m21)), some (.int (Int32.ofInt z22)), some (.int (Int32.ofInt b23)), none], [.ref w, .int (Int32.ofInt 12), .int (Int32.ofInt y17)], h)) rfl ?_
  obtain ⟨o103, p103, b103, t103, oP103, eP103⟩ := C.wp
  refine yy_fin.fi rfl oP103 rfl eP103 ?_
  refine yy_fin.steps (n := 1) (s' := (548, [some (.ref 1), some (.ref w), some (.ref 0), some (.int (Int32.ofInt fr)), some (.int (Int32.ofInt (t : Int))), some (.int (Int32.ofInt day)), some (zz_val k6), some (zz_val k7), some (.int (Int32.ofInt p8)), some (.ref k9), some (.int (Int32.ofInt s)), some (zz_val q11), some (.int (Int32.ofInt p12)), some (.ref q13), some (.ref q14), some (.int (Int32.ofInt 1)), some (zz_val k7), some (.int (Int32.ofInt n17)), some (.int (Int32.ofInt n18)), some (.int (Int32.ofInt v19)), some (.int (Int32.ofInt v20)), some (.int (Int32.ofInt m21)), some (.int (Int32.ofInt z22)), some (.int (Int32.ofInt b23)), none], [.int ((Int32.ofInt 12) * (Int32.ofInt ((g0 541 1).toInt))), .int (Int32.ofInt y17)], h)) rfl ?_
  rw [yi_mul 12 ((g0 541 1).toInt)]
  refine yy_fin.rm rfl (fun z => by have z := (yi_eq (a := 12 * (g0 541 1).toInt) (b := 0) (by omega) (by omega)).mp z; omega) ?_
  rw [yi_rem (a := y17) (b := 12 * ((g0 541 1).toInt)) (by omega) (by omega)]
  have mn17_1 := Int.emod_nonneg y17 (show 12 * (g0 541 1).toInt ≠ 0 by omega)
  have nn17_1 := Int.emod_lt_of_pos y17 (show 0 < 12 * (g0 541 1).toInt by omega)
  obtain ⟨n17_1, en17_1⟩ : ∃ z, z = y17 % (12 * (g0 541 1).toInt) := ⟨_, rfl⟩
  rw [← en17_1] at mn17_1 nn17_1 ⊢
  suffices K104 : yy_fin X 279 (551, [some (.ref 1), some (.ref w), some (.ref 0), some (.int (Int32.ofInt fr)), some (.int (Int32.ofInt (t : Int))), some (.int (Int32.ofInt day)), some (zz_val k6), some (zz_val k7), some (.int (Int32.ofInt p8)), some (.ref k9), some (.int (Int32.ofInt s)), some (zz_val q11), some (.int (Int32.ofInt p12)), some (.ref q13), some (.ref q14), some (.int (Int32.ofInt 1)), some (zz_val k7), some (.int (Int32.ofInt n17_1)), some (.int (Int32.ofInt n18)), some (.int (Int32.ofInt v19)), some (.int (Int32.ofInt v20)), some (.int (Int32.ofInt m21)), some (.int (Int32.ofInt z22)), some (.int (Int32.ofInt b23)), none], [], h) φ by cases k7 <;> exact yy_fin.steps (n := 1) rfl K104
  refine yy_fin.steps (n := 6) (s' := (558, [some (.ref 1), some (.ref w), some (.ref 0), some (.int (Int32.ofInt fr)), some (.int (Int32.ofInt (t : Int))), some (.int (Int32.ofInt day)), some (zz_val k6), some (zz_val k7), some (.int (Int32.ofInt p8)), some (.ref k9), some (.int (Int32.ofInt s)), some (zz_val q11), some (.int (Int32.ofInt p12)), some (.ref q13), some (.ref q14), some (.int (Int32.ofInt 1)), some (zz_val k7), some (.int (Int32.ofInt n17_1)), some (.int (Int32.ofInt n18)), some (.int (Int32.ofInt v19)), some (.int (Int32.ofInt v20)), some (.int (Int32.ofInt m21)), some (.int (Int32.ofInt z22)), some (.int (Int32.ofInt b23)), none], [.int (((Int32.ofInt fr) + (Int32.ofInt 3)) + (Int32.ofInt 1)), .ref 0], h)) rfl ?_
  rw [yi_add fr 3]
  rw [yi_add (fr + 3) 1]
  refine yy_fin.calls (as := [.ref 0, .int (Int32.ofInt ((fr + 3) + 1))]) rfl (by decide) rfl rfl (Nat.le_of_ble_eq_true rfl) (Nat.le_of_ble_eq_true rfl) (yl_pick hX hL (k := (fr + 3) + 1) (by omega)) ?_
  rintro v h9 ⟨y18, rfl, ay18, by18, e9⟩
  obtain rfl := e9.symm
  refine yy_fin.steps (n := 2) (s' := (564, [some (.ref 1), some (.ref w), some (.ref 0), some (.int (Int32.ofInt fr)), some (.int (Int32.ofInt (t : Int))), some (.int (Int32.ofInt day)), some (zz_val k6), some (zz_val k7), some (.int (Int32.ofInt p8)), some (.ref k9), some (.int (Int32.ofInt s)), some (zz_val q11), some (.int (Int32.ofInt p12)), some (.ref q13), some (.ref q14), some (.int (Int32.ofInt 1)), some (zz_val k7), some (.int (Int32.ofInt n17_1)), some (.int (Int32.ofInt n18)), some (.int (Int32.ofInt v19)), some (.int (Int32.ofInt v20)), some (.int (Int32.ofInt m21)), some (.int (Int32.ofInt z22)), some (.int (Int32.ofInt b23)), none], [.ref w, .int (Int32.ofInt 12), .int (Int32.ofInt y18)], h)) rfl ?_
  obtain ⟨o105, p105, b105, t105, oP105, eP105⟩ := C.wp
  refine yy_fin.fi rfl oP105 rfl eP105 ?_
  refine yy_fin.steps (n := 1) (s' := (568, [some (.ref 1), some (.ref w), some (.ref 0), some (.int (Int32.ofInt fr)), some (.int (Int32.ofInt (t : Int))), some (.int (Int32.ofInt day)), some (zz_val k6), some (zz_val k7), some (.int (Int32.ofInt p8)), some (.ref k9), some (.int (Int32.ofInt s)), some (zz_val q11), some (.int (Int32.ofInt p12)), some (.ref q13), some (.ref q14), some (.int (Int32.ofInt 1)), some (zz_val k7), some (.int (Int32.ofInt n17_1)), some (.int (Int32.ofInt n18)), some (.int (Int32.ofInt v19)), some (.int (Int32.ofInt v20)), some (.int (Int32.ofInt m21)), some (.int (Int32.ofInt z22)), some (.int (Int32.ofInt b23)), none], [.int ((Int32.ofInt 12) * (Int32.ofInt ((g0 541 1).toInt))), .int (Int32.ofInt y18)], h)) rfl ?_
  rw [yi_mul 12 ((g0 541 1).toInt)]
  refine yy_fin.rm rfl (fun z => by have z := (yi_eq (a := 12 * (g0 541 1).toInt) (b := 0) (by omega) (by omega)).mp z; omega) ?_
  rw [yi_rem (a := y18) (b := 12 * ((g0 541 1).toInt)) (by omega) (by omega)]
  have mn18_1 := Int.emod_nonneg y18 (show 12 * (g0 541 1).toInt ≠ 0 by omega)
  have nn18_1 := Int.emod_lt_of_pos y18 (show 0 < 12 * (g0 541 1).toInt by omega)
  obtain ⟨n18_1, en18_1⟩ : ∃ z, z = y18 % (12 * (g0 541 1).toInt) := ⟨_, rfl⟩
  rw [← en18_1] at mn18_1 nn18_1 ⊢
  refine yy_fin.steps (n := 1) (s' := (571, [some (.ref 1), some (.ref w), some (.ref 0), some (.int (Int32.ofInt fr)), some (.int (Int32.ofInt (t : Int))), some (.int (Int32.ofInt day)), some (zz_val k6), some (zz_val k7), some (.int (Int32.ofInt p8)), some (.ref k9), some (.int (Int32.ofInt s)), some (zz_val q11), some (.int (Int32.ofInt p12)), some (.ref q13), some (.ref q14), some (.int (Int32.ofInt 1)), some (zz_val k7), some (.int (Int32.ofInt n17_1)), some (.int (Int32.ofInt n18_1)), some (.int (Int32.ofInt v19)), some (.int (Int32.ofInt v20)), some (.int (Int32.ofInt m21)), some (.int (Int32.ofInt z22)), some (.int (Int32.ofInt b23)), none], [], h)) rfl ?_
  suffices K106 : yy_fin X 279 (573, [some (.ref 1), some (.ref w), some (.ref 0), some (.int (Int32.ofInt fr)), some (.int (Int32.ofInt (t : Int))), some (.int (Int32.ofInt day)), some (zz_val k6), some (zz_val k7), some (.int (Int32.ofInt p8)), some (.ref k9), some (.int (Int32.ofInt s)), some (zz_val q11), some (.int (Int32.ofInt p12)), some (.ref q13), some (.ref q14), some (.int (Int32.ofInt 1)), some (zz_val k7), some (.int (Int32.ofInt n17_1)), some (.int (Int32.ofInt n18_1)), some (.int (Int32.ofInt v19)), some (.int (Int32.ofInt v20)), some (.int (Int32.ofInt m21)), some (.int (Int32.ofInt z22)), some (.int (Int32.ofInt b23)), none], [zz_val k7], h) φ by cases k7 <;> exact yy_fin.steps (n := 1) rfl K106
  suffices J107 : ∀ v107 : Int, v107 = s_90 (g0 541) t day 1 n17_1 → yy_fin X 279 (604, [some (.ref 1), some (.ref w), some (.ref 0), some (.int (Int32.ofInt fr)), some (.int (Int32.ofInt (t : Int))), some (.int (Int32.ofInt day)), some (zz_val k6), some (zz_val k7), some (.int (Int32.ofInt p8)), some (.ref k9), some (.int (Int32.ofInt s)), some (zz_val q11), some (.int (Int32.ofInt p12)), some (.ref q13), some (.ref q14), some (.int (Int32.ofInt 1)), some (zz_val k7), some (.int (Int32.ofInt n17_1)), some (.int (Int32.ofInt n18_1)), some (.int (Int32.ofInt v19)), some (.int (Int32.ofInt v20)), some (.int (Int32.ofInt m21)), some (.int (Int32.ofInt z22)), some (.int (Int32.ofInt b23)), none], [.int (Int32.ofInt v107)], h) φ by
    rcases H7 with ⟨rfl, eo108⟩ | ⟨q108, u108, l108, rfl, eo108, R108⟩
    · refine yy_fin.steps (n := 3) (s' := (604, [some (.ref 1), some (.ref w), some (.ref 0), some (.int (Int32.ofInt fr)), some (.int (Int32.ofInt (t : Int))), some (.int (Int32.ofInt day)), some (zz_val k6), some (.null), some (.int (Int32.ofInt p8)), some (.ref k9), some (.int (Int32.ofInt s)), some (zz_val q11), some (.int (Int32.ofInt p12)), some (.ref q13), some (.ref q14), some (.int (Int32.ofInt 1)), some (.null), some (.int (Int32.ofInt n17_1)), some (.int (Int32.ofInt n18_1)), some (.int (Int32.ofInt v19)), some (.int (Int32.ofInt v20)), some (.int (Int32.ofInt m21)), some (.int (Int32.ofInt z22)), some (.int (Int32.ofInt b23)), none], [.int (Int32.ofInt (-2))], h)) rfl ?_
      exact J107 (-2) (by show _ = s_b _ _ _; rw [eo108]; rfl)
    · have hb108 := hv_bnd2 F.2.2.2 ht eo108
      refine yy_fin.steps (n := 4) (s' := (581, [some (.ref 1), some (.ref w), some (.ref 0), some (.int (Int32.ofInt fr)), some (.int (Int32.ofInt (t : Int))), some (.int (Int32.ofInt day)), some (zz_val k6), some (.ref q108), some (.int (Int32.ofInt p8)), some (.ref k9), some (.int (Int32.ofInt s)), some (zz_val q11), some (.int (Int32.ofInt p12)), some (.ref q13), some (.ref q14), some (.int (Int32.ofInt 1)), some (.ref q108), some (.int (Int32.ofInt n17_1)), some (.int (Int32.ofInt n18_1)), some (.int (Int32.ofInt v19)), some (.int (Int32.ofInt v20)), some (.int (Int32.ofInt m21)), some (.int (Int32.ofInt z22)), some (.int (Int32.ofInt b23)), none], [.int (Int32.ofInt n17_1), .ref q108, .ref w], h)) rfl ?_
      have hk109 := yk_b (q := (g0 541 1).toInt) (n := n17_1) (l := l108) (by omega) (by omega) (by omega)
      obtain ⟨fw110, oW110⟩ := C.ow
      refine yy_fin.cv (as := [.ref q108, .int (Int32.ofInt n17_1)]) rfl rfl rfl oW110 (Nat.le_of_ble_eq_true rfl) (Nat.le_of_ble_eq_true rfl) (yc_back F C R108 (n := n17_1) (by omega) (by omega) (by omega)) ?_
      rintro v h9 ⟨rfl, e9⟩
      obtain rfl := e9.symm
      refine yy_fin.steps (n := 2) (s' := (587, [some (.ref 1), some (.ref w), some (.ref 0), some (.int (Int32.ofInt fr)), some (.int (Int32.ofInt (t : Int))), some (.int (Int32.ofInt day)), some (zz_val k6), some (.ref q108), some (.int (Int32.ofInt p8)), some (.ref k9), some (.int (Int32.ofInt s)), some (zz_val q11), some (.int (Int32.ofInt p12)), some (.ref q13), some (.ref q14), some (.int (Int32.ofInt 1)), some (.ref q108), some (.int (Int32.ofInt n17_1)), some (.int (Int32.ofInt n18_1)), some (.int (Int32.ofInt v19)), some (.int (Int32.ofInt v20)), some (.int (Int32.ofInt m21)), some (.int (Int32.ofInt z22)), some (.int (Int32.ofInt b23)), none], [.int (Int32.ofInt 1), .ref q108, .int (Int32.ofInt (u108 + yk (g0 541 1).toInt n17_1 l108))], h)) rfl ?_
      refine yy_fin.lp (j := 1) rfl R108.2 rfl (by decide) rfl ?_
      refine yy_fin.ic rfl (fun c111 => ?_) (fun c111 => ?_)
      · have c111 := (yi_c_ne (a := u108 + yk (g0 541 1).toInt n17_1 l108) (b := u108 + l108) (by omega) (by omega)).mp c111
        refine yy_fin.steps (n := 3) (s' := (601, [some (.ref 1), some (.ref w), some (.ref 0), some (.int (Int32.ofInt fr)), some (.int (Int32.ofInt (t : Int))), some (.int (Int32.ofInt day)), some (zz_val k6), some (.ref q108), some (.int (Int32.ofInt p8)), some (.ref k9), some (.int (Int32.ofInt s)), some (zz_val q11), some (.int (Int32.ofInt p12)), some (.ref q13), some (.ref q14), some (.int (Int32.ofInt 1)), some (.ref q108), some (.int (Int32.ofInt n17_1)), some (.int (Int32.ofInt n18_1)), some (.int (Int32.ofInt v19)), some (.int (Int32.ofInt v20)), some (.int (Int32.ofInt m21)), some (.int (Int32.ofInt z22)), some (.int (Int32.ofInt b23)), none], [.int (Int32.ofInt n17_1), .ref q108, .ref w], h)) rfl ?_
        have hk112 := yk_b (q := (g0 541 1).toInt) (n := n17_1) (l := l108) (by omega) (by omega) (by omega)
        obtain ⟨fw113, oW113⟩ := C.ow
        refine yy_fin.cv (as := [.ref q108, .int (Int32.ofInt n17_1)]) rfl rfl rfl oW113 (Nat.le_of_ble_eq_true rfl) (Nat.le_of_ble_eq_true rfl) (yc_back F C R108 (n := n17_1) (by omega) (by omega) (by omega)) ?_
        rintro v h9 ⟨rfl, e9⟩
        obtain rfl := e9.symm
        exact J107 (u108 + yk (g0 541 1).toInt n17_1 l108) (by show _ = s_b _ _ _; rw [eo108]; exact (if_neg (by omega)).symm)
      · have c111 := mt (yi_c_ne (a := u108 + yk (g0 541 1).toInt n17_1 l108) (b := u108 + l108) (by omega) (by omega)).mpr c111
        refine yy_fin.steps (n := 2) (s' := (604, [some (.ref 1), some (.ref w), some (.ref 0), some (.int (Int32.ofInt fr)), some (.int (Int32.ofInt (t : Int))), some (.int (Int32.ofInt day)), some (zz_val k6), some (.ref q108), some (.int (Int32.ofInt p8)), some (.ref k9), some (.int (Int32.ofInt s)), some (zz_val q11), some (.int (Int32.ofInt p12)), some (.ref q13), some (.ref q14), some (.int (Int32.ofInt 1)), some (.ref q108), some (.int (Int32.ofInt n17_1)), some (.int (Int32.ofInt n18_1)), some (.int (Int32.ofInt v19)), some (.int (Int32.ofInt v20)), some (.int (Int32.ofInt m21)), some (.int (Int32.ofInt z22)), some (.int (Int32.ofInt b23)), none], [.int (Int32.ofInt (-2))], h)) rfl ?_
        exact J107 (-2) (by show _ = s_b _ _ _; rw [eo108]; exact (if_pos (by omega)).symm)
  intro v107 ev107
  have hb107 := s_90_b (day := day) (f := 1) (n := n17_1) F.2.2.2 ht (by omega)
  rw [← ev107] at hb107
  refine yy_fin.steps (n := 1) (s' := (606, [some (.ref 1), some (.ref w), some (.ref 0), some (.int (Int32.ofInt fr)), some (.int (Int32.ofInt (t : Int))), some (.int (Int32.ofInt day)), some (zz_val k6), some (zz_val k7), some (.int (Int32.ofInt p8)), some (.ref k9), some (.int (Int32.ofInt s)), some (zz_val q11), some (.int (Int32.ofInt p12)), some (.ref q13), some (.ref q14), some (.int (Int32.ofInt 1)), some (zz_val k7), some (.int (Int32.ofInt n17_1)), some (.int (Int32.ofInt n18_1)), some (.int (Int32.ofInt v107)), some (.int (Int32.ofInt v20)), some (.int (Int32.ofInt m21)), some (.int (Int32.ofInt z22)), some (.int (Int32.ofInt b23)), none], [], h)) rfl ?_
  suffices K114 : yy_fin X 279 (608, [some (.ref 1), some (.ref w), some (.ref 0), some (.int (Int32.ofInt fr)), some (.int (Int32.ofInt (t : Int))), some (.int (Int32.ofInt day)), some (zz_val k6), some (zz_val k7), some (.int (Int32.ofInt p8)), some (.ref k9), some (.int (Int32.ofInt s)), some (zz_val q11), some (.int (Int32.ofInt p12)), some (.ref q13), some (.ref q14), some (.int (Int32.ofInt 1)), some (zz_val k7), some (.int (Int32.ofInt n17_1)), some (.int (Int32.ofInt n18_1)), some (.int (Int32.ofInt v107)), some (.int (Int32.ofInt v20)), some (.int (Int32.ofInt m21)), some (.int (Int32.ofInt z22)), some (.int (Int32.ofInt b23)), none], [zz_val k7], h) φ by cases k7 <;> exact yy_fin.steps (n := 1) rfl K114
  suffices J115 : ∀ v115 : Int, v115 = s_90 (g0 541) t day 1 n18_1 → yy_fin X 279 (639, [some (.ref 1), some (.ref w), some (.ref 0), some (.int (Int32.ofInt fr)), some (.int (Int32.ofInt (t : Int))), some (.int (Int32.ofInt day)), some (zz_val k6), some (zz_val k7), some (.int (Int32.ofInt p8)), some (.ref k9), some (.int (Int32.ofInt s)), some (zz_val q11), some (.int (Int32.ofInt p12)), some (.ref q13), some (.ref q14), some (.int (Int32.ofInt 1)), some (zz_val k7), some (.int (Int32.ofInt n17_1)), some (.int (Int32.ofInt n18_1)), some (.int (Int32.ofInt v107)), some (.int (Int32.ofInt v20)), some (.int (Int32.ofInt m21)), some (.int (Int32.ofInt z22)), some (.int (Int32.ofInt b23)), none], [.int (Int32.ofInt v115)], h) φ by
    rcases H7 with ⟨rfl, eo116⟩ | ⟨q116, u116, l116, rfl, eo116, R116⟩
    · refine yy_fin.steps (n := 3) (s' := (639, [some (.ref 1), some (.ref w), some (.ref 0), some (.int (Int32.ofInt fr)), some (.int (Int32.ofInt (t : Int))), some (.int (Int32.ofInt day)), some (zz_val k6), some (.null), some (.int (Int32.ofInt p8)), some (.ref k9), some (.int (Int32.ofInt s)), some (zz_val q11), some (.int (Int32.ofInt p12)), some (.ref q13), some (.ref q14), some (.int (Int32.ofInt 1)), some (.null), some (.int (Int32.ofInt n17_1)), some (.int (Int32.ofInt n18_1)), some (.int (Int32.ofInt v107)), some (.int (Int32.ofInt v20)), some (.int (Int32.ofInt m21)), some (.int (Int32.ofInt z22)), some (.int (Int32.ofInt b23)), none], [.int (Int32.ofInt (-2))], h)) rfl ?_
      exact J115 (-2) (by show _ = s_b _ _ _; rw [eo116]; rfl)
    · have hb116 := hv_bnd2 F.2.2.2 ht eo116
      refine yy_fin.steps (n := 4) (s' := (616, [some (.ref 1), some (.ref w), some (.ref 0), some (.int (Int32.ofInt fr)), some (.int (Int32.ofInt (t : Int))), some (.int (Int32.ofInt day)), some (zz_val k6), some (.ref q116), some (.int (Int32.ofInt p8)), some (.ref k9), some (.int (Int32.ofInt s)), some (zz_val q11), some (.int (Int32.ofInt p12)), some (.ref q13), some (.ref q14), some (.int (Int32.ofInt 1)), some (.ref q116), some (.int (Int32.ofInt n17_1)), some (.int (Int32.ofInt n18_1)), some (.int (Int32.ofInt v107)), some (.int (Int32.ofInt v20)), some (.int (Int32.ofInt m21)), some (.int (Int32.ofInt z22)), some (.int (Int32.ofInt b23)), none], [.int (Int32.ofInt n18_1), .ref q116, .ref w], h)) rfl ?_
      have hk117 := yk_b (q := (g0 541 1).toInt) (n := n18_1) (l := l116) (by omega) (by omega) (by omega)
      obtain ⟨fw118, oW118⟩ := C.ow
      refine yy_fin.cv (as := [.ref q116, .int (Int32.ofInt n18_1)]) rfl rfl rfl oW118 (Nat.le_of_ble_eq_true rfl) (Nat.le_of_ble_eq_true rfl) (yc_back F C R116 (n := n18_1) (by omega) (by omega) (by omega)) ?_
      rintro v h9 ⟨rfl, e9⟩
      obtain rfl := e9.symm
      refine yy_fin.steps (n := 2) (s' := (622, [some (.ref 1), some (.ref w), some (.ref 0), some (.int (Int32.ofInt fr)), some (.int (Int32.ofInt (t : Int))), some (.int (Int32.ofInt day)), some (zz_val k6), some (.ref q116), some (.int (Int32.ofInt p8)), some (.ref k9), some (.int (Int32.ofInt s)), some (zz_val q11), some (.int (Int32.ofInt p12)), some (.ref q13), some (.ref q14), some (.int (Int32.ofInt 1)), some (.ref q116), some (.int (Int32.ofInt n17_1)), some (.int (Int32.ofInt n18_1)), some (.int (Int32.ofInt v107)), some (.int (Int32.ofInt v20)), some (.int (Int32.ofInt m21)), some (.int (Int32.ofInt z22)), some (.int (Int32.ofInt b23)), none], [.int (Int32.ofInt 1), .ref q116, .int (Int32.ofInt (u116 + yk (g0 541 1).toInt n18_1 l116))], h)) rfl ?_
      refine yy_fin.lp (j := 1) rfl R116.2 rfl (by decide) rfl ?_
      refine yy_fin.ic rfl (fun c119 => ?_) (fun c119 => ?_)
      · have c119 := (yi_c_ne (a := u116 + yk (g0 541 1).toInt n18_1 l116) (b := u116 + l116) (by omega) (by omega)).mp c119
        refine yy_fin.steps (n := 3) (s' := (636, [some (.ref 1), some (.ref w), some (.ref 0), some (.int (Int32.ofInt fr)), some (.int (Int32.ofInt (t : Int))), some (.int (Int32.ofInt day)), some (zz_val k6), some (.ref q116), some (.int (Int32.ofInt p8)), some (.ref k9), some (.int (Int32.ofInt s)), some (zz_val q11), some (.int (Int32.ofInt p12)), some (.ref q13), some (.ref q14), some (.int (Int32.ofInt 1)), some (.ref q116), some (.int (Int32.ofInt n17_1)), some (.int (Int32.ofInt n18_1)), some (.int (Int32.ofInt v107)), some (.int (Int32.ofInt v20)), some (.int (Int32.ofInt m21)), some (.int (Int32.ofInt z22)), some (.int (Int32.ofInt b23)), none], [.int (Int32.ofInt n18_1), .ref q116, .ref w], h)) rfl ?_
        have hk120 := yk_b (q := (g0 541 1).toInt) (n := n18_1) (l := l116) (by omega) (by omega) (by omega)
        obtain ⟨fw121, oW121⟩ := C.ow
        refine yy_fin.cv (as := [.ref q116, .int (Int32.ofInt n18_1)]) rfl rfl rfl oW121 (Nat.le_of_ble_eq_true rfl) (Nat.le_of_ble_eq_true rfl) (yc_back F C R116 (n := n18_1) (by omega) (by omega) (by omega)) ?_
        rintro v h9 ⟨rfl, e9⟩
        obtain rfl := e9.symm
        exact J115 (u116 + yk (g0 541 1).toInt n18_1 l116) (by show _ = s_b _ _ _; rw [eo116]; exact (if_neg (by omega)).symm)
      · have c119 := mt (yi_c_ne (a := u116 + yk (g0 541 1).toInt n18_1 l116) (b := u116 + l116) (by omega) (by omega)).mpr c119
        refine yy_fin.steps (n := 2) (s' := (639, [some (.ref 1), some (.ref w), some (.ref 0), some (.int (Int32.ofInt fr)), some (.int (Int32.ofInt (t : Int))), some (.int (Int32.ofInt day)), some (zz_val k6), some (.ref q116), some (.int (Int32.ofInt p8)), some (.ref k9), some (.int (Int32.ofInt s)), some (zz_val q11), some (.int (Int32.ofInt p12)), some (.ref q13), some (.ref q14), some (.int (Int32.ofInt 1)), some (.ref q116), some (.int (Int32.ofInt n17_1)), some (.int (Int32.ofInt n18_1)), some (.int (Int32.ofInt v107)), some (.int (Int32.ofInt v20)), some (.int (Int32.ofInt m21)), some (.int (Int32.ofInt z22)), some (.int (Int32.ofInt b23)), none], [.int (Int32.ofInt (-2))], h)) rfl ?_
        exact J115 (-2) (by show _ = s_b _ _ _; rw [eo116]; exact (if_pos (by omega)).symm)
  intro v115 ev115
  have hb115 := s_90_b (day := day) (f := 1) (n := n18_1) F.2.2.2 ht (by omega)
  rw [← ev115] at hb115
  refine yy_fin.steps (n := 1) (s' := (641, [some (.ref 1), some (.ref w), some (.ref 0), some (.int (Int32.ofInt fr)), some (.int (Int32.ofInt (t : Int))), some (.int (Int32.ofInt day)), some (zz_val k6), some (zz_val k7), some (.int (Int32.ofInt p8)), some (.ref k9), some (.int (Int32.ofInt s)), some (zz_val q11), some (.int (Int32.ofInt p12)), some (.ref q13), some (.ref q14), some (.int (Int32.ofInt 1)), some (zz_val k7), some (.int (Int32.ofInt n17_1)), some (.int (Int32.ofInt n18_1)), some (.int (Int32.ofInt v107)), some (.int (Int32.ofInt v115)), some (.int (Int32.ofInt m21)), some (.int (Int32.ofInt z22)), some (.int (Int32.ofInt b23)), none], [], h)) rfl ?_
  suffices K122 : yy_fin X 279 (643, [some (.ref 1), some (.ref w), some (.ref 0), some (.int (Int32.ofInt fr)), some (.int (Int32.ofInt (t : Int))), some (.int (Int32.ofInt day)), some (zz_val k6), some (zz_val k7), some (.int (Int32.ofInt p8)), some (.ref k9), some (.int (Int32.ofInt s)), some (zz_val q11), some (.int (Int32.ofInt p12)), some (.ref q13), some (.ref q14), some (.int (Int32.ofInt 1)), some (zz_val k7), some (.int (Int32.ofInt n17_1)), some (.int (Int32.ofInt n18_1)), some (.int (Int32.ofInt v107)), some (.int (Int32.ofInt v115)), some (.int (Int32.ofInt m21)), some (.int (Int32.ofInt z22)), some (.int (Int32.ofInt b23)), none], [zz_val k7], h) φ by cases k7 <;> exact yy_fin.steps (n := 1) rfl K122
  suffices J123 : ∀ v123 : Int, v123 = y_el (hv_t (g0 541) t day 1) (-1000000) (fun u l => u + (u + l - u) / 2) → yy_fin X 279 (667, [some (.ref 1), some (.ref w), some (.ref 0), some (.int (Int32.ofInt fr)), some (.int (Int32.ofInt (t : Int))), some (.int (Int32.ofInt day)), some (zz_val k6), some (zz_val k7), some (.int (Int32.ofInt p8)), some (.ref k9), some (.int (Int32.ofInt s)), some (zz_val q11), some (.int (Int32.ofInt p12)), some (.ref q13), some (.ref q14), some (.int (Int32.ofInt 1)), some (zz_val k7), some (.int (Int32.ofInt n17_1)), some (.int (Int32.ofInt n18_1)), some (.int (Int32.ofInt v107)), some (.int (Int32.ofInt v115)), some (.int (Int32.ofInt m21)), some (.int (Int32.ofInt z22)), some (.int (Int32.ofInt b23)), none], [.int (Int32.ofInt v123)], h) φ by
    rcases H7 with ⟨rfl, eo124⟩ | ⟨q124, u124, l124, rfl, eo124, R124⟩
    · refine yy_fin.steps (n := 3) (s' := (667, [some (.ref 1), some (.ref w), some (.ref 0), some (.int (Int32.ofInt fr)), some (.int (Int32.ofInt (t : Int))), some (.int (Int32.ofInt day)), some (zz_val k6), some (.null), some (.int (Int32.ofInt p8)), some (.ref k9), some (.int (Int32.ofInt s)), some (zz_val q11), some (.int (Int32.ofInt p12)), some (.ref q13), some (.ref q14), some (.int (Int32.ofInt 1)), some (.null), some (.int (Int32.ofInt n17_1)), some (.int (Int32.ofInt n18_1)), some (.int (Int32.ofInt v107)), some (.int (Int32.ofInt v115)), some (.int (Int32.ofInt m21)), some (.int (Int32.ofInt z22)), some (.int (Int32.ofInt b23)), none], [.int (Int32.ofInt (-1000000))], h)) rfl ?_
      exact J123 (-1000000) (by rw [eo124]; rfl)
    · have hb124 := hv_bnd2 F.2.2.2 ht eo124
      refine yy_fin.steps (n := 3) (s' := (654, [some (.ref 1), some (.ref w), some (.ref 0), some (.int (Int32.ofInt fr)), some (.int (Int32.ofInt (t : Int))), some (.int (Int32.ofInt day)), some (zz_val k6), some (.ref q124), some (.int (Int32.ofInt p8)), some (.ref k9), some (.int (Int32.ofInt s)), some (zz_val q11), some (.int (Int32.ofInt p12)), some (.ref q13), some (.ref q14), some (.int (Int32.ofInt 1)), some (.ref q124), some (.int (Int32.ofInt n17_1)), some (.int (Int32.ofInt n18_1)), some (.int (Int32.ofInt v107)), some (.int (Int32.ofInt v115)), some (.int (Int32.ofInt m21)), some (.int (Int32.ofInt z22)), some (.int (Int32.ofInt b23)), none], [.int (Int32.ofInt 0), .ref q124], h)) rfl ?_
      refine yy_fin.lp (j := 0) rfl R124.2 rfl (by decide) rfl ?_
      refine yy_fin.steps (n := 2) (s' := (658, [some (.ref 1), some (.ref w), some (.ref 0), some (.int (Int32.ofInt fr)), some (.int (Int32.ofInt (t : Int))), some (.int (Int32.ofInt day)), some (zz_val k6), some (.ref q124), some (.int (Int32.ofInt p8)), some (.ref k9), some (.int (Int32.ofInt s)), some (zz_val q11), some (.int (Int32.ofInt p12)), some (.ref q13), some (.ref q14), some (.int (Int32.ofInt 1)), some (.ref q124), some (.int (Int32.ofInt n17_1)), some (.int (Int32.ofInt n18_1)), some (.int (Int32.ofInt v107)), some (.int (Int32.ofInt v115)), some (.int (Int32.ofInt m21)), some (.int (Int32.ofInt z22)), some (.int (Int32.ofInt b23)), none], [.int (Int32.ofInt 1), .ref q124, .int (Int32.ofInt u124)], h)) rfl ?_
      refine yy_fin.lp (j := 1) rfl R124.2 rfl (by decide) rfl ?_
      refine yy_fin.steps (n := 2) (s' := (662, [some (.ref 1), some (.ref w), some (.ref 0), some (.int (Int32.ofInt fr)), some (.int (Int32.ofInt (t : Int))), some (.int (Int32.ofInt day)), some (zz_val k6), some (.ref q124), some (.int (Int32.ofInt p8)), some (.ref k9), some (.int (Int32.ofInt s)), some (zz_val q11), some (.int (Int32.ofInt p12)), some (.ref q13), some (.ref q14), some (.int (Int32.ofInt 1)), some (.ref q124), some (.int (Int32.ofInt n17_1)), some (.int (Int32.ofInt n18_1)), some (.int (Int32.ofInt v107)), some (.int (Int32.ofInt v115)), some (.int (Int32.ofInt m21)), some (.int (Int32.ofInt z22)), some (.int (Int32.ofInt b23)), none], [.int (Int32.ofInt 0), .ref q124, .int (Int32.ofInt (u124 + l124)), .int (Int32.ofInt u124)], h)) rfl ?_
      refine yy_fin.lp (j := 0) rfl R124.2 rfl (by decide) rfl ?_
      refine yy_fin.steps (n := 2) (s' := (665, [some (.ref 1), some (.ref w), some (.ref 0), some (.int (Int32.ofInt fr)), some (.int (Int32.ofInt (t : Int))), some (.int (Int32.ofInt day)), some (zz_val k6), some (.ref q124), some (.int (Int32.ofInt p8)), some (.ref k9), some (.int (Int32.ofInt s)), some (zz_val q11), some (.int (Int32.ofInt p12)), some (.ref q13), some (.ref q14), some (.int (Int32.ofInt 1)), some (.ref q124), some (.int (Int32.ofInt n17_1)), some (.int (Int32.ofInt n18_1)), some (.int (Int32.ofInt v107)), some (.int (Int32.ofInt v115)), some (.int (Int32.ofInt m21)), some (.int (Int32.ofInt z22)), some (.int (Int32.ofInt b23)), none], [.int (Int32.ofInt 2), .int ((Int32.ofInt (u124 + l124)) - (Int32.ofInt u124)), .int (Int32.ofInt u124)], h)) rfl ?_
      rw [yi_sub (u124 + l124) u124]
      refine yy_fin.dv rfl (by decide) ?_
      rw [yi_div (a := (u124 + l124) - u124) (b := 2) (by omega) (by omega)]
      refine yy_fin.steps (n := 1) (s' := (667, [some (.ref 1), some (.ref w), some (.ref 0), some (.int (Int32.ofInt fr)), some (.int (Int32.ofInt (t : Int))), some (.int (Int32.ofInt day)), some (zz_val k6), some (.ref q124), some (.int (Int32.ofInt p8)), some (.ref k9), some (.int (Int32.ofInt s)), some (zz_val q11), some (.int (Int32.ofInt p12)), some (.ref q13), some (.ref q14), some (.int (Int32.ofInt 1)), some (.ref q124), some (.int (Int32.ofInt n17_1)), some (.int (Int32.ofInt n18_1)), some (.int (Int32.ofInt v107)), some (.int (Int32.ofInt v115)), some (.int (Int32.ofInt m21)), some (.int (Int32.ofInt z22)), some (.int (Int32.ofInt b23)), none], [.int ((Int32.ofInt u124) + (Int32.ofInt (((u124 + l124) - u124) / 2)))], h)) rfl ?_
      rw [yi_add u124 (((u124 + l124) - u124) / 2)]
      exact J123 (u124 + (((u124 + l124) - u124) / 2)) (by rw [eo124]; rfl)
  intro v123 ev123
  refine yy_fin.steps (n := 6) (s' := (678, [some (.ref 1), some (.ref w), some (.ref 0), some (.int (Int32.ofInt fr)), some (.int (Int32.ofInt (t : Int))), some (.int (Int32.ofInt day)), some (zz_val k6), some (zz_val k7), some (.int (Int32.ofInt p8)), some (.ref k9), some (.int (Int32.ofInt s)), some (zz_val q11), some (.int (Int32.ofInt p12)), some (.ref q13), some (.ref q14), some (.int (Int32.ofInt 1)), some (zz_val k7), some (.int (Int32.ofInt n17_1)), some (.int (Int32.ofInt n18_1)), some (.int (Int32.ofInt v107)), some (.int (Int32.ofInt v115)), some (.int (Int32.ofInt v123)), some (.int (Int32.ofInt z22)), some (.int (Int32.ofInt b23)), none], [.int (Int32.ofInt n17_1), .int (Int32.ofInt 1), .int (Int32.ofInt day), .int (Int32.ofInt (t : Int)), .ref 1], h)) rfl ?_
  obtain ⟨g125, r125⟩ := qi_90 F C ht hd (f := 1) (Or.inr rfl) (n := n17_1) (by omega)
  obtain ⟨fs125, oo125⟩ := C.o
  refine yy_fin.cv (as := [.int (Int32.ofInt (t : Int)), .int (Int32.ofInt day), .int (Int32.ofInt 1), .int (Int32.ofInt n17_1)]) rfl rfl rfl oo125 (Nat.le_of_ble_eq_true rfl) (Nat.le_of_ble_eq_true rfl) r125 ?_
  rintro v h125 ⟨rfl, C, x125⟩
  replace H6 := H6.k x125
  replace H7 := H7.k x125
  replace Y := Y.tr x125 (fun _ _ e => e)
  replace hY := Y.1
  refine yy_fin.steps (n := 1) (s' := (683, [some (.ref 1), some (.ref w), some (.ref 0), some (.int (Int32.ofInt fr)), some (.int (Int32.ofInt (t : Int))), some (.int (Int32.ofInt day)), some (zz_val k6), some (zz_val k7), some (.int (Int32.ofInt p8)), some (.ref k9), some (.int (Int32.ofInt s)), some (zz_val q11), some (.int (Int32.ofInt p12)), some (.ref q13), some (.ref q14), some (.int (Int32.ofInt 1)), some (zz_val k7), some (.int (Int32.ofInt n17_1)), some (.int (Int32.ofInt n18_1)), some (.int (Int32.ofInt v107)), some (.int (Int32.ofInt v115)), some (.int (Int32.ofInt v123)), some (.int (Int32.ofInt z22)), some (.int (Int32.ofInt b23)), none], [.int (Int32.ofInt v107), .int (Int32.ofInt (s_90 (g0 541) t day 1 n17_1))], h125)) rfl ?_
  refine yy_fin.ic rfl (fun cz => absurd (congrArg Int32.ofInt ev107.symm) (y_cne cz)) (fun _ => ?_)
  refine yy_fin.steps (n := 5) (s' := (695, [some (.ref 1), some (.ref w), some (.ref 0), some (.int (Int32.ofInt fr)), some (.int (Int32.ofInt (t : Int))), some (.int (Int32.ofInt day)), some (zz_val k6), some (zz_val k7), some (.int (Int32.ofInt p8)), some (.ref k9), some (.int (Int32.ofInt s)), some (zz_val q11), some (.int (Int32.ofInt p12)), some (.ref q13), some (.ref q14), some (.int (Int32.ofInt 1)), some (zz_val k7), some (.int (Int32.ofInt n17_1)), some (.int (Int32.ofInt n18_1)), some (.int (Int32.ofInt v107)), some (.int (Int32.ofInt v115)), some (.int (Int32.ofInt v123)), some (.int (Int32.ofInt z22)), some (.int (Int32.ofInt b23)), none], [.int (Int32.ofInt n18_1), .int (Int32.ofInt 1), .int (Int32.ofInt day), .int (Int32.ofInt (t : Int)), .ref 1], h125)) rfl ?_
  obtain ⟨g126, r126⟩ := qi_90 F C ht hd (f := 1) (Or.inr rfl) (n := n18_1) (by omega)
  obtain ⟨fs126, oo126⟩ := C.o
  refine yy_fin.cv (as := [.int (Int32.ofInt (t : Int)), .int (Int32.ofInt day), .int (Int32.ofInt 1), .int (Int32.ofInt n18_1)]) rfl rfl rfl oo126 (Nat.le_of_ble_eq_true rfl) (Nat.le_of_ble_eq_true rfl) r126 ?_
  rintro v h126 ⟨rfl, C, x126⟩
  replace H6 := H6.k x126
  replace H7 := H7.k x126
  replace Y := Y.tr x126 (fun _ _ e => e)
  replace hY := Y.1
  refine yy_fin.steps (n := 1) (s' := (700, [some (.ref 1), some (.ref w), some (.ref 0), some (.int (Int32.ofInt fr)), some (.int (Int32.ofInt (t : Int))), some (.int (Int32.ofInt day)), some (zz_val k6), some (zz_val k7), some (.int (Int32.ofInt p8)), some (.ref k9), some (.int (Int32.ofInt s)), some (zz_val q11), some (.int (Int32.ofInt p12)), some (.ref q13), some (.ref q14), some (.int (Int32.ofInt 1)), some (zz_val k7), some (.int (Int32.ofInt n17_1)), some (.int (Int32.ofInt n18_1)), some (.int (Int32.ofInt v107)), some (.int (Int32.ofInt v115)), some (.int (Int32.ofInt v123)), some (.int (Int32.ofInt z22)), some (.int (Int32.ofInt b23)), none], [.int (Int32.ofInt v115), .int (Int32.ofInt (s_90 (g0 541) t day 1 n18_1))], h126)) rfl ?_
  refine yy_fin.ic rfl (fun cz => absurd (congrArg Int32.ofInt ev115.symm) (y_cne cz)) (fun _ => ?_)
  refine yy_fin.steps (n := 6) (s' := (714, [some (.ref 1), some (.ref w), some (.ref 0), some (.int (Int32.ofInt fr)), some (.int (Int32.ofInt (t : Int))), some (.int (Int32.ofInt day)), some (zz_val k6), some (zz_val k7), some (.int (Int32.ofInt p8)), some (.ref k9), some (.int (Int32.ofInt s)), some (zz_val q11), some (.int (Int32.ofInt p12)), some (.ref q13), some (.ref q14), some (.int (Int32.ofInt 1)), some (zz_val k7), some (.int (Int32.ofInt n17_1)), some (.int (Int32.ofInt n18_1)), some (.int (Int32.ofInt v107)), some (.int (Int32.ofInt v115)), some (.int (Int32.ofInt v123)), some (.int (Int32.ofInt z22)), some (.int (Int32.ofInt b23)), none], [.int (Int32.ofInt n18_1), .int (Int32.ofInt n17_1), .int (Int32.ofInt 1), .int (Int32.ofInt day), .int (Int32.ofInt (t : Int)), .ref 1], h126)) rfl ?_
  obtain ⟨g127, r127⟩ := qi_97 F C ht hd (f := 1) (Or.inr rfl) (n := n17_1) (m := n18_1) (by omega) (by omega)
  obtain ⟨fs127, oo127⟩ := C.o
  refine yy_fin.cv (as := [.int (Int32.ofInt (t : Int)), .int (Int32.ofInt day), .int (Int32.ofInt 1), .int (Int32.ofInt n17_1), .int (Int32.ofInt n18_1)]) rfl rfl rfl oo127 (Nat.le_of_ble_eq_true rfl) (Nat.le_of_ble_eq_true rfl) r127 ?_
  rintro v h127 ⟨rfl, C, x127⟩
  replace H6 := H6.k x127
  replace H7 := H7.k x127
  replace Y := Y.tr x127 (fun _ _ e => e)
  replace hY := Y.1
  refine yy_fin.steps (n := 2) (s' := (721, [some (.ref 1), some (.ref w), some (.ref 0), some (.int (Int32.ofInt fr)), some (.int (Int32.ofInt (t : Int))), some (.int (Int32.ofInt day)), some (zz_val k6), some (zz_val k7), some (.int (Int32.ofInt p8)), some (.ref k9), some (.int (Int32.ofInt s)), some (zz_val q11), some (.int (Int32.ofInt p12)), some (.ref q13), some (.ref q14), some (.int (Int32.ofInt 1)), some (zz_val k7), some (.int (Int32.ofInt n17_1)), some (.int (Int32.ofInt n18_1)), some (.int (Int32.ofInt v107)), some (.int (Int32.ofInt v115)), some (.int (Int32.ofInt v123)), some (.int (Int32.ofInt z22)), some (.int (Int32.ofInt b23)), none], [.int (Int32.ofInt (-2)), .int (Int32.ofInt v107), .int (Int32.ofInt (s_26 (g0 541) t day 1 n17_1 n18_1))], h127)) rfl ?_
  suffices J9 : ∀ v9 : Int, v9 = s_26 (g0 541) t day 1 n17_1 n18_1 → yy_fin X 279 (741, [some (.ref 1), some (.ref w), some (.ref 0), some (.int (Int32.ofInt fr)), some (.int (Int32.ofInt (t : Int))), some (.int (Int32.ofInt day)), some (zz_val k6), some (zz_val k7), some (.int (Int32.ofInt p8)), some (.ref k9), some (.int (Int32.ofInt s)), some (zz_val q11), some (.int (Int32.ofInt p12)), some (.ref q13), some (.ref q14), some (.int (Int32.ofInt 1)), some (zz_val k7), some (.int (Int32.ofInt n17_1)), some (.int (Int32.ofInt n18_1)), some (.int (Int32.ofInt v107)), some (.int (Int32.ofInt v115)), some (.int (Int32.ofInt v123)), some (.int (Int32.ofInt z22)), some (.int (Int32.ofInt b23)), none], [.int (Int32.ofInt v9), .int (Int32.ofInt (s_26 (g0 541) t day 1 n17_1 n18_1))], h127) φ by
    refine yy_fin.ic rfl (fun c128 => ?_) (fun c128 => ?_)
    · have c128 := (yi_c_eq (a := v107) (b := -2) (by omega) (by omega)).mp c128
      refine yy_fin.steps (n := 2) (s' := (741, [some (.ref 1), some (.ref w), some (.ref 0), some (.int (Int32.ofInt fr)), some (.int (Int32.ofInt (t : Int))), some (.int (Int32.ofInt day)), some (zz_val k6), some (zz_val k7), some (.int (Int32.ofInt p8)), some (.ref k9), some (.int (Int32.ofInt s)), some (zz_val q11), some (.int (Int32.ofInt p12)), some (.ref q13), some (.ref q14), some (.int (Int32.ofInt 1)), some (zz_val k7), some (.int (Int32.ofInt n17_1)), some (.int (Int32.ofInt n18_1)), some (.int (Int32.ofInt v107)), some (.int (Int32.ofInt v115)), some (.int (Int32.ofInt v123)), some (.int (Int32.ofInt z22)), some (.int (Int32.ofInt b23)), none], [.int (Int32.ofInt (-1000000)), .int (Int32.ofInt (s_26 (g0 541) t day 1 n17_1 n18_1))], h127)) rfl ?_
      exact J9 (-1000000) (by unfold s_26; rw [← ev107, ← ev115]; rw [if_pos (by omega)])
    · have c128 := mt (yi_c_eq (a := v107) (b := -2) (by omega) (by omega)).mpr c128
      refine yy_fin.steps (n := 2) (s' := (728, [some (.ref 1), some (.ref w), some (.ref 0), some (.int (Int32.ofInt fr)), some (.int (Int32.ofInt (t : Int))), some (.int (Int32.ofInt day)), some (zz_val k6), some (zz_val k7), some (.int (Int32.ofInt p8)), some (.ref k9), some (.int (Int32.ofInt s)), some (zz_val q11), some (.int (Int32.ofInt p12)), some (.ref q13), some (.ref q14), some (.int (Int32.ofInt 1)), some (zz_val k7), some (.int (Int32.ofInt n17_1)), some (.int (Int32.ofInt n18_1)), some (.int (Int32.ofInt v107)), some (.int (Int32.ofInt v115)), some (.int (Int32.ofInt v123)), some (.int (Int32.ofInt z22)), some (.int (Int32.ofInt b23)), none], [.int (Int32.ofInt (-2)), .int (Int32.ofInt v115), .int (Int32.ofInt (s_26 (g0 541) t day 1 n17_1 n18_1))], h127)) rfl ?_
      refine yy_fin.ic rfl (fun c129 => ?_) (fun c129 => ?_)
      · have c129 := (yi_c_ne (a := v115) (b := -2) (by omega) (by omega)).mp c129
        refine yy_fin.steps (n := 3) (s' := (741, [some (.ref 1), some (.ref w), some (.ref 0), some (.int (Int32.ofInt fr)), some (.int (Int32.ofInt (t : Int))), some (.int (Int32.ofInt day)), some (zz_val k6), some (zz_val k7), some (.int (Int32.ofInt p8)), some (.ref k9), some (.int (Int32.ofInt s)), some (zz_val q11), some (.int (Int32.ofInt p12)), some (.ref q13), some (.ref q14), some (.int (Int32.ofInt 1)), some (zz_val k7), some (.int (Int32.ofInt n17_1)), some (.int (Int32.ofInt n18_1)), some (.int (Int32.ofInt v107)), some (.int (Int32.ofInt v115)), some (.int (Int32.ofInt v123)), some (.int (Int32.ofInt z22)), some (.int (Int32.ofInt b23)), none], [.int ((Int32.ofInt v115) - (Int32.ofInt v107)), .int (Int32.ofInt (s_26 (g0 541) t day 1 n17_1 n18_1))], h127)) rfl ?_
        rw [yi_sub v115 v107]
        exact J9 (v115 - v107) (by unfold s_26; rw [← ev107, ← ev115]; rw [if_neg (by omega), if_pos (by omega)])
      · have c129 := mt (yi_c_ne (a := v115) (b := -2) (by omega) (by omega)).mpr c129
        refine yy_fin.steps (n := 2) (s' := (741, [some (.ref 1), some (.ref w), some (.ref 0), some (.int (Int32.ofInt fr)), some (.int (Int32.ofInt (t : Int))), some (.int (Int32.ofInt day)), some (zz_val k6), some (zz_val k7), some (.int (Int32.ofInt p8)), some (.ref k9), some (.int (Int32.ofInt s)), some (zz_val q11), some (.int (Int32.ofInt p12)), some (.ref q13), some (.ref q14), some (.int (Int32.ofInt 1)), some (zz_val k7), some (.int (Int32.ofInt n17_1)), some (.int (Int32.ofInt n18_1)), some (.int (Int32.ofInt v107)), some (.int (Int32.ofInt v115)), some (.int (Int32.ofInt v123)), some (.int (Int32.ofInt z22)), some (.int (Int32.ofInt b23)), none], [.int (Int32.ofInt (-1000000)), .int (Int32.ofInt (s_26 (g0 541) t day 1 n17_1 n18_1))], h127)) rfl ?_
        exact J9 (-1000000) (by unfold s_26; rw [← ev107, ← ev115]; rw [if_neg (by omega), if_neg (by omega)])
  intro v9 ev9
  refine yy_fin.ic rfl (fun cz => absurd (congrArg Int32.ofInt ev9.symm) (y_cne cz)) (fun _ => ?_)
  refine yy_fin.steps (n := 5) (s' := (752, [some (.ref 1), some (.ref w), some (.ref 0), some (.int (Int32.ofInt fr)), some (.int (Int32.ofInt (t : Int))), some (.int (Int32.ofInt day)), some (zz_val k6), some (zz_val k7), some (.int (Int32.ofInt p8)), some (.ref k9), some (.int (Int32.ofInt s)), some (zz_val q11), some (.int (Int32.ofInt p12)), some (.ref q13), some (.ref q14), some (.int (Int32.ofInt 1)), some (zz_val k7), some (.int (Int32.ofInt n17_1)), some (.int (Int32.ofInt n18_1)), some (.int (Int32.ofInt v107)), some (.int (Int32.ofInt v115)), some (.int (Int32.ofInt v123)), some (.int (Int32.ofInt z22)), some (.int (Int32.ofInt b23)), none], [.int (Int32.ofInt 0), .int (Int32.ofInt 1), .int (Int32.ofInt day), .int (Int32.ofInt (t : Int)), .ref 1], h127)) rfl ?_
  obtain ⟨g130, r130⟩ := qi_96 F C ht hd (f := 1) (Or.inr rfl) (k := 0) (Or.inl rfl)
  obtain ⟨fs130, oo130⟩ := C.o
  refine yy_fin.cv (as := [.int (Int32.ofInt (t : Int)), .int (Int32.ofInt day), .int (Int32.ofInt 1), .int (Int32.ofInt 0)]) rfl rfl rfl oo130 (Nat.le_of_ble_eq_true rfl) (Nat.le_of_ble_eq_true rfl) r130 ?_
  rintro v h130 ⟨rfl, C, x130⟩
  replace H6 := H6.k x130
  replace H7 := H7.k x130
  replace Y := Y.tr x130 (fun _ _ e => e)
  replace hY := Y.1
  refine yy_fin.steps (n := 1) (s' := (757, [some (.ref 1), some (.ref w), some (.ref 0), some (.int (Int32.ofInt fr)), some (.int (Int32.ofInt (t : Int))), some (.int (Int32.ofInt day)), some (zz_val k6), some (zz_val k7), some (.int (Int32.ofInt p8)), some (.ref k9), some (.int (Int32.ofInt s)), some (zz_val q11), some (.int (Int32.ofInt p12)), some (.ref q13), some (.ref q14), some (.int (Int32.ofInt 1)), some (zz_val k7), some (.int (Int32.ofInt n17_1)), some (.int (Int32.ofInt n18_1)), some (.int (Int32.ofInt v107)), some (.int (Int32.ofInt v115)), some (.int (Int32.ofInt v123)), some (.int (Int32.ofInt z22)), some (.int (Int32.ofInt b23)), none], [.int (Int32.ofInt v123), .int (Int32.ofInt (s_25 (g0 541) t day 1 0))], h130)) rfl ?_
  refine yy_fin.ic rfl (fun cz => absurd (congrArg Int32.ofInt (s_25_e.trans ev123.symm)) (y_cne cz)) (fun _ => ?_)
  refine yy_fin.steps (n := 5) (s' := (768, [some (.ref 1), some (.ref w), some (.ref 0), some (.int (Int32.ofInt fr)), some (.int (Int32.ofInt (t : Int))), some (.int (Int32.ofInt day)), some (zz_val k6), some (zz_val k7), some (.int (Int32.ofInt p8)), some (.ref k9), some (.int (Int32.ofInt s)), some (zz_val q11), some (.int (Int32.ofInt p12)), some (.ref q13), some (.ref q14), some (.int (Int32.ofInt 1)), some (zz_val k7), some (.int (Int32.ofInt n17_1)), some (.int (Int32.ofInt n18_1)), some (.int (Int32.ofInt v107)), some (.int (Int32.ofInt v115)), some (.int (Int32.ofInt v123)), some (.int (Int32.ofInt z22)), some (.int (Int32.ofInt b23)), none], [.int (Int32.ofInt 1), .int (Int32.ofInt 1), .int (Int32.ofInt day), .int (Int32.ofInt (t : Int)), .ref 1], h130)) rfl ?_
  obtain ⟨g131, r131⟩ := qi_96 F C ht hd (f := 1) (Or.inr rfl) (k := 1) (Or.inr rfl)
  obtain ⟨fs131, oo131⟩ := C.o
  refine yy_fin.cv (as := [.int (Int32.ofInt (t : Int)), .int (Int32.ofInt day), .int (Int32.ofInt 1), .int (Int32.ofInt 1)]) rfl rfl rfl oo131 (Nat.le_of_ble_eq_true rfl) (Nat.le_of_ble_eq_true rfl) r131 ?_
  rintro v h131 ⟨rfl, C, x131⟩
  replace H6 := H6.k x131
  replace H7 := H7.k x131
  replace Y := Y.tr x131 (fun _ _ e => e)
  replace hY := Y.1
  suffices K132 : yy_fin X 279 (773, [some (.ref 1), some (.ref w), some (.ref 0), some (.int (Int32.ofInt fr)), some (.int (Int32.ofInt (t : Int))), some (.int (Int32.ofInt day)), some (zz_val k6), some (zz_val k7), some (.int (Int32.ofInt p8)), some (.ref k9), some (.int (Int32.ofInt s)), some (zz_val q11), some (.int (Int32.ofInt p12)), some (.ref q13), some (.ref q14), some (.int (Int32.ofInt 1)), some (zz_val k7), some (.int (Int32.ofInt n17_1)), some (.int (Int32.ofInt n18_1)), some (.int (Int32.ofInt v107)), some (.int (Int32.ofInt v115)), some (.int (Int32.ofInt v123)), some (.int (Int32.ofInt z22)), some (.int (Int32.ofInt b23)), none], [zz_val k7, .int (Int32.ofInt (s_25 (g0 541) t day 1 1))], h131) φ by cases k7 <;> exact yy_fin.steps (n := 1) rfl K132
  suffices J133 : ∀ v133 : Int, v133 = s_25 (g0 541) t day 1 1 → yy_fin X 279 (796, [some (.ref 1), some (.ref w), some (.ref 0), some (.int (Int32.ofInt fr)), some (.int (Int32.ofInt (t : Int))), some (.int (Int32.ofInt day)), some (zz_val k6), some (zz_val k7), some (.int (Int32.ofInt p8)), some (.ref k9), some (.int (Int32.ofInt s)), some (zz_val q11), some (.int (Int32.ofInt p12)), some (.ref q13), some (.ref q14), some (.int (Int32.ofInt 1)), some (zz_val k7), some (.int (Int32.ofInt n17_1)), some (.int (Int32.ofInt n18_1)), some (.int (Int32.ofInt v107)), some (.int (Int32.ofInt v115)), some (.int (Int32.ofInt v123)), some (.int (Int32.ofInt z22)), some (.int (Int32.ofInt b23)), none], [.int (Int32.ofInt v133), .int (Int32.ofInt (s_25 (g0 541) t day 1 1))], h131) φ by
    rcases H7 with ⟨rfl, eo134⟩ | ⟨q134, u134, l134, rfl, eo134, R134⟩
    · refine yy_fin.steps (n := 3) (s' := (796, [some (.ref 1), some (.ref w), some (.ref 0), some (.int (Int32.ofInt fr)), some (.int (Int32.ofInt (t : Int))), some (.int (Int32.ofInt day)), some (zz_val k6), some (.null), some (.int (Int32.ofInt p8)), some (.ref k9), some (.int (Int32.ofInt s)), some (zz_val q11), some (.int (Int32.ofInt p12)), some (.ref q13), some (.ref q14), some (.int (Int32.ofInt 1)), some (.null), some (.int (Int32.ofInt n17_1)), some (.int (Int32.ofInt n18_1)), some (.int (Int32.ofInt v107)), some (.int (Int32.ofInt v115)), some (.int (Int32.ofInt v123)), some (.int (Int32.ofInt z22)), some (.int (Int32.ofInt b23)), none], [.int (Int32.ofInt v123), .int (Int32.ofInt (s_25 (g0 541) t day 1 1))], h131)) rfl ?_
      exact J133 (v123) (by unfold s_25; rw [ev123, eo134]; rfl)
    · have hb134 := hv_bnd2 F.2.2.2 ht eo134
      refine yy_fin.steps (n := 3) (s' := (785, [some (.ref 1), some (.ref w), some (.ref 0), some (.int (Int32.ofInt fr)), some (.int (Int32.ofInt (t : Int))), some (.int (Int32.ofInt day)), some (zz_val k6), some (.ref q134), some (.int (Int32.ofInt p8)), some (.ref k9), some (.int (Int32.ofInt s)), some (zz_val q11), some (.int (Int32.ofInt p12)), some (.ref q13), some (.ref q14), some (.int (Int32.ofInt 1)), some (.ref q134), some (.int (Int32.ofInt n17_1)), some (.int (Int32.ofInt n18_1)), some (.int (Int32.ofInt v107)), some (.int (Int32.ofInt v115)), some (.int (Int32.ofInt v123)), some (.int (Int32.ofInt z22)), some (.int (Int32.ofInt b23)), none], [.int (Int32.ofInt 1), .int (Int32.ofInt v123), .int (Int32.ofInt (s_25 (g0 541) t day 1 1))], h131)) rfl ?_
      refine yy_fin.if rfl (fun cK => ?_) (fun cK => absurd (by decide) cK)
      refine yy_fin.steps (n := 2) (s' := (796, [some (.ref 1), some (.ref w), some (.ref 0), some (.int (Int32.ofInt fr)), some (.int (Int32.ofInt (t : Int))), some (.int (Int32.ofInt day)), some (zz_val k6), some (.ref q134), some (.int (Int32.ofInt p8)), some (.ref k9), some (.int (Int32.ofInt s)), some (zz_val q11), some (.int (Int32.ofInt p12)), some (.ref q13), some (.ref q14), some (.int (Int32.ofInt 1)), some (.ref q134), some (.int (Int32.ofInt n17_1)), some (.int (Int32.ofInt n18_1)), some (.int (Int32.ofInt v107)), some (.int (Int32.ofInt v115)), some (.int (Int32.ofInt v123)), some (.int (Int32.ofInt z22)), some (.int (Int32.ofInt b23)), none], [.int ((Int32.ofInt v123) - (Int32.ofInt 86400)), .int (Int32.ofInt (s_25 (g0 541) t day 1 1))], h131)) rfl ?_
      rw [yi_sub v123 86400]
      exact J133 (v123 - 86400) (by unfold s_25; rw [ev123, eo134]; show u134 + (u134 + l134 - u134) / 2 - 86400 = u134 + l134 / 2 - 86400; rw [show u134 + l134 - u134 = l134 by omega])
  intro v133 ev133
  refine yy_fin.ic rfl (fun _ => ?_) (fun cz => absurd (y_ceq (congrArg Int32.ofInt ev133.symm)) cz)
  suffices K135 : yy_fin X 279 (803, [some (.ref 1), some (.ref w), some (.ref 0), some (.int (Int32.ofInt fr)), some (.int (Int32.ofInt (t : Int))), some (.int (Int32.ofInt day)), some (zz_val k6), some (zz_val k7), some (.int (Int32.ofInt p8)), some (.ref k9), some (.int (Int32.ofInt s)), some (zz_val q11), some (.int (Int32.ofInt p12)), some (.ref q13), some (.ref q14), some (.int (Int32.ofInt 1)), some (zz_val k7), some (.int (Int32.ofInt n17_1)), some (.int (Int32.ofInt n18_1)), some (.int (Int32.ofInt v107)), some (.int (Int32.ofInt v115)), some (.int (Int32.ofInt v123)), some (.int (Int32.ofInt z22)), some (.int (Int32.ofInt b23)), none], [zz_val k7], h131) φ by cases k7 <;> exact yy_fin.steps (n := 1) rfl K135
  suffices J136 : ∀ v136 : Int, v136 = y_el (hv_t (g0 541) t day 1) 0 (fun u l => u + l - u) → yy_fin X 279 (819, [some (.ref 1), some (.ref w), some (.ref 0), some (.int (Int32.ofInt fr)), some (.int (Int32.ofInt (t : Int))), some (.int (Int32.ofInt day)), some (zz_val k6), some (zz_val k7), some (.int (Int32.ofInt p8)), some (.ref k9), some (.int (Int32.ofInt s)), some (zz_val q11), some (.int (Int32.ofInt p12)), some (.ref q13), some (.ref q14), some (.int (Int32.ofInt 1)), some (zz_val k7), some (.int (Int32.ofInt n17_1)), some (.int (Int32.ofInt n18_1)), some (.int (Int32.ofInt v107)), some (.int (Int32.ofInt v115)), some (.int (Int32.ofInt v123)), some (.int (Int32.ofInt z22)), some (.int (Int32.ofInt b23)), none], [.int (Int32.ofInt v136)], h131) φ by
    rcases H7 with ⟨rfl, eo137⟩ | ⟨q137, u137, l137, rfl, eo137, R137⟩
    · refine yy_fin.steps (n := 3) (s' := (819, [some (.ref 1), some (.ref w), some (.ref 0), some (.int (Int32.ofInt fr)), some (.int (Int32.ofInt (t : Int))), some (.int (Int32.ofInt day)), some (zz_val k6), some (.null), some (.int (Int32.ofInt p8)), some (.ref k9), some (.int (Int32.ofInt s)), some (zz_val q11), some (.int (Int32.ofInt p12)), some (.ref q13), some (.ref q14), some (.int (Int32.ofInt 1)), some (.null), some (.int (Int32.ofInt n17_1)), some (.int (Int32.ofInt n18_1)), some (.int (Int32.ofInt v107)), some (.int (Int32.ofInt v115)), some (.int (Int32.ofInt v123)), some (.int (Int32.ofInt z22)), some (.int (Int32.ofInt b23)), none], [.int (Int32.ofInt 0)], h131)) rfl ?_
      exact J136 (0) (by rw [eo137]; rfl)
    · have hb137 := hv_bnd2 F.2.2.2 ht eo137
      refine yy_fin.steps (n := 3) (s' := (813, [some (.ref 1), some (.ref w), some (.ref 0), some (.int (Int32.ofInt fr)), some (.int (Int32.ofInt (t : Int))), some (.int (Int32.ofInt day)), some (zz_val k6), some (.ref q137), some (.int (Int32.ofInt p8)), some (.ref k9), some (.int (Int32.ofInt s)), some (zz_val q11), some (.int (Int32.ofInt p12)), some (.ref q13), some (.ref q14), some (.int (Int32.ofInt 1)), some (.ref q137), some (.int (Int32.ofInt n17_1)), some (.int (Int32.ofInt n18_1)), some (.int (Int32.ofInt v107)), some (.int (Int32.ofInt v115)), some (.int (Int32.ofInt v123)), some (.int (Int32.ofInt z22)), some (.int (Int32.ofInt b23)), none], [.int (Int32.ofInt 1), .ref q137], h131)) rfl ?_
      refine yy_fin.lp (j := 1) rfl R137.2 rfl (by decide) rfl ?_
      refine yy_fin.steps (n := 2) (s' := (817, [some (.ref 1), some (.ref w), some (.ref 0), some (.int (Int32.ofInt fr)), some (.int (Int32.ofInt (t : Int))), some (.int (Int32.ofInt day)), some (zz_val k6), some (.ref q137), some (.int (Int32.ofInt p8)), some (.ref k9), some (.int (Int32.ofInt s)), some (zz_val q11), some (.int (Int32.ofInt p12)), some (.ref q13), some (.ref q14), some (.int (Int32.ofInt 1)), some (.ref q137), some (.int (Int32.ofInt n17_1)), some (.int (Int32.ofInt n18_1)), some (.int (Int32.ofInt v107)), some (.int (Int32.ofInt v115)), some (.int (Int32.ofInt v123)), some (.int (Int32.ofInt z22)), some (.int (Int32.ofInt b23)), none], [.int (Int32.ofInt 0), .ref q137, .int (Int32.ofInt (u137 + l137))], h131)) rfl ?_
      refine yy_fin.lp (j := 0) rfl R137.2 rfl (by decide) rfl ?_
      refine yy_fin.steps (n := 1) (s' := (819, [some (.ref 1), some (.ref w), some (.ref 0), some (.int (Int32.ofInt fr)), some (.int (Int32.ofInt (t : Int))), some (.int (Int32.ofInt day)), some (zz_val k6), some (.ref q137), some (.int (Int32.ofInt p8)), some (.ref k9), some (.int (Int32.ofInt s)), some (zz_val q11), some (.int (Int32.ofInt p12)), some (.ref q13), some (.ref q14), some (.int (Int32.ofInt 1)), some (.ref q137), some (.int (Int32.ofInt n17_1)), some (.int (Int32.ofInt n18_1)), some (.int (Int32.ofInt v107)), some (.int (Int32.ofInt v115)), some (.int (Int32.ofInt v123)), some (.int (Int32.ofInt z22)), some (.int (Int32.ofInt b23)), none], [.int ((Int32.ofInt (u137 + l137)) - (Int32.ofInt u137))], h131)) rfl ?_
      rw [yi_sub (u137 + l137) u137]
      exact J136 ((u137 + l137) - u137) (by rw [eo137]; rfl)
  intro v136 ev136
  have hz136 : 0 ≤ v136 ∧ v136 ≤ 200000 := by
    rw [ev136]
    cases eo : hv_t (g0 541) t day 1 with
    | none => exact ⟨Int.le_refl _, by decide⟩
    | some p => obtain ⟨u, l⟩ := p; have := hv_bnd2 F.2.2.2 ht eo; show 0 ≤ u + l - u ∧ u + l - u ≤ 200000; omega
  have hG := (y_Gb v136).1
  refine yy_fin.steps (n := 3) (s' := (825, [some (.ref 1), some (.ref w), some (.ref 0), some (.int (Int32.ofInt fr)), some (.int (Int32.ofInt (t : Int))), some (.int (Int32.ofInt day)), some (zz_val k6), some (zz_val k7), some (.int (Int32.ofInt p8)), some (.ref k9), some (.int (Int32.ofInt s)), some (zz_val q11), some (.int (Int32.ofInt p12)), some (.ref q13), some (.ref q14), some (.int (Int32.ofInt 1)), some (zz_val k7), some (.int (Int32.ofInt n17_1)), some (.int (Int32.ofInt n18_1)), some (.int (Int32.ofInt v107)), some (.int (Int32.ofInt v115)), some (.int (Int32.ofInt v123)), some (.int (Int32.ofInt v136)), some (.int (Int32.ofInt 12)), none], [], h131)) rfl ?_
  refine yl_ex hz136 ?_ (12 - y_G v136).toNat 12 (by omega) (by omega)
  refine yy_fin.steps (n := 5) (s' := (855, [some (.ref 1), some (.ref w), some (.ref 0), some (.int (Int32.ofInt fr)), some (.int (Int32.ofInt (t : Int))), some (.int (Int32.ofInt day)), some (zz_val k6), some (zz_val k7), some (.int (Int32.ofInt p8)), some (.ref k9), some (.int (Int32.ofInt s)), some (zz_val q11), some (.int (Int32.ofInt p12)), some (.ref q13), some (.ref q14), some (.int (Int32.ofInt 1)), some (zz_val k7), some (.int (Int32.ofInt n17_1)), some (.int (Int32.ofInt n18_1)), some (.int (Int32.ofInt v107)), some (.int (Int32.ofInt v115)), some (.int (Int32.ofInt v123)), some (.int (Int32.ofInt v136)), some (.int (Int32.ofInt (y_G v136))), none], [.int (Int32.ofInt 0), .int (Int32.ofInt 1), .int (Int32.ofInt day), .int (Int32.ofInt (t : Int)), .ref 1], h131)) rfl ?_
  obtain ⟨g138, r138⟩ := qi_98 F C ht hd (f := 1) (Or.inr rfl) (i := 0) (Or.inl rfl)
  obtain ⟨fs138, oo138⟩ := C.o
  refine yy_fin.cv (as := [.int (Int32.ofInt (t : Int)), .int (Int32.ofInt day), .int (Int32.ofInt 1), .int (Int32.ofInt 0)]) rfl rfl rfl oo138 (Nat.le_of_ble_eq_true rfl) (Nat.le_of_ble_eq_true rfl) r138 ?_
  rintro v h138 ⟨rfl, C, x138⟩
  replace H6 := H6.k x138
  replace H7 := H7.k x138
  replace Y := Y.tr x138 (fun _ _ e => e)
  replace hY := Y.1
  suffices K139 : yy_fin X 279 (860, [some (.ref 1), some (.ref w), some (.ref 0), some (.int (Int32.ofInt fr)), some (.int (Int32.ofInt (t : Int))), some (.int (Int32.ofInt day)), some (zz_val k6), some (zz_val k7), some (.int (Int32.ofInt p8)), some (.ref k9), some (.int (Int32.ofInt s)), some (zz_val q11), some (.int (Int32.ofInt p12)), some (.ref q13), some (.ref q14), some (.int (Int32.ofInt 1)), some (zz_val k7), some (.int (Int32.ofInt n17_1)), some (.int (Int32.ofInt n18_1)), some (.int (Int32.ofInt v107)), some (.int (Int32.ofInt v115)), some (.int (Int32.ofInt v123)), some (.int (Int32.ofInt v136)), some (.int (Int32.ofInt (y_G v136))), none], [zz_val k7, .int (Int32.ofInt (s_98 (g0 541) t day 1 0))], h138) φ by cases k7 <;> exact yy_fin.steps (n := 1) rfl K139
  suffices J140 : ∀ v140 : Int, v140 = s_98 (g0 541) t day 1 0 → yy_fin X 279 (873, [some (.ref 1), some (.ref w), some (.ref 0), some (.int (Int32.ofInt fr)), some (.int (Int32.ofInt (t : Int))), some (.int (Int32.ofInt day)), some (zz_val k6), some (zz_val k7), some (.int (Int32.ofInt p8)), some (.ref k9), some (.int (Int32.ofInt s)), some (zz_val q11), some (.int (Int32.ofInt p12)), some (.ref q13), some (.ref q14), some (.int (Int32.ofInt 1)), some (zz_val k7), some (.int (Int32.ofInt n17_1)), some (.int (Int32.ofInt n18_1)), some (.int (Int32.ofInt v107)), some (.int (Int32.ofInt v115)), some (.int (Int32.ofInt v123)), some (.int (Int32.ofInt v136)), some (.int (Int32.ofInt (y_G v136))), none], [.int (Int32.ofInt v140), .int (Int32.ofInt (s_98 (g0 541) t day 1 0))], h138) φ by
    rcases H7 with ⟨rfl, eo141⟩ | ⟨q141, u141, l141, rfl, eo141, R141⟩
    · refine yy_fin.steps (n := 3) (s' := (873, [some (.ref 1), some (.ref w), some (.ref 0), some (.int (Int32.ofInt fr)), some (.int (Int32.ofInt (t : Int))), some (.int (Int32.ofInt day)), some (zz_val k6), some (.null), some (.int (Int32.ofInt p8)), some (.ref k9), some (.int (Int32.ofInt s)), some (zz_val q11), some (.int (Int32.ofInt p12)), some (.ref q13), some (.ref q14), some (.int (Int32.ofInt 1)), some (.null), some (.int (Int32.ofInt n17_1)), some (.int (Int32.ofInt n18_1)), some (.int (Int32.ofInt v107)), some (.int (Int32.ofInt v115)), some (.int (Int32.ofInt v123)), some (.int (Int32.ofInt v136)), some (.int (Int32.ofInt (y_G v136))), none], [.int (Int32.ofInt (-2)), .int (Int32.ofInt (s_98 (g0 541) t day 1 0))], h138)) rfl ?_
      exact J140 (-2) (by unfold s_98; rw [eo141])
    · have hb141 := hv_bnd2 F.2.2.2 ht eo141
      refine yy_fin.steps (n := 3) (s' := (872, [some (.ref 1), some (.ref w), some (.ref 0), some (.int (Int32.ofInt fr)), some (.int (Int32.ofInt (t : Int))), some (.int (Int32.ofInt day)), some (zz_val k6), some (.ref q141), some (.int (Int32.ofInt p8)), some (.ref k9), some (.int (Int32.ofInt s)), some (zz_val q11), some (.int (Int32.ofInt p12)), some (.ref q13), some (.ref q14), some (.int (Int32.ofInt 1)), some (.ref q141), some (.int (Int32.ofInt n17_1)), some (.int (Int32.ofInt n18_1)), some (.int (Int32.ofInt v107)), some (.int (Int32.ofInt v115)), some (.int (Int32.ofInt v123)), some (.int (Int32.ofInt v136)), some (.int (Int32.ofInt (y_G v136))), none], [.int (Int32.ofInt (y_G v136)), .int (Int32.ofInt v136), .int (Int32.ofInt (s_98 (g0 541) t day 1 0))], h138)) rfl ?_
      refine yy_fin.dv rfl (fun z => by have z := (yi_eq (a := y_G v136) (b := 0) (by omega) (by omega)).mp z; omega) ?_
      rw [yi_div (a := v136) (b := y_G v136) (by omega) (by omega)]
      exact J140 (v136 / (y_G v136)) (by unfold s_98; rw [eo141]; show v136 / y_G v136 = _; rw [ev136, eo141]; show (u141 + l141 - u141) / y_G (u141 + l141 - u141) = l141 / y_G l141; rw [show u141 + l141 - u141 = l141 by omega])
  intro v140 ev140
  refine yy_fin.ic rfl (fun cz => absurd (congrArg Int32.ofInt ev140.symm) (y_cne cz)) (fun _ => ?_)
  refine yy_fin.steps (n := 5) (s' := (884, [some (.ref 1), some (.ref w), some (.ref 0), some (.int (Int32.ofInt fr)), some (.int (Int32.ofInt (t : Int))), some (.int (Int32.ofInt day)), some (zz_val k6), some (zz_val k7), some (.int (Int32.ofInt p8)), some (.ref k9), some (.int (Int32.ofInt s)), some (zz_val q11), some (.int (Int32.ofInt p12)), some (.ref q13), some (.ref q14), some (.int (Int32.ofInt 1)), some (zz_val k7), some (.int (Int32.ofInt n17_1)), some (.int (Int32.ofInt n18_1)), some (.int (Int32.ofInt v107)), some (.int (Int32.ofInt v115)), some (.int (Int32.ofInt v123)), some (.int (Int32.ofInt v136)), some (.int (Int32.ofInt (y_G v136))), none], [.int (Int32.ofInt 1), .int (Int32.ofInt 1), .int (Int32.ofInt day), .int (Int32.ofInt (t : Int)), .ref 1], h138)) rfl ?_
  obtain ⟨g142, r142⟩ := qi_98 F C ht hd (f := 1) (Or.inr rfl) (i := 1) (Or.inr rfl)
  obtain ⟨fs142, oo142⟩ := C.o
  refine yy_fin.cv (as := [.int (Int32.ofInt (t : Int)), .int (Int32.ofInt day), .int (Int32.ofInt 1), .int (Int32.ofInt 1)]) rfl rfl rfl oo142 (Nat.le_of_ble_eq_true rfl) (Nat.le_of_ble_eq_true rfl) r142 ?_
  rintro v h142 ⟨rfl, C, x142⟩
  replace H6 := H6.k x142
  replace H7 := H7.k x142
  replace Y := Y.tr x142 (fun _ _ e => e)
  replace hY := Y.1
  suffices K143 : yy_fin X 279 (889, [some (.ref 1), some (.ref w), some (.ref 0), some (.int (Int32.ofInt fr)), some (.int (Int32.ofInt (t : Int))), some (.int (Int32.ofInt day)), some (zz_val k6), some (zz_val k7), some (.int (Int32.ofInt p8)), some (.ref k9), some (.int (Int32.ofInt s)), some (zz_val q11), some (.int (Int32.ofInt p12)), some (.ref q13), some (.ref q14), some (.int (Int32.ofInt 1)), some (zz_val k7), some (.int (Int32.ofInt n17_1)), some (.int (Int32.ofInt n18_1)), some (.int (Int32.ofInt v107)), some (.int (Int32.ofInt v115)), some (.int (Int32.ofInt v123)), some (.int (Int32.ofInt v136)), some (.int (Int32.ofInt (y_G v136))), none], [zz_val k7, .int (Int32.ofInt (s_98 (g0 541) t day 1 1))], h142) φ by cases k7 <;> exact yy_fin.steps (n := 1) rfl K143
  suffices J144 : ∀ v144 : Int, v144 = s_98 (g0 541) t day 1 1 → yy_fin X 279 (902, [some (.ref 1), some (.ref w), some (.ref 0), some (.int (Int32.ofInt fr)), some (.int (Int32.ofInt (t : Int))), some (.int (Int32.ofInt day)), some (zz_val k6), some (zz_val k7), some (.int (Int32.ofInt p8)), some (.ref k9), some (.int (Int32.ofInt s)), some (zz_val q11), some (.int (Int32.ofInt p12)), some (.ref q13), some (.ref q14), some (.int (Int32.ofInt 1)), some (zz_val k7), some (.int (Int32.ofInt n17_1)), some (.int (Int32.ofInt n18_1)), some (.int (Int32.ofInt v107)), some (.int (Int32.ofInt v115)), some (.int (Int32.ofInt v123)), some (.int (Int32.ofInt v136)), some (.int (Int32.ofInt (y_G v136))), none], [.int (Int32.ofInt v144), .int (Int32.ofInt (s_98 (g0 541) t day 1 1))], h142) φ by
    rcases H7 with ⟨rfl, eo145⟩ | ⟨q145, u145, l145, rfl, eo145, R145⟩
    · refine yy_fin.steps (n := 3) (s' := (902, [some (.ref 1), some (.ref w), some (.ref 0), some (.int (Int32.ofInt fr)), some (.int (Int32.ofInt (t : Int))), some (.int (Int32.ofInt day)), some (zz_val k6), some (.null), some (.int (Int32.ofInt p8)), some (.ref k9), some (.int (Int32.ofInt s)), some (zz_val q11), some (.int (Int32.ofInt p12)), some (.ref q13), some (.ref q14), some (.int (Int32.ofInt 1)), some (.null), some (.int (Int32.ofInt n17_1)), some (.int (Int32.ofInt n18_1)), some (.int (Int32.ofInt v107)), some (.int (Int32.ofInt v115)), some (.int (Int32.ofInt v123)), some (.int (Int32.ofInt v136)), some (.int (Int32.ofInt (y_G v136))), none], [.int (Int32.ofInt (-2)), .int (Int32.ofInt (s_98 (g0 541) t day 1 1))], h142)) rfl ?_
      exact J144 (-2) (by unfold s_98; rw [eo145])
    · have hb145 := hv_bnd2 F.2.2.2 ht eo145
      refine yy_fin.steps (n := 3) (s' := (901, [some (.ref 1), some (.ref w), some (.ref 0), some (.int (Int32.ofInt fr)), some (.int (Int32.ofInt (t : Int))), some (.int (Int32.ofInt day)), some (zz_val k6), some (.ref q145), some (.int (Int32.ofInt p8)), some (.ref k9), some (.int (Int32.ofInt s)), some (zz_val q11), some (.int (Int32.ofInt p12)), some (.ref q13), some (.ref q14), some (.int (Int32.ofInt 1)), some (.ref q145), some (.int (Int32.ofInt n17_1)), some (.int (Int32.ofInt n18_1)), some (.int (Int32.ofInt v107)), some (.int (Int32.ofInt v115)), some (.int (Int32.ofInt v123)), some (.int (Int32.ofInt v136)), some (.int (Int32.ofInt (y_G v136))), none], [.int (Int32.ofInt (y_G v136)), .int (Int32.ofInt 12), .int (Int32.ofInt (s_98 (g0 541) t day 1 1))], h142)) rfl ?_
      refine yy_fin.dv rfl (fun z => by have z := (yi_eq (a := y_G v136) (b := 0) (by omega) (by omega)).mp z; omega) ?_
      rw [yi_div (a := 12) (b := y_G v136) (by omega) (by omega)]
      exact J144 (12 / (y_G v136)) (by unfold s_98; rw [eo145]; show 12 / y_G v136 = _; rw [ev136, eo145]; show 12 / y_G (u145 + l145 - u145) = 12 / y_G l145; rw [show u145 + l145 - u145 = l145 by omega])
  intro v144 ev144
  refine yy_fin.ic rfl (fun _ => ?_) (fun cz => absurd (y_ceq (congrArg Int32.ofInt ev144.symm)) cz)
  refine yy_fin.steps (n := 2) (s' := (511, [some (.ref 1), some (.ref w), some (.ref 0), some (.int (Int32.ofInt fr)), some (.int (Int32.ofInt (t : Int))), some (.int (Int32.ofInt day)), some (zz_val k6), some (zz_val k7), some (.int (Int32.ofInt p8)), some (.ref k9), some (.int (Int32.ofInt s)), some (zz_val q11), some (.int (Int32.ofInt p12)), some (.ref q13), some (.ref q14), some (.int ((Int32.ofInt 1) + (Int32.ofInt 1))), some (zz_val k7), some (.int (Int32.ofInt n17_1)), some (.int (Int32.ofInt n18_1)), some (.int (Int32.ofInt v107)), some (.int (Int32.ofInt v115)), some (.int (Int32.ofInt v123)), some (.int (Int32.ofInt v136)), some (.int (Int32.ofInt (y_G v136))), none], [], h142)) rfl ?_
  rw [show (Int32.ofInt 1) + (Int32.ofInt 1) = Int32.ofInt 2 from by decide]
  exact kk _ _ k7 _ _ _ _ _ _ _ C (Y.le (by omega) (by omega)) H6 H7
theorem yl_d5 (F : yCf own w lst g0) (ht : (t : Int) < (g0 541 0).toInt) (hd : 0 ≤ day ∧ day ≤ 35999) (C : yCx own w lst g0 h g) (hB : h.1.1 + 200 < yy_B) {k6 k7 : Option Nat} (H6 : yHr h w k6 (hv_t (g0 541) t day 0)) (H7 : yHr h w k7 (hv_t (g0 541) t day 1)) {p8 p12 i15 : Int} {k9 q13 q14 : Nat} {q11 q16 : Option Nat} {n17 n18 v19 v20 m21 z22 b23 : Int} (kk : ∀ h' g' i15, yCx own w lst g0 h' g' → yx (yAk w) 20 60 h h' → yHr h' w k6 (hv_t (g0 541) t day 0) → yy_fin X 279 (1011, [some (.ref 1), some (.ref w), some (.ref 0), some (.int (Int32.ofInt fr)), some (.int (Int32.ofInt (t : Int))), some (.int (Int32.ofInt day)), some (zz_val k6), some (zz_val k7), some (.int (Int32.ofInt p8)), some (.ref k9), some (.int (Int32.ofInt s)), some (zz_val q11), some (.int (Int32.ofInt p12)), some (.ref q13), some (.ref q14), some (.int (Int32.ofInt i15)), some (zz_val q16), some (.int (Int32.ofInt n17)), some (.int (Int32.ofInt n18)), some (.int (Int32.ofInt v19)), some (.int (Int32.ofInt v20)), some (.int (Int32.ofInt m21)), some (.int (Int32.ofInt z22)), some (.int (Int32.ofInt b23)), none], [], h') φ) : yy_fin X 279 (913, [some (.ref 1), some (.ref w), some (.ref 0), some (.int (Int32.ofInt fr)), some (.int (Int32.ofInt (t : Int))), some (.int (Int32.ofInt day)), some (zz_val k6), some (zz_val k7), some (.int (Int32.ofInt p8)), some (.ref k9), some (.int (Int32.ofInt s)), some (zz_val q11), some (.int (Int32.ofInt p12)), some (.ref q13), some (.ref q14), some (.int (Int32.ofInt i15)), some (zz_val q16), some (.int (Int32.ofInt n17)), some (.int (Int32.ofInt n18)), some (.int (Int32.ofInt v19)), some (.int (Int32.ofInt v20)), some (.int (Int32.ofInt m21)), some (.int (Int32.ofInt z22)), some (.int (Int32.ofInt b23)), none], [], h) φ := by
  have n4 := F.2.2.2.1
  have hq := F.2.2.2.2.1
  have Y : yx (yAk w) 0 0 h h := yx.rf
  have hY := Y.1
  have hg := C.2.1.2
  refine yy_fin.steps (n := 4) (s' := (919, [some (.ref 1), some (.ref w), some (.ref 0), some (.int (Int32.ofInt fr)), some (.int (Int32.ofInt (t : Int))), some (.int (Int32.ofInt day)), some (zz_val k6), some (zz_val k7), some (.int (Int32.ofInt p8)), some (.ref k9), some (.int (Int32.ofInt s)), some (zz_val q11), some (.int (Int32.ofInt p12)), some (.ref q13), some (.ref q14), some (.int (Int32.ofInt 0)), some (zz_val q16), some (.int (Int32.ofInt n17)), some (.int (Int32.ofInt n18)), some (.int (Int32.ofInt v19)), some (.int (Int32.ofInt v20)), some (.int (Int32.ofInt m21)), some (.int (Int32.ofInt z22)), some (.int (Int32.ofInt b23)), none], [.int (Int32.ofInt 4), .int (Int32.ofInt 0)], h)) rfl ?_
  refine yy_fin.ic rfl (fun cK => absurd cK (by decide)) (fun cK => ?_)
  refine yy_fin.steps (n := 5) (s' := (930, [some (.ref 1), some (.ref w), some (.ref 0), some (.int (Int32.ofInt fr)), some (.int (Int32.ofInt (t : Int))), some (.int (Int32.ofInt day)), some (zz_val k6), some (zz_val k7), some (.int (Int32.ofInt p8)), some (.ref k9), some (.int (Int32.ofInt s)), some (zz_val q11), some (.int (Int32.ofInt p12)), some (.ref q13), some (.ref q14), some (.int (Int32.ofInt 0)), some (zz_val q16), some (.int (Int32.ofInt n17)), some (.int (Int32.ofInt n18)), some (.int (Int32.ofInt v19)), some (.int (Int32.ofInt v20)), some (.int (Int32.ofInt m21)), some (.int (Int32.ofInt z22)), some (.int (Int32.ofInt b23)), none], [.int (Int32.ofInt 0), .int (Int32.ofInt 0), .int (Int32.ofInt day), .int (Int32.ofInt (t : Int)), .ref 1], h)) rfl ?_
  obtain ⟨g101, r101⟩ := qi_99 F C ht hd (k := 0) (i := 0) (by omega) (Or.inl rfl)
  obtain ⟨fs101, oo101⟩ := C.o
  refine yy_fin.cv (as := [.int (Int32.ofInt (t : Int)), .int (Int32.ofInt day), .int (Int32.ofInt 0), .int (Int32.ofInt 0)]) rfl rfl rfl oo101 (Nat.le_of_ble_eq_true rfl) (Nat.le_of_ble_eq_true rfl) r101 ?_
  rintro v h101 ⟨rfl, C, x101⟩
  replace H6 := H6.k x101
  replace H7 := H7.k x101
  replace Y := Y.tr x101 (fun _ _ e => e)
  replace hY := Y.1
  suffices K102 : yy_fin X 279 (935, [some (.ref 1), some (.ref w), some (.ref 0), some (.int (Int32.ofInt fr)), some (.int (Int32.ofInt (t : Int))), some (.int (Int32.ofInt day)), some (zz_val k6), some (zz_val k7), some (.int (Int32.ofInt p8)), some (.ref k9), some (.int (Int32.ofInt s)), some (zz_val q11), some (.int (Int32.ofInt p12)), some (.ref q13), some (.ref q14), some (.int (Int32.ofInt 0)), some (zz_val q16), some (.int (Int32.ofInt n17)), some (.int (Int32.ofInt n18)), some (.int (Int32.ofInt v19)), some (.int (Int32.ofInt v20)), some (.int (Int32.ofInt m21)), some (.int (Int32.ofInt z22)), some (.int (Int32.ofInt b23)), none], [zz_val k7, .int (Int32.ofInt (s_99 (g0 541) t day 0 0))], h101) φ by cases k7 <;> exact yy_fin.steps (n := 1) rfl K102
  suffices J103 : ∀ v103 : Int, v103 = s_99 (g0 541) t day 0 0 → yy_fin X 279 (953, [some (.ref 1), some (.ref w), some (.ref 0), some (.int (Int32.ofInt fr)), some (.int (Int32.ofInt (t : Int))), some (.int (Int32.ofInt day)), some (zz_val k6), some (zz_val k7), some (.int (Int32.ofInt p8)), some (.ref k9), some (.int (Int32.ofInt s)), some (zz_val q11), some (.int (Int32.ofInt p12)), some (.ref q13), some (.ref q14), some (.int (Int32.ofInt 0)), some (zz_val q16), some (.int (Int32.ofInt n17)), some (.int (Int32.ofInt n18)), some (.int (Int32.ofInt v19)), some (.int (Int32.ofInt v20)), some (.int (Int32.ofInt m21)), some (.int (Int32.ofInt z22)), some (.int (Int32.ofInt b23)), none], [.int (Int32.ofInt v103), .int (Int32.ofInt (s_99 (g0 541) t day 0 0))], h101) φ by
    rcases H7 with ⟨rfl, eo104⟩ | ⟨q104, u104, l104, rfl, eo104, R104⟩
    · refine yy_fin.steps (n := 3) (s' := (953, [some (.ref 1), some (.ref w), some (.ref 0), some (.int (Int32.ofInt fr)), some (.int (Int32.ofInt (t : Int))), some (.int (Int32.ofInt day)), some (zz_val k6), some (.null), some (.int (Int32.ofInt p8)), some (.ref k9), some (.int (Int32.ofInt s)), some (zz_val q11), some (.int (Int32.ofInt p12)), some (.ref q13), some (.ref q14), some (.int (Int32.ofInt 0)), some (zz_val q16), some (.int (Int32.ofInt n17)), some (.int (Int32.ofInt n18)), some (.int (Int32.ofInt v19)), some (.int (Int32.ofInt v20)), some (.int (Int32.ofInt m21)), some (.int (Int32.ofInt z22)), some (.int (Int32.ofInt b23)), none], [.int (Int32.ofInt (-2)), .int (Int32.ofInt (s_99 (g0 541) t day 0 0))], h101)) rfl ?_
      exact J103 (-2) (by unfold s_99; rw [eo104])
    · have hb104 := hv_bnd2 F.2.2.2 ht eo104
      refine yy_fin.steps (n := 6) (s' := (950, [some (.ref 1), some (.ref w), some (.ref 0), some (.int (Int32.ofInt fr)), some (.int (Int32.ofInt (t : Int))), some (.int (Int32.ofInt day)), some (zz_val k6), some (.ref q104), some (.int (Int32.ofInt p8)), some (.ref k9), some (.int (Int32.ofInt s)), some (zz_val q11), some (.int (Int32.ofInt p12)), some (.ref q13), some (.ref q14), some (.int (Int32.ofInt 0)), some (zz_val q16), some (.int (Int32.ofInt n17)), some (.int (Int32.ofInt n18)), some (.int (Int32.ofInt v19)), some (.int (Int32.ofInt v20)), some (.int (Int32.ofInt m21)), some (.int (Int32.ofInt z22)), some (.int (Int32.ofInt b23)), none], [.int ((Int32.ofInt 3) * (Int32.ofInt 0)), .ref q104, .ref w, .int (Int32.ofInt (s_99 (g0 541) t day 0 0))], h101)) rfl ?_
      rw [yi_mul 3 0]
      obtain ⟨fw105, oW105⟩ := C.ow
      refine yy_fin.cv (as := [.ref q104, .int (Int32.ofInt (3 * 0))]) rfl rfl rfl oW105 (Nat.le_of_ble_eq_true rfl) (Nat.le_of_ble_eq_true rfl) (yc_hour F C R104 (hr := 3 * 0) (by omega) (by omega) (by omega)) ?_
      rintro v h9 ⟨rfl, e9⟩
      obtain rfl := e9.symm
      exact J103 (u104 + yk (g0 541 1).toInt ((3 * 0) * (g0 541 1).toInt) l104) (by unfold s_99; rw [eo104]; show u104 + yk (g0 541 1).toInt ((3 * 0) * (g0 541 1).toInt) l104 = u104 + s_h (3 * 0) l104; rw [yk_h (q := (g0 541 1).toInt) (x := 3 * 0) (l := l104) hq.1 (by omega) (by omega)])
  intro v103 ev103
  refine yy_fin.ic rfl (fun cz => absurd (congrArg Int32.ofInt ev103.symm) (y_cne cz)) (fun _ => ?_)
  refine yy_fin.steps (n := 5) (s' := (964, [some (.ref 1), some (.ref w), some (.ref 0), some (.int (Int32.ofInt fr)), some (.int (Int32.ofInt (t : Int))), some (.int (Int32.ofInt day)), some (zz_val k6), some (zz_val k7), some (.int (Int32.ofInt p8)), some (.ref k9), some (.int (Int32.ofInt s)), some (zz_val q11), some (.int (Int32.ofInt p12)), some (.ref q13), some (.ref q14), some (.int (Int32.ofInt 0)), some (zz_val q16), some (.int (Int32.ofInt n17)), some (.int (Int32.ofInt n18)), some (.int (Int32.ofInt v19)), some (.int (Int32.ofInt v20)), some (.int (Int32.ofInt m21)), some (.int (Int32.ofInt z22)), some (.int (Int32.ofInt b23)), none], [.int (Int32.ofInt 1), .int (Int32.ofInt 0), .int (Int32.ofInt day), .int (Int32.ofInt (t : Int)), .ref 1], h101)) rfl ?_
  obtain ⟨g106, r106⟩ := qi_99 F C ht hd (k := 0) (i := 1) (by omega) (Or.inr rfl)
  obtain ⟨fs106, oo106⟩ := C.o
  refine yy_fin.cv (as := [.int (Int32.ofInt (t : Int)), .int (Int32.ofInt day), .int (Int32.ofInt 0), .int (Int32.ofInt 1)]) rfl rfl rfl oo106 (Nat.le_of_ble_eq_true rfl) (Nat.le_of_ble_eq_true rfl) r106 ?_
  rintro v h106 ⟨rfl, C, x106⟩
  replace H6 := H6.k x106
  replace H7 := H7.k x106
  replace Y := Y.tr x106 (fun _ _ e => e)
  replace hY := Y.1
  suffices K107 : yy_fin X 279 (969, [some (.ref 1), some (.ref w), some (.ref 0), some (.int (Int32.ofInt fr)), some (.int (Int32.ofInt (t : Int))), some (.int (Int32.ofInt day)), some (zz_val k6), some (zz_val k7), some (.int (Int32.ofInt p8)), some (.ref k9), some (.int (Int32.ofInt s)), some (zz_val q11), some (.int (Int32.ofInt p12)), some (.ref q13), some (.ref q14), some (.int (Int32.ofInt 0)), some (zz_val q16), some (.int (Int32.ofInt n17)), some (.int (Int32.ofInt n18)), some (.int (Int32.ofInt v19)), some (.int (Int32.ofInt v20)), some (.int (Int32.ofInt m21)), some (.int (Int32.ofInt z22)), some (.int (Int32.ofInt b23)), none], [zz_val k7, .int (Int32.ofInt (s_99 (g0 541) t day 0 1))], h106) φ by cases k7 <;> exact yy_fin.steps (n := 1) rfl K107
  suffices J108 : ∀ v108 : Int, v108 = s_99 (g0 541) t day 0 1 → yy_fin X 279 (1000, [some (.ref 1), some (.ref w), some (.ref 0), some (.int (Int32.ofInt fr)), some (.int (Int32.ofInt (t : Int))), some (.int (Int32.ofInt day)), some (zz_val k6), some (zz_val k7), some (.int (Int32.ofInt p8)), some (.ref k9), some (.int (Int32.ofInt s)), some (zz_val q11), some (.int (Int32.ofInt p12)), some (.ref q13), some (.ref q14), some (.int (Int32.ofInt 0)), some (zz_val q16), some (.int (Int32.ofInt n17)), some (.int (Int32.ofInt n18)), some (.int (Int32.ofInt v19)), some (.int (Int32.ofInt v20)), some (.int (Int32.ofInt m21)), some (.int (Int32.ofInt z22)), some (.int (Int32.ofInt b23)), none], [.int (Int32.ofInt v108), .int (Int32.ofInt (s_99 (g0 541) t day 0 1))], h106) φ by
    rcases H7 with ⟨rfl, eo109⟩ | ⟨q109, u109, l109, rfl, eo109, R109⟩
    · refine yy_fin.steps (n := 3) (s' := (1000, [some (.ref 1), some (.ref w), some (.ref 0), some (.int (Int32.ofInt fr)), some (.int (Int32.ofInt (t : Int))), some (.int (Int32.ofInt day)), some (zz_val k6), some (.null), some (.int (Int32.ofInt p8)), some (.ref k9), some (.int (Int32.ofInt s)), some (zz_val q11), some (.int (Int32.ofInt p12)), some (.ref q13), some (.ref q14), some (.int (Int32.ofInt 0)), some (zz_val q16), some (.int (Int32.ofInt n17)), some (.int (Int32.ofInt n18)), some (.int (Int32.ofInt v19)), some (.int (Int32.ofInt v20)), some (.int (Int32.ofInt m21)), some (.int (Int32.ofInt z22)), some (.int (Int32.ofInt b23)), none], [.int (Int32.ofInt (-2)), .int (Int32.ofInt (s_99 (g0 541) t day 0 1))], h106)) rfl ?_
      exact J108 (-2) (by unfold s_99; rw [eo109])
    · have hb109 := hv_bnd2 F.2.2.2 ht eo109
      refine yy_fin.steps (n := 8) (s' := (986, [some (.ref 1), some (.ref w), some (.ref 0), some (.int (Int32.ofInt fr)), some (.int (Int32.ofInt (t : Int))), some (.int (Int32.ofInt day)), some (zz_val k6), some (.ref q109), some (.int (Int32.ofInt p8)), some (.ref k9), some (.int (Int32.ofInt s)), some (zz_val q11), some (.int (Int32.ofInt p12)), some (.ref q13), some (.ref q14), some (.int (Int32.ofInt 0)), some (zz_val q16), some (.int (Int32.ofInt n17)), some (.int (Int32.ofInt n18)), some (.int (Int32.ofInt v19)), some (.int (Int32.ofInt v20)), some (.int (Int32.ofInt m21)), some (.int (Int32.ofInt z22)), some (.int (Int32.ofInt b23)), none], [.int (((Int32.ofInt 3) * (Int32.ofInt 0)) + (Int32.ofInt 3)), .ref q109, .ref w, .int (Int32.ofInt (s_99 (g0 541) t day 0 1))], h106)) rfl ?_
      rw [yi_mul 3 0]
      rw [yi_add (3 * 0) 3]
      obtain ⟨fw110, oW110⟩ := C.ow
      refine yy_fin.cv (as := [.ref q109, .int (Int32.ofInt ((3 * 0) + 3))]) rfl rfl rfl oW110 (Nat.le_of_ble_eq_true rfl) (Nat.le_of_ble_eq_true rfl) (yc_hour F C R109 (hr := (3 * 0) + 3) (by omega) (by omega) (by omega)) ?_
      rintro v h9 ⟨rfl, e9⟩
      obtain rfl := e9.symm
      refine yy_fin.steps (n := 5) (s' := (996, [some (.ref 1), some (.ref w), some (.ref 0), some (.int (Int32.ofInt fr)), some (.int (Int32.ofInt (t : Int))), some (.int (Int32.ofInt day)), some (zz_val k6), some (.ref q109), some (.int (Int32.ofInt p8)), some (.ref k9), some (.int (Int32.ofInt s)), some (zz_val q11), some (.int (Int32.ofInt p12)), some (.ref q13), some (.ref q14), some (.int (Int32.ofInt 0)), some (zz_val q16), some (.int (Int32.ofInt n17)), some (.int (Int32.ofInt n18)), some (.int (Int32.ofInt v19)), some (.int (Int32.ofInt v20)), some (.int (Int32.ofInt m21)), some (.int (Int32.ofInt z22)), some (.int (Int32.ofInt b23)), none], [.int ((Int32.ofInt 3) * (Int32.ofInt 0)), .ref q109, .ref w, .int (Int32.ofInt (u109 + yk (g0 541 1).toInt (((3 * 0) + 3) * (g0 541 1).toInt) l109)), .int (Int32.ofInt (s_99 (g0 541) t day 0 1))], h106)) rfl ?_
      rw [yi_mul 3 0]
      obtain ⟨fw111, oW111⟩ := C.ow
      refine yy_fin.cv (as := [.ref q109, .int (Int32.ofInt (3 * 0))]) rfl rfl rfl oW111 (Nat.le_of_ble_eq_true rfl) (Nat.le_of_ble_eq_true rfl) (yc_hour F C R109 (hr := 3 * 0) (by omega) (by omega) (by omega)) ?_
      rintro v h9 ⟨rfl, e9⟩
      obtain rfl := e9.symm
      refine yy_fin.steps (n := 1) (s' := (1000, [some (.ref 1), some (.ref w), some (.ref 0), some (.int (Int32.ofInt fr)), some (.int (Int32.ofInt (t : Int))), some (.int (Int32.ofInt day)), some (zz_val k6), some (.ref q109), some (.int (Int32.ofInt p8)), some (.ref k9), some (.int (Int32.ofInt s)), some (zz_val q11), some (.int (Int32.ofInt p12)), some (.ref q13), some (.ref q14), some (.int (Int32.ofInt 0)), some (zz_val q16), some (.int (Int32.ofInt n17)), some (.int (Int32.ofInt n18)), some (.int (Int32.ofInt v19)), some (.int (Int32.ofInt v20)), some (.int (Int32.ofInt m21)), some (.int (Int32.ofInt z22)), some (.int (Int32.ofInt b23)), none], [.int ((Int32.ofInt (u109 + yk (g0 541 1).toInt (((3 * 0) + 3) * (g0 541 1).toInt) l109)) - (Int32.ofInt (u109 + yk (g0 541 1).toInt ((3 * 0) * (g0 541 1).toInt) l109))), .int (Int32.ofInt (s_99 (g0 541) t day 0 1))], h106)) rfl ?_
      rw [yi_sub (u109 + yk (g0 541 1).toInt (((3 * 0) + 3) * (g0 541 1).toInt) l109) (u109 + yk (g0 541 1).toInt ((3 * 0) * (g0 541 1).toInt) l109)]
      exact J108 ((u109 + yk (g0 541 1).toInt (((3 * 0) + 3) * (g0 541 1).toInt) l109) - (u109 + yk (g0 541 1).toInt ((3 * 0) * (g0 541 1).toInt) l109)) (by unfold s_99; rw [eo109]; show u109 + yk (g0 541 1).toInt ((3 * 0 + 3) * (g0 541 1).toInt) l109 - (u109 + yk (g0 541 1).toInt ((3 * 0) * (g0 541 1).toInt) l109) = s_h (3 * 0 + 3) l109 - s_h (3 * 0) l109; rw [yk_h (q := (g0 541 1).toInt) (x := 3 * 0 + 3) (l := l109) hq.1 (by omega) (by omega), yk_h (q := (g0 541 1).toInt) (x := 3 * 0) (l := l109) hq.1 (by omega) (by omega)]; omega)
  intro v108 ev108
  refine yy_fin.ic rfl (fun _ => ?_) (fun cz => absurd (y_ceq (congrArg Int32.ofInt ev108.symm)) cz)
  refine yy_fin.steps (n := 4) (s' := (919, [some (.ref 1), some (.ref w), some (.ref 0), some (.int (Int32.ofInt fr)), some (.int (Int32.ofInt (t : Int))), some (.int (Int32.ofInt day)), some (zz_val k6), some (zz_val k7), some (.int (Int32.ofInt p8)), some (.ref k9), some (.int (Int32.ofInt s)), some (zz_val q11), some (.int (Int32.ofInt p12)), some (.ref q13), some (.ref q14), some (.int ((Int32.ofInt 0) + (Int32.ofInt 1))), some (zz_val q16), some (.int (Int32.ofInt n17)), some (.int (Int32.ofInt n18)), some (.int (Int32.ofInt v19)), some (.int (Int32.ofInt v20)), some (.int (Int32.ofInt m21)), some (.int (Int32.ofInt z22)), some (.int (Int32.ofInt b23)), none], [.int (Int32.ofInt 4), .int ((Int32.ofInt 0) + (Int32.ofInt 1))], h106)) rfl ?_
  rw [show (Int32.ofInt 0) + (Int32.ofInt 1) = Int32.ofInt 1 from by decide]
  refine yy_fin.ic rfl (fun cK => absurd cK (by decide)) (fun cK => ?_)
  refine yy_fin.steps (n := 5) (s' := (930, [some (.ref 1), some (.ref w), some (.ref 0), some (.int (Int32.ofInt fr)), some (.int (Int32.ofInt (t : Int))), some (.int (Int32.ofInt day)), some (zz_val k6), some (zz_val k7), some (.int (Int32.ofInt p8)), some (.ref k9), some (.int (Int32.ofInt s)), some (zz_val q11), some (.int (Int32.ofInt p12)), some (.ref q13), some (.ref q14), some (.int (Int32.ofInt 1)), some (zz_val q16), some (.int (Int32.ofInt n17)), some (.int (Int32.ofInt n18)), some (.int (Int32.ofInt v19)), some (.int (Int32.ofInt v20)), some (.int (Int32.ofInt m21)), some (.int (Int32.ofInt z22)), some (.int (Int32.ofInt b23)), none], [.int (Int32.ofInt 0), .int (Int32.ofInt 1), .int (Int32.ofInt day), .int (Int32.ofInt (t : Int)), .ref 1], h106)) rfl ?_
  obtain ⟨g112, r112⟩ := qi_99 F C ht hd (k := 1) (i := 0) (by omega) (Or.inl rfl)
  obtain ⟨fs112, oo112⟩ := C.o
  refine yy_fin.cv (as := [.int (Int32.ofInt (t : Int)), .int (Int32.ofInt day), .int (Int32.ofInt 1), .int (Int32.ofInt 0)]) rfl rfl rfl oo112 (Nat.le_of_ble_eq_true rfl) (Nat.le_of_ble_eq_true rfl) r112 ?_
  rintro v h112 ⟨rfl, C, x112⟩
  replace H6 := H6.k x112
  replace H7 := H7.k x112
  replace Y := Y.tr x112 (fun _ _ e => e)
  replace hY := Y.1
  suffices K113 : yy_fin X 279 (935, [some (.ref 1), some (.ref w), some (.ref 0), some (.int (Int32.ofInt fr)), some (.int (Int32.ofInt (t : Int))), some (.int (Int32.ofInt day)), some (zz_val k6), some (zz_val k7), some (.int (Int32.ofInt p8)), some (.ref k9), some (.int (Int32.ofInt s)), some (zz_val q11), some (.int (Int32.ofInt p12)), some (.ref q13), some (.ref q14), some (.int (Int32.ofInt 1)), some (zz_val q16), some (.int (Int32.ofInt n17)), some (.int (Int32.ofInt n18)), some (.int (Int32.ofInt v19)), some (.int (Int32.ofInt v20)), some (.int (Int32.ofInt m21)), some (.int (Int32.ofInt z22)), some (.int (Int32.ofInt b23)), none], [zz_val k7, .int (Int32.ofInt (s_99 (g0 541) t day 1 0))], h112) φ by cases k7 <;> exact yy_fin.steps (n := 1) rfl K113
  suffices J114 : ∀ v114 : Int, v114 = s_99 (g0 541) t day 1 0 → yy_fin X 279 (953, [some (.ref 1), some (.ref w), some (.ref 0), some (.int (Int32.ofInt fr)), some (.int (Int32.ofInt (t : Int))), some (.int (Int32.ofInt day)), some (zz_val k6), some (zz_val k7), some (.int (Int32.ofInt p8)), some (.ref k9), some (.int (Int32.ofInt s)), some (zz_val q11), some (.int (Int32.ofInt p12)), some (.ref q13), some (.ref q14), some (.int (Int32.ofInt 1)), some (zz_val q16), some (.int (Int32.ofInt n17)), some (.int (Int32.ofInt n18)), some (.int (Int32.ofInt v19)), some (.int (Int32.ofInt v20)), some (.int (Int32.ofInt m21)), some (.int (Int32.ofInt z22)), some (.int (Int32.ofInt b23)), none], [.int (Int32.ofInt v114), .int (Int32.ofInt (s_99 (g0 541) t day 1 0))], h112) φ by
    rcases H7 with ⟨rfl, eo115⟩ | ⟨q115, u115, l115, rfl, eo115, R115⟩
    · refine yy_fin.steps (n := 3) (s' := (953, [some (.ref 1), some (.ref w), some (.ref 0), some (.int (Int32.ofInt fr)), some (.int (Int32.ofInt (t : Int))), some (.int (Int32.ofInt day)), some (zz_val k6), some (.null), some (.int (Int32.ofInt p8)), some (.ref k9), some (.int (Int32.ofInt s)), some (zz_val q11), some (.int (Int32.ofInt p12)), some (.ref q13), some (.ref q14), some (.int (Int32.ofInt 1)), some (zz_val q16), some (.int (Int32.ofInt n17)), some (.int (Int32.ofInt n18)), some (.int (Int32.ofInt v19)), some (.int (Int32.ofInt v20)), some (.int (Int32.ofInt m21)), some (.int (Int32.ofInt z22)), some (.int (Int32.ofInt b23)), none], [.int (Int32.ofInt (-2)), .int (Int32.ofInt (s_99 (g0 541) t day 1 0))], h112)) rfl ?_
      exact J114 (-2) (by unfold s_99; rw [eo115])
    · have hb115 := hv_bnd2 F.2.2.2 ht eo115
      refine yy_fin.steps (n := 6) (s' := (950, [some (.ref 1), some (.ref w), some (.ref 0), some (.int (Int32.ofInt fr)), some (.int (Int32.ofInt (t : Int))), some (.int (Int32.ofInt day)), some (zz_val k6), some (.ref q115), some (.int (Int32.ofInt p8)), some (.ref k9), some (.int (Int32.ofInt s)), some (zz_val q11), some (.int (Int32.ofInt p12)), some (.ref q13), some (.ref q14), some (.int (Int32.ofInt 1)), some (zz_val q16), some (.int (Int32.ofInt n17)), some (.int (Int32.ofInt n18)), some (.int (Int32.ofInt v19)), some (.int (Int32.ofInt v20)), some (.int (Int32.ofInt m21)), some (.int (Int32.ofInt z22)), some (.int (Int32.ofInt b23)), none], [.int ((Int32.ofInt 3) * (Int32.ofInt 1)), .ref q115, .ref w, .int (Int32.ofInt (s_99 (g0 541) t day 1 0))], h112)) rfl ?_
      rw [yi_mul 3 1]
      obtain ⟨fw116, oW116⟩ := C.ow
      refine yy_fin.cv (as := [.ref q115, .int (Int32.ofInt (3 * 1))]) rfl rfl rfl oW116 (Nat.le_of_ble_eq_true rfl) (Nat.le_of_ble_eq_true rfl) (yc_hour F C R115 (hr := 3 * 1) (by omega) (by omega) (by omega)) ?_
      rintro v h9 ⟨rfl, e9⟩
      obtain rfl := e9.symm
      exact J114 (u115 + yk (g0 541 1).toInt ((3 * 1) * (g0 541 1).toInt) l115) (by unfold s_99; rw [eo115]; show u115 + yk (g0 541 1).toInt ((3 * 1) * (g0 541 1).toInt) l115 = u115 + s_h (3 * 1) l115; rw [yk_h (q := (g0 541 1).toInt) (x := 3 * 1) (l := l115) hq.1 (by omega) (by omega)])
  intro v114 ev114
  refine yy_fin.ic rfl (fun cz => absurd (congrArg Int32.ofInt ev114.symm) (y_cne cz)) (fun _ => ?_)
  refine yy_fin.steps (n := 5) (s' := (964, [some (.ref 1), some (.ref w), some (.ref 0), some (.int (Int32.ofInt fr)), some (.int (Int32.ofInt (t : Int))), some (.int (Int32.ofInt day)), some (zz_val k6), some (zz_val k7), some (.int (Int32.ofInt p8)), some (.ref k9), some (.int (Int32.ofInt s)), some (zz_val q11), some (.int (Int32.ofInt p12)), some (.ref q13), some (.ref q14), some (.int (Int32.ofInt 1)), some (zz_val q16), some (.int (Int32.ofInt n17)), some (.int (Int32.ofInt n18)), some (.int (Int32.ofInt v19)), some (.int (Int32.ofInt v20)), some (.int (Int32.ofInt m21)), some (.int (Int32.ofInt z22)), some (.int (Int32.ofInt b23)), none], [.int (Int32.ofInt 1), .int (Int32.ofInt 1), .int (Int32.ofInt day), .int (Int32.ofInt (t : Int)), .ref 1], h112)) rfl ?_
  obtain ⟨g117, r117⟩ := qi_99 F C ht hd (k := 1) (i := 1) (by omega) (Or.inr rfl)
  obtain ⟨fs117, oo117⟩ := C.o
  refine yy_fin.cv (as := [.int (Int32.ofInt (t : Int)), .int (Int32.ofInt day), .int (Int32.ofInt 1), .int (Int32.ofInt 1)]) rfl rfl rfl oo117 (Nat.le_of_ble_eq_true rfl) (Nat.le_of_ble_eq_true rfl) r117 ?_
  rintro v h117 ⟨rfl, C, x117⟩
  replace H6 := H6.k x117
  replace H7 := H7.k x117
  replace Y := Y.tr x117 (fun _ _ e => e)
  replace hY := Y.1
  suffices K118 : yy_fin X 279 (969, [some (.ref 1), some (.ref w), some (.ref 0), some (.int (Int32.ofInt fr)), some (.int (Int32.ofInt (t : Int))), some (.int (Int32.ofInt day)), some (zz_val k6), some (zz_val k7), some (.int (Int32.ofInt p8)), some (.ref k9), some (.int (Int32.ofInt s)), some (zz_val q11), some (.int (Int32.ofInt p12)), some (.ref q13), some (.ref q14), some (.int (Int32.ofInt 1)), some (zz_val q16), some (.int (Int32.ofInt n17)), some (.int (Int32.ofInt n18)), some (.int (Int32.ofInt v19)), some (.int (Int32.ofInt v20)), some (.int (Int32.ofInt m21)), some (.int (Int32.ofInt z22)), some (.int (Int32.ofInt b23)), none], [zz_val k7, .int (Int32.ofInt (s_99 (g0 541) t day 1 1))], h117) φ by cases k7 <;> exact yy_fin.steps (n := 1) rfl K118
  suffices J119 : ∀ v119 : Int, v119 = s_99 (g0 541) t day 1 1 → yy_fin X 279 (1000, [some (.ref 1), some (.ref w), some (.ref 0), some (.int (Int32.ofInt fr)), some (.int (Int32.ofInt (t : Int))), some (.int (Int32.ofInt day)), some (zz_val k6), some (zz_val k7), some (.int (Int32.ofInt p8)), some (.ref k9), some (.int (Int32.ofInt s)), some (zz_val q11), some (.int (Int32.ofInt p12)), some (.ref q13), some (.ref q14), some (.int (Int32.ofInt 1)), some (zz_val q16), some (.int (Int32.ofInt n17)), some (.int (Int32.ofInt n18)), some (.int (Int32.ofInt v19)), some (.int (Int32.ofInt v20)), some (.int (Int32.ofInt m21)), some (.int (Int32.ofInt z22)), some (.int (Int32.ofInt b23)), none], [.int (Int32.ofInt v119), .int (Int32.ofInt (s_99 (g0 541) t day 1 1))], h117) φ by
    rcases H7 with ⟨rfl, eo120⟩ | ⟨q120, u120, l120, rfl, eo120, R120⟩
    · refine yy_fin.steps (n := 3) (s' := (1000, [some (.ref 1), some (.ref w), some (.ref 0), some (.int (Int32.ofInt fr)), some (.int (Int32.ofInt (t : Int))), some (.int (Int32.ofInt day)), some (zz_val k6), some (.null), some (.int (Int32.ofInt p8)), some (.ref k9), some (.int (Int32.ofInt s)), some (zz_val q11), some (.int (Int32.ofInt p12)), some (.ref q13), some (.ref q14), some (.int (Int32.ofInt 1)), some (zz_val q16), some (.int (Int32.ofInt n17)), some (.int (Int32.ofInt n18)), some (.int (Int32.ofInt v19)), some (.int (Int32.ofInt v20)), some (.int (Int32.ofInt m21)), some (.int (Int32.ofInt z22)), some (.int (Int32.ofInt b23)), none], [.int (Int32.ofInt (-2)), .int (Int32.ofInt (s_99 (g0 541) t day 1 1))], h117)) rfl ?_
      exact J119 (-2) (by unfold s_99; rw [eo120])
    · have hb120 := hv_bnd2 F.2.2.2 ht eo120
      refine yy_fin.steps (n := 8) (s' := (986, [some (.ref 1), some (.ref w), some (.ref 0), some (.int (Int32.ofInt fr)), some (.int (Int32.ofInt (t : Int))), some (.int (Int32.ofInt day)), some (zz_val k6), some (.ref q120), some (.int (Int32.ofInt p8)), some (.ref k9), some (.int (Int32.ofInt s)), some (zz_val q11), some (.int (Int32.ofInt p12)), some (.ref q13), some (.ref q14), some (.int (Int32.ofInt 1)), some (zz_val q16), some (.int (Int32.ofInt n17)), some (.int (Int32.ofInt n18)), some (.int (Int32.ofInt v19)), some (.int (Int32.ofInt v20)), some (.int (Int32.ofInt m21)), some (.int (Int32.ofInt z22)), some (.int (Int32.ofInt b23)), none], [.int (((Int32.ofInt 3) * (Int32.ofInt 1)) + (Int32.ofInt 3)), .ref q120, .ref w, .int (Int32.ofInt (s_99 (g0 541) t day 1 1))], h117)) rfl ?_
      rw [yi_mul 3 1]
      rw [yi_add (3 * 1) 3]
      obtain ⟨fw121, oW121⟩ := C.ow
      refine yy_fin.cv (as := [.ref q120, .int (Int32.ofInt ((3 * 1) + 3))]) rfl rfl rfl oW121 (Nat.le_of_ble_eq_true rfl) (Nat.le_of_ble_eq_true rfl) (yc_hour F C R120 (hr := (3 * 1) + 3) (by omega) (by omega) (by omega)) ?_
      rintro v h9 ⟨rfl, e9⟩
      obtain rfl := e9.symm
      refine yy_fin.steps (n := 5) (s' := (996, [some (.ref 1), some (.ref w), some (.ref 0), some (.int (Int32.ofInt fr)), some (.int (Int32.ofInt (t : Int))), some (.int (Int32.ofInt day)), some (zz_val k6), some (.ref q120), some (.int (Int32.ofInt p8)), some (.ref k9), some (.int (Int32.ofInt s)), some (zz_val q11), some (.int (Int32.ofInt p12)), some (.ref q13), some (.ref q14), some (.int (Int32.ofInt 1)), some (zz_val q16), some (.int (Int32.ofInt n17)), some (.int (Int32.ofInt n18)), some (.int (Int32.ofInt v19)), some (.int (Int32.ofInt v20)), some (.int (Int32.ofInt m21)), some (.int (Int32.ofInt z22)), some (.int (Int32.ofInt b23)), none], [.int ((Int32.ofInt 3) * (Int32.ofInt 1)), .ref q120, .ref w, .int (Int32.ofInt (u120 + yk (g0 541 1).toInt (((3 * 1) + 3) * (g0 541 1).toInt) l120)), .int (Int32.ofInt (s_99 (g0 541) t day 1 1))], h117)) rfl ?_
      rw [yi_mul 3 1]
      obtain ⟨fw122, oW122⟩ := C.ow
      refine yy_fin.cv (as := [.ref q120, .int (Int32.ofInt (3 * 1))]) rfl rfl rfl oW122 (Nat.le_of_ble_eq_true rfl) (Nat.le_of_ble_eq_true rfl) (yc_hour F C R120 (hr := 3 * 1) (by omega) (by omega) (by omega)) ?_
      rintro v h9 ⟨rfl, e9⟩
      obtain rfl := e9.symm
      refine yy_fin.steps (n := 1) (s' := (1000, [some (.ref 1), some (.ref w), some (.ref 0), some (.int (Int32.ofInt fr)), some (.int (Int32.ofInt (t : Int))), some (.int (Int32.ofInt day)), some (zz_val k6), some (.ref q120), some (.int (Int32.ofInt p8)), some (.ref k9), some (.int (Int32.ofInt s)), some (zz_val q11), some (.int (Int32.ofInt p12)), some (.ref q13), some (.ref q14), some (.int (Int32.ofInt 1)), some (zz_val q16), some (.int (Int32.ofInt n17)), some (.int (Int32.ofInt n18)), some (.int (Int32.ofInt v19)), some (.int (Int32.ofInt v20)), some (.int (Int32.ofInt m21)), some (.int (Int32.ofInt z22)), some (.int (Int32.ofInt b23)), none], [.int ((Int32.ofInt (u120 + yk (g0 541 1).toInt (((3 * 1) + 3) * (g0 541 1).toInt) l120)) - (Int32.ofInt (u120 + yk (g0 541 1).toInt ((3 * 1) * (g0 541 1).toInt) l120))), .int (Int32.ofInt (s_99 (g0 541) t day 1 1))], h117)) rfl ?_
      rw [yi_sub (u120 + yk (g0 541 1).toInt (((3 * 1) + 3) * (g0 541 1).toInt) l120) (u120 + yk (g0 541 1).toInt ((3 * 1) * (g0 541 1).toInt) l120)]
      exact J119 ((u120 + yk (g0 541 1).toInt (((3 * 1) + 3) * (g0 541 1).toInt) l120) - (u120 + yk (g0 541 1).toInt ((3 * 1) * (g0 541 1).toInt) l120)) (by unfold s_99; rw [eo120]; show u120 + yk (g0 541 1).toInt ((3 * 1 + 3) * (g0 541 1).toInt) l120 - (u120 + yk (g0 541 1).toInt ((3 * 1) * (g0 541 1).toInt) l120) = s_h (3 * 1 + 3) l120 - s_h (3 * 1) l120; rw [yk_h (q := (g0 541 1).toInt) (x := 3 * 1 + 3) (l := l120) hq.1 (by omega) (by omega), yk_h (q := (g0 541 1).toInt) (x := 3 * 1) (l := l120) hq.1 (by omega) (by omega)]; omega)
  intro v119 ev119
  refine yy_fin.ic rfl (fun _ => ?_) (fun cz => absurd (y_ceq (congrArg Int32.ofInt ev119.symm)) cz)
  refine yy_fin.steps (n := 4) (s' := (919, [some (.ref 1), some (.ref w), some (.ref 0), some (.int (Int32.ofInt fr)), some (.int (Int32.ofInt (t : Int))), some (.int (Int32.ofInt day)), some (zz_val k6), some (zz_val k7), some (.int (Int32.ofInt p8)), some (.ref k9), some (.int (Int32.ofInt s)), some (zz_val q11), some (.int (Int32.ofInt p12)), some (.ref q13), some (.ref q14), some (.int ((Int32.ofInt 1) + (Int32.ofInt 1))), some (zz_val q16), some (.int (Int32.ofInt n17)), some (.int (Int32.ofInt n18)), some (.int (Int32.ofInt v19)), some (.int (Int32.ofInt v20)), some (.int (Int32.ofInt m21)), some (.int (Int32.ofInt z22)), some (.int (Int32.ofInt b23)), none], [.int (Int32.ofInt 4), .int ((Int32.ofInt 1) + (Int32.ofInt 1))], h117)) rfl ?_
  rw [show (Int32.ofInt 1) + (Int32.ofInt 1) = Int32.ofInt 2 from by decide]
  refine yy_fin.ic rfl (fun cK => absurd cK (by decide)) (fun cK => ?_)
  refine yy_fin.steps (n := 5) (s' := (930, [some (.ref 1), some (.ref w), some (.ref 0), some (.int (Int32.ofInt fr)), some (.int (Int32.ofInt (t : Int))), some (.int (Int32.ofInt day)), some (zz_val k6), some (zz_val k7), some (.int (Int32.ofInt p8)), some (.ref k9), some (.int (Int32.ofInt s)), some (zz_val q11), some (.int (Int32.ofInt p12)), some (.ref q13), some (.ref q14), some (.int (Int32.ofInt 2)), some (zz_val q16), some (.int (Int32.ofInt n17)), some (.int (Int32.ofInt n18)), some (.int (Int32.ofInt v19)), some (.int (Int32.ofInt v20)), some (.int (Int32.ofInt m21)), some (.int (Int32.ofInt z22)), some (.int (Int32.ofInt b23)), none], [.int (Int32.ofInt 0), .int (Int32.ofInt 2), .int (Int32.ofInt day), .int (Int32.ofInt (t : Int)), .ref 1], h117)) rfl ?_
  obtain ⟨g123, r123⟩ := qi_99 F C ht hd (k := 2) (i := 0) (by omega) (Or.inl rfl)
  obtain ⟨fs123, oo123⟩ := C.o
  refine yy_fin.cv (as := [.int (Int32.ofInt (t : Int)), .int (Int32.ofInt day), .int (Int32.ofInt 2), .int (Int32.ofInt 0)]) rfl rfl rfl oo123 (Nat.le_of_ble_eq_true rfl) (Nat.le_of_ble_eq_true rfl) r123 ?_
  rintro v h123 ⟨rfl, C, x123⟩
  replace H6 := H6.k x123
  replace H7 := H7.k x123
  replace Y := Y.tr x123 (fun _ _ e => e)
  replace hY := Y.1
  suffices K124 : yy_fin X 279 (935, [some (.ref 1), some (.ref w), some (.ref 0), some (.int (Int32.ofInt fr)), some (.int (Int32.ofInt (t : Int))), some (.int (Int32.ofInt day)), some (zz_val k6), some (zz_val k7), some (.int (Int32.ofInt p8)), some (.ref k9), some (.int (Int32.ofInt s)), some (zz_val q11), some (.int (Int32.ofInt p12)), some (.ref q13), some (.ref q14), some (.int (Int32.ofInt 2)), some (zz_val q16), some (.int (Int32.ofInt n17)), some (.int (Int32.ofInt n18)), some (.int (Int32.ofInt v19)), some (.int (Int32.ofInt v20)), some (.int (Int32.ofInt m21)), some (.int (Int32.ofInt z22)), some (.int (Int32.ofInt b23)), none], [zz_val k7, .int (Int32.ofInt (s_99 (g0 541) t day 2 0))], h123) φ by cases k7 <;> exact yy_fin.steps (n := 1) rfl K124
  suffices J125 : ∀ v125 : Int, v125 = s_99 (g0 541) t day 2 0 → yy_fin X 279 (953, [some (.ref 1), some (.ref w), some (.ref 0), some (.int (Int32.ofInt fr)), some (.int (Int32.ofInt (t : Int))), some (.int (Int32.ofInt day)), some (zz_val k6), some (zz_val k7), some (.int (Int32.ofInt p8)), some (.ref k9), some (.int (Int32.ofInt s)), some (zz_val q11), some (.int (Int32.ofInt p12)), some (.ref q13), some (.ref q14), some (.int (Int32.ofInt 2)), some (zz_val q16), some (.int (Int32.ofInt n17)), some (.int (Int32.ofInt n18)), some (.int (Int32.ofInt v19)), some (.int (Int32.ofInt v20)), some (.int (Int32.ofInt m21)), some (.int (Int32.ofInt z22)), some (.int (Int32.ofInt b23)), none], [.int (Int32.ofInt v125), .int (Int32.ofInt (s_99 (g0 541) t day 2 0))], h123) φ by
    rcases H7 with ⟨rfl, eo126⟩ | ⟨q126, u126, l126, rfl, eo126, R126⟩
    · refine yy_fin.steps (n := 3) (s' := (953, [some (.ref 1), some (.ref w), some (.ref 0), some (.int (Int32.ofInt fr)), some (.int (Int32.ofInt (t : Int))), some (.int (Int32.ofInt day)), some (zz_val k6), some (.null), some (.int (Int32.ofInt p8)), some (.ref k9), some (.int (Int32.ofInt s)), some (zz_val q11), some (.int (Int32.ofInt p12)), some (.ref q13), some (.ref q14), some (.int (Int32.ofInt 2)), some (zz_val q16), some (.int (Int32.ofInt n17)), some (.int (Int32.ofInt n18)), some (.int (Int32.ofInt v19)), some (.int (Int32.ofInt v20)), some (.int (Int32.ofInt m21)), some (.int (Int32.ofInt z22)), some (.int (Int32.ofInt b23)), none], [.int (Int32.ofInt (-2)), .int (Int32.ofInt (s_99 (g0 541) t day 2 0))], h123)) rfl ?_
      exact J125 (-2) (by unfold s_99; rw [eo126])
    · have hb126 := hv_bnd2 F.2.2.2 ht eo126
      refine yy_fin.steps (n := 6) (s' := (950, [some (.ref 1), some (.ref w), some (.ref 0), some (.int (Int32.ofInt fr)), some (.int (Int32.ofInt (t : Int))), some (.int (Int32.ofInt day)), some (zz_val k6), some (.ref q126), some (.int (Int32.ofInt p8)), some (.ref k9), some (.int (Int32.ofInt s)), some (zz_val q11), some (.int (Int32.ofInt p12)), some (.ref q13), some (.ref q14), some (.int (Int32.ofInt 2)), some (zz_val q16), some (.int (Int32.ofInt n17)), some (.int (Int32.ofInt n18)), some (.int (Int32.ofInt v19)), some (.int (Int32.ofInt v20)), some (.int (Int32.ofInt m21)), some (.int (Int32.ofInt z22)), some (.int (Int32.ofInt b23)), none], [.int ((Int32.ofInt 3) * (Int32.ofInt 2)), .ref q126, .ref w, .int (Int32.ofInt (s_99 (g0 541) t day 2 0))], h123)) rfl ?_
      rw [yi_mul 3 2]
      obtain ⟨fw127, oW127⟩ := C.ow
      refine yy_fin.cv (as := [.ref q126, .int (Int32.ofInt (3 * 2))]) rfl rfl rfl oW127 (Nat.le_of_ble_eq_true rfl) (Nat.le_of_ble_eq_true rfl) (yc_hour F C R126 (hr := 3 * 2) (by omega) (by omega) (by omega)) ?_
      rintro v h9 ⟨rfl, e9⟩
      obtain rfl := e9.symm
      exact J125 (u126 + yk (g0 541 1).toInt ((3 * 2) * (g0 541 1).toInt) l126) (by unfold s_99; rw [eo126]; show u126 + yk (g0 541 1).toInt ((3 * 2) * (g0 541 1).toInt) l126 = u126 + s_h (3 * 2) l126; rw [yk_h (q := (g0 541 1).toInt) (x := 3 * 2) (l := l126) hq.1 (by omega) (by omega)])
  intro v125 ev125
  refine yy_fin.ic rfl (fun cz => absurd (congrArg Int32.ofInt ev125.symm) (y_cne cz)) (fun _ => ?_)
  refine yy_fin.steps (n := 5) (s' := (964, [some (.ref 1), some (.ref w), some (.ref 0), some (.int (Int32.ofInt fr)), some (.int (Int32.ofInt (t : Int))), some (.int (Int32.ofInt day)), some (zz_val k6), some (zz_val k7), some (.int (Int32.ofInt p8)), some (.ref k9), some (.int (Int32.ofInt s)), some (zz_val q11), some (.int (Int32.ofInt p12)), some (.ref q13), some (.ref q14), some (.int (Int32.ofInt 2)), some (zz_val q16), some (.int (Int32.ofInt n17)), some (.int (Int32.ofInt n18)), some (.int (Int32.ofInt v19)), some (.int (Int32.ofInt v20)), some (.int (Int32.ofInt m21)), some (.int (Int32.ofInt z22)), some (.int (Int32.ofInt b23)), none], [.int (Int32.ofInt 1), .int (Int32.ofInt 2), .int (Int32.ofInt day), .int (Int32.ofInt (t : Int)), .ref 1], h123)) rfl ?_
  obtain ⟨g128, r128⟩ := qi_99 F C ht hd (k := 2) (i := 1) (by omega) (Or.inr rfl)
  obtain ⟨fs128, oo128⟩ := C.o
  refine yy_fin.cv (as := [.int (Int32.ofInt (t : Int)), .int (Int32.ofInt day), .int (Int32.ofInt 2), .int (Int32.ofInt 1)]) rfl rfl rfl oo128 (Nat.le_of_ble_eq_true rfl) (Nat.le_of_ble_eq_true rfl) r128 ?_
  rintro v h128 ⟨rfl, C, x128⟩
  replace H6 := H6.k x128
  replace H7 := H7.k x128
  replace Y := Y.tr x128 (fun _ _ e => e)
  replace hY := Y.1
  suffices K129 : yy_fin X 279 (969, [some (.ref 1), some (.ref w), some (.ref 0), some (.int (Int32.ofInt fr)), some (.int (Int32.ofInt (t : Int))), some (.int (Int32.ofInt day)), some (zz_val k6), some (zz_val k7), some (.int (Int32.ofInt p8)), some (.ref k9), some (.int (Int32.ofInt s)), some (zz_val q11), some (.int (Int32.ofInt p12)), some (.ref q13), some (.ref q14), some (.int (Int32.ofInt 2)), some (zz_val q16), some (.int (Int32.ofInt n17)), some (.int (Int32.ofInt n18)), some (.int (Int32.ofInt v19)), some (.int (Int32.ofInt v20)), some (.int (Int32.ofInt m21)), some (.int (Int32.ofInt z22)), some (.int (Int32.ofInt b23)), none], [zz_val k7, .int (Int32.ofInt (s_99 (g0 541) t day 2 1))], h128) φ by cases k7 <;> exact yy_fin.steps (n := 1) rfl K129
  suffices J130 : ∀ v130 : Int, v130 = s_99 (g0 541) t day 2 1 → yy_fin X 279 (1000, [some (.ref 1), some (.ref w), some (.ref 0), some (.int (Int32.ofInt fr)), some (.int (Int32.ofInt (t : Int))), some (.int (Int32.ofInt day)), some (zz_val k6), some (zz_val k7), some (.int (Int32.ofInt p8)), some (.ref k9), some (.int (Int32.ofInt s)), some (zz_val q11), some (.int (Int32.ofInt p12)), some (.ref q13), some (.ref q14), some (.int (Int32.ofInt 2)), some (zz_val q16), some (.int (Int32.ofInt n17)), some (.int (Int32.ofInt n18)), some (.int (Int32.ofInt v19)), some (.int (Int32.ofInt v20)), some (.int (Int32.ofInt m21)), some (.int (Int32.ofInt z22)), some (.int (Int32.ofInt b23)), none], [.int (Int32.ofInt v130), .int (Int32.ofInt (s_99 (g0 541) t day 2 1))], h128) φ by
    rcases H7 with ⟨rfl, eo131⟩ | ⟨q131, u131, l131, rfl, eo131, R131⟩
    · refine yy_fin.steps (n := 3) (s' := (1000, [some (.ref 1), some (.ref w), some (.ref 0), some (.int (Int32.ofInt fr)), some (.int (Int32.ofInt (t : Int))), some (.int (Int32.ofInt day)), some (zz_val k6), some (.null), some (.int (Int32.ofInt p8)), some (.ref k9), some (.int (Int32.ofInt s)), some (zz_val q11), some (.int (Int32.ofInt p12)), some (.ref q13), some (.ref q14), some (.int (Int32.ofInt 2)), some (zz_val q16), some (.int (Int32.ofInt n17)), some (.int (Int32.ofInt n18)), some (.int (Int32.ofInt v19)), some (.int (Int32.ofInt v20)), some (.int (Int32.ofInt m21)), some (.int (Int32.ofInt z22)), some (.int (Int32.ofInt b23)), none], [.int (Int32.ofInt (-2)), .int (Int32.ofInt (s_99 (g0 541) t day 2 1))], h128)) rfl ?_
      exact J130 (-2) (by unfold s_99; rw [eo131])
    · have hb131 := hv_bnd2 F.2.2.2 ht eo131
      refine yy_fin.steps (n := 8) (s' := (986, [some (.ref 1), some (.ref w), some (.ref 0), some (.int (Int32.ofInt fr)), some (.int (Int32.ofInt (t : Int))), some (.int (Int32.ofInt day)), some (zz_val k6), some (.ref q131), some (.int (Int32.ofInt p8)), some (.ref k9), some (.int (Int32.ofInt s)), some (zz_val q11), some (.int (Int32.ofInt p12)), some (.ref q13), some (.ref q14), some (.int (Int32.ofInt 2)), some (zz_val q16), some (.int (Int32.ofInt n17)), some (.int (Int32.ofInt n18)), some (.int (Int32.ofInt v19)), some (.int (Int32.ofInt v20)), some (.int (Int32.ofInt m21)), some (.int (Int32.ofInt z22)), some (.int (Int32.ofInt b23)), none], [.int (((Int32.ofInt 3) * (Int32.ofInt 2)) + (Int32.ofInt 3)), .ref q131, .ref w, .int (Int32.ofInt (s_99 (g0 541) t day 2 1))], h128)) rfl ?_
      rw [yi_mul 3 2]
      rw [yi_add (3 * 2) 3]
      obtain ⟨fw132, oW132⟩ := C.ow
      refine yy_fin.cv (as := [.ref q131, .int (Int32.ofInt ((3 * 2) + 3))]) rfl rfl rfl oW132 (Nat.le_of_ble_eq_true rfl) (Nat.le_of_ble_eq_true rfl) (yc_hour F C R131 (hr := (3 * 2) + 3) (by omega) (by omega) (by omega)) ?_
      rintro v h9 ⟨rfl, e9⟩
      obtain rfl := e9.symm
      refine yy_fin.steps (n := 5) (s' := (996, [some (.ref 1), some (.ref w), some (.ref 0), some (.int (Int32.ofInt fr)), some (.int (Int32.ofInt (t : Int))), some (.int (Int32.ofInt day)), some (zz_val k6), some (.ref q131), some (.int (Int32.ofInt p8)), some (.ref k9), some (.int (Int32.ofInt s)), some (zz_val q11), some (.int (Int32.ofInt p12)), some (.ref q13), some (.ref q14), some (.int (Int32.ofInt 2)), some (zz_val q16), some (.int (Int32.ofInt n17)), some (.int (Int32.ofInt n18)), some (.int (Int32.ofInt v19)), some (.int (Int32.ofInt v20)), some (.int (Int32.ofInt m21)), some (.int (Int32.ofInt z22)), some (.int (Int32.ofInt b23)), none], [.int ((Int32.ofInt 3) * (Int32.ofInt 2)), .ref q131, .ref w, .int (Int32.ofInt (u131 + yk (g0 541 1).toInt (((3 * 2) + 3) * (g0 541 1).toInt) l131)), .int (Int32.ofInt (s_99 (g0 541) t day 2 1))], h128)) rfl ?_
      rw [yi_mul 3 2]
      obtain ⟨fw133, oW133⟩ := C.ow
      refine yy_fin.cv (as := [.ref q131, .int (Int32.ofInt (3 * 2))]) rfl rfl rfl oW133 (Nat.le_of_ble_eq_true rfl) (Nat.le_of_ble_eq_true rfl) (yc_hour F C R131 (hr := 3 * 2) (by omega) (by omega) (by omega)) ?_
      rintro v h9 ⟨rfl, e9⟩
      obtain rfl := e9.symm
      refine yy_fin.steps (n := 1) (s' := (1000, [some (.ref 1), some (.ref w), some (.ref 0), some (.int (Int32.ofInt fr)), some (.int (Int32.ofInt (t : Int))), some (.int (Int32.ofInt day)), some (zz_val k6), some (.ref q131), some (.int (Int32.ofInt p8)), some (.ref k9), some (.int (Int32.ofInt s)), some (zz_val q11), some (.int (Int32.ofInt p12)), some (.ref q13), some (.ref q14), some (.int (Int32.ofInt 2)), some (zz_val q16), some (.int (Int32.ofInt n17)), some (.int (Int32.ofInt n18)), some (.int (Int32.ofInt v19)), some (.int (Int32.ofInt v20)), some (.int (Int32.ofInt m21)), some (.int (Int32.ofInt z22)), some (.int (Int32.ofInt b23)), none], [.int ((Int32.ofInt (u131 + yk (g0 541 1).toInt (((3 * 2) + 3) * (g0 541 1).toInt) l131)) - (Int32.ofInt (u131 + yk (g0 541 1).toInt ((3 * 2) * (g0 541 1).toInt) l131))), .int (Int32.ofInt (s_99 (g0 541) t day 2 1))], h128)) rfl ?_
      rw [yi_sub (u131 + yk (g0 541 1).toInt (((3 * 2) + 3) * (g0 541 1).toInt) l131) (u131 + yk (g0 541 1).toInt ((3 * 2) * (g0 541 1).toInt) l131)]
      exact J130 ((u131 + yk (g0 541 1).toInt (((3 * 2) + 3) * (g0 541 1).toInt) l131) - (u131 + yk (g0 541 1).toInt ((3 * 2) * (g0 541 1).toInt) l131)) (by unfold s_99; rw [eo131]; show u131 + yk (g0 541 1).toInt ((3 * 2 + 3) * (g0 541 1).toInt) l131 - (u131 + yk (g0 541 1).toInt ((3 * 2) * (g0 541 1).toInt) l131) = s_h (3 * 2 + 3) l131 - s_h (3 * 2) l131; rw [yk_h (q := (g0 541 1).toInt) (x := 3 * 2 + 3) (l := l131) hq.1 (by omega) (by omega), yk_h (q := (g0 541 1).toInt) (x := 3 * 2) (l := l131) hq.1 (by omega) (by omega)]; omega)
  intro v130 ev130
  refine yy_fin.ic rfl (fun _ => ?_) (fun cz => absurd (y_ceq (congrArg Int32.ofInt ev130.symm)) cz)
  refine yy_fin.steps (n := 4) (s' := (919, [some (.ref 1), some (.ref w), some (.ref 0), some (.int (Int32.ofInt fr)), some (.int (Int32.ofInt (t : Int))), some (.int (Int32.ofInt day)), some (zz_val k6), some (zz_val k7), some (.int (Int32.ofInt p8)), some (.ref k9), some (.int (Int32.ofInt s)), some (zz_val q11), some (.int (Int32.ofInt p12)), some (.ref q13), some (.ref q14), some (.int ((Int32.ofInt 2) + (Int32.ofInt 1))), some (zz_val q16), some (.int (Int32.ofInt n17)), some (.int (Int32.ofInt n18)), some (.int (Int32.ofInt v19)), some (.int (Int32.ofInt v20)), some (.int (Int32.ofInt m21)), some (.int (Int32.ofInt z22)), some (.int (Int32.ofInt b23)), none], [.int (Int32.ofInt 4), .int ((Int32.ofInt 2) + (Int32.ofInt 1))], h128)) rfl ?_
  rw [show (Int32.ofInt 2) + (Int32.ofInt 1) = Int32.ofInt 3 from by decide]
  refine yy_fin.ic rfl (fun cK => absurd cK (by decide)) (fun cK => ?_)
  refine yy_fin.steps (n := 5) (s' := (930, [some (.ref 1), some (.ref w), some (.ref 0), some (.int (Int32.ofInt fr)), some (.int (Int32.ofInt (t : Int))), some (.int (Int32.ofInt day)), some (zz_val k6), some (zz_val k7), some (.int (Int32.ofInt p8)), some (.ref k9), some (.int (Int32.ofInt s)), some (zz_val q11), some (.int (Int32.ofInt p12)), some (.ref q13), some (.ref q14), some (.int (Int32.ofInt 3)), some (zz_val q16), some (.int (Int32.ofInt n17)), some (.int (Int32.ofInt n18)), some (.int (Int32.ofInt v19)), some (.int (Int32.ofInt v20)), some (.int (Int32.ofInt m21)), some (.int (Int32.ofInt z22)), some (.int (Int32.ofInt b23)), none], [.int (Int32.ofInt 0), .int (Int32.ofInt 3), .int (Int32.ofInt day), .int (Int32.ofInt (t : Int)), .ref 1], h128)) rfl ?_
  obtain ⟨g134, r134⟩ := qi_99 F C ht hd (k := 3) (i := 0) (by omega) (Or.inl rfl)
  obtain ⟨fs134, oo134⟩ := C.o
  refine yy_fin.cv (as := [.int (Int32.ofInt (t : Int)), .int (Int32.ofInt day), .int (Int32.ofInt 3), .int (Int32.ofInt 0)]) rfl rfl rfl oo134 (Nat.le_of_ble_eq_true rfl) (Nat.le_of_ble_eq_true rfl) r134 ?_
  rintro v h134 ⟨rfl, C, x134⟩
  replace H6 := H6.k x134
  replace H7 := H7.k x134
  replace Y := Y.tr x134 (fun _ _ e => e)
  replace hY := Y.1
  suffices K135 : yy_fin X 279 (935, [some (.ref 1), some (.ref w), some (.ref 0), some (.int (Int32.ofInt fr)), some (.int (Int32.ofInt (t : Int))), some (.int (Int32.ofInt day)), some (zz_val k6), some (zz_val k7), some (.int (Int32.ofInt p8)), some (.ref k9), some (.int (Int32.ofInt s)), some (zz_val q11), some (.int (Int32.ofInt p12)), some (.ref q13), some (.ref q14), some (.int (Int32.ofInt 3)), some (zz_val q16), some (.int (Int32.ofInt n17)), some (.int (Int32.ofInt n18)), some (.int (Int32.ofInt v19)), some (.int (Int32.ofInt v20)), some (.int (Int32.ofInt m21)), some (.int (Int32.ofInt z22)), some (.int (Int32.ofInt b23)), none], [zz_val k7, .int (Int32.ofInt (s_99 (g0 541) t day 3 0))], h134) φ by cases k7 <;> exact yy_fin.steps (n := 1) rfl K135
  suffices J136 : ∀ v136 : Int, v136 = s_99 (g0 541) t day 3 0 → yy_fin X 279 (953, [some (.ref 1), some (.ref w), some (.ref 0), some (.int (Int32.ofInt fr)), some (.int (Int32.ofInt (t : Int))), some (.int (Int32.ofInt day)), some (zz_val k6), some (zz_val k7), some (.int (Int32.ofInt p8)), some (.ref k9), some (.int (Int32.ofInt s)), some (zz_val q11), some (.int (Int32.ofInt p12)), some (.ref q13), some (.ref q14), some (.int (Int32.ofInt 3)), some (zz_val q16), some (.int (Int32.ofInt n17)), some (.int (Int32.ofInt n18)), some (.int (Int32.ofInt v19)), some (.int (Int32.ofInt v20)), some (.int (Int32.ofInt m21)), some (.int (Int32.ofInt z22)), some (.int (Int32.ofInt b23)), none], [.int (Int32.ofInt v136), .int (Int32.ofInt (s_99 (g0 541) t day 3 0))], h134) φ by
    rcases H7 with ⟨rfl, eo137⟩ | ⟨q137, u137, l137, rfl, eo137, R137⟩
    · refine yy_fin.steps (n := 3) (s' := (953, [some (.ref 1), some (.ref w), some (.ref 0), some (.int (Int32.ofInt fr)), some (.int (Int32.ofInt (t : Int))), some (.int (Int32.ofInt day)), some (zz_val k6), some (.null), some (.int (Int32.ofInt p8)), some (.ref k9), some (.int (Int32.ofInt s)), some (zz_val q11), some (.int (Int32.ofInt p12)), some (.ref q13), some (.ref q14), some (.int (Int32.ofInt 3)), some (zz_val q16), some (.int (Int32.ofInt n17)), some (.int (Int32.ofInt n18)), some (.int (Int32.ofInt v19)), some (.int (Int32.ofInt v20)), some (.int (Int32.ofInt m21)), some (.int (Int32.ofInt z22)), some (.int (Int32.ofInt b23)), none], [.int (Int32.ofInt (-2)), .int (Int32.ofInt (s_99 (g0 541) t day 3 0))], h134)) rfl ?_
      exact J136 (-2) (by unfold s_99; rw [eo137])
    · have hb137 := hv_bnd2 F.2.2.2 ht eo137
      refine yy_fin.steps (n := 6) (s' := (950, [some (.ref 1), some (.ref w), some (.ref 0), some (.int (Int32.ofInt fr)), some (.int (Int32.ofInt (t : Int))), some (.int (Int32.ofInt day)), some (zz_val k6), some (.ref q137), some (.int (Int32.ofInt p8)), some (.ref k9), some (.int (Int32.ofInt s)), some (zz_val q11), some (.int (Int32.ofInt p12)), some (.ref q13), some (.ref q14), some (.int (Int32.ofInt 3)), some (zz_val q16), some (.int (Int32.ofInt n17)), some (.int (Int32.ofInt n18)), some (.int (Int32.ofInt v19)), some (.int (Int32.ofInt v20)), some (.int (Int32.ofInt m21)), some (.int (Int32.ofInt z22)), some (.int (Int32.ofInt b23)), none], [.int ((Int32.ofInt 3) * (Int32.ofInt 3)), .ref q137, .ref w, .int (Int32.ofInt (s_99 (g0 541) t day 3 0))], h134)) rfl ?_
      rw [yi_mul 3 3]
      obtain ⟨fw138, oW138⟩ := C.ow
      refine yy_fin.cv (as := [.ref q137, .int (Int32.ofInt (3 * 3))]) rfl rfl rfl oW138 (Nat.le_of_ble_eq_true rfl) (Nat.le_of_ble_eq_true rfl) (yc_hour F C R137 (hr := 3 * 3) (by omega) (by omega) (by omega)) ?_
      rintro v h9 ⟨rfl, e9⟩
      obtain rfl := e9.symm
      exact J136 (u137 + yk (g0 541 1).toInt ((3 * 3) * (g0 541 1).toInt) l137) (by unfold s_99; rw [eo137]; show u137 + yk (g0 541 1).toInt ((3 * 3) * (g0 541 1).toInt) l137 = u137 + s_h (3 * 3) l137; rw [yk_h (q := (g0 541 1).toInt) (x := 3 * 3) (l := l137) hq.1 (by omega) (by omega)])
  intro v136 ev136
  refine yy_fin.ic rfl (fun cz => absurd (congrArg Int32.ofInt ev136.symm) (y_cne cz)) (fun _ => ?_)
  refine yy_fin.steps (n := 5) (s' := (964, [some (.ref 1), some (.ref w), some (.ref 0), some (.int (Int32.ofInt fr)), some (.int (Int32.ofInt (t : Int))), some (.int (Int32.ofInt day)), some (zz_val k6), some (zz_val k7), some (.int (Int32.ofInt p8)), some (.ref k9), some (.int (Int32.ofInt s)), some (zz_val q11), some (.int (Int32.ofInt p12)), some (.ref q13), some (.ref q14), some (.int (Int32.ofInt 3)), some (zz_val q16), some (.int (Int32.ofInt n17)), some (.int (Int32.ofInt n18)), some (.int (Int32.ofInt v19)), some (.int (Int32.ofInt v20)), some (.int (Int32.ofInt m21)), some (.int (Int32.ofInt z22)), some (.int (Int32.ofInt b23)), none], [.int (Int32.ofInt 1), .int (Int32.ofInt 3), .int (Int32.ofInt day), .int (Int32.ofInt (t : Int)), .ref 1], h134)) rfl ?_
  obtain ⟨g139, r139⟩ := qi_99 F C ht hd (k := 3) (i := 1) (by omega) (Or.inr rfl)
  obtain ⟨fs139, oo139⟩ := C.o
  refine yy_fin.cv (as := [.int (Int32.ofInt (t : Int)), .int (Int32.ofInt day), .int (Int32.ofInt 3), .int (Int32.ofInt 1)]) rfl rfl rfl oo139 (Nat.le_of_ble_eq_true rfl) (Nat.le_of_ble_eq_true rfl) r139 ?_
  rintro v h139 ⟨rfl, C, x139⟩
  replace H6 := H6.k x139
  replace H7 := H7.k x139
  replace Y := Y.tr x139 (fun _ _ e => e)
  replace hY := Y.1
  suffices K140 : yy_fin X 279 (969, [some (.ref 1), some (.ref w), some (.ref 0), some (.int (Int32.ofInt fr)), some (.int (Int32.ofInt (t : Int))), some (.int (Int32.ofInt day)), some (zz_val k6), some (zz_val k7), some (.int (Int32.ofInt p8)), some (.ref k9), some (.int (Int32.ofInt s)), some (zz_val q11), some (.int (Int32.ofInt p12)), some (.ref q13), some (.ref q14), some (.int (Int32.ofInt 3)), some (zz_val q16), some (.int (Int32.ofInt n17)), some (.int (Int32.ofInt n18)), some (.int (Int32.ofInt v19)), some (.int (Int32.ofInt v20)), some (.int (Int32.ofInt m21)), some (.int (Int32.ofInt z22)), some (.int (Int32.ofInt b23)), none], [zz_val k7, .int (Int32.ofInt (s_99 (g0 541) t day 3 1))], h139) φ by cases k7 <;> exact yy_fin.steps (n := 1) rfl K140
  suffices J141 : ∀ v141 : Int, v141 = s_99 (g0 541) t day 3 1 → yy_fin X 279 (1000, [some (.ref 1), some (.ref w), some (.ref 0), some (.int (Int32.ofInt fr)), some (.int (Int32.ofInt (t : Int))), some (.int (Int32.ofInt day)), some (zz_val k6), some (zz_val k7), some (.int (Int32.ofInt p8)), some (.ref k9), some (.int (Int32.ofInt s)), some (zz_val q11), some (.int (Int32.ofInt p12)), some (.ref q13), some (.ref q14), some (.int (Int32.ofInt 3)), some (zz_val q16), some (.int (Int32.ofInt n17)), some (.int (Int32.ofInt n18)), some (.int (Int32.ofInt v19)), some (.int (Int32.ofInt v20)), some (.int (Int32.ofInt m21)), some (.int (Int32.ofInt z22)), some (.int (Int32.ofInt b23)), none], [.int (Int32.ofInt v141), .int (Int32.ofInt (s_99 (g0 541) t day 3 1))], h139) φ by
    rcases H7 with ⟨rfl, eo142⟩ | ⟨q142, u142, l142, rfl, eo142, R142⟩
    · refine yy_fin.steps (n := 3) (s' := (1000, [some (.ref 1), some (.ref w), some (.ref 0), some (.int (Int32.ofInt fr)), some (.int (Int32.ofInt (t : Int))), some (.int (Int32.ofInt day)), some (zz_val k6), some (.null), some (.int (Int32.ofInt p8)), some (.ref k9), some (.int (Int32.ofInt s)), some (zz_val q11), some (.int (Int32.ofInt p12)), some (.ref q13), some (.ref q14), some (.int (Int32.ofInt 3)), some (zz_val q16), some (.int (Int32.ofInt n17)), some (.int (Int32.ofInt n18)), some (.int (Int32.ofInt v19)), some (.int (Int32.ofInt v20)), some (.int (Int32.ofInt m21)), some (.int (Int32.ofInt z22)), some (.int (Int32.ofInt b23)), none], [.int (Int32.ofInt (-2)), .int (Int32.ofInt (s_99 (g0 541) t day 3 1))], h139)) rfl ?_
      exact J141 (-2) (by unfold s_99; rw [eo142])
    · have hb142 := hv_bnd2 F.2.2.2 ht eo142
      refine yy_fin.steps (n := 8) (s' := (986, [some (.ref 1), some (.ref w), some (.ref 0), some (.int (Int32.ofInt fr)), some (.int (Int32.ofInt (t : Int))), some (.int (Int32.ofInt day)), some (zz_val k6), some (.ref q142), some (.int (Int32.ofInt p8)), some (.ref k9), some (.int (Int32.ofInt s)), some (zz_val q11), some (.int (Int32.ofInt p12)), some (.ref q13), some (.ref q14), some (.int (Int32.ofInt 3)), some (zz_val q16), some (.int (Int32.ofInt n17)), some (.int (Int32.ofInt n18)), some (.int (Int32.ofInt v19)), some (.int (Int32.ofInt v20)), some (.int (Int32.ofInt m21)), some (.int (Int32.ofInt z22)), some (.int (Int32.ofInt b23)), none], [.int (((Int32.ofInt 3) * (Int32.ofInt 3)) + (Int32.ofInt 3)), .ref q142, .ref w, .int (Int32.ofInt (s_99 (g0 541) t day 3 1))], h139)) rfl ?_
      rw [yi_mul 3 3]
      rw [yi_add (3 * 3) 3]
      obtain ⟨fw143, oW143⟩ := C.ow
      refine yy_fin.cv (as := [.ref q142, .int (Int32.ofInt ((3 * 3) + 3))]) rfl rfl rfl oW143 (Nat.le_of_ble_eq_true rfl) (Nat.le_of_ble_eq_true rfl) (yc_hour F C R142 (hr := (3 * 3) + 3) (by omega) (by omega) (by omega)) ?_
      rintro v h9 ⟨rfl, e9⟩
      obtain rfl := e9.symm
      refine yy_fin.steps (n := 5) (s' := (996, [some (.ref 1), some (.ref w), some (.ref 0), some (.int (Int32.ofInt fr)), some (.int (Int32.ofInt (t : Int))), some (.int (Int32.ofInt day)), some (zz_val k6), some (.ref q142), some (.int (Int32.ofInt p8)), some (.ref k9), some (.int (Int32.ofInt s)), some (zz_val q11), some (.int (Int32.ofInt p12)), some (.ref q13), some (.ref q14), some (.int (Int32.ofInt 3)), some (zz_val q16), some (.int (Int32.ofInt n17)), some (.int (Int32.ofInt n18)), some (.int (Int32.ofInt v19)), some (.int (Int32.ofInt v20)), some (.int (Int32.ofInt m21)), some (.int (Int32.ofInt z22)), some (.int (Int32.ofInt b23)), none], [.int ((Int32.ofInt 3) * (Int32.ofInt 3)), .ref q142, .ref w, .int (Int32.ofInt (u142 + yk (g0 541 1).toInt (((3 * 3) + 3) * (g0 541 1).toInt) l142)), .int (Int32.ofInt (s_99 (g0 541) t day 3 1))], h139)) rfl ?_
      rw [yi_mul 3 3]
      obtain ⟨fw144, oW144⟩ := C.ow
      refine yy_fin.cv (as := [.ref q142, .int (Int32.ofInt (3 * 3))]) rfl rfl rfl oW144 (Nat.le_of_ble_eq_true rfl) (Nat.le_of_ble_eq_true rfl) (yc_hour F C R142 (hr := 3 * 3) (by omega) (by omega) (by omega)) ?_
      rintro v h9 ⟨rfl, e9⟩
      obtain rfl := e9.symm
      refine yy_fin.steps (n := 1) (s' := (1000, [some (.ref 1), some (.ref w), some (.ref 0), some (.int (Int32.ofInt fr)), some (.int (Int32.ofInt (t : Int))), some (.int (Int32.ofInt day)), some (zz_val k6), some (.ref q142), some (.int (Int32.ofInt p8)), some (.ref k9), some (.int (Int32.ofInt s)), some (zz_val q11), some (.int (Int32.ofInt p12)), some (.ref q13), some (.ref q14), some (.int (Int32.ofInt 3)), some (zz_val q16), some (.int (Int32.ofInt n17)), some (.int (Int32.ofInt n18)), some (.int (Int32.ofInt v19)), some (.int (Int32.ofInt v20)), some (.int (Int32.ofInt m21)), some (.int (Int32.ofInt z22)), some (.int (Int32.ofInt b23)), none], [.int ((Int32.ofInt (u142 + yk (g0 541 1).toInt (((3 * 3) + 3) * (g0 541 1).toInt) l142)) - (Int32.ofInt (u142 + yk (g0 541 1).toInt ((3 * 3) * (g0 541 1).toInt) l142))), .int (Int32.ofInt (s_99 (g0 541) t day 3 1))], h139)) rfl ?_
      rw [yi_sub (u142 + yk (g0 541 1).toInt (((3 * 3) + 3) * (g0 541 1).toInt) l142) (u142 + yk (g0 541 1).toInt ((3 * 3) * (g0 541 1).toInt) l142)]
      exact J141 ((u142 + yk (g0 541 1).toInt (((3 * 3) + 3) * (g0 541 1).toInt) l142) - (u142 + yk (g0 541 1).toInt ((3 * 3) * (g0 541 1).toInt) l142)) (by unfold s_99; rw [eo142]; show u142 + yk (g0 541 1).toInt ((3 * 3 + 3) * (g0 541 1).toInt) l142 - (u142 + yk (g0 541 1).toInt ((3 * 3) * (g0 541 1).toInt) l142) = s_h (3 * 3 + 3) l142 - s_h (3 * 3) l142; rw [yk_h (q := (g0 541 1).toInt) (x := 3 * 3 + 3) (l := l142) hq.1 (by omega) (by omega), yk_h (q := (g0 541 1).toInt) (x := 3 * 3) (l := l142) hq.1 (by omega) (by omega)]; omega)
  intro v141 ev141
  refine yy_fin.ic rfl (fun _ => ?_) (fun cz => absurd (y_ceq (congrArg Int32.ofInt ev141.symm)) cz)
  refine yy_fin.steps (n := 4) (s' := (919, [some (.ref 1), some (.ref w), some (.ref 0), some (.int (Int32.ofInt fr)), some (.int (Int32.ofInt (t : Int))), some (.int (Int32.ofInt day)), some (zz_val k6), some (zz_val k7), some (.int (Int32.ofInt p8)), some (.ref k9), some (.int (Int32.ofInt s)), some (zz_val q11), some (.int (Int32.ofInt p12)), some (.ref q13), some (.ref q14), some (.int ((Int32.ofInt 3) + (Int32.ofInt 1))), some (zz_val q16), some (.int (Int32.ofInt n17)), some (.int (Int32.ofInt n18)), some (.int (Int32.ofInt v19)), some (.int (Int32.ofInt v20)), some (.int (Int32.ofInt m21)), some (.int (Int32.ofInt z22)), some (.int (Int32.ofInt b23)), none], [.int (Int32.ofInt 4), .int ((Int32.ofInt 3) + (Int32.ofInt 1))], h139)) rfl ?_
  rw [show (Int32.ofInt 3) + (Int32.ofInt 1) = Int32.ofInt 4 from by decide]
  refine yy_fin.ic rfl (fun cK => ?_) (fun cK => absurd (by decide) cK)
  exact kk _ _ _ C (Y.le (by omega) (by omega)) H6
theorem y_ppq {q l s : Int} (hq : 1 ≤ q ∧ q ≤ 3600) (hl : 1 ≤ l) (hs : 0 ≤ s ∧ s ≤ l) : s * 12 * q / l / q = s * 12 / l := by
  rw [Int.ediv_ediv_of_nonneg (by omega)]
  have e : s * 12 * q / (l * q) = s * 12 / l := Int.mul_ediv_mul_of_pos_left _ _ (by omega)
  exact e
theorem yl_d7 (F : yCf own w lst g0) (ht : (t : Int) < (g0 541 0).toInt) (hd : 0 ≤ day ∧ day ≤ 35999) (hX : X.1 = some (L, xs)) (hL : L ≤ 100000) (hfr : 0 ≤ fr ∧ fr ≤ 900000) (hs : 0 ≤ s ∧ s ≤ 86399) (C : yCx own w lst g0 h g) (hB : h.1.1 + 200 < yy_B) {k6 k7 : Option Nat} (H6 : yHr h w k6 (hv_t (g0 541) t day 0)) {p8 p12 : Int} {k9 q13 q14 q15 q16 : Nat} {q11 : Option Nat} {n17 n18 v19 v20 m21 z22 b23 : Int} (kk : ∀ h' g', yCx own w lst g0 h' g' → yx (yAk w) 20 60 h h' → φ (some (.int (Int32.ofInt 1))) h') : yy_fin X 279 (1345, [some (.ref 1), some (.ref w), some (.ref 0), some (.int (Int32.ofInt fr)), some (.int (Int32.ofInt (t : Int))), some (.int (Int32.ofInt day)), some (zz_val k6), some (zz_val k7), some (.int (Int32.ofInt p8)), some (.ref k9), some (.int (Int32.ofInt s)), some (zz_val q11), some (.int (Int32.ofInt p12)), some (.ref q13), some (.ref q14), some (.ref q15), some (.ref q16), some (.int (Int32.ofInt n17)), some (.int (Int32.ofInt n18)), some (.int (Int32.ofInt v19)), some (.int (Int32.ofInt v20)), some (.int (Int32.ofInt m21)), some (.int (Int32.ofInt z22)), some (.int (Int32.ofInt b23)), none], [], h) φ := by
  have n4 := F.2.2.2.1
  have hq := F.2.2.2.2.1
  have Y : yx (yAk w) 0 0 h h := yx.rf
  have hY := Y.1
  have hg := C.2.1.2
  refine yy_fin.steps (n := 4) (s' := (1350, [some (.ref 1), some (.ref w), some (.ref 0), some (.int (Int32.ofInt fr)), some (.int (Int32.ofInt (t : Int))), some (.int (Int32.ofInt day)), some (zz_val k6), some (zz_val k7), some (.int (Int32.ofInt p8)), some (.ref k9), some (.int (Int32.ofInt s)), some (zz_val q11), some (.int (Int32.ofInt p12)), some (.ref q13), some (.ref q14), some (.ref q15), some (.ref q16), some (.int (Int32.ofInt n17)), some (.int (Int32.ofInt n18)), some (.int (Int32.ofInt v19)), some (.int (Int32.ofInt v20)), some (.int (Int32.ofInt m21)), some (.int (Int32.ofInt z22)), some (.int (Int32.ofInt b23)), none], [.int ((Int32.ofInt fr) + (Int32.ofInt 6)), .ref 0], h)) rfl ?_
  rw [yi_add fr 6]
  refine yy_fin.calls (as := [.ref 0, .int (Int32.ofInt (fr + 6))]) rfl (by decide) rfl rfl (Nat.le_of_ble_eq_true rfl) (Nat.le_of_ble_eq_true rfl) (yl_pick hX hL (k := fr + 6) (by omega)) ?_
  rintro v h9 ⟨y21, rfl, ay21, by21, e9⟩
  obtain rfl := e9.symm
  refine yy_fin.steps (n := 1) (s' := (1356, [some (.ref 1), some (.ref w), some (.ref 0), some (.int (Int32.ofInt fr)), some (.int (Int32.ofInt (t : Int))), some (.int (Int32.ofInt day)), some (zz_val k6), some (zz_val k7), some (.int (Int32.ofInt p8)), some (.ref k9), some (.int (Int32.ofInt s)), some (zz_val q11), some (.int (Int32.ofInt p12)), some (.ref q13), some (.ref q14), some (.ref q15), some (.ref q16), some (.int (Int32.ofInt n17)), some (.int (Int32.ofInt n18)), some (.int (Int32.ofInt v19)), some (.int (Int32.ofInt v20)), some (.int (Int32.ofInt m21)), some (.int (Int32.ofInt z22)), some (.int (Int32.ofInt b23)), none], [.int (Int32.ofInt 720), .int (Int32.ofInt y21)], h)) rfl ?_
  refine yy_fin.rm rfl (by decide) ?_
  rw [yi_rem (a := y21) (b := 720) (by omega) (by omega)]
  obtain ⟨o, eo⟩ : ∃ z, z = y21 % 720 := ⟨_, rfl⟩
  rw [← eo]
  have ho : 0 ≤ o ∧ o ≤ 719 := by omega
  refine yy_fin.steps (n := 5) (s' := (1365, [some (.ref 1), some (.ref w), some (.ref 0), some (.int (Int32.ofInt fr)), some (.int (Int32.ofInt (t : Int))), some (.int (Int32.ofInt day)), some (zz_val k6), some (zz_val k7), some (.int (Int32.ofInt p8)), some (.ref k9), some (.int (Int32.ofInt s)), some (zz_val q11), some (.int (Int32.ofInt p12)), some (.ref q13), some (.ref q14), some (.ref q15), some (.ref q16), some (.int (Int32.ofInt n17)), some (.int (Int32.ofInt n18)), some (.int (Int32.ofInt v19)), some (.int (Int32.ofInt v20)), some (.int (Int32.ofInt o)), some (.int (Int32.ofInt z22)), some (.int (Int32.ofInt b23)), none], [.int (Int32.ofInt 0), .int (Int32.ofInt o), .int (Int32.ofInt (t : Int)), .ref w], h)) rfl ?_
  obtain ⟨fw101, oW101⟩ := C.ow
  refine yy_fin.cv (as := [.int (Int32.ofInt (t : Int)), .int (Int32.ofInt o), .int (Int32.ofInt 0)]) rfl rfl rfl oW101 (Nat.le_of_ble_eq_true rfl) (Nat.le_of_ble_eq_true rfl) (yc_half F C ht (day := o) (half := 0) (by omega) (Or.inl rfl) (by omega)) ?_
  rintro v h101 ⟨C, x101, z101⟩
  replace H6 := H6.k x101
  replace Y := Y.tr x101 (fun _ _ e => e)
  replace hY := Y.1
  have H22 : ∃ q, v = some (zz_val q) ∧ yHr h101 w q (hv_t (g0 541) t o 0) := by
    cases eo : hv_t (g0 541) t o 0 with
    | none => rw [eo] at z101; exact ⟨none, z101, Or.inl ⟨rfl, rfl⟩⟩
    | some p => obtain ⟨u, l⟩ := p; rw [eo] at z101; obtain ⟨q, z1, z2⟩ := z101; exact ⟨some q, z1, Or.inr ⟨q, u, l, rfl, rfl, z2⟩⟩
  obtain ⟨k22, rfl, H22⟩ := H22
  suffices K102 : yy_fin X 279 (1370, [some (.ref 1), some (.ref w), some (.ref 0), some (.int (Int32.ofInt fr)), some (.int (Int32.ofInt (t : Int))), some (.int (Int32.ofInt day)), some (zz_val k6), some (zz_val k7), some (.int (Int32.ofInt p8)), some (.ref k9), some (.int (Int32.ofInt s)), some (zz_val q11), some (.int (Int32.ofInt p12)), some (.ref q13), some (.ref q14), some (.ref q15), some (.ref q16), some (.int (Int32.ofInt n17)), some (.int (Int32.ofInt n18)), some (.int (Int32.ofInt v19)), some (.int (Int32.ofInt v20)), some (.int (Int32.ofInt o)), some (zz_val k22), some (.int (Int32.ofInt b23)), none], [], h101) φ by cases k22 <;> exact yy_fin.steps (n := 1) rfl K102
  suffices K103 : yy_fin X 279 (1372, [some (.ref 1), some (.ref w), some (.ref 0), some (.int (Int32.ofInt fr)), some (.int (Int32.ofInt (t : Int))), some (.int (Int32.ofInt day)), some (zz_val k6), some (zz_val k7), some (.int (Int32.ofInt p8)), some (.ref k9), some (.int (Int32.ofInt s)), some (zz_val q11), some (.int (Int32.ofInt p12)), some (.ref q13), some (.ref q14), some (.ref q15), some (.ref q16), some (.int (Int32.ofInt n17)), some (.int (Int32.ofInt n18)), some (.int (Int32.ofInt v19)), some (.int (Int32.ofInt v20)), some (.int (Int32.ofInt o)), some (zz_val k22), some (.int (Int32.ofInt b23)), none], [zz_val k6], h101) φ by cases k6 <;> exact yy_fin.steps (n := 1) rfl K103
  suffices J104 : ∀ v104 : Int, ((v104 = 1 ∧ (hv_t (g0 541) t day 0 = none ∨ hv_t (g0 541) t o 0 = none ∨ ∃ u2 l2, hv_t (g0 541) t o 0 = some (u2, l2) ∧ ¬ (u2 ≤ s ∧ s < u2 + l2))) ∨ (v104 = 0 ∧ ∃ q6 u l q2 u2 l2, k6 = some q6 ∧ k22 = some q2 ∧ hv_t (g0 541) t day 0 = some (u, l) ∧ hv_t (g0 541) t o 0 = some (u2, l2) ∧ (u2 ≤ s ∧ s < u2 + l2))) → yy_fin X 279 (1403, [some (.ref 1), some (.ref w), some (.ref 0), some (.int (Int32.ofInt fr)), some (.int (Int32.ofInt (t : Int))), some (.int (Int32.ofInt day)), some (zz_val k6), some (zz_val k7), some (.int (Int32.ofInt p8)), some (.ref k9), some (.int (Int32.ofInt s)), some (zz_val q11), some (.int (Int32.ofInt p12)), some (.ref q13), some (.ref q14), some (.ref q15), some (.ref q16), some (.int (Int32.ofInt n17)), some (.int (Int32.ofInt n18)), some (.int (Int32.ofInt v19)), some (.int (Int32.ofInt v20)), some (.int (Int32.ofInt o)), some (zz_val k22), some (.int (Int32.ofInt b23)), none], [.int (Int32.ofInt v104)], h101) φ by
    rcases H6 with ⟨rfl, eo105⟩ | ⟨q105, u105, l105, rfl, eo105, R105⟩
    · refine yy_fin.steps (n := 3) (s' := (1403, [some (.ref 1), some (.ref w), some (.ref 0), some (.int (Int32.ofInt fr)), some (.int (Int32.ofInt (t : Int))), some (.int (Int32.ofInt day)), some (.null), some (zz_val k7), some (.int (Int32.ofInt p8)), some (.ref k9), some (.int (Int32.ofInt s)), some (zz_val q11), some (.int (Int32.ofInt p12)), some (.ref q13), some (.ref q14), some (.ref q15), some (.ref q16), some (.int (Int32.ofInt n17)), some (.int (Int32.ofInt n18)), some (.int (Int32.ofInt v19)), some (.int (Int32.ofInt v20)), some (.int (Int32.ofInt o)), some (zz_val k22), some (.int (Int32.ofInt b23)), none], [.int (Int32.ofInt 1)], h101)) rfl ?_
      exact J104 (1) (Or.inl ⟨rfl, Or.inl eo105⟩)
    · have hb105 := hv_bnd2 F.2.2.2 ht eo105
      refine yy_fin.steps (n := 1) (s' := (1375, [some (.ref 1), some (.ref w), some (.ref 0), some (.int (Int32.ofInt fr)), some (.int (Int32.ofInt (t : Int))), some (.int (Int32.ofInt day)), some (.ref q105), some (zz_val k7), some (.int (Int32.ofInt p8)), some (.ref k9), some (.int (Int32.ofInt s)), some (zz_val q11), some (.int (Int32.ofInt p12)), some (.ref q13), some (.ref q14), some (.ref q15), some (.ref q16), some (.int (Int32.ofInt n17)), some (.int (Int32.ofInt n18)), some (.int (Int32.ofInt v19)), some (.int (Int32.ofInt v20)), some (.int (Int32.ofInt o)), some (zz_val k22), some (.int (Int32.ofInt b23)), none], [], h101)) rfl ?_
      suffices K106 : yy_fin X 279 (1377, [some (.ref 1), some (.ref w), some (.ref 0), some (.int (Int32.ofInt fr)), some (.int (Int32.ofInt (t : Int))), some (.int (Int32.ofInt day)), some (.ref q105), some (zz_val k7), some (.int (Int32.ofInt p8)), some (.ref k9), some (.int (Int32.ofInt s)), some (zz_val q11), some (.int (Int32.ofInt p12)), some (.ref q13), some (.ref q14), some (.ref q15), some (.ref q16), some (.int (Int32.ofInt n17)), some (.int (Int32.ofInt n18)), some (.int (Int32.ofInt v19)), some (.int (Int32.ofInt v20)), some (.int (Int32.ofInt o)), some (zz_val k22), some (.int (Int32.ofInt b23)), none], [zz_val k22], h101) φ by cases k22 <;> exact yy_fin.steps (n := 1) rfl K106
      rcases H22 with ⟨rfl, eo107⟩ | ⟨q107, u107, l107, rfl, eo107, R107⟩
      · refine yy_fin.steps (n := 3) (s' := (1403, [some (.ref 1), some (.ref w), some (.ref 0), some (.int (Int32.ofInt fr)), some (.int (Int32.ofInt (t : Int))), some (.int (Int32.ofInt day)), some (.ref q105), some (zz_val k7), some (.int (Int32.ofInt p8)), some (.ref k9), some (.int (Int32.ofInt s)), some (zz_val q11), some (.int (Int32.ofInt p12)), some (.ref q13), some (.ref q14), some (.ref q15), some (.ref q16), some (.int (Int32.ofInt n17)), some (.int (Int32.ofInt n18)), some (.int (Int32.ofInt v19)), some (.int (Int32.ofInt v20)), some (.int (Int32.ofInt o)), some (.null), some (.int (Int32.ofInt b23)), none], [.int (Int32.ofInt 1)], h101)) rfl ?_
        exact J104 (1) (Or.inl ⟨rfl, Or.inr (Or.inl eo107)⟩)
      · have hb107 := hv_bnd2 F.2.2.2 ht eo107
        refine yy_fin.steps (n := 4) (s' := (1385, [some (.ref 1), some (.ref w), some (.ref 0), some (.int (Int32.ofInt fr)), some (.int (Int32.ofInt (t : Int))), some (.int (Int32.ofInt day)), some (.ref q105), some (zz_val k7), some (.int (Int32.ofInt p8)), some (.ref k9), some (.int (Int32.ofInt s)), some (zz_val q11), some (.int (Int32.ofInt p12)), some (.ref q13), some (.ref q14), some (.ref q15), some (.ref q16), some (.int (Int32.ofInt n17)), some (.int (Int32.ofInt n18)), some (.int (Int32.ofInt v19)), some (.int (Int32.ofInt v20)), some (.int (Int32.ofInt o)), some (.ref q107), some (.int (Int32.ofInt b23)), none], [.int (Int32.ofInt 0), .ref q107, .int (Int32.ofInt s)], h101)) rfl ?_
        refine yy_fin.lp (j := 0) rfl R107.2 rfl (by decide) rfl ?_
        refine yy_fin.ic rfl (fun c108 => ?_) (fun c108 => ?_)
        · have c108 := (yi_c_lt (a := s) (b := u107) (by omega) (by omega)).mp c108
          refine yy_fin.steps (n := 2) (s' := (1403, [some (.ref 1), some (.ref w), some (.ref 0), some (.int (Int32.ofInt fr)), some (.int (Int32.ofInt (t : Int))), some (.int (Int32.ofInt day)), some (.ref q105), some (zz_val k7), some (.int (Int32.ofInt p8)), some (.ref k9), some (.int (Int32.ofInt s)), some (zz_val q11), some (.int (Int32.ofInt p12)), some (.ref q13), some (.ref q14), some (.ref q15), some (.ref q16), some (.int (Int32.ofInt n17)), some (.int (Int32.ofInt n18)), some (.int (Int32.ofInt v19)), some (.int (Int32.ofInt v20)), some (.int (Int32.ofInt o)), some (.ref q107), some (.int (Int32.ofInt b23)), none], [.int (Int32.ofInt 1)], h101)) rfl ?_
          exact J104 (1) (Or.inl ⟨rfl, Or.inr (Or.inr ⟨_, _, eo107, by omega⟩)⟩)
        · have c108 := mt (yi_c_lt (a := s) (b := u107) (by omega) (by omega)).mpr c108
          refine yy_fin.steps (n := 3) (s' := (1394, [some (.ref 1), some (.ref w), some (.ref 0), some (.int (Int32.ofInt fr)), some (.int (Int32.ofInt (t : Int))), some (.int (Int32.ofInt day)), some (.ref q105), some (zz_val k7), some (.int (Int32.ofInt p8)), some (.ref k9), some (.int (Int32.ofInt s)), some (zz_val q11), some (.int (Int32.ofInt p12)), some (.ref q13), some (.ref q14), some (.ref q15), some (.ref q16), some (.int (Int32.ofInt n17)), some (.int (Int32.ofInt n18)), some (.int (Int32.ofInt v19)), some (.int (Int32.ofInt v20)), some (.int (Int32.ofInt o)), some (.ref q107), some (.int (Int32.ofInt b23)), none], [.int (Int32.ofInt 1), .ref q107, .int (Int32.ofInt s)], h101)) rfl ?_
          refine yy_fin.lp (j := 1) rfl R107.2 rfl (by decide) rfl ?_
          refine yy_fin.ic rfl (fun c109 => ?_) (fun c109 => ?_)
          · have c109 := (yi_c_lt (a := s) (b := u107 + l107) (by omega) (by omega)).mp c109
            refine yy_fin.steps (n := 1) (s' := (1403, [some (.ref 1), some (.ref w), some (.ref 0), some (.int (Int32.ofInt fr)), some (.int (Int32.ofInt (t : Int))), some (.int (Int32.ofInt day)), some (.ref q105), some (zz_val k7), some (.int (Int32.ofInt p8)), some (.ref k9), some (.int (Int32.ofInt s)), some (zz_val q11), some (.int (Int32.ofInt p12)), some (.ref q13), some (.ref q14), some (.ref q15), some (.ref q16), some (.int (Int32.ofInt n17)), some (.int (Int32.ofInt n18)), some (.int (Int32.ofInt v19)), some (.int (Int32.ofInt v20)), some (.int (Int32.ofInt o)), some (.ref q107), some (.int (Int32.ofInt b23)), none], [.int (Int32.ofInt 0)], h101)) rfl ?_
            exact J104 (0) (Or.inr ⟨rfl, _, _, _, _, _, _, rfl, rfl, eo105, eo107, by omega⟩)
          · have c109 := mt (yi_c_lt (a := s) (b := u107 + l107) (by omega) (by omega)).mpr c109
            refine yy_fin.steps (n := 2) (s' := (1403, [some (.ref 1), some (.ref w), some (.ref 0), some (.int (Int32.ofInt fr)), some (.int (Int32.ofInt (t : Int))), some (.int (Int32.ofInt day)), some (.ref q105), some (zz_val k7), some (.int (Int32.ofInt p8)), some (.ref k9), some (.int (Int32.ofInt s)), some (zz_val q11), some (.int (Int32.ofInt p12)), some (.ref q13), some (.ref q14), some (.ref q15), some (.ref q16), some (.int (Int32.ofInt n17)), some (.int (Int32.ofInt n18)), some (.int (Int32.ofInt v19)), some (.int (Int32.ofInt v20)), some (.int (Int32.ofInt o)), some (.ref q107), some (.int (Int32.ofInt b23)), none], [.int (Int32.ofInt 1)], h101)) rfl ?_
            exact J104 (1) (Or.inl ⟨rfl, Or.inr (Or.inr ⟨_, _, eo107, by omega⟩)⟩)
  intro v104 no104
  rcases no104 with ⟨rfl, no⟩ | ⟨rfl, q6, u, l, q2, u2, l2, rfl, rfl, e6, e2, hu⟩
  · have s0 : ∀ k, s_21 (g0 541) t day o s k = -100 := fun k => by
      unfold s_21
      rcases no with e | e | ⟨u2, l2, e, hu⟩
      · rw [e]
      · rw [e]; cases hv_t (g0 541) t day 0 <;> rfl
      · rw [e]; cases hv_t (g0 541) t day 0 with
        | none => rfl
        | some p => exact if_pos hu
    suffices K110 : yy_fin X 279 (1405, [some (.ref 1), some (.ref w), some (.ref 0), some (.int (Int32.ofInt fr)), some (.int (Int32.ofInt (t : Int))), some (.int (Int32.ofInt day)), some (zz_val k6), some (zz_val k7), some (.int (Int32.ofInt p8)), some (.ref k9), some (.int (Int32.ofInt s)), some (zz_val q11), some (.int (Int32.ofInt p12)), some (.ref q13), some (.ref q14), some (.ref q15), some (.ref q16), some (.int (Int32.ofInt n17)), some (.int (Int32.ofInt n18)), some (.int (Int32.ofInt v19)), some (.int (Int32.ofInt v20)), some (.int (Int32.ofInt o)), some (zz_val k22), some (.int (Int32.ofInt 1)), none], [], h101) φ by cases k22 <;> exact yy_fin.steps (n := 1) rfl K110
    refine yy_fin.steps (n := 1) (s' := (1407, [some (.ref 1), some (.ref w), some (.ref 0), some (.int (Int32.ofInt fr)), some (.int (Int32.ofInt (t : Int))), some (.int (Int32.ofInt day)), some (zz_val k6), some (zz_val k7), some (.int (Int32.ofInt p8)), some (.ref k9), some (.int (Int32.ofInt s)), some (zz_val q11), some (.int (Int32.ofInt p12)), some (.ref q13), some (.ref q14), some (.ref q15), some (.ref q16), some (.int (Int32.ofInt n17)), some (.int (Int32.ofInt n18)), some (.int (Int32.ofInt v19)), some (.int (Int32.ofInt v20)), some (.int (Int32.ofInt o)), some (zz_val k22), some (.int (Int32.ofInt 1)), none], [.int (Int32.ofInt 1)], h101)) rfl ?_
    refine yy_fin.if rfl (fun cK => absurd cK (by decide)) (fun cK => ?_)
    refine yy_fin.steps (n := 9) (s' := (1452, [some (.ref 1), some (.ref w), some (.ref 0), some (.int (Int32.ofInt fr)), some (.int (Int32.ofInt (t : Int))), some (.int (Int32.ofInt day)), some (zz_val k6), some (zz_val k7), some (.int (Int32.ofInt p8)), some (.ref k9), some (.int (Int32.ofInt s)), some (zz_val q11), some (.int (Int32.ofInt p12)), some (.ref q13), some (.ref q14), some (.ref q15), some (.ref q16), some (.int (Int32.ofInt n17)), some (.int (Int32.ofInt n18)), some (.int (Int32.ofInt v19)), some (.int (Int32.ofInt v20)), some (.int (Int32.ofInt o)), some (zz_val k22), some (.int (Int32.ofInt 1)), some (.int (Int32.ofInt (-100)))], [.int (Int32.ofInt 0), .int (Int32.ofInt s), .int (Int32.ofInt o), .int (Int32.ofInt day), .int (Int32.ofInt (t : Int)), .ref 1], h101)) rfl ?_
    obtain ⟨g111, r111⟩ := qi_120 F C ht hd (d2 := o) (s := s) (k := 0) (by omega) hs (Or.inl rfl)
    obtain ⟨fs111, oo111⟩ := C.o
    refine yy_fin.cv (as := [.int (Int32.ofInt (t : Int)), .int (Int32.ofInt day), .int (Int32.ofInt o), .int (Int32.ofInt s), .int (Int32.ofInt 0)]) rfl rfl rfl oo111 (Nat.le_of_ble_eq_true rfl) (Nat.le_of_ble_eq_true rfl) r111 ?_
    rintro v h111 ⟨rfl, C, x111⟩
    replace H6 := H6.k x111
    replace H22 := H22.k x111
    replace Y := Y.tr x111 (fun _ _ e => e)
    replace hY := Y.1
    refine yy_fin.steps (n := 1) (s' := (1457, [some (.ref 1), some (.ref w), some (.ref 0), some (.int (Int32.ofInt fr)), some (.int (Int32.ofInt (t : Int))), some (.int (Int32.ofInt day)), some (zz_val k6), some (zz_val k7), some (.int (Int32.ofInt p8)), some (.ref k9), some (.int (Int32.ofInt s)), some (zz_val q11), some (.int (Int32.ofInt p12)), some (.ref q13), some (.ref q14), some (.ref q15), some (.ref q16), some (.int (Int32.ofInt n17)), some (.int (Int32.ofInt n18)), some (.int (Int32.ofInt v19)), some (.int (Int32.ofInt v20)), some (.int (Int32.ofInt o)), some (zz_val k22), some (.int (Int32.ofInt 1)), some (.int (Int32.ofInt (-100)))], [.int (Int32.ofInt (-100)), .int (Int32.ofInt (s_21 (g0 541) t day o s 0))], h111)) rfl ?_
    refine yy_fin.ic rfl (fun cz => absurd (congrArg Int32.ofInt (s0 0)) (y_cne cz)) (fun _ => ?_)
    refine yy_fin.steps (n := 6) (s' := (1470, [some (.ref 1), some (.ref w), some (.ref 0), some (.int (Int32.ofInt fr)), some (.int (Int32.ofInt (t : Int))), some (.int (Int32.ofInt day)), some (zz_val k6), some (zz_val k7), some (.int (Int32.ofInt p8)), some (.ref k9), some (.int (Int32.ofInt s)), some (zz_val q11), some (.int (Int32.ofInt p12)), some (.ref q13), some (.ref q14), some (.ref q15), some (.ref q16), some (.int (Int32.ofInt n17)), some (.int (Int32.ofInt n18)), some (.int (Int32.ofInt v19)), some (.int (Int32.ofInt v20)), some (.int (Int32.ofInt o)), some (zz_val k22), some (.int (Int32.ofInt 1)), some (.int (Int32.ofInt (-100)))], [.int (Int32.ofInt 1), .int (Int32.ofInt s), .int (Int32.ofInt o), .int (Int32.ofInt day), .int (Int32.ofInt (t : Int)), .ref 1], h111)) rfl ?_
    obtain ⟨g112, r112⟩ := qi_120 F C ht hd (d2 := o) (s := s) (k := 1) (by omega) hs (Or.inr rfl)
    obtain ⟨fs112, oo112⟩ := C.o
    refine yy_fin.cv (as := [.int (Int32.ofInt (t : Int)), .int (Int32.ofInt day), .int (Int32.ofInt o), .int (Int32.ofInt s), .int (Int32.ofInt 1)]) rfl rfl rfl oo112 (Nat.le_of_ble_eq_true rfl) (Nat.le_of_ble_eq_true rfl) r112 ?_
    rintro v h112 ⟨rfl, C, x112⟩
    replace H6 := H6.k x112
    replace H22 := H22.k x112
    replace Y := Y.tr x112 (fun _ _ e => e)
    replace hY := Y.1
    refine yy_fin.steps (n := 1) (s' := (1475, [some (.ref 1), some (.ref w), some (.ref 0), some (.int (Int32.ofInt fr)), some (.int (Int32.ofInt (t : Int))), some (.int (Int32.ofInt day)), some (zz_val k6), some (zz_val k7), some (.int (Int32.ofInt p8)), some (.ref k9), some (.int (Int32.ofInt s)), some (zz_val q11), some (.int (Int32.ofInt p12)), some (.ref q13), some (.ref q14), some (.ref q15), some (.ref q16), some (.int (Int32.ofInt n17)), some (.int (Int32.ofInt n18)), some (.int (Int32.ofInt v19)), some (.int (Int32.ofInt v20)), some (.int (Int32.ofInt o)), some (zz_val k22), some (.int (Int32.ofInt 1)), some (.int (Int32.ofInt (-100)))], [.int (Int32.ofInt 1), .int (Int32.ofInt (s_21 (g0 541) t day o s 1))], h112)) rfl ?_
    refine yy_fin.if rfl (fun cK => absurd cK (by decide)) (fun cK => ?_)
    refine yy_fin.steps (n := 2) (s' := (1499, [some (.ref 1), some (.ref w), some (.ref 0), some (.int (Int32.ofInt fr)), some (.int (Int32.ofInt (t : Int))), some (.int (Int32.ofInt day)), some (zz_val k6), some (zz_val k7), some (.int (Int32.ofInt p8)), some (.ref k9), some (.int (Int32.ofInt s)), some (zz_val q11), some (.int (Int32.ofInt p12)), some (.ref q13), some (.ref q14), some (.ref q15), some (.ref q16), some (.int (Int32.ofInt n17)), some (.int (Int32.ofInt n18)), some (.int (Int32.ofInt v19)), some (.int (Int32.ofInt v20)), some (.int (Int32.ofInt o)), some (zz_val k22), some (.int (Int32.ofInt 1)), some (.int (Int32.ofInt (-100)))], [.int (Int32.ofInt (-100)), .int (Int32.ofInt (s_21 (g0 541) t day o s 1))], h112)) rfl ?_
    refine yy_fin.ic rfl (fun cz => absurd (congrArg Int32.ofInt (s0 1)) (y_cne cz)) (fun _ => ?_)
    refine yy_fin.steps (n := 2) (s' := (1507, [some (.ref 1), some (.ref w), some (.ref 0), some (.int (Int32.ofInt fr)), some (.int (Int32.ofInt (t : Int))), some (.int (Int32.ofInt day)), some (zz_val k6), some (zz_val k7), some (.int (Int32.ofInt p8)), some (.ref k9), some (.int (Int32.ofInt s)), some (zz_val q11), some (.int (Int32.ofInt p12)), some (.ref q13), some (.ref q14), some (.ref q15), some (.ref q16), some (.int (Int32.ofInt n17)), some (.int (Int32.ofInt n18)), some (.int (Int32.ofInt v19)), some (.int (Int32.ofInt v20)), some (.int (Int32.ofInt o)), some (zz_val k22), some (.int (Int32.ofInt 1)), some (.int (Int32.ofInt (-100)))], [.int (Int32.ofInt 1)], h112)) rfl ?_
    exact yy_fin.at (n := 1) rfl (kk _ _ C (Y.le (by omega) (by omega)))
  · have R6 : yRw h101 w q6 [Int32.ofInt u, Int32.ofInt (u + l)] := by
      rcases H6 with ⟨z, -⟩ | ⟨q9, u9, l9, z1, z2, z3⟩
      · cases z
      · cases z1; rw [e6] at z2; cases z2; exact z3
    have R2 : yRw h101 w q2 [Int32.ofInt u2, Int32.ofInt (u2 + l2)] := by
      rcases H22 with ⟨z, -⟩ | ⟨q9, u9, l9, z1, z2, z3⟩
      · cases z
      · cases z1; rw [e2] at z2; cases z2; exact z3
    have hb6 := hv_bnd2 F.2.2.2 ht e6
    have hb2 := hv_bnd2 F.2.2.2 ht e2
    have m0 : 0 ≤ (s - u2) * 12 / l := Int.ediv_nonneg (by omega) (by omega)
    have m1 : (s - u2) * 12 / l ≤ (s - u2) * 12 := Int.ediv_le_self _ (by omega)
    have s0 : s_21 (g0 541) t day o s 0 = min 12 ((s - u2) * 12 / l) := by
      unfold s_21; rw [e6, e2]; show (if ¬ (u2 ≤ s ∧ s < u2 + l2) then (-100 : Int) else (if 12 < (s - u2) * 12 / l then 12 else (s - u2) * 12 / l) - 0) = _; rw [if_neg (by omega)]; split <;> omega
    have s1 : s_21 (g0 541) t day o s 1 = min 12 ((s - u2) * 12 / l) - (s - u2) * 12 / l2 := by
      unfold s_21; rw [e6, e2]; show (if ¬ (u2 ≤ s ∧ s < u2 + l2) then (-100 : Int) else (if 12 < (s - u2) * 12 / l then 12 else (s - u2) * 12 / l) - (s - u2) * 12 / l2) = _; rw [if_neg (by omega)]; split <;> omega
    refine yy_fin.steps (n := 2) (s' := (1407, [some (.ref 1), some (.ref w), some (.ref 0), some (.int (Int32.ofInt fr)), some (.int (Int32.ofInt (t : Int))), some (.int (Int32.ofInt day)), some (.ref q6), some (zz_val k7), some (.int (Int32.ofInt p8)), some (.ref k9), some (.int (Int32.ofInt s)), some (zz_val q11), some (.int (Int32.ofInt p12)), some (.ref q13), some (.ref q14), some (.ref q15), some (.ref q16), some (.int (Int32.ofInt n17)), some (.int (Int32.ofInt n18)), some (.int (Int32.ofInt v19)), some (.int (Int32.ofInt v20)), some (.int (Int32.ofInt o)), some (.ref q2), some (.int (Int32.ofInt 0)), none], [.int (Int32.ofInt 0)], h101)) rfl ?_
    refine yy_fin.if rfl (fun cK => ?_) (fun cK => absurd (by decide) cK)
    refine yy_fin.steps (n := 4) (s' := (1422, [some (.ref 1), some (.ref w), some (.ref 0), some (.int (Int32.ofInt fr)), some (.int (Int32.ofInt (t : Int))), some (.int (Int32.ofInt day)), some (.ref q6), some (zz_val k7), some (.int (Int32.ofInt p8)), some (.ref k9), some (.int (Int32.ofInt s)), some (zz_val q11), some (.int (Int32.ofInt p12)), some (.ref q13), some (.ref q14), some (.ref q15), some (.ref q16), some (.int (Int32.ofInt n17)), some (.int (Int32.ofInt n18)), some (.int (Int32.ofInt v19)), some (.int (Int32.ofInt v20)), some (.int (Int32.ofInt o)), some (.ref q2), some (.int (Int32.ofInt 0)), none], [.int (Int32.ofInt 0), .ref q2, .int (Int32.ofInt s), .int (Int32.ofInt 12)], h101)) rfl ?_
    refine yy_fin.lp (j := 0) rfl R2.2 rfl (by decide) rfl ?_
    refine yy_fin.steps (n := 5) (s' := (1430, [some (.ref 1), some (.ref w), some (.ref 0), some (.int (Int32.ofInt fr)), some (.int (Int32.ofInt (t : Int))), some (.int (Int32.ofInt day)), some (.ref q6), some (zz_val k7), some (.int (Int32.ofInt p8)), some (.ref k9), some (.int (Int32.ofInt s)), some (zz_val q11), some (.int (Int32.ofInt p12)), some (.ref q13), some (.ref q14), some (.ref q15), some (.ref q16), some (.int (Int32.ofInt n17)), some (.int (Int32.ofInt n18)), some (.int (Int32.ofInt v19)), some (.int (Int32.ofInt v20)), some (.int (Int32.ofInt o)), some (.ref q2), some (.int (Int32.ofInt 0)), none], [.int (Int32.ofInt 1), .ref q6, .int (((Int32.ofInt s) - (Int32.ofInt u2)) * (Int32.ofInt 12)), .int (Int32.ofInt 12)], h101)) rfl ?_
    rw [yi_sub s u2]
    rw [yi_mul (s - u2) 12]
    refine yy_fin.lp (j := 1) rfl R6.2 rfl (by decide) rfl ?_
    refine yy_fin.steps (n := 2) (s' := (1434, [some (.ref 1), some (.ref w), some (.ref 0), some (.int (Int32.ofInt fr)), some (.int (Int32.ofInt (t : Int))), some (.int (Int32.ofInt day)), some (.ref q6), some (zz_val k7), some (.int (Int32.ofInt p8)), some (.ref k9), some (.int (Int32.ofInt s)), some (zz_val q11), some (.int (Int32.ofInt p12)), some (.ref q13), some (.ref q14), some (.ref q15), some (.ref q16), some (.int (Int32.ofInt n17)), some (.int (Int32.ofInt n18)), some (.int (Int32.ofInt v19)), some (.int (Int32.ofInt v20)), some (.int (Int32.ofInt o)), some (.ref q2), some (.int (Int32.ofInt 0)), none], [.int (Int32.ofInt 0), .ref q6, .int (Int32.ofInt (u + l)), .int (Int32.ofInt ((s - u2) * 12)), .int (Int32.ofInt 12)], h101)) rfl ?_
    refine yy_fin.lp (j := 0) rfl R6.2 rfl (by decide) rfl ?_
    refine yy_fin.steps (n := 1) (s' := (1436, [some (.ref 1), some (.ref w), some (.ref 0), some (.int (Int32.ofInt fr)), some (.int (Int32.ofInt (t : Int))), some (.int (Int32.ofInt day)), some (.ref q6), some (zz_val k7), some (.int (Int32.ofInt p8)), some (.ref k9), some (.int (Int32.ofInt s)), some (zz_val q11), some (.int (Int32.ofInt p12)), some (.ref q13), some (.ref q14), some (.ref q15), some (.ref q16), some (.int (Int32.ofInt n17)), some (.int (Int32.ofInt n18)), some (.int (Int32.ofInt v19)), some (.int (Int32.ofInt v20)), some (.int (Int32.ofInt o)), some (.ref q2), some (.int (Int32.ofInt 0)), none], [.int ((Int32.ofInt (u + l)) - (Int32.ofInt u)), .int (Int32.ofInt ((s - u2) * 12)), .int (Int32.ofInt 12)], h101)) rfl ?_
    rw [yi_sub (u + l) u]
    refine yy_fin.dv rfl (fun z => by have z := (yi_eq (a := (u + l) - u) (b := 0) (by omega) (by omega)).mp z; omega) ?_
    rw [yi_div (a := (s - u2) * 12) (b := (u + l) - u) (by omega) (by omega), show u + l - u = l by omega]
    refine yy_fin.steps (n := 8) (s' := (1452, [some (.ref 1), some (.ref w), some (.ref 0), some (.int (Int32.ofInt fr)), some (.int (Int32.ofInt (t : Int))), some (.int (Int32.ofInt day)), some (.ref q6), some (zz_val k7), some (.int (Int32.ofInt p8)), some (.ref k9), some (.int (Int32.ofInt s)), some (zz_val q11), some (.int (Int32.ofInt p12)), some (.ref q13), some (.ref q14), some (.ref q15), some (.ref q16), some (.int (Int32.ofInt n17)), some (.int (Int32.ofInt n18)), some (.int (Int32.ofInt v19)), some (.int (Int32.ofInt v20)), some (.int (Int32.ofInt o)), some (.ref q2), some (.int (Int32.ofInt 0)), some (.int (if (Int32.ofInt ((s - u2) * 12 / l)) < (Int32.ofInt 12) then (Int32.ofInt ((s - u2) * 12 / l)) else (Int32.ofInt 12)))], [.int (Int32.ofInt 0), .int (Int32.ofInt s), .int (Int32.ofInt o), .int (Int32.ofInt day), .int (Int32.ofInt (t : Int)), .ref 1], h101)) rfl ?_
    rw [yi_min (a := 12) (b := (s - u2) * 12 / l) (by omega) (by omega)]
    obtain ⟨g113, r113⟩ := qi_120 F C ht hd (d2 := o) (s := s) (k := 0) (by omega) hs (Or.inl rfl)
    obtain ⟨fs113, oo113⟩ := C.o
    refine yy_fin.cv (as := [.int (Int32.ofInt (t : Int)), .int (Int32.ofInt day), .int (Int32.ofInt o), .int (Int32.ofInt s), .int (Int32.ofInt 0)]) rfl rfl rfl oo113 (Nat.le_of_ble_eq_true rfl) (Nat.le_of_ble_eq_true rfl) r113 ?_
    rintro v h113 ⟨rfl, C, x113⟩
    replace R6 := R6.k x113
    replace R2 := R2.k x113
    replace Y := Y.tr x113 (fun _ _ e => e)
    replace hY := Y.1
    refine yy_fin.steps (n := 1) (s' := (1457, [some (.ref 1), some (.ref w), some (.ref 0), some (.int (Int32.ofInt fr)), some (.int (Int32.ofInt (t : Int))), some (.int (Int32.ofInt day)), some (.ref q6), some (zz_val k7), some (.int (Int32.ofInt p8)), some (.ref k9), some (.int (Int32.ofInt s)), some (zz_val q11), some (.int (Int32.ofInt p12)), some (.ref q13), some (.ref q14), some (.ref q15), some (.ref q16), some (.int (Int32.ofInt n17)), some (.int (Int32.ofInt n18)), some (.int (Int32.ofInt v19)), some (.int (Int32.ofInt v20)), some (.int (Int32.ofInt o)), some (.ref q2), some (.int (Int32.ofInt 0)), some (.int (Int32.ofInt (min 12 ((s - u2) * 12 / l))))], [.int (Int32.ofInt (min 12 ((s - u2) * 12 / l))), .int (Int32.ofInt (s_21 (g0 541) t day o s 0))], h113)) rfl ?_
    refine yy_fin.ic rfl (fun cz => absurd (congrArg Int32.ofInt s0) (y_cne cz)) (fun _ => ?_)
    refine yy_fin.steps (n := 6) (s' := (1470, [some (.ref 1), some (.ref w), some (.ref 0), some (.int (Int32.ofInt fr)), some (.int (Int32.ofInt (t : Int))), some (.int (Int32.ofInt day)), some (.ref q6), some (zz_val k7), some (.int (Int32.ofInt p8)), some (.ref k9), some (.int (Int32.ofInt s)), some (zz_val q11), some (.int (Int32.ofInt p12)), some (.ref q13), some (.ref q14), some (.ref q15), some (.ref q16), some (.int (Int32.ofInt n17)), some (.int (Int32.ofInt n18)), some (.int (Int32.ofInt v19)), some (.int (Int32.ofInt v20)), some (.int (Int32.ofInt o)), some (.ref q2), some (.int (Int32.ofInt 0)), some (.int (Int32.ofInt (min 12 ((s - u2) * 12 / l))))], [.int (Int32.ofInt 1), .int (Int32.ofInt s), .int (Int32.ofInt o), .int (Int32.ofInt day), .int (Int32.ofInt (t : Int)), .ref 1], h113)) rfl ?_
    obtain ⟨g114, r114⟩ := qi_120 F C ht hd (d2 := o) (s := s) (k := 1) (by omega) hs (Or.inr rfl)
    obtain ⟨fs114, oo114⟩ := C.o
    refine yy_fin.cv (as := [.int (Int32.ofInt (t : Int)), .int (Int32.ofInt day), .int (Int32.ofInt o), .int (Int32.ofInt s), .int (Int32.ofInt 1)]) rfl rfl rfl oo114 (Nat.le_of_ble_eq_true rfl) (Nat.le_of_ble_eq_true rfl) r114 ?_
    rintro v h114 ⟨rfl, C, x114⟩
    replace R6 := R6.k x114
    replace R2 := R2.k x114
    replace Y := Y.tr x114 (fun _ _ e => e)
    replace hY := Y.1
    refine yy_fin.steps (n := 1) (s' := (1475, [some (.ref 1), some (.ref w), some (.ref 0), some (.int (Int32.ofInt fr)), some (.int (Int32.ofInt (t : Int))), some (.int (Int32.ofInt day)), some (.ref q6), some (zz_val k7), some (.int (Int32.ofInt p8)), some (.ref k9), some (.int (Int32.ofInt s)), some (zz_val q11), some (.int (Int32.ofInt p12)), some (.ref q13), some (.ref q14), some (.ref q15), some (.ref q16), some (.int (Int32.ofInt n17)), some (.int (Int32.ofInt n18)), some (.int (Int32.ofInt v19)), some (.int (Int32.ofInt v20)), some (.int (Int32.ofInt o)), some (.ref q2), some (.int (Int32.ofInt 0)), some (.int (Int32.ofInt (min 12 ((s - u2) * 12 / l))))], [.int (Int32.ofInt 0), .int (Int32.ofInt (s_21 (g0 541) t day o s 1))], h114)) rfl ?_
    refine yy_fin.if rfl (fun cK => ?_) (fun cK => absurd (by decide) cK)
    refine yy_fin.steps (n := 4) (s' := (1490, [some (.ref 1), some (.ref w), some (.ref 0), some (.int (Int32.ofInt fr)), some (.int (Int32.ofInt (t : Int))), some (.int (Int32.ofInt day)), some (.ref q6), some (zz_val k7), some (.int (Int32.ofInt p8)), some (.ref k9), some (.int (Int32.ofInt s)), some (zz_val q11), some (.int (Int32.ofInt p12)), some (.ref q13), some (.ref q14), some (.ref q15), some (.ref q16), some (.int (Int32.ofInt n17)), some (.int (Int32.ofInt n18)), some (.int (Int32.ofInt v19)), some (.int (Int32.ofInt v20)), some (.int (Int32.ofInt o)), some (.ref q2), some (.int (Int32.ofInt 0)), some (.int (Int32.ofInt (min 12 ((s - u2) * 12 / l))))], [.int (Int32.ofInt s), .ref q2, .ref w, .int (Int32.ofInt (min 12 ((s - u2) * 12 / l))), .int (Int32.ofInt (s_21 (g0 541) t day o s 1))], h114)) rfl ?_
    obtain ⟨fw115, oW115⟩ := C.ow
    refine yy_fin.cv (as := [.ref q2, .int (Int32.ofInt s)]) rfl rfl rfl oW115 (Nat.le_of_ble_eq_true rfl) (Nat.le_of_ble_eq_true rfl) (yc_place F C R2 (s := s) (by omega) (by omega) (by omega)) ?_
    rintro v h9 ⟨rfl, e9⟩
    obtain rfl := e9.symm
    have hp9 := yp_b (q := (g0 541 1).toInt) (l := l2) (s := s - u2) hq (by omega) (by omega)
    have hpq := y_ppq (q := (g0 541 1).toInt) (l := l2) (s := s - u2) hq (by omega) (by omega)
    obtain ⟨pl, epl⟩ : ∃ pl, pl = (s - u2) * 12 * (g0 541 1).toInt / l2 := ⟨_, rfl⟩
    rw [← epl] at hp9 hpq ⊢
    refine yy_fin.steps (n := 1) (s' := (1494, [some (.ref 1), some (.ref w), some (.ref 0), some (.int (Int32.ofInt fr)), some (.int (Int32.ofInt (t : Int))), some (.int (Int32.ofInt day)), some (.ref q6), some (zz_val k7), some (.int (Int32.ofInt p8)), some (.ref k9), some (.int (Int32.ofInt s)), some (zz_val q11), some (.int (Int32.ofInt p12)), some (.ref q13), some (.ref q14), some (.ref q15), some (.ref q16), some (.int (Int32.ofInt n17)), some (.int (Int32.ofInt n18)), some (.int (Int32.ofInt v19)), some (.int (Int32.ofInt v20)), some (.int (Int32.ofInt o)), some (.ref q2), some (.int (Int32.ofInt 0)), some (.int (Int32.ofInt (min 12 ((s - u2) * 12 / l))))], [.ref w, .int (Int32.ofInt pl), .int (Int32.ofInt (min 12 ((s - u2) * 12 / l))), .int (Int32.ofInt (s_21 (g0 541) t day o s 1))], h114)) rfl ?_
    obtain ⟨o116, p116, b116, t116, oP116, eP116⟩ := C.wp
    refine yy_fin.fi rfl oP116 rfl eP116 ?_
    refine yy_fin.dv rfl (fun z => by have z := (yi_eq (a := (g0 541 1).toInt) (b := 0) (by omega) (by omega)).mp z; omega) ?_
    rw [yi_div (a := pl) (b := (g0 541 1).toInt) (by omega) (by omega)]
    refine yy_fin.steps (n := 1) (s' := (1499, [some (.ref 1), some (.ref w), some (.ref 0), some (.int (Int32.ofInt fr)), some (.int (Int32.ofInt (t : Int))), some (.int (Int32.ofInt day)), some (.ref q6), some (zz_val k7), some (.int (Int32.ofInt p8)), some (.ref k9), some (.int (Int32.ofInt s)), some (zz_val q11), some (.int (Int32.ofInt p12)), some (.ref q13), some (.ref q14), some (.ref q15), some (.ref q16), some (.int (Int32.ofInt n17)), some (.int (Int32.ofInt n18)), some (.int (Int32.ofInt v19)), some (.int (Int32.ofInt v20)), some (.int (Int32.ofInt o)), some (.ref q2), some (.int (Int32.ofInt 0)), some (.int (Int32.ofInt (min 12 ((s - u2) * 12 / l))))], [.int ((Int32.ofInt (min 12 ((s - u2) * 12 / l))) - (Int32.ofInt (pl / ((g0 541 1).toInt)))), .int (Int32.ofInt (s_21 (g0 541) t day o s 1))], h114)) rfl ?_
    rw [yi_sub (min 12 ((s - u2) * 12 / l)) (pl / ((g0 541 1).toInt))]
    refine yy_fin.ic rfl (fun cz => absurd (congrArg Int32.ofInt (s1.trans (by rw [hpq]))) (y_cne cz)) (fun _ => ?_)
    refine yy_fin.steps (n := 2) (s' := (1507, [some (.ref 1), some (.ref w), some (.ref 0), some (.int (Int32.ofInt fr)), some (.int (Int32.ofInt (t : Int))), some (.int (Int32.ofInt day)), some (.ref q6), some (zz_val k7), some (.int (Int32.ofInt p8)), some (.ref k9), some (.int (Int32.ofInt s)), some (zz_val q11), some (.int (Int32.ofInt p12)), some (.ref q13), some (.ref q14), some (.ref q15), some (.ref q16), some (.int (Int32.ofInt n17)), some (.int (Int32.ofInt n18)), some (.int (Int32.ofInt v19)), some (.int (Int32.ofInt v20)), some (.int (Int32.ofInt o)), some (.ref q2), some (.int (Int32.ofInt 0)), some (.int (Int32.ofInt (min 12 ((s - u2) * 12 / l))))], [.int (Int32.ofInt 1)], h114)) rfl ?_
    exact yy_fin.at (n := 1) rfl (kk _ _ C (Y.le (by omega) (by omega)))
end YD10
