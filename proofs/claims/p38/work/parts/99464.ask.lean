/-! ASKING CALLS: like answers, the states as they were -/
theorem lq_ask {mc mm : Nat} {as : List Value} {g : aa_G} {wc wm : aa_W} {x y : Int32 × aa_G} (hi : aa_inv g) (hφ : aa_Phi g) (hR : lr_R g)
    (c : zz_fin none mc (0, zz_in (.ref 1 :: as) (zz_nl mc), [], aa_H g) (fun v h => v = some (.int x.1) ∧ h = aa_H x.2 ∧ aa_inv x.2 ∧ aa_Phi x.2 ∧ aa_fr wc g x.2))
    (m : aa_inv x.2 → aa_Phi x.2 → zz_fin none mm (0, zz_in (.ref 540 :: as) (zz_nl mm), [], aa_H x.2) (fun v h => v = some (.int y.1) ∧ h = aa_H y.2 ∧ aa_inv y.2 ∧ aa_Phi y.2 ∧ aa_fr wm x.2 y.2))
    (hc : lk_c wc = true) (hm : lk_m wm = true) (he : lk_e wc wm = true) (ha : lk_a wc = true) (hb : lk_b wm = true) (h16 : (wm.all fun w => !(Nat.beq w.1 (aa_gc 540)) || !(decide (w.2.1 ≤ ((16 : Nat) : Int)) && decide (((16 : Nat) : Int) ≤ w.2.2))) = true)
    (eq : wd_g g → wd_g x.2 → x.2 541 = g 541 → x.1 = y.1) : lq_ok true mc mm as g := by
  refine lq_mk hi hR c m hc hm fun i1 p1 q1 q2 f1 f2 => ?_
  have r1 : rr_g (qb_s lr_B) x.2 x.2 := lk_ar (qb_cp lr_cp) ha i1 q1 f1
  refine ⟨⟨fun _ => eq (lr_wd hi hφ hR).1 (wd_mk i1 p1 r1.1.1 r1.2.2.2.2.2.2.2.1) (funext fun j => lk_ce hc f1 (by decide) j), ?_⟩, lk_ee he f1 f2 q2⟩
  exact lk_br (qb_cp lr_cp) hb i1 r1 f2 (ko_at f2 h16)
theorem hv_pv {T : Nat → Int32} {t : Nat} {d h : Int} {r : Int × Int} (e : hv_t T t d h = some r) : pv_t T t (d % 360) = -1 := by
  unfold hv_t tw_H at e
  unfold pv_t
  by_cases z1 : ¬ (0 ≤ d ∧ d ≤ 35999)
  · rw [if_pos z1] at e; cases e
  · rw [if_neg z1] at e
    by_cases z2 : h = 1 ∧ d = 35999
    · rw [if_pos z2] at e; cases e
    · rw [if_neg z2] at e
      by_cases z3 : tw_P (av_t T t) (d % 360) (av_c T t) ≠ -1
      · rw [if_pos z3] at e; cases e
      · exact Decidable.not_not.mp z3
theorem ti_191 {g : aa_G} {a b : Int32} : fn_191 g a b = 0 ↔ (fn_192 g a = 0 ∨ ¬ (0 ≤ b.toInt ∧ b.toInt ≤ 35999)) := by
  unfold fn_191
  by_cases z : fn_192 g a = 0
  · rw [if_pos z]
    exact ⟨fun _ => .inl z, fun _ => rfl⟩
  · rw [if_neg z]
    by_cases z2 : fn_193 b = 0
    · rw [if_pos z2]
      exact ⟨fun _ => .inr (ti_193z.mp z2), fun _ => rfl⟩
    · rw [if_neg z2]
      exact ⟨fun e => absurd e (by decide), fun e => e.elim (fun h => absurd h z) (fun h => absurd (ti_193z.mpr h) z2)⟩
