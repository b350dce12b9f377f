/-! SPARE, WORK, SEASON, in numbers -/
section YM88
variable {Y : aa_G} {a : Nat → Int32} {t : Nat} {day k : Int}
noncomputable def sl_f (a : Nat → Int32) (t : Nat) (d : Nat) (s : Int) : Int := s + (ll_ver (av_t a t) (av_c a t) d).toInt
noncomputable def s_129 (a : Nat → Int32) (t : Nat) : Int := if av_c a t ≤ 1 then 0 else fd_i (sl_f a t) 0 (av_c a t) 0
theorem m_237 (W : wd_g Y) (ht : (t : Int) < (Y 541 0).toInt) : (fn_237 Y (Int32.ofInt (t : Int))).1 = Int32.ofInt (if av_c (Y 541) t ≤ 1 then 0 else fd_i (sl_f (Y 541) t) 0 (av_c (Y 541) t) 0) := by
  have n4 := W.1
  obtain ⟨hc, d1, d2⟩ := wd_c (W.2.2.2.2.2 t ht)
  unfold fn_237
  rw [← yi_n t, if_pos (show fn_192 Y (Int32.ofNat t) ≠ 0 from y_192 W ht)]
  have kk : ∀ X : aa_G, X 541 = Y 541 → X 541 (fn_164 (Int32.ofNat t) + 1).toNatClampNeg = Int32.ofNat (av_c (Y 541) t) := fun X e => by
    rw [e, ml_ta, show Int32.ofNat (50 * t + 3) + 1 = Int32.ofNat (50 * t + 4) from ml_add _ 1, zz_toN (by omega), d1]
  unfold fn_237_14
  by_cases c1 : av_c (Y 541) t ≤ 1
  · rw [if_pos c1]
    refine congrArg Prod.fst (?_ : _ = (Int32.ofInt 0, Y))
    refine lp_r ?_
    dsimp only
    unfold fn_237_14b
    rw [kk Y rfl]
    by_cases z : Int32.ofNat (av_c (Y 541) t) ≤ 0
    · rw [if_pos z]
      rfl
    · rw [if_neg z, if_pos (aa_le32.mpr (by rw [zz_ofN (by omega), i_1]; omega))]
      rfl
  · rw [if_neg c1]
    refine Eq.trans ?_ (hp_loop (dd := (0, Y)) (B := fun z : (aa_G × Int32 × Int32) => fn_237_14b z.1 (Int32.ofNat t) z.2.1 z.2.2) (enc := fun X (s : Int) d => (X, Int32.ofInt s, Int32.ofNat d)) (F := sl_f (Y 541) t) (E := fun s => Int32.ofInt s) (n := av_c (Y 541) t) (P := fun X => wd_g X ∧ X 541 = Y 541) (I := fun _ _ => True) ?_ ?_ (av_c (Y 541) t) 0 Y 0 ⟨W, rfl⟩ trivial (by omega))
    · rfl
    · rintro X s d ⟨p1, p2⟩ - hdn
      obtain ⟨Z, z1, z2, z3⟩ := mk_237 (Y := X) (t := t) (i := d) (s := Int32.ofInt s) p1 (by rw [p2]; exact ht) (by rw [p2]; exact hdn) (by rw [p2]; omega)
      rw [p2] at z1 z3
      refine ⟨Z, z1.trans ?_, ⟨z2, z3⟩, trivial⟩
      show Sum.inl (Z, Int32.ofInt s + ll_ver (av_t (Y 541) t) (av_c (Y 541) t) d, Int32.ofNat (d + 1)) = Sum.inl (Z, Int32.ofInt (s + (ll_ver (av_t (Y 541) t) (av_c (Y 541) t) d).toInt), Int32.ofNat (d + 1))
      rw [← yi_add, yi_of]
    · rintro X s ⟨p1, p2⟩ -
      refine ⟨X, ?_⟩
      dsimp only
      unfold fn_237_14b
      rw [kk X p2, if_pos (aa_le32.mpr (Int.le_refl _))]
/-- work -/
theorem w_22 (B : yWb a) (ht : (t : Int) < (a 0).toInt) (hd : -100000 ≤ day ∧ day ≤ 100000) {last p q : Int} (hl : -100000 ≤ last ∧ last ≤ 100000) (hp : -100 ≤ p ∧ p ≤ 100) (hq : -100 ≤ q ∧ q ≤ 100) : sp_22 a (Int32.ofInt (t : Int)) (Int32.ofInt day) (Int32.ofInt last) (Int32.ofInt p) (Int32.ofInt q) = if ¬ (0 ≤ day ∧ day ≤ 35999) ∨ ¬ (0 ≤ last ∧ last ≤ 35999) ∨ ¬ (day ≤ last ∧ last ≤ day + 359) ∨ ¬ (0 ≤ p ∧ p < q ∧ q ≤ 12) then -1 else sm_i (ww_d a t p q) day.toNat (last.toNat + 1 - day.toNat) := by
  have n4 := B.1
  unfold sp_22
  rw [y_ofn (show t ≤ 2147483647 by omega), yi_T (a := day) (by omega), yi_T (a := last) (by omega), yi_T (a := p) (by omega), yi_T (a := q) (by omega), Int.toNat_natCast]
  by_cases c : ¬ (0 ≤ day ∧ day ≤ 35999) ∨ ¬ (0 ≤ last ∧ last ≤ 35999) ∨ ¬ (day ≤ last ∧ last ≤ day + 359) ∨ ¬ (0 ≤ p ∧ p < q ∧ q ≤ 12)
  · rw [if_pos (Or.inr c), if_pos c]
  · rw [if_neg (show ¬ (¬ (0 ≤ (t : Int) ∧ (t : Int) < (a 0).toInt) ∨ ¬ (0 ≤ day ∧ day ≤ 35999) ∨ ¬ (0 ≤ last ∧ last ≤ 35999) ∨ ¬ (day ≤ last ∧ last ≤ day + 359) ∨ ¬ (0 ≤ p ∧ p < q ∧ q ≤ 12)) from fun z => z.elim (fun z => z ⟨by omega, ht⟩) c), if_neg c]
/-- season -/
def y_se (k l : Int) : Int := if k = 0 then l else if k = 1 then -l else -(if 0 ≤ l - 43200 then l - 43200 else -(l - 43200))
noncomputable def y_sf (a : Nat → Int32) (t : Nat) (k : Int) (d : Nat) (s : Int × Int × Int) : Int × Int × Int := match hv_t a t (d : Int) 0 with
  | none => (s.1, s.2.1, s.2.2 + 1)
  | some (_, l) => if s.1 = -2 ∨ s.2.1 < y_se k l then ((d : Int), y_se k l, s.2.2) else s
theorem y_se_b {l : Int} (hl : 0 ≤ l ∧ l ≤ 100000) : -100000 ≤ y_se k l ∧ y_se k l ≤ 100000 := by
  unfold y_se
  split
  · omega
  · split
    · omega
    · split <;> omega
theorem y_se_c {l : Int} (hk : 0 ≤ k ∧ k ≤ 3) (hl : 0 ≤ l ∧ l ≤ 100000) : sc_v (Int32.ofInt k) (Int32.ofInt l) = Int32.ofInt (y_se k l) := by
  have z0 : Int32.ofInt k = 0 ↔ k = 0 := yi_eq (b := 0) (by omega) (by omega)
  have z1 : Int32.ofInt k = 1 ↔ k = 1 := yi_eq (b := 1) (by omega) (by omega)
  have zl : (0 : Int32) ≤ Int32.ofInt (l - 43200) ↔ 0 ≤ l - 43200 := yi_le (a := 0) (by omega) (by omega)
  have es : Int32.ofInt l - 43200 = Int32.ofInt (l - 43200) := yi_sub l 43200
  unfold sc_v y_se
  rw [es]
  by_cases c0 : k = 0
  · rw [if_neg (fun z => z (z0.mpr c0)), if_pos c0]
  · rw [if_pos (mt z0.mp c0), if_neg c0]
    by_cases c1 : k = 1
    · rw [if_neg (fun z => z (z1.mpr c1)), if_pos c1, yi_neg]
    · rw [if_pos (mt z1.mp c1), if_neg c1]
      by_cases c : 0 ≤ l - 43200
      · rw [if_pos (zl.mpr c), if_pos c, yi_neg]
      · rw [if_neg (mt zl.mp c), if_neg c, yi_neg, yi_neg]
theorem y_sf_1 (B : yWb a) (ht : (t : Int) < (a 0).toInt) (hk : 0 ≤ k ∧ k ≤ 3) {d : Nat} {x y z : Int} (hd : d < 1000) (hx : -2 ≤ x ∧ x ≤ 1000) (hy : -100000 ≤ y ∧ y ≤ 100000) : se_f a t (Int32.ofInt k) d (Int32.ofInt x, Int32.ofInt y, Int32.ofInt z) = (Int32.ofInt (y_sf a t k d (x, y, z)).1, Int32.ofInt (y_sf a t k d (x, y, z)).2.1, Int32.ofInt (y_sf a t k d (x, y, z)).2.2) ∧ (-2 ≤ (y_sf a t k d (x, y, z)).1 ∧ (y_sf a t k d (x, y, z)).1 ≤ 1000) ∧ (-100000 ≤ (y_sf a t k d (x, y, z)).2.1 ∧ (y_sf a t k d (x, y, z)).2.1 ≤ 100000) := by
  unfold se_f y_sf
  cases e : hv_t a t (d : Int) 0 with
  | none => exact ⟨by dsimp only; rw [show Int32.ofInt z + 1 = Int32.ofInt (z + 1) from yi_add z 1], hx, hy⟩
  | some p =>
    obtain ⟨u, l⟩ := p
    have hl := hv_bnd B ht e
    have hl4 := hl.2.2.2.1 (by decide)
    have hv := y_se_b (k := k) (l := l) (by omega)
    have zx : Int32.ofInt x = -2 ↔ x = -2 := yi_eq (b := -2) (by omega) (by omega)
    have zy : Int32.ofInt y < Int32.ofInt (y_se k l) ↔ y < y_se k l := yi_lt (by omega) (by omega)
    dsimp only
    rw [y_se_c hk (by omega), yi_n d]
    by_cases c : x = -2 ∨ y < y_se k l
    · rw [if_pos (c.imp zx.mpr zy.mpr), if_pos c]
      exact ⟨rfl, ⟨by dsimp only; omega, by dsimp only; omega⟩, hv⟩
    · rw [if_neg (fun q => c (q.imp zx.mp zy.mp)), if_neg c]
      exact ⟨rfl, hx, hy⟩
theorem y_sf_c (B : yWb a) (ht : (t : Int) < (a 0).toInt) (hk : 0 ≤ k ∧ k ≤ 3) : ∀ (n d : Nat) (x y z : Int), d + n ≤ 360 → (-2 ≤ x ∧ x ≤ 1000) → (-100000 ≤ y ∧ y ≤ 100000) → fd_i (se_f a t (Int32.ofInt k)) d n (Int32.ofInt x, Int32.ofInt y, Int32.ofInt z) = (Int32.ofInt (fd_i (y_sf a t k) d n (x, y, z)).1, Int32.ofInt (fd_i (y_sf a t k) d n (x, y, z)).2.1, Int32.ofInt (fd_i (y_sf a t k) d n (x, y, z)).2.2)
  | 0, d, x, y, z, hd, hx, hy => rfl
  | n + 1, d, x, y, z, hd, hx, hy => by
    obtain ⟨e, b1, b2⟩ := y_sf_1 (z := z) B ht hk (show d < 1000 by omega) hx hy
    have ih := y_sf_c B ht hk n (d + 1) (y_sf a t k d (x, y, z)).1 (y_sf a t k d (x, y, z)).2.1 (y_sf a t k d (x, y, z)).2.2 (by omega) b1 b2
    show fd_i (se_f a t (Int32.ofInt k)) (d + 1) n (se_f a t (Int32.ofInt k) d (Int32.ofInt x, Int32.ofInt y, Int32.ofInt z)) = _
    rw [e]
    exact ih
noncomputable def s_23 (a : Nat → Int32) (t : Nat) (k : Int) : Int := if k ≠ 3 then (fd_i (y_sf a t k) 0 360 (-2, 0, 0)).1 else (fd_i (y_sf a t k) 0 360 (-2, 0, 0)).2.2
theorem w_23 (B : yWb a) (ht : (t : Int) < (a 0).toInt) (hk : 0 ≤ k ∧ k ≤ 4) : sp_23 a (Int32.ofInt (t : Int)) (Int32.ofInt k) = Int32.ofInt (if k = 4 then -1 else s_23 a t k) := by
  have n4 := B.1
  unfold sp_23
  rw [y_ofn (show t ≤ 2147483647 by omega), yi_T (a := k) (by omega), Int.toNat_natCast]
  by_cases c : k = 4
  · rw [if_pos (Or.inr (by omega)), if_pos c]
    rfl
  · rw [if_neg (by omega), if_neg c]
    have e := y_sf_c (k := k) B ht (by omega) 360 0 (-2) 0 0 (by omega) (by omega) (by omega)
    rw [show fd_i (se_f a t (Int32.ofInt k)) 0 360 (-2, 0, 0) = _ from e]
    have z3 : Int32.ofInt k = 3 ↔ k = 3 := yi_eq (b := 3) (by omega) (by omega)
    unfold s_23
    by_cases c3 : k = 3
    · rw [if_neg (fun z => z c3)]
      dsimp only
      rw [if_neg (fun z => z (z3.mpr c3))]
    · rw [if_pos c3]
      dsimp only
      rw [if_pos (mt z3.mp c3)]
end YM88
