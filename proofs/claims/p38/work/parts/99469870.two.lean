/-! TWO LOOPS SIDE BY SIDE; GUARDS; LOOKS: what the comparing of askers needs -/
theorem lp_two {σ τ ρ κ : Type} {d : ρ} {e : κ} {f : σ → σ ⊕ ρ} {m : τ → τ ⊕ κ} {Q : ρ → κ → Prop} (R : Nat → σ → τ → Prop)
    (h : ∀ n s t, R (n + 1) s t → (∃ s' t', f s = .inl s' ∧ m t = .inl t' ∧ R n s' t') ∨ (∃ t', m t = .inl t' ∧ R n s t') ∨ (∃ s', f s = .inl s' ∧ R n s' t) ∨ (∃ r k, f s = .inr r ∧ m t = .inr k ∧ Q r k))
    (h0 : ∀ s t, R 0 s t → ∃ r k, f s = .inr r ∧ m t = .inr k ∧ Q r k) : ∀ (n : Nat) (s : σ) (t : τ), R n s t → Q (lp_f d f s) (lp_f e m t) := by
  intro n
  induction n with
  | zero =>
    intro s t hr
    obtain ⟨r, k, e1, e2, q⟩ := h0 s t hr
    rw [lp_r e1, lp_r e2]
    exact q
  | succ n ih =>
    intro s t hr
    rcases h n s t hr with ⟨s', t', e1, e2, q⟩ | ⟨t', e2, q⟩ | ⟨s', e1, q⟩ | ⟨r, k, e1, e2, q⟩
    · rw [lp_l e1, lp_l e2]
      exact ih _ _ q
    · rw [lp_l e2]
      exact ih _ _ q
    · rw [lp_l e1]
      exact ih _ _ q
    · rw [lp_r e1, lp_r e2]
      exact q
theorem lp_two1 {σ τ : Type} {d e : Int32 × aa_G} {f : σ → σ ⊕ (Int32 × aa_G)} {m : τ → τ ⊕ (Int32 × aa_G)} (R : Nat → σ → τ → Prop)
    (h : ∀ n s t, R (n + 1) s t → (∃ s' t', f s = .inl s' ∧ m t = .inl t' ∧ R n s' t') ∨ (∃ t', m t = .inl t' ∧ R n s t') ∨ (∃ s', f s = .inl s' ∧ R n s' t) ∨ (∃ r k, f s = .inr r ∧ m t = .inr k ∧ r.1 = k.1))
    (h0 : ∀ s t, R 0 s t → ∃ r k, f s = .inr r ∧ m t = .inr k ∧ r.1 = k.1) (n : Nat) (s : σ) (t : τ) (hr : R n s t) : (lp_f d f s).1 = (lp_f e m t).1 :=
  lp_two (Q := fun (r k : Int32 × aa_G) => r.1 = k.1) R h h0 n s t hr
theorem gd_66z {c : Int32} : fn_66 c = 0 ↔ ¬ (0 ≤ c.toInt ∧ c.toInt ≤ 86399) := ti_14z
theorem gd_199z {c : Int32} : fn_199 c = 0 ↔ ¬ (0 ≤ c.toInt ∧ c.toInt ≤ 86399) := ti_154z
theorem gd_192z {g : aa_G} (W : wd_g g) {a : Int32} : fn_192 g a = 0 ↔ ¬ (0 ≤ a.toInt ∧ a.toInt < (g 541 0).toInt) := by
  rcases ct_at W a with ⟨t, ht, rfl, ht2, -, e⟩ | ⟨n, -, e⟩
  · rw [e, zz_ofN (by omega)]
    exact ⟨fun h => absurd h (by decide), fun h => absurd ⟨by omega, ht2⟩ h⟩
  · rw [e]
    exact ⟨fun _ => n, fun _ => rfl⟩
theorem gd_191z {g : aa_G} (W : wd_g g) {a b : Int32} : fn_191 g a b = 0 ↔ ¬ ((0 ≤ a.toInt ∧ a.toInt < (g 541 0).toInt) ∧ (0 ≤ b.toInt ∧ b.toInt ≤ 35999)) := by
  rw [ti_191, gd_192z W]
  omega
theorem gd_91z {g : aa_G} (W : wd_g g) {h n : Int32} : fn_91 g h n = 0 ↔ ¬ ((0 ≤ h.toInt ∧ h.toInt ≤ 1) ∧ (0 ≤ n.toInt ∧ n.toInt ≤ 12 * (g 541 1).toInt - 1)) := by
  have e : fn_91 g h n = fn_204 g h n := by
    unfold fn_91 fn_204
    rw [W.2.2.2.1]
    rfl
  rw [e, ti_204 W.2.1]
theorem gt_s {g : aa_G} (W : wd_g g) {a : Int32} (h : 0 ≤ a.toInt ∧ a.toInt < (g 541 0).toInt) : ∃ t : Nat, t < 4 ∧ a = Int32.ofNat t ∧ (t : Int) < (g 541 0).toInt ∧ fn_31 g a = some (5 * t + 14) ∧ fn_192 g a = 1 := by
  rcases ct_at W a with ⟨t, ht, e, ht2, e1, e2⟩ | ⟨n, -, -⟩
  · exact ⟨t, ht, e, ht2, e1, e2⟩
  · exact absurd h n
theorem gt_n {g : aa_G} (W : wd_g g) {a : Int32} (h : ¬ (0 ≤ a.toInt ∧ a.toInt < (g 541 0).toInt)) : fn_31 g a = none := by
  rcases ct_at W a with ⟨t, ht, e, ht2, -, -⟩ | ⟨-, e1, -⟩
  · rw [e, zz_ofN (by omega)] at h
    exact absurd ⟨by omega, ht2⟩ h
  · exact e1
/-- literals -/
theorem i_0 : (0 : Int32).toInt = 0 := rfl
theorem i_1 : (1 : Int32).toInt = 1 := rfl
theorem i_2 : (2 : Int32).toInt = 2 := rfl
theorem i_3 : (3 : Int32).toInt = 3 := rfl
theorem i_11 : (11 : Int32).toInt = 11 := rfl
theorem i_12n : (12 : Int32).toInt = 12 := rfl
theorem i_15 : (15 : Int32).toInt = 15 := rfl
theorem i_23 : (23 : Int32).toInt = 23 := rfl
theorem i_60 : (60 : Int32).toInt = 60 := rfl
theorem i_360 : (360 : Int32).toInt = 360 := rfl
theorem i_864 : (86400 : Int32).toInt = 86400 := rfl
theorem i_8640 : (864000 : Int32).toInt = 864000 := rfl
theorem i_35 : (35999 : Int32).toInt = 35999 := rfl
theorem i_36 : (36000 : Int32).toInt = 36000 := rfl
theorem i_m1 : (-1 : Int32).toInt = -1 := rfl
theorem i_m2 : (-2 : Int32).toInt = -2 := rfl
theorem i_m6 : (-1000000 : Int32).toInt = -1000000 := rfl
theorem i_10 : ((1 : Int32) = 0) = False := eq_false (by decide)
/-- looks of the class and of the model, packed -/
def lv_c (Y : aa_G) (P : Nat) : Option (Int × Int) → Prop
  | none => Y P 0 = 0 ∧ Y P 3 = 0 ∧ Y P 4 = 0
  | some (b, l) => Y P 0 = 1 ∧ (Y P 3).toInt = b ∧ (Y P 4).toInt = l
def lv_m (v : Int32) (Y : aa_G) : Option (Int × Int) → Prop
  | none => v = 0
  | some (b, l) => v = 1 ∧ (Y 540 17).toInt = b ∧ (Y 540 18).toInt = l
def lv_l (v : Int32) : Option (Int × Int) → Prop
  | none => v = -1
  | some (_, l) => v.toInt = l
theorem lv_look {X : aa_G} {t : Nat} (P : Nat) (d h : Int32) (W : wd_g X) (ht : (t : Int) < (X 541 0).toInt) (hP : 461 ≤ P ∧ P < 540) (hh : h = 0 ∨ h = 1) : wd_g (fn_78 X P (some (5 * t + 14)) d h) ∧ (fn_78 X P (some (5 * t + 14)) d h) 541 = X 541 ∧ (∀ k j, k ≠ P → (fn_78 X P (some (5 * t + 14)) d h) k j = X k j) ∧ lv_c (fn_78 X P (some (5 * t + 14)) d h) P (hv_t (X 541) t d.toInt h.toInt) ∧ (fn_78 X P (some (5 * t + 14)) d h) P 1 = d := by
  obtain ⟨f, q1, -, m⟩ := (ck_look (g := X) (P := P) (d := d) (h := h) W ht hP.1 hh).1
  refine ⟨wd_of W (fun k j z => f k j (by omega)), funext fun j => f 541 j (by omega), fun k j z => f k j (by omega), ?_, q1⟩
  cases hq : hv_t (X 541) t d.toInt h.toInt with
  | none =>
    rw [hq] at m
    exact m
  | some r =>
    rw [hq] at m
    exact m
theorem lv_half {X : aa_G} {t : Nat} (d h : Int32) (W : wd_g X) (ht : (t : Int) < (X 541 0).toInt) (hh : h = 0 ∨ h = 1) : wd_g (fn_194 X (Int32.ofNat t) d h).2 ∧ (fn_194 X (Int32.ofNat t) d h).2 541 = X 541 ∧ (∀ k j, ¬ (k = 540 ∧ 13 ≤ j ∧ j ≤ 18 ∧ j ≠ 16) → (fn_194 X (Int32.ofNat t) d h).2 k j = X k j) ∧ lv_m (fn_194 X (Int32.ofNat t) d h).1 (fn_194 X (Int32.ofNat t) d h).2 (hv_t (X 541) t d.toInt h.toInt) := by
  generalize hg : fn_194 X (Int32.ofNat t) d h = Z
  obtain ⟨v, Z⟩ := Z
  obtain ⟨f, m⟩ := mk_half W ht hh hg
  refine ⟨wd_of W (fun k j z => f k j (by omega)), funext fun j => f 541 j (by omega), f, ?_⟩
  cases hq : hv_t (X 541) t d.toInt h.toInt with
  | none =>
    rw [hq] at m
    exact m
  | some r =>
    rw [hq] at m
    exact m
theorem lv_len {X : aa_G} {t : Nat} (d : Int32) (W : wd_g X) (ht : (t : Int) < (X 541 0).toInt) : wd_g (fn_222 X (Int32.ofNat t) d).2 ∧ (fn_222 X (Int32.ofNat t) d).2 541 = X 541 ∧ (∀ k j, ¬ (k = 540 ∧ 13 ≤ j ∧ j ≤ 18 ∧ j ≠ 16) → (fn_222 X (Int32.ofNat t) d).2 k j = X k j) ∧ lv_l (fn_222 X (Int32.ofNat t) d).1 (hv_t (X 541) t d.toInt 0) := by
  obtain ⟨f, m⟩ := mk_222 (d := d) W ht
  refine ⟨wd_of W (fun k j z => f k j (by omega)), funext fun j => f 541 j (by omega), f, ?_⟩
  cases hq : hv_t (X 541) t d.toInt 0 with
  | none =>
    rw [hq] at m
    exact ti_eq.mpr m
  | some r =>
    rw [hq] at m
    exact m
/-- a class's look and a model's look of the same half -/
theorem lv_3 {Y : aa_G} {P : Nat} {v : Int32} {Z : aa_G} {b l : Int} (h : lv_c Y P (some (b, l))) (k : lv_m v Z (some (b, l))) : Y P 3 = Z 540 17 := ti_eq.mpr (h.2.1.trans k.2.1.symm)
theorem lv_4 {Y : aa_G} {P : Nat} {v : Int32} {Z : aa_G} {b l : Int} (h : lv_c Y P (some (b, l))) (k : lv_m v Z (some (b, l))) : Y P 4 = Z 540 18 := ti_eq.mpr (h.2.2.trans k.2.2.symm)
theorem lv_c0 {Y : aa_G} {P : Nat} (h : lv_c Y P none) : Y P 0 = 0 := h.1
theorem lv_c1 {Y : aa_G} {P : Nat} {r : Int × Int} (h : lv_c Y P (some r)) : Y P 0 = 1 := h.1
theorem lv_m0 {v : Int32} {Z : aa_G} (h : lv_m v Z none) : v = 0 := h
theorem lv_m1 {v : Int32} {Z : aa_G} {r : Int × Int} (h : lv_m v Z (some r)) : v = 1 := h.1
theorem i_sub {u p q : Int32} : (u + p) - (u + q) = p - q := by
  rw [← Int32.sub_sub, Int32.add_comm u p, Int32.add_sub_cancel]
theorem i_121 {x : Int32} : x + 12 - 1 = x + 11 := by
  rw [Int32.sub_eq_add_neg, Int32.add_assoc, show (12 + -1 : Int32) = 11 from by decide]
/-- BACK of a PLACE on the class's side -/
theorem ck_92 {g Y : aa_G} {t P : Nat} {n : Int32} {d h : Int} (W : wd_g g) (ht : (t : Int) < (g 541 0).toInt) (hn : 0 ≤ n.toInt ∧ n.toInt ≤ 12 * (g 541 1).toInt - 1) (hv : lv_c Y P (hv_t (g 541) t d h)) : fn_92 Y P n (g 541 1) = sp_b (g 541 1) n (hv_t (g 541) t d h) := by
  have hq := W.2.1
  unfold fn_92
  cases hr : hv_t (g 541) t d h with
  | none =>
    rw [hr] at hv
    rw [if_pos (c := Y P 0 = 0) (lv_c0 hv)]
    rfl
  | some r =>
    obtain ⟨u, l⟩ := r
    rw [hr] at hv
    obtain ⟨m1, m2, m3⟩ := hv
    obtain ⟨w1, w2⟩ := hv_bb W ht hr
    have hl : 1 ≤ (Int32.ofInt l).toInt ∧ (Int32.ofInt l).toInt ≤ 172798 := by
      rw [← of_ti m3, m3]
      omega
    obtain ⟨s1, s2, s3⟩ := sp_nb hq hl hn
    rw [if_neg (c := Y P 0 = 0) (by rw [m1]; decide), if_pos (c := (1 : Int32) ≤ g 541 1) (aa_le32.mpr hq.1), of_ti m2, of_ti m3]
    unfold sp_b
    show (if 0 ≤ lg_cmp (sp_n (g 541 1) (Int32.ofInt l) n) (Int32.ofInt l).toInt64 then (-2 : Int32) else Int32.ofInt u + (sp_n (g 541 1) (Int32.ofInt l) n).toInt32) = _
    have e : 0 ≤ lg_cmp (sp_n (g 541 1) (Int32.ofInt l) n) (Int32.ofInt l).toInt64 ↔ l ≤ (sp_n (g 541 1) (Int32.ofInt l) n).toInt := by
      rw [l_cmp, l_of, ← of_ti m3, m3]
    dsimp only
    by_cases z : l ≤ (sp_n (g 541 1) (Int32.ofInt l) n).toInt
    · rw [if_pos (e.mpr z), if_pos z]
    · rw [if_neg (mt e.mp z), if_neg z]
theorem sp_bu {g : aa_G} {t : Nat} {n : Int32} {b h : Int} (W : wd_g g) (ht : (t : Int) < (g 541 0).toInt) (hn : 0 ≤ n.toInt ∧ n.toInt ≤ 12 * (g 541 1).toInt - 1) : sp_b (g 541 1) n (hv_t (g 541) t b h) = -2 ∨ (0 ≤ (sp_b (g 541 1) n (hv_t (g 541) t b h)).toInt ∧ (sp_b (g 541 1) n (hv_t (g 541) t b h)).toInt ≤ 259198) := by
  have hq := W.2.1
  cases hv : hv_t (g 541) t b h with
  | none => exact .inl rfl
  | some r =>
    obtain ⟨u, l⟩ := r
    obtain ⟨w1, w2⟩ := hv_bb W ht hv
    have el : (Int32.ofInt l).toInt = l := Int32.toInt_ofInt_of_le (by omega) (by omega)
    have eu : (Int32.ofInt u).toInt = u := Int32.toInt_ofInt_of_le (by omega) (by omega)
    obtain ⟨s1, s2, s3⟩ := sp_nb hq (l := Int32.ofInt l) (by rw [el]; exact w2) hn
    unfold sp_b
    dsimp only
    by_cases z : l ≤ (sp_n (g 541 1) (Int32.ofInt l) n).toInt
    · rw [if_pos z]
      exact .inl rfl
    · rw [if_neg z]
      refine .inr ?_
      rw [aa_add32 (by rw [s1, eu]; omega) (by rw [s1, eu]; omega), s1, eu]
      omega
/-- the last day of a search -/
theorem fn_234_v {b : Int32} (hb : 0 ≤ b.toInt ∧ b.toInt ≤ 35999) : (fn_234 b).toInt = if b.toInt + 359 ≤ 35999 then b.toInt + 359 else 35999 := by
  have e1 : (b + 360).toInt = b.toInt + 360 := aa_add32 (by rw [i_360]; omega) (by rw [i_360]; omega)
  have e2 : (b + 360 - 1).toInt = b.toInt + 359 := by rw [aa_sub32 (by rw [e1, i_1]; omega) (by rw [e1, i_1]; omega), e1, i_1]; omega
  unfold fn_234
  by_cases z : b.toInt + 359 ≤ 35999
  · rw [if_pos z, if_pos (c := b + 360 - 1 ≤ 35999) (aa_le32.mpr (by rw [e2, i_35]; exact z)), e2]
  · rw [if_neg z, if_neg (c := b + 360 - 1 ≤ 35999) (fun h => z (by have := aa_le32.mp h; rw [e2, i_35] at this; exact this))]
    rfl
/-- the next number -/
theorem i_suc {i : Int32} (h0 : -2147483648 ≤ i.toInt) (h : i.toInt < 2147483647) : (i + 1).toInt = i.toInt + 1 := aa_add32 (by rw [i_1]; omega) (by rw [i_1]; omega)
/-- two towns by a key -/
theorem gk_at {g : aa_G} (W : wd_g g) (a : Int32) : (∃ t1 t2 : Nat, (t1 < 4 ∧ a / 4 = Int32.ofNat t1 ∧ (t1 : Int) < (g 541 0).toInt) ∧ (t2 < 4 ∧ a - a / 4 * 4 = Int32.ofNat t2 ∧ (t2 : Int) < (g 541 0).toInt) ∧ (fn_133 g a = some (5 * t1 + 14) ∧ fn_134 g a = some (5 * t2 + 14)) ∧ (0 ≤ a.toInt ∧ a.toInt ≤ 15) ∧ (0 ≤ (a / 4).toInt ∧ (a / 4).toInt < (g 541 0).toInt) ∧ (0 ≤ (a - a / 4 * 4).toInt ∧ (a - a / 4 * 4).toInt < (g 541 0).toInt)) ∨ ((fn_133 g a = none ∨ fn_134 g a = none) ∧ ¬ ((0 ≤ a.toInt ∧ a.toInt ≤ 15) ∧ (0 ≤ (a / 4).toInt ∧ (a / 4).toInt < (g 541 0).toInt) ∧ (0 ≤ (a - a / 4 * 4).toInt ∧ (a - a / 4 * 4).toInt < (g 541 0).toInt))) := by
  by_cases zk : fn_14 a 0 15 = 0
  · refine .inr ⟨.inl ?_, fun h => ti_14z.mp zk h.1⟩
    unfold fn_133
    rw [if_pos zk]
  · have hk : 0 ≤ a.toInt ∧ a.toInt ≤ 15 := ti_14n.mp zk
    have e1 : (a / 4).toInt = a.toInt / 4 := ti_div hk.1 (by decide)
    have e2 : (a - a / 4 * 4).toInt = a.toInt % 4 := ti_rem hk.1 (by decide)
    by_cases h1 : 0 ≤ (a / 4).toInt ∧ (a / 4).toInt < (g 541 0).toInt
    · by_cases h2 : 0 ≤ (a - a / 4 * 4).toInt ∧ (a - a / 4 * 4).toInt < (g 541 0).toInt
      · obtain ⟨t1, x1, x2, x3, x4, -⟩ := gt_s W h1
        obtain ⟨t2, y1, y2, y3, y4, -⟩ := gt_s W h2
        refine .inl ⟨t1, t2, ⟨x1, x2, x3⟩, ⟨y1, y2, y3⟩, ⟨?_, ?_⟩, hk, h1, h2⟩
        · unfold fn_133
          rw [if_neg zk, x4]
        · unfold fn_134
          rw [if_neg zk, y4]
      · refine .inr ⟨.inr ?_, fun h => h2 h.2.2⟩
        unfold fn_134
        rw [if_neg zk, gt_n W h2]
    · refine .inr ⟨.inl ?_, fun h => h1 h.2.1⟩
      unfold fn_133
      rw [if_neg zk, gt_n W h1]
theorem gd_239z {g : aa_G} (W : wd_g g) {a : Int32} : fn_239 g a = 0 ↔ ¬ ((0 ≤ a.toInt ∧ a.toInt ≤ 15) ∧ (0 ≤ (a / 4).toInt ∧ (a / 4).toInt < (g 541 0).toInt) ∧ (0 ≤ (a - a / 4 * 4).toInt ∧ (a - a / 4 * 4).toInt < (g 541 0).toInt)) := by
  unfold fn_239
  by_cases z1 : fn_154 a 0 15 = 0
  · rw [if_pos z1]
    exact ⟨fun _ h => ti_154z.mp z1 h.1, fun _ => rfl⟩
  · have k1 : 0 ≤ a.toInt ∧ a.toInt ≤ 15 := ti_154n.mp z1
    rw [if_neg z1]
    by_cases z2 : fn_192 g (a / 4) = 0
    · rw [if_pos z2]
      exact ⟨fun _ h => (gd_192z W).mp z2 h.2.1, fun _ => rfl⟩
    · have k2 := Decidable.not_not.mp (mt (gd_192z W).mpr z2)
      rw [if_neg z2]
      by_cases z3 : fn_192 g (a - a / 4 * 4) = 0
      · rw [if_pos z3]
        exact ⟨fun _ h => (gd_192z W).mp z3 h.2.2, fun _ => rfl⟩
      · have k3 := Decidable.not_not.mp (mt (gd_192z W).mpr z3)
        rw [if_neg z3]
        exact ⟨fun h => absurd h (by decide), fun h => absurd ⟨k1, k2, k3⟩ h⟩
/-- an hour of a half, on the model's side -/
def lv_h (v : Int32) (Z : aa_G) (x : Int32) : Option (Int × Int) → Prop
  | none => v = 0
  | some (b, l) => v = 1 ∧ ∃ p q : Int32, p.toInt = b ∧ q.toInt = l ∧ Z 540 29 = p + (x * q + 11) / 12 ∧ Z 540 30 = p + ((x + 1) * q + 11) / 12
theorem lv_hour {X : aa_G} {t : Nat} (d x : Int32) (W : wd_g X) (ht : (t : Int) < (X 541 0).toInt) (hh : x / 12 = 0 ∨ x / 12 = 1) : wd_g (fn_229 X (Int32.ofNat t) d x).2 ∧ (fn_229 X (Int32.ofNat t) d x).2 541 = X 541 ∧ lv_h (fn_229 X (Int32.ofNat t) d x).1 (fn_229 X (Int32.ofNat t) d x).2 (x - x / 12 * 12) (hv_t (X 541) t d.toInt (x / 12).toInt) := by
  obtain ⟨w1, w2, -, m⟩ := lv_half d (x / 12) W ht hh
  unfold fn_229
  generalize fn_194 X (Int32.ofNat t) d (x / 12) = Z at w1 w2 m ⊢
  obtain ⟨v, Z⟩ := Z
  unfold fn_229_10
  dsimp only at w1 w2 m ⊢
  cases hq : hv_t (X 541) t d.toInt (x / 12).toInt with
  | none =>
    rw [hq] at m
    rw [if_neg (c := v ≠ 0) (fun z => z (lv_m0 m))]
    exact ⟨w1, w2, rfl⟩
  | some r =>
    obtain ⟨b, l⟩ := r
    rw [hq] at m
    obtain ⟨m1, m2, m3⟩ := m
    rw [if_pos (c := v ≠ 0) (by rw [m1]; decide)]
    generalize hy : zz_w Z 540 29 (Z 540 17 + fn_225 Z (x - x / 12 * 12)) = Y
    have y18 : Y 540 18 = Z 540 18 := by rw [← hy, aa_w_ne _ _ (by omega)]
    have y29 : Y 540 29 = Z 540 17 + fn_225 Z (x - x / 12 * 12) := by rw [← hy, aa_w_at]
    have fY : ∀ k j, ¬ (k = 540 ∧ j = 29) → Y k j = Z k j := fun k j z => by rw [← hy, aa_w_ne _ _ z]
    generalize hu : zz_w Y 540 30 (Z 540 17 + fn_225 Y (x - x / 12 * 12 + 1)) = U
    have fU : ∀ k j, ¬ (k = 540 ∧ j = 30) → U k j = Y k j := fun k j z => by rw [← hu, aa_w_ne _ _ z]
    dsimp only
    refine ⟨wd_of w1 (fun k j z => (fU k j (by omega)).trans (fY k j (by omega))), (funext fun j => (fU 541 j (by omega)).trans (fY 541 j (by omega))).trans w2, rfl, Z 540 17, Z 540 18, m2, m3, ?_, ?_⟩
    · rw [fU 540 29 (by omega), y29]
      rfl
    · rw [← hu, aa_w_at]
      unfold fn_225
      rw [y18]
