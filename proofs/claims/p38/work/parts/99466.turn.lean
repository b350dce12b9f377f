/-! WHEN: which half of which day; TURN: both sides say the same -/
def wk_r (d h : Int) : Option (Int × Int) → Option (Int × Int × Int × Int)
  | none => none
  | some (b, l) => some (d, h, b, l)
def wt_T (T : Nat → Int32) (t : Nat) (d s : Int) : Option (Int × Int × Int × Int) := match hv_t T t d 0 with
  | none => none
  | some (b, l) => if s < b then wk_r (d - 1) 1 (hv_t T t (d - 1) 1) else if s < b + l then some (d, 0, b, l) else wk_r d 1 (hv_t T t d 1)
theorem wt_b {g : aa_G} {t : Nat} (W : wd_g g) (ht : (t : Int) < (g 541 0).toInt) {d s d' h' b l : Int} (e : wt_T (g 541) t d s = some (d', h', b, l)) : (d' = d ∨ d' = d - 1) ∧ (h' = 0 ∨ h' = 1) ∧ hv_t (g 541) t d' h' = some (b, l) ∧ 0 ≤ b ∧ b ≤ 86399 ∧ 1 ≤ l ∧ l ≤ 172798 ∧ (d' = d → h' = 0 → b ≤ s) := by
  unfold wt_T at e
  cases h0 : hv_t (g 541) t d 0 with
  | none => rw [h0] at e; cases e
  | some r =>
    obtain ⟨b0, l0⟩ := r
    obtain ⟨v1, v2, v3, v4, v5⟩ := hv_b W ht h0
    have v4 := v4 (by decide)
    rw [h0] at e
    dsimp only at e
    by_cases z1 : s < b0
    · rw [if_pos z1] at e
      cases h1 : hv_t (g 541) t (d - 1) 1 with
      | none => rw [h1] at e; exact absurd e (by unfold wk_r; exact fun z => by cases z)
      | some r =>
        obtain ⟨b1, l1⟩ := r
        obtain ⟨w1, w2, w3, w4, w5⟩ := hv_b W ht h1
        have w5 := w5 rfl
        rw [h1] at e
        unfold wk_r at e
        cases e
        exact ⟨.inr rfl, .inr rfl, h1, w1, w2, w3, by omega, fun _ z => absurd z (by decide)⟩
    · rw [if_neg z1] at e
      by_cases z2 : s < b0 + l0
      · rw [if_pos z2] at e
        cases e
        exact ⟨.inl rfl, .inl rfl, h0, v1, v2, v3, by omega, fun _ _ => by omega⟩
      · rw [if_neg z2] at e
        cases h1 : hv_t (g 541) t d 1 with
        | none => rw [h1] at e; exact absurd e (by unfold wk_r; exact fun z => by cases z)
        | some r =>
          obtain ⟨b1, l1⟩ := r
          obtain ⟨w1, w2, w3, w4, w5⟩ := hv_b W ht h1
          have w5 := w5 rfl
          rw [h1] at e
          unfold wk_r at e
          cases e
          exact ⟨.inl rfl, .inr rfl, h1, w1, w2, w3, by omega, fun _ z => absurd z (by decide)⟩
def wk_c (g g' : aa_G) (P : Nat) (v : Int32) : Option (Int × Int × Int × Int) → Prop
  | none => v = 0 ∧ g' P 0 = 0
  | some (d', h', b, l) => v = 1 ∧ g' P 0 = 1 ∧ (g' P 1).toInt = d' ∧ (g' P 2).toInt = h' ∧ (g' P 3).toInt = b ∧ (g' P 4).toInt = l
theorem wk_of {g g' : aa_G} {P : Nat} {d h : Int32} {r : Option (Int × Int)} (k : lk_ok g g' P d h r) : wk_c g g' P (g' P 0) (wk_r d.toInt h.toInt r) := by
  obtain ⟨-, k1, k2, k3⟩ := k
  cases r with
  | none => exact ⟨k3.1, k3.1⟩
  | some r =>
    obtain ⟨b, l⟩ := r
    exact ⟨k3.1, k3.1, by rw [k1], by rw [k2], k3.2.1, k3.2.2⟩
theorem ck_86 {g : aa_G} {P t : Nat} {d s : Int32} (W : wd_g g) (ht : (t : Int) < (g 541 0).toInt) (hP : 461 ≤ P) (hP2 : P < 540) (hd : 0 ≤ d.toInt ∧ d.toInt ≤ 35999) : wk_c g (fn_86 g P (5 * t + 14) d s).2 P (fn_86 g P (5 * t + 14) d s).1 (wt_T (g 541) t d.toInt s.toInt) ∧ ∀ k j, k ≠ P → (fn_86 g P (5 * t + 14) d s).2 k j = g k j := by
  have k := (ck_look (g := g) (P := P) (d := d) (h := 0) W ht hP (.inl rfl)).1
  rw [show (0 : Int32).toInt = 0 from rfl] at k
  have kw := wk_of k
  have kf := k.1
  unfold fn_86 wt_T
  generalize hG : fn_78 g P (some (5 * t + 14)) d 0 = G at k kw kf
  have f1 : ∀ k j, k ≠ P → G k j = g k j := fun k j z => kf k j (by omega)
  have W2 : wd_g G := wd_of W (fun k j z => f1 k j (by omega))
  have e541 : G 541 = g 541 := funext fun j => f1 541 j (by omega)
  have again : ∀ d2 : Int32, wk_c g (fn_86_62 (fn_78 G P (some (5 * t + 14)) d2 1) P).2 P (fn_86_62 (fn_78 G P (some (5 * t + 14)) d2 1) P).1 (wk_r d2.toInt 1 (hv_t (g 541) t d2.toInt 1)) ∧ ∀ k j, k ≠ P → (fn_86_62 (fn_78 G P (some (5 * t + 14)) d2 1) P).2 k j = g k j := by
    intro d2
    have k2 := (ck_look (g := G) (P := P) (d := d2) (h := 1) W2 (by rw [e541]; exact ht) hP (.inr rfl)).1
    rw [e541, show (1 : Int32).toInt = 1 from rfl] at k2
    have kw2 := wk_of k2
    exact ⟨kw2, fun k j z => (k2.1 k j (by omega)).trans (f1 k j z)⟩
  cases hq : hv_t (g 541) t d.toInt 0 with
  | none =>
    rw [hq] at kw
    have z0 : G P 0 = 0 := kw.2
    unfold fn_86_7 fn_86_34
    rw [if_pos z0, if_pos z0]
    exact ⟨kw, f1⟩
  | some r =>
    obtain ⟨b, l⟩ := r
    rw [hq] at kw
    obtain ⟨v1, v2, v3, v4, v5⟩ := hv_b W ht hq
    have v4 := v4 (by decide)
    obtain ⟨k0, -, k1, k2, k3, k4⟩ := kw
    have z0 : ¬ G P 0 = 0 := by rw [k0]; decide
    dsimp only
    unfold fn_86_7
    rw [if_neg z0]
    by_cases z1 : G P 3 ≤ s
    · have z1' := aa_le32.mp z1
      rw [if_pos z1, if_neg (c := s.toInt < b) (by omega)]
      unfold fn_86_34
      rw [if_neg z0]
      have ea : (G P 3 + G P 4).toInt = b + l := by rw [aa_add32 (by omega) (by omega), k3, k4]
      by_cases z2 : s < G P 3 + G P 4
      · have z2' := Int32.lt_iff_toInt_lt.mp z2
        rw [if_pos z2, if_pos (c := s.toInt < b + l) (by omega)]
        exact ⟨⟨k0, k0, k1, k2, k3, k4⟩, f1⟩
      · have z2' := mt Int32.lt_iff_toInt_lt.mpr z2
        rw [if_neg z2, if_neg (c := s.toInt < b + l) (by omega)]
        exact again d
    · have z1' := mt aa_le32.mpr z1
      rw [if_neg z1, if_pos (c := s.toInt < b) (by omega)]
      have ed : (d - 1).toInt = d.toInt - 1 := aa_sub32 (by rw [show (1 : Int32).toInt = 1 from rfl]; omega) (by rw [show (1 : Int32).toInt = 1 from rfl]; omega)
      rw [← ed]
      exact again (d - 1)
def wk_m (g' : aa_G) (d s : Int) (v : Int32) : Option (Int × Int × Int × Int) → Prop
  | none => v = 0
  | some (d', h', b, l) => v = 1 ∧ (g' 540 20).toInt = d' ∧ (g' 540 19).toInt = h' ∧ (g' 540 17).toInt = b ∧ (g' 540 18).toInt = l ∧ (g' 540 21).toInt = s + 86400 * (d - d') - b
theorem mk_200 {g : aa_G} {t : Nat} {d s : Int32} (W : wd_g g) (ht : (t : Int) < (g 541 0).toInt) (hd : 0 ≤ d.toInt ∧ d.toInt ≤ 35999) (hs : 0 ≤ s.toInt ∧ s.toInt ≤ 86399) : wk_m (fn_200 g (Int32.ofNat t) d s).2 d.toInt s.toInt (fn_200 g (Int32.ofNat t) d s).1 (wt_T (g 541) t d.toInt s.toInt) ∧ ∀ k j, ¬ (k = 540 ∧ 13 ≤ j ∧ j ≤ 21 ∧ j ≠ 16) → (fn_200 g (Int32.ofNat t) d s).2 k j = g k j := by
  unfold fn_200
  rw [if_neg (c := fn_193 d = 0) (fun z => ti_193z.mp z hd)]
  generalize hg : fn_195 g (Int32.ofNat t) d = G
  obtain ⟨v, G⟩ := G
  obtain ⟨f1, -, k⟩ := mk_lay W ht hd hg
  have W2 : wd_g G := wd_of W (fun k j z => f1 k j (by omega))
  have e541 : G 541 = g 541 := funext fun j => f1 541 j (by omega)
  dsimp only
  have again : ∀ (d2 h : Int32), (h = 0 ∨ h = 1) → (d2.toInt = d.toInt ∨ d2.toInt = d.toInt - 1) → wk_m (fn_200_59 (zz_w G 540 20 d2) (Int32.ofNat t) d s h).2 d.toInt s.toInt (fn_200_59 (zz_w G 540 20 d2) (Int32.ofNat t) d s h).1 (wk_r d2.toInt h.toInt (hv_t (g 541) t d2.toInt h.toInt)) ∧ ∀ k j, ¬ (k = 540 ∧ 13 ≤ j ∧ j ≤ 21 ∧ j ≠ 16) → (fn_200_59 (zz_w G 540 20 d2) (Int32.ofNat t) d s h).2 k j = g k j := by
    intro d2 h hh hd2
    unfold fn_200_59
    generalize hX : zz_w (zz_w G 540 20 d2) 540 19 h = X
    have x20 : zz_w G 540 20 d2 540 20 = d2 := aa_w_at _ _ _ _
    have X20 : X 540 20 = d2 := by rw [← hX, aa_w_ne _ _ (by omega)]; exact x20
    have X19 : X 540 19 = h := by rw [← hX, aa_w_at]
    have fX : ∀ k j, ¬ (k = 540 ∧ 13 ≤ j ∧ j ≤ 21 ∧ j ≠ 16) → X k j = g k j := fun k j z => by
      rw [← hX, aa_w_ne _ _ (by omega), aa_w_ne _ _ (by omega)]
      exact f1 k j (by omega)
    have W3 : wd_g X := wd_of W (fun k j z => fX k j (by omega))
    have e3 : X 541 = g 541 := funext fun j => fX 541 j (by omega)
    rw [x20]
    generalize hg2 : fn_194 X (Int32.ofNat t) d2 h = Y
    obtain ⟨u, Y⟩ := Y
    obtain ⟨f2, k2⟩ := mk_half W3 (by rw [e3]; exact ht) hh hg2
    rw [e3] at k2
    unfold fn_200_75
    dsimp only
    cases hq : hv_t (g 541) t d2.toInt h.toInt with
    | none =>
      rw [hq] at k2
      have k2 : u = 0 := k2
      rw [if_neg (c := u ≠ 0) (fun z => z k2)]
      exact ⟨rfl, fun k j z => (f2 k j (by omega)).trans (fX k j z)⟩
    | some r =>
      obtain ⟨b, l⟩ := r
      rw [hq] at k2
      obtain ⟨k21, k22, k23⟩ := k2
      obtain ⟨v1, v2, v3, v4, v5⟩ := hv_b W ht hq
      rw [if_pos (c := u ≠ 0) (by rw [k21]; decide)]
      have y20 : Y 540 20 = d2 := (f2 540 20 (by omega)).trans X20
      have y19 : Y 540 19 = h := (f2 540 19 (by omega)).trans X19
      have E1 : (d - d2).toInt = d.toInt - d2.toInt := aa_sub32 (by omega) (by omega)
      have E2 : (86400 * (d - d2)).toInt = 86400 * (d.toInt - d2.toInt) := by
        rw [ti_mul (by rw [E1, show (86400 : Int32).toInt = 86400 from rfl]; omega) (by rw [E1, show (86400 : Int32).toInt = 86400 from rfl]; omega), E1]
        rfl
      have E3 : (s + 86400 * (d - d2)).toInt = s.toInt + 86400 * (d.toInt - d2.toInt) := by rw [aa_add32 (by omega) (by omega), E2]
      have E4 : (s + 86400 * (d - d2) - Y 540 17).toInt = s.toInt + 86400 * (d.toInt - d2.toInt) - b := by rw [aa_sub32 (by omega) (by omega), E3, k22]
      refine ⟨⟨rfl, ?_, ?_, ?_, ?_, ?_⟩, fun k j z => ?_⟩
      · show (zz_w Y 540 21 (s + 86400 * (d - Y 540 20) - Y 540 17) 540 20).toInt = _
        rw [aa_w_ne _ _ (by omega), y20]
      · show (zz_w Y 540 21 (s + 86400 * (d - Y 540 20) - Y 540 17) 540 19).toInt = _
        rw [aa_w_ne _ _ (by omega), y19]
      · show (zz_w Y 540 21 (s + 86400 * (d - Y 540 20) - Y 540 17) 540 17).toInt = _
        rw [aa_w_ne _ _ (by omega), k22]
      · show (zz_w Y 540 21 (s + 86400 * (d - Y 540 20) - Y 540 17) 540 18).toInt = _
        rw [aa_w_ne _ _ (by omega), k23]
      · show (zz_w Y 540 21 (s + 86400 * (d - Y 540 20) - Y 540 17) 540 21).toInt = _
        rw [aa_w_at, y20, E4]
      · show zz_w Y 540 21 (s + 86400 * (d - Y 540 20) - Y 540 17) k j = _
        rw [aa_w_ne _ _ (by omega), f2 k j (by omega), fX k j z]
  unfold wt_T
  unfold fn_200_13
  cases hq : hv_t (g 541) t d.toInt 0 with
  | none =>
    rw [hq] at k
    have k : v = 0 := k
    rw [if_neg (c := v ≠ 0) (fun z => z k)]
    exact ⟨rfl, fun k j z => f1 k j (by omega)⟩
  | some r =>
    obtain ⟨b, l⟩ := r
    rw [hq] at k
    obtain ⟨k1, k2, k3⟩ := k
    obtain ⟨v1, v2, v3, v4, v5⟩ := hv_b W ht hq
    have v4 := v4 (by decide)
    rw [if_pos (c := v ≠ 0) (by rw [k1]; decide)]
    dsimp only
    unfold fn_200_34 fn_200_58
    by_cases z1 : G 540 14 ≤ s
    · have z1' := aa_le32.mp z1
      rw [if_pos z1, if_neg (c := s < G 540 14) (fun z => by have := Int32.lt_iff_toInt_lt.mp z; omega), if_neg (c := s.toInt < b) (by omega)]
      by_cases z2 : G 540 15 ≤ s
      · have z2' := aa_le32.mp z2
        rw [if_pos z2, if_neg (c := s.toInt < b + l) (by omega)]
        exact again d 1 (.inr rfl) (.inl rfl)
      · have z2' := mt aa_le32.mpr z2
        rw [if_neg z2, if_pos (c := s.toInt < b + l) (by omega)]
        have q := again d 0 (.inl rfl) (.inl rfl)
        rw [show (0 : Int32).toInt = 0 from rfl, hq] at q
        exact q
    · have z1' := mt aa_le32.mpr z1
      have ed : (d - 1).toInt = d.toInt - 1 := aa_sub32 (by rw [show (1 : Int32).toInt = 1 from rfl]; omega) (by rw [show (1 : Int32).toInt = 1 from rfl]; omega)
      rw [if_neg z1, if_pos (c := s < G 540 14) (Int32.lt_iff_toInt_lt.mpr (by omega)), if_pos (c := s.toInt < b) (by omega), ← ed]
      exact again (d - 1) 1 (.inr rfl) (.inr ed)
