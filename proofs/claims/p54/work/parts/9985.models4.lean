/-! QUESTIONS OF RINGS AND TOWNS, by the model's words: total, quiet, same, spread, season, shared -/
section YM85
variable {g Y : aa_G} {a : Nat → Int32} {t t2 : Nat} {lst : List (yBell × List fl_T)} {day s : Int}
/-- strokes of a day's rings -/
def y_sts (lst : List (yBell × List fl_T)) (L : List (Int × Int)) : Int := sm_i (fun j => y_stk lst (y_s2 L j)) 0 L.length
/-- rings of a day, none where the day is none -/
def yRd (a : Nat → Int32) (t : Nat) (lst : List (yBell × List fl_T)) (d : Int) : List (Int × Int) := if 0 ≤ d ∧ d ≤ 35999 then yRq a t lst d else []
theorem yRd_in (hd : 0 ≤ day ∧ day ≤ 35999) : yRd a t lst day = yRq a t lst day := if_pos hd
theorem yRq_out (B : yBr a lst) (hd : 36000 ≤ day) : yRq a t lst day = [] := by
  have z : ∀ (e : yBell × List fl_T) (d : Int), (36000 ≤ d ∨ (d = 35999 ∧ e.1.1 = 1)) → yRg (a 1).toInt (av_t a t) (av_c a t) e.1 e.2 (t : Int) d = -1 := fun e d h => by
    unfold yRg
    have e1 : tw_H (av_t a t) (av_c a t) d e.1.1 = none := by
      unfold tw_H
      rcases h with h | ⟨h, h'⟩
      · exact if_pos (by omega)
      · rw [if_neg (by omega), if_pos ⟨h', h⟩]
    rw [e1]
  have k : ∀ (r : List (yBell × List fl_T)) (k : Int), y_gat (a 1).toInt (av_t a t) (av_c a t) (t : Int) day k r = [] := fun r => by
    induction r with
    | nil => exact fun _ => rfl
    | cons e r ih =>
      intro k
      have eg : y_gat (a 1).toInt (av_t a t) (av_c a t) (t : Int) day k (e :: r) = y_pc (a 1).toInt (av_t a t) (av_c a t) (t : Int) day k e ++ y_gat (a 1).toInt (av_t a t) (av_c a t) (t : Int) day (k + 1) r := rfl
      rw [eg, ih]
      unfold y_pc
      have f1 : ¬ (e.1.1 = 1 ∧ 86400 ≤ yRg (a 1).toInt (av_t a t) (av_c a t) e.1 e.2 (t : Int) (day - 1)) := fun q => by
        have h1 := q.1
        rw [z e (day - 1) (by omega)] at q
        omega
      rw [if_neg f1, z e day (Or.inl hd), if_neg (by omega)]
      rfl
  unfold yRq
  rw [k]
  rfl
theorem y_sts_b {L : List (Int × Int)} (B : yBr a lst) (hb : ∀ z ∈ L, (0 ≤ z.1 ∧ z.1 < 86400) ∧ 0 ≤ z.2 ∧ z.2 < lst.length) (l16 : L.length ≤ 16) : 0 ≤ y_sts lst L ∧ y_sts lst L ≤ 384 := by
  have key : ∀ (n i : Nat), i + n = L.length → 0 ≤ sm_i (fun j => y_stk lst (y_s2 L j)) i n ∧ sm_i (fun j => y_stk lst (y_s2 L j)) i n ≤ 24 * n := by
    intro n
    induction n with
    | zero => exact fun i _ => ⟨Int.le_refl _, Int.le_refl _⟩
    | succ n ih =>
      intro i e
      have h1 := ih (i + 1) (by omega)
      have h2 := (y_stk_at B (y_s_b hb (show i < L.length by omega)).2).2.1
      show 0 ≤ y_stk lst (y_s2 L i) + sm_i _ (i + 1) n ∧ y_stk lst (y_s2 L i) + sm_i _ (i + 1) n ≤ 24 * ((n + 1 : Nat) : Int)
      omega
  have := key L.length 0 (by omega)
  unfold y_sts
  omega
/-- quiet: where the longest time without a ring begins, how long it is -/
def qt_f (L : List (Int × Int)) (i : Nat) (s : Int × Int) : Int × Int := if (if i = L.length then 86400 else y_s1 L i) - (if i = 0 then 0 else y_s1 L (i - 1)) ≤ s.2 then s else ((if i = 0 then 0 else y_s1 L (i - 1)), (if i = L.length then 86400 else y_s1 L i) - (if i = 0 then 0 else y_s1 L (i - 1)))
theorem m_247 (W : wd_g g) (ht : (t : Int) < (g 541 0).toInt) (Br : yBr (g 541) lst) (hd : 0 ≤ day ∧ day ≤ 35999) {i : Int} (hi : i = 0 ∨ i = 1) : (fn_247 g (Int32.ofInt (t : Int)) (Int32.ofInt day) (Int32.ofInt i)).1 = Int32.ofInt ((fun s : Int × Int => if i = 0 then s.1 else s.2) (fd_i (qt_f (yRq (g 541) t lst day)) 0 ((yRq (g 541) t lst day).length + 1) (0, -1))) := by
  unfold fn_247
  rw [← yi_n t, if_neg (y_191 W ht hd), if_pos (show ¬ fn_154 (Int32.ofInt i) 0 1 = 0 from y_154 (a := i) (lo := 0) (hi := 1) (by omega) (by omega) (by omega) (by omega))]
  have L := rl_lay W ht Br hd W rfl
  have hb := yRq_b (d := day) (yWb_of W) ht Br
  have l16 := yRq_len (t := t) (d := day) Br
  generalize yRq (g 541) t lst day = R at L hb l16 ⊢
  generalize fn_212 g (Int32.ofNat t) (Int32.ofInt day) = Z at L ⊢
  unfold fn_247_26 fn_247_35
  have z0 : Int32.ofInt i = 0 ↔ i = 0 := yi_eq (b := 0) (by omega) (by omega)
  refine Eq.trans ?_ (hp_loop (dd := (0, Z)) (B := fun z : (Int32 × Int32 × Int32) => fn_247_35b Z (Int32.ofInt i) z.1 z.2.1 z.2.2) (enc := fun _ (s : Int × Int) d => (Int32.ofInt s.1, Int32.ofInt s.2, Int32.ofNat d)) (F := qt_f R) (E := fun s => Int32.ofInt (if i = 0 then s.1 else s.2)) (n := R.length + 1) (P := fun _ => True) (I := fun _ s => -1 ≤ s.2 ∧ s.2 ≤ 86400) ?_ ?_ (R.length + 1) 0 Z (0, -1) trivial ⟨by omega, by omega⟩ (by omega))
  · rfl
  · rintro X ⟨b, m⟩ d - ⟨i1, i2⟩ hdn
    dsimp only at i1 i2
    refine ⟨X, ?_, trivial, ?_⟩
    · show fn_247_35b Z (Int32.ofInt i) (Int32.ofInt b) (Int32.ofInt m) (Int32.ofNat d) = _
      unfold fn_247_35b fn_247_62 fn_247_85 fn_247_108
      have k1 : ¬ Int32.ofNat R.length < Int32.ofNat d := fun z => by have := Int32.lt_iff_toInt_lt.mp z; rw [zz_ofN (by omega), zz_ofN (by omega)] at this; omega
      have zd : Int32.ofNat d ≠ 0 ↔ d ≠ 0 := by
        rw [yi_n]
        exact (not_congr (yi_eq (b := 0) (by omega) (by omega))).trans (by omega)
      have zn : Int32.ofNat d ≠ Int32.ofNat R.length ↔ d ≠ R.length := by
        rw [yi_n, yi_n]
        exact (not_congr (yi_eq (by omega) (by omega))).trans (by omega)
      rw [L.1.1, if_neg k1, aa_succ]
      have fin_ : ∀ (f n : Int), 0 ≤ f ∧ f ≤ 86400 → 0 ≤ n ∧ n ≤ 86400 → (if Int32.ofInt m < Int32.ofInt n - Int32.ofInt f then (Sum.inl (Int32.ofInt f, Int32.ofInt n - Int32.ofInt f, Int32.ofNat (d + 1)) : (Int32 × Int32 × Int32) ⊕ (Int32 × aa_G)) else Sum.inl (Int32.ofInt b, Int32.ofInt m, Int32.ofNat (d + 1))) = Sum.inl (Int32.ofInt (if n - f ≤ m then (b, m) else (f, n - f)).1, Int32.ofInt (if n - f ≤ m then (b, m) else (f, n - f)).2, Int32.ofNat (d + 1)) := by
        intro f n hf hn
        rw [yi_sub]
        have z : Int32.ofInt m < Int32.ofInt (n - f) ↔ m < n - f := yi_lt (by omega) (by omega)
        by_cases c : n - f ≤ m
        · rw [if_neg (mt z.mp (by omega)), if_pos c]
        · rw [if_pos (z.mpr (by omega)), if_neg c]
      unfold qt_f
      have e86 : (86400 : Int32) = Int32.ofInt 86400 := rfl
      have e00 : (0 : Int32) = Int32.ofInt 0 := rfl
      by_cases c0 : d = 0
      · rw [if_neg (fun z => zd.mp z c0), if_pos c0]
        by_cases cn : d = R.length
        · rw [if_neg (fun z => zn.mp z cn), if_pos cn, e86, e00]
          exact fin_ 0 86400 (by omega) (by omega)
        · have b1 := y_s_b hb (show d < R.length by omega)
          rw [if_pos (zn.mpr cn), if_neg cn, zz_toN (by omega), (rl_at L (show d < R.length by omega)).1, e00]
          exact fin_ 0 (y_s1 R d) (by omega) (by omega)
      · have b0 := y_s_b hb (show d - 1 < R.length by omega)
        rw [if_pos (zd.mpr c0), if_neg c0, cb_pred (by omega) (by omega), zz_toN (show d - 1 < 2147483648 by omega), (rl_at L (show d - 1 < R.length by omega)).1]
        by_cases cn : d = R.length
        · rw [if_neg (fun z => zn.mp z cn), if_pos cn, e86]
          exact fin_ _ 86400 (by omega) (by omega)
        · have b1 := y_s_b hb (show d < R.length by omega)
          rw [if_pos (zn.mpr cn), if_neg cn, zz_toN (by omega), (rl_at L (show d < R.length by omega)).1]
          exact fin_ _ _ (by omega) (by omega)
    · unfold qt_f
      have q1 : -86400 ≤ (if d = R.length then (86400 : Int) else y_s1 R d) - (if d = 0 then 0 else y_s1 R (d - 1)) ∧ (if d = R.length then (86400 : Int) else y_s1 R d) - (if d = 0 then 0 else y_s1 R (d - 1)) ≤ 86400 := by
        have x1 : 0 ≤ (if d = R.length then (86400 : Int) else y_s1 R d) ∧ (if d = R.length then (86400 : Int) else y_s1 R d) ≤ 86400 := by
          by_cases cn : d = R.length
          · rw [if_pos cn]
            omega
          · rw [if_neg cn]
            have := y_s_b hb (show d < R.length by omega)
            omega
        have x2 : 0 ≤ (if d = 0 then (0 : Int) else y_s1 R (d - 1)) ∧ (if d = 0 then (0 : Int) else y_s1 R (d - 1)) ≤ 86400 := by
          by_cases cn : d = 0
          · rw [if_pos cn]
            omega
          · rw [if_neg cn]
            have := y_s_b hb (show d - 1 < R.length by omega)
            omega
        omega
      generalize (if d = R.length then (86400 : Int) else y_s1 R d) - (if d = 0 then 0 else y_s1 R (d - 1)) = q at q1
      split
      · exact ⟨i1, i2⟩
      · dsimp only
        omega
  · rintro X ⟨b, m⟩ - ⟨i1, i2⟩
    refine ⟨Z, ?_⟩
    show fn_247_35b Z (Int32.ofInt i) (Int32.ofInt b) (Int32.ofInt m) (Int32.ofNat (R.length + 1)) = _
    unfold fn_247_35b
    rw [L.1.1, if_pos (Int32.lt_iff_toInt_lt.mpr (by rw [zz_ofN (by omega), zz_ofN (by omega)]; omega))]
    by_cases c0 : i = 0
    · rw [if_neg (fun z => z (z0.mpr c0)), if_pos c0]
    · rw [if_pos (mt z0.mp c0), if_neg c0]
/-- the towns' lights of a day: the longest, the shortest -/
def sd_f (a : Nat → Int32) (day : Int) (t : Nat) (s : Int × Int) : Int × Int := if s_l a t day = -1 then s else (if s.1 = -2 ∨ s_l a s.1.toNat day < s_l a t day then (t : Int) else s.1, if s.2 = -2 ∨ s_l a t day < s_l a s.2.toNat day then (t : Int) else s.2)
noncomputable def s_131 (a : Nat → Int32) (day i : Int) : Int := (fun s : Int × Int => if i = 0 then s.1 else if i = 1 then s.2 else if s.1 = -2 then -2 else s_l a s.1.toNat day - s_l a s.2.toNat day) (fd_i (sd_f a day) 0 (a 0).toInt.toNat (-2, -2))
theorem m_245 (W : wd_g Y) (hd : 0 ≤ day ∧ day ≤ 35999) {i : Int} (hi : 0 ≤ i ∧ i ≤ 2) : (fn_245 Y (Int32.ofInt day) (Int32.ofInt i)).1 = Int32.ofInt (s_131 (Y 541) day i) := by
  have B := yWb_of W
  have n4 := W.1
  unfold fn_245 s_131
  rw [if_neg (y_193 hd), if_pos (show ¬ fn_154 (Int32.ofInt i) 0 2 = 0 from y_154 (a := i) (lo := 0) (hi := 2) (by omega) (by omega) (by omega) hi)]
  unfold fn_245_28
  have z0 : Int32.ofInt i = 0 ↔ i = 0 := yi_eq (b := 0) (by omega) (by omega)
  have z1 : Int32.ofInt i = 1 ↔ i = 1 := yi_eq (b := 1) (by omega) (by omega)
  have tn : ∀ x : Int, 0 ≤ x → x < (Y 541 0).toInt → Int32.ofInt x = Int32.ofNat x.toNat ∧ ((x.toNat : Nat) : Int) < (Y 541 0).toInt := fun x h0 h1 => ⟨by rw [yi_n, show ((x.toNat : Nat) : Int) = x by omega], by omega⟩
  refine Eq.trans ?_ (hp_loop (dd := (0, Y)) (B := fun z : (aa_G × Int32 × Int32 × Int32) => fn_245_28b z.1 (Int32.ofInt day) (Int32.ofInt i) z.2.1 z.2.2.1 z.2.2.2) (enc := fun X (s : Int × Int) d => (X, Int32.ofInt s.1, Int32.ofInt s.2, Int32.ofNat d)) (F := sd_f (Y 541) day) (E := fun s => Int32.ofInt (if i = 0 then s.1 else if i = 1 then s.2 else if s.1 = -2 then -2 else s_l (Y 541) s.1.toNat day - s_l (Y 541) s.2.toNat day)) (n := (Y 541 0).toInt.toNat) (P := fun X => wd_g X ∧ X 541 = Y 541) (I := fun d s => (s.1 = -2 ∧ s.2 = -2) ∨ ((0 ≤ s.1 ∧ s.1 < d) ∧ (0 ≤ s.2 ∧ s.2 < d))) ?_ ?_ (Y 541 0).toInt.toNat 0 Y (-2, -2) ⟨W, rfl⟩ (Or.inl ⟨rfl, rfl⟩) (by omega))
  · rfl
  · rintro X ⟨A, C⟩ d ⟨p1, p2⟩ hI hdn
    dsimp only at hI
    have hdt : (d : Int) < (Y 541 0).toInt := by omega
    obtain ⟨w1, w2, w3⟩ := y_222 (t := d) (day := day) p1 p2 hdt (by omega)
    have l1 := s_l_b (d := day) B hdt
    have kd : ¬ X 541 (0 : Int32).toNatClampNeg ≤ Int32.ofNat d := fun z => by have := aa_le32.mp z; rw [p2, show (0 : Int32).toNatClampNeg = 0 from rfl, zz_ofN (by omega)] at this; omega
    dsimp only
    unfold fn_245_28b
    rw [if_neg kd]
    generalize fn_222 X (Int32.ofNat d) (Int32.ofInt day) = G at w1 w2 w3 ⊢
    have es := aa_succ d
    unfold sd_f
    by_cases cw : s_l (Y 541) d day = -1
    · rw [if_pos cw]
      refine ⟨G.2, ?_, ⟨w2, w3⟩, by omega⟩
      unfold fn_245_46 fn_245_109
      rw [w1, cw, if_neg (fun z => z rfl), es]
    · rw [if_neg cw]
      have nw : Int32.ofInt (s_l (Y 541) d day) ≠ -1 := fun z => cw ((yi_eq (b := -1) (by omega) (by omega)).mp z)
      have zA : Int32.ofInt A = -2 ↔ A = -2 := yi_eq (b := -2) (by omega) (by omega)
      have zC : Int32.ofInt C = -2 ↔ C = -2 := yi_eq (b := -2) (by omega) (by omega)
      -- the second choice, from any heap alike
      have second : ∀ (H : aa_G) (x : Int32), wd_g H → H 541 = Y 541 → ∃ H', fn_245_80 H (Int32.ofInt day) (Int32.ofInt i) (Int32.ofInt C) (Int32.ofNat d) (Int32.ofInt (s_l (Y 541) d day)) x = .inl (H', x, Int32.ofInt (if C = -2 ∨ s_l (Y 541) d day < s_l (Y 541) C.toNat day then (d : Int) else C), Int32.ofNat (d + 1)) ∧ wd_g H' ∧ H' 541 = Y 541 := by
        intro H x q1 q2
        unfold fn_245_80 fn_245_97 fn_245_100 fn_245_107 fn_245_109
        by_cases c : C = -2
        · rw [if_pos (zC.mpr c), if_pos (Or.inl c), es, yi_n d]
          exact ⟨H, rfl, q1, q2⟩
        · obtain ⟨t1, t2⟩ := tn C (by omega) (by omega)
          obtain ⟨u1, u2, u3⟩ := y_222 (t := C.toNat) (day := day) q1 q2 t2 (by omega)
          have l2 := s_l_b (d := day) B t2
          rw [if_neg (mt zC.mp c), t1]
          rw [← t1]
          rw [t1]
          generalize fn_222 H (Int32.ofNat C.toNat) (Int32.ofInt day) = K at u1 u2 u3 ⊢
          rw [u1, es]
          have z : Int32.ofInt (s_l (Y 541) C.toNat day) ≤ Int32.ofInt (s_l (Y 541) d day) ↔ s_l (Y 541) C.toNat day ≤ s_l (Y 541) d day := yi_le (by omega) (by omega)
          by_cases c2 : s_l (Y 541) C.toNat day ≤ s_l (Y 541) d day
          · rw [if_pos (z.mpr c2), if_neg (by omega), ← t1]
            exact ⟨K.2, rfl, u2, u3⟩
          · rw [if_neg (mt z.mp c2), if_pos (by omega), yi_n d]
            exact ⟨K.2, rfl, u2, u3⟩
      unfold fn_245_46
      rw [w1, if_pos nw]
      by_cases c : A = -2
      · rw [if_pos (zA.mpr c), if_pos (Or.inl c)]
        unfold fn_245_74
        obtain ⟨H', h1, h2, h3⟩ := second G.2 (Int32.ofNat d) w2 w3
        refine ⟨H', ?_, ⟨h2, h3⟩, Or.inr ⟨by dsimp only; omega, by dsimp only; split <;> omega⟩⟩
        rw [h1, yi_n d]
      · obtain ⟨t1, t2⟩ := tn A (by omega) (by omega)
        obtain ⟨u1, u2, u3⟩ := y_222 (t := A.toNat) (day := day) w2 w3 t2 (by omega)
        have l2 := s_l_b (d := day) B t2
        rw [if_neg (mt zA.mp c), t1]
        generalize fn_222 G.2 (Int32.ofNat A.toNat) (Int32.ofInt day) = K at u1 u2 u3 ⊢
        rw [← t1]
        unfold fn_245_71 fn_245_74
        rw [u1]
        have z : Int32.ofInt (s_l (Y 541) d day) ≤ Int32.ofInt (s_l (Y 541) A.toNat day) ↔ s_l (Y 541) d day ≤ s_l (Y 541) A.toNat day := yi_le (by omega) (by omega)
        by_cases c2 : s_l (Y 541) d day ≤ s_l (Y 541) A.toNat day
        · rw [if_pos (z.mpr c2), if_neg (show ¬ (A = -2 ∨ s_l (Y 541) A.toNat day < s_l (Y 541) d day) by omega)]
          obtain ⟨H', h1, h2, h3⟩ := second K.2 (Int32.ofInt A) u2 u3
          refine ⟨H', ?_, ⟨h2, h3⟩, Or.inr ⟨by dsimp only; omega, by dsimp only; split <;> omega⟩⟩
          rw [h1]
        · rw [if_neg (mt z.mp c2), if_pos (show A = -2 ∨ s_l (Y 541) A.toNat day < s_l (Y 541) d day by omega)]
          obtain ⟨H', h1, h2, h3⟩ := second K.2 (Int32.ofNat d) u2 u3
          refine ⟨H', ?_, ⟨h2, h3⟩, Or.inr ⟨by dsimp only; omega, by dsimp only; split <;> omega⟩⟩
          rw [h1, yi_n d]
  · rintro X ⟨A, C⟩ ⟨p1, p2⟩ hI
    dsimp only at hI ⊢
    unfold fn_245_28b
    rw [if_pos (aa_le32.mpr (by rw [p2, show (0 : Int32).toNatClampNeg = 0 from rfl, zz_ofN (by omega)]; omega))]
    by_cases c0 : i = 0
    · rw [if_neg (fun z => z (z0.mpr c0)), if_pos c0]
      exact ⟨_, rfl⟩
    · rw [if_pos (mt z0.mp c0), if_neg c0]
      by_cases c1 : i = 1
      · rw [if_neg (fun z => z (z1.mpr c1)), if_pos c1]
        exact ⟨_, rfl⟩
      · rw [if_pos (mt z1.mp c1), if_neg c1]
        have zA : Int32.ofInt A = -2 ↔ A = -2 := yi_eq (b := -2) (by omega) (by omega)
        by_cases c : A = -2
        · rw [if_neg (fun z => z (zA.mpr c)), if_pos c]
          exact ⟨_, rfl⟩
        · rw [if_pos (mt zA.mp c), if_neg c]
          obtain ⟨t1, t2⟩ := tn A (by omega) (by omega)
          obtain ⟨t3, t4⟩ := tn C (by omega) (by omega)
          obtain ⟨u1, u2, u3⟩ := y_222 (t := A.toNat) (day := day) p1 p2 t2 (by omega)
          rw [t1, t3]
          generalize fn_222 X (Int32.ofNat A.toNat) (Int32.ofInt day) = K at u1 u2 u3 ⊢
          obtain ⟨v1, v2, v3⟩ := y_222 (t := C.toNat) (day := day) u2 u3 t4 (by omega)
          unfold fn_245_150
          rw [u1, v1, yi_sub]
          exact ⟨_, rfl⟩
end YM85
