/-! RINGS of a DAY: both sides gather the same -/
theorem sp_bv {g : aa_G} {t : Nat} {n : Int32} {b h : Int} (W : wd_g g) (ht : (t : Int) < (g 541 0).toInt) (hn : 0 ≤ n.toInt ∧ n.toInt ≤ 12 * (g 541 1).toInt - 1) : sp_b (g 541 1) n (hv_t (g 541) t b h) = -2 ∨ (0 ≤ (sp_b (g 541 1) n (hv_t (g 541) t b h)).toInt ∧ (sp_b (g 541 1) n (hv_t (g 541) t b h)).toInt ≤ 172797) := by
  have hq := W.2.1
  cases hv : hv_t (g 541) t b h with
  | none => exact .inl rfl
  | some r =>
    obtain ⟨u, l⟩ := r
    obtain ⟨w1, w2⟩ := hv_bb W ht hv
    obtain ⟨-, -, -, w4, w5⟩ := hv_b W ht hv
    have hul : u + l ≤ 172798 := by
      by_cases z : h = 1
      · have := w5 z
        omega
      · have := w4 z
        omega
    have el : (Int32.ofInt l).toInt = l := Int32.toInt_ofInt_of_le (by omega) (by omega)
    have eu : (Int32.ofInt u).toInt = u := Int32.toInt_ofInt_of_le (by omega) (by omega)
    obtain ⟨s1, s2, s3⟩ := sp_nb hq (l := Int32.ofInt l) (by rw [el]; exact w2) hn
    unfold sp_b
    dsimp only
    by_cases z : l ≤ (sp_n (g 541 1) (Int32.ofInt l) n).toInt
    · rw [if_pos z]
      exact .inl rfl
    · rw [if_neg z]
      refine .inr ?_
      rw [aa_add32 (by rw [s1, eu]; omega) (by rw [s1, eu]; omega), s1, eu]
      omega
/-- at which second of a half a BELL rings, -2: it doesn't -/
noncomputable def rv (T : Nat → Int32) (F : pb_F) (ts : List fl_T) (E : ev_E) (q : Option (Int × Int)) : Int32 := if q = none then -2 else if T 1 ≤ F.2.2.1 then -2 else if ev_H E true ts ts = true then sp_b (T 1) (F.2.1 * T 1 + F.2.2.1) q else -2
theorem rn_ok {g : aa_G} {F : pb_F} (W : wd_g g) (hF : br_F F) (hp : ¬ g 541 1 ≤ F.2.2.1) : 0 ≤ (F.2.1 * g 541 1 + F.2.2.1).toInt ∧ (F.2.1 * g 541 1 + F.2.2.1).toInt ≤ 12 * (g 541 1).toInt - 1 := by
  have hq := W.2.1
  obtain ⟨-, h1, h2, -⟩ := hF
  have hp := mt aa_le32.mpr hp
  have m0 : 0 ≤ F.2.1.toInt * (g 541 1).toInt := Int.mul_nonneg h1.1 (by omega)
  have m1 : F.2.1.toInt * (g 541 1).toInt ≤ 11 * (g 541 1).toInt := Int.mul_le_mul_of_nonneg_right h1.2 (by omega)
  have e1 : (F.2.1 * g 541 1).toInt = F.2.1.toInt * (g 541 1).toInt := ti_mul (by omega) (by omega)
  rw [aa_add32 (by rw [e1]; omega) (by rw [e1]; omega), e1]
  omega
theorem rv_b {g : aa_G} {t : Nat} {F : pb_F} {ts : List fl_T} {E : ev_E} {b h : Int} (W : wd_g g) (ht : (t : Int) < (g 541 0).toInt) (hF : br_F F) : rv (g 541) F ts E (hv_t (g 541) t b h) = -2 ∨ (0 ≤ (rv (g 541) F ts E (hv_t (g 541) t b h)).toInt ∧ (rv (g 541) F ts E (hv_t (g 541) t b h)).toInt ≤ 172797) := by
  unfold rv
  by_cases z1 : hv_t (g 541) t b h = none
  · rw [if_pos z1]
    exact .inl rfl
  · rw [if_neg z1]
    by_cases z2 : g 541 1 ≤ F.2.2.1
    · rw [if_pos z2]
      exact .inl rfl
    · rw [if_neg z2]
      by_cases z3 : ev_H E true ts ts = true
      · rw [if_pos z3]
        exact sp_bv W ht (rn_ok W hF z2)
      · rw [if_neg z3]
        exact .inl rfl
theorem cr_104 {g X : aa_G} {Q P t k M T0 : Nat} {F : pb_F} {ts : List fl_T} {town mid : Int32} {b h : Int} (W : wd_g g) (ht : (t : Int) < (g 541 0).toInt) (h0 : X 4 0 = Int32.ofNat M) (hM : M ≤ 8) (hk : k < M) (hc : brk_c X 2 k F T0 ts) (hs : ∀ t r, ts = t :: r → fl_h t.1 = false) (hF : br_F F) (h21 : X 2 1 = g 541 1) (hv : lv_c X P (hv_t (g 541) t b h)) :
    fn_104 X Q P town (Int32.ofNat k) mid = (fun v : Int32 => if v = -2 then X else if fn_14 (v - mid) 0 86399 = 0 then X else fn_110 X Q (v - mid) (Int32.ofNat k)) (rv (g 541) F ts (ev_g X P town) (hv_t (g 541) t b h)) := by
  have c105 := ck_105 (town := town) (P := P) h0 hM hk hc hs
  obtain ⟨⟨-, a2, a3, -, -, -⟩, -, -⟩ := hc
  have a2 : X 6 k = F.2.1 := a2
  have a3 : X 7 k = F.2.2.1 := a3
  unfold fn_104 rv
  rw [zz_toN (by omega), a2, a3, h21, c105]
  cases hq : hv_t (g 541) t b h with
  | none =>
    rw [hq] at hv
    dsimp only
    rw [if_pos (lv_c0 hv), if_pos rfl, if_pos rfl]
  | some r =>
    have hv0 := hv
    rw [hq] at hv
    rw [if_neg (c := X P 0 = 0) (by rw [lv_c1 hv]; decide), if_neg (c := some r = none) (by intro z; cases z)]
    by_cases z2 : g 541 1 ≤ F.2.2.1
    · rw [if_pos z2, if_pos z2]
      dsimp only
      rw [if_pos rfl]
    · rw [if_neg z2, if_neg z2]
      have n := rn_ok W hF z2
      have c92 := ck_92 (P := P) W ht n hv0
      rw [hq] at c92
      rw [c92]
      cases ev_H (ev_g X P town) true ts ts with
      | false =>
        dsimp only
        rw [if_neg (c := b_i false ≠ 0) (fun z => z rfl), if_neg (c := false = true) (by decide), if_pos rfl]
      | true =>
        dsimp only
        rw [if_pos (c := b_i true ≠ 0) (by decide), if_pos (c := true = true) rfl]
theorem mr_fin {Y : aa_G} {z18 : Int32} {l u : Int} {NN : Int64} (s1 : NN.toInt32.toInt = NN.toInt) (s2 : 0 ≤ NN.toInt) (s3 : NN.toInt ≤ 172799) (k4 : z18.toInt = l) (hu : 0 ≤ u ∧ u ≤ 1000000) : (if z18 ≤ NN.toInt32 then ((-1 : Int32), Y) else (Int32.ofInt u + NN.toInt32, Y)).1 = (if (if l ≤ NN.toInt then (-2 : Int32) else Int32.ofInt u + NN.toInt32) = -2 then (-1 : Int32) else if l ≤ NN.toInt then (-2 : Int32) else Int32.ofInt u + NN.toInt32) ∧ (if z18 ≤ NN.toInt32 then ((-1 : Int32), Y) else (Int32.ofInt u + NN.toInt32, Y)).2 = Y := by
  have e7 : z18 ≤ NN.toInt32 ↔ l ≤ NN.toInt := by
    rw [aa_le32, s1, k4]
  have eu : (Int32.ofInt u).toInt = u := Int32.toInt_ofInt_of_le (by omega) (by omega)
  by_cases z : l ≤ NN.toInt
  · rw [if_pos (e7.mpr z), if_pos z, if_pos rfl]
    exact ⟨rfl, rfl⟩
  · rw [if_neg (mt e7.mp z), if_neg z]
    have ev : (Int32.ofInt u + NN.toInt32).toInt = u + NN.toInt := by
      rw [aa_add32 (by rw [s1, eu]; omega) (by rw [s1, eu]; omega), s1, eu]
    rw [if_neg (c := Int32.ofInt u + NN.toInt32 = -2) (fun h => by have := congrArg Int32.toInt h; rw [ev, i_m2] at this; omega)]
    exact ⟨rfl, rfl⟩
theorem mr_213 {g Z : aa_G} {t k M c0 th : Nat} {F : pb_F} {ts : List fl_T} {cs : List Int32} {town d : Int32} {b h u l : Int} (W : wd_g g) (ht : (t : Int) < (g 541 0).toInt) (e : Z 541 = g 541) (hM : M ≤ 8) (hk : k < M) (hm : br_m (fun q => g 541 (203 + q)) (fun q => g 541 (259 + q)) k F th c0 cs) (hr : cd_rel ts cs) (hF : br_F F) (hq : hv_t (g 541) t b h = some (u, l)) (hZ : lv_m 1 Z (some (u, l))) :
    (fn_213 Z town d (Int32.ofNat k)).1 = (fun v : Int32 => if v = -2 then -1 else v) (rv (g 541) F ts (d - d / 7 * 7, (d - d / 360 * 360, (Z 540 18, (town, d)))) (hv_t (g 541) t b h)) ∧ ∀ a j, a ≠ 548 → a ≠ 549 → (fn_213 Z town d (Int32.ofNat k)).2 a j = Z a j := by
  have hm0 := hm
  obtain ⟨⟨-, a2, a3, -, -, -, -⟩, -, -⟩ := hm0
  have a2 : g 541 (203 + (7 * k + 1)) = F.2.1 := a2
  have a3 : g 541 (203 + (7 * k + 2)) = F.2.2.1 := a3
  have e203 : (203 : Int32) + 7 * Int32.ofNat k = Int32.ofNat (203 + 7 * k) := by rw [mb_7 (by omega), show (203 : Int32) + Int32.ofNat (7 * k) = Int32.ofNat (203 + 7 * k) from i_add 203 (7 * k)]
  unfold fn_213
  rw [e203, mb_add _ 2 (v := 2) rfl, zz_toN (by omega), show (1 : Int32).toNatClampNeg = 1 from rfl, e, show 203 + 7 * k + 2 = 203 + (7 * k + 2) by omega, a3]
  unfold rv
  rw [hq, if_neg (c := some (u, l) = none) (by intro z; cases z)]
  by_cases z2 : g 541 1 ≤ F.2.2.1
  · rw [if_neg (c := F.2.2.1 < g 541 1) (fun h => Int32.not_le.mpr h z2), if_pos z2]
    dsimp only
    rw [if_pos rfl]
    exact ⟨rfl, fun _ _ _ _ => rfl⟩
  · rw [if_pos (c := F.2.2.1 < g 541 1) (Int32.not_le.mp z2), if_neg z2]
    unfold fn_213_57
    rw [show (0 : Int32).toNatClampNeg = 0 from rfl, show (2 : Int32).toNatClampNeg = 2 from rfl, show (3 : Int32).toNatClampNeg = 3 from rfl, show (4 : Int32).toNatClampNeg = 4 from rfl]
    generalize hG : zz_w (zz_w Z 548 0 (d - d / 7 * 7)) 548 1 (d - d / 360 * 360) = G
    have G18 : G 540 18 = Z 540 18 := by rw [← hG, aa_w_ne _ _ (by omega), aa_w_ne _ _ (by omega)]
    rw [G18]
    generalize hX : zz_w (zz_w (zz_w G 548 2 (Z 540 18)) 548 3 town) 548 4 d = X
    have fX : ∀ a j, a ≠ 548 → X a j = Z a j := fun a j z => by rw [← hX, aa_w_ne _ _ (by omega), aa_w_ne _ _ (by omega), aa_w_ne _ _ (by omega), ← hG, aa_w_ne _ _ (by omega), aa_w_ne _ _ (by omega)]
    have hE : pe_ok X (d - d / 7 * 7, (d - d / 360 * 360, (Z 540 18, (town, d)))) := by
      refine ⟨?_, ?_, ?_, ?_, ?_⟩
      · rw [← hX, aa_w_ne _ _ (by omega), aa_w_ne _ _ (by omega), aa_w_ne _ _ (by omega), ← hG, aa_w_ne _ _ (by omega), aa_w_at]
      · rw [← hX, aa_w_ne _ _ (by omega), aa_w_ne _ _ (by omega), aa_w_ne _ _ (by omega), ← hG, aa_w_at]
      · rw [← hX, aa_w_ne _ _ (by omega), aa_w_ne _ _ (by omega), aa_w_at]
      · rw [← hX, aa_w_ne _ _ (by omega), aa_w_at]
      · rw [← hX, aa_w_at]
    have e541 : X 541 = g 541 := (funext fun j => fX 541 j (by omega)).trans e
    obtain ⟨v, f⟩ := mk_214 (E := (d - d / 7 * 7, (d - d / 360 * 360, (Z 540 18, (town, d))))) (X := X) (k := k) (by omega) (by rw [e541]; exact hm) hr hE
    generalize fn_214 X (Int32.ofNat (203 + 7 * k)) = Y at v f ⊢
    obtain ⟨w, Y⟩ := Y
    dsimp only at v f ⊢
    have y541 : Y 541 = g 541 := (funext fun j => f 541 j (by omega)).trans e541
    have y17 : Y 540 17 = Z 540 17 := (f 540 17 (by omega)).trans (fX 540 17 (by omega))
    have y18 : Y 540 18 = Z 540 18 := (f 540 18 (by omega)).trans (fX 540 18 (by omega))
    have fY : ∀ a j, a ≠ 548 → a ≠ 549 → Y a j = Z a j := fun a j z1 z2 => (f a j z2).trans (fX a j z1)
    unfold fn_213_81 fn_213_118
    rw [v, mb_add _ 1 (v := 1) rfl, mb_add _ 2 (v := 2) rfl, zz_toN (by omega), zz_toN (by omega), show (1 : Int32).toNatClampNeg = 1 from rfl, y541, show 203 + 7 * k + 1 = 203 + (7 * k + 1) by omega, show 203 + 7 * k + 2 = 203 + (7 * k + 2) by omega, a2, a3]
    have n := rn_ok W hF z2
    cases ev_H (d - d / 7 * 7, (d - d / 360 * 360, (Z 540 18, (town, d)))) true ts ts with
    | false =>
      rw [if_neg (c := b_i false ≠ 0) (fun z => z rfl), if_neg (c := false = true) (by decide)]
      dsimp only
      rw [if_pos rfl]
      exact ⟨rfl, fY⟩
    | true =>
      rw [if_pos (c := b_i true ≠ 0) (by decide), if_pos (c := true = true) rfl]
      obtain ⟨-, k3, k4⟩ := hZ
      obtain ⟨w1, w2⟩ := hv_bb W ht hq
      have hl : 1 ≤ (Int32.ofInt l).toInt ∧ (Int32.ofInt l).toInt ≤ 172798 := by
        rw [← of_ti k4, k4]
        omega
      obtain ⟨s1, s2, s3⟩ := sp_nb W.2.1 hl n
      have e6 : fn_206 Y (F.2.1 * g 541 1 + F.2.2.1) = (sp_n (g 541 1) (Int32.ofInt l) (F.2.1 * g 541 1 + F.2.2.1)).toInt32 := by
        unfold fn_206 sp_n
        rw [show (1 : Int32).toNatClampNeg = 1 from rfl, y541, y18, of_ti k4]
      rw [e6, y18, y17, of_ti k3]
      unfold sp_b
      dsimp only
      have M := mr_fin (Y := Y) (u := u) s1 s2 s3 k4 (by omega)
      refine ⟨M.1, ?_⟩
      rw [M.2]
      exact fY
/-! the rings, in their order -/
def rg_v (X Y : aa_G) (Q M j : Nat) : Prop := X (Q + 1) j = Y 546 j ∧ X (Q + 2) j = Y 547 j ∧ (0 ≤ (Y 546 j).toInt ∧ (Y 546 j).toInt ≤ 86399) ∧ ∃ k, k < M ∧ Y 547 j = Int32.ofNat k
def rg_r (X Y : aa_G) (Q N M : Nat) : Prop := X Q 0 = Int32.ofNat N ∧ Y 540 26 = Int32.ofNat N ∧ ∀ i, i < N → rg_v X Y Q M i
theorem in_fin {X Y X' Y' : aa_G} {Q N M i k : Nat} {s : Int32} (hN : N < 16) (hi : i ≤ N) (hs : 0 ≤ s.toInt ∧ s.toInt ≤ 86399) (hk : k < M) (h : ∀ j, j ≤ N → (j < N ∨ i < j) → rg_v X' Y' Q M j) (hx : X' Q 0 = Int32.ofNat N) (hy : Y' 540 26 = Int32.ofNat N) (fx : ∀ a j, ¬ (Q ≤ a ∧ a ≤ Q + 2) → X' a j = X a j) (fy : ∀ a j, a ≠ 546 → a ≠ 547 → ¬ (a = 540 ∧ j = 26) → Y' a j = Y a j) :
    rg_r (fn_110_65 X' Q s (Int32.ofNat k) (Int32.ofNat i)) (fn_216_55 Y' s (Int32.ofNat k) (Int32.ofNat i)) Q (N + 1) M ∧ (∀ a j, ¬ (Q ≤ a ∧ a ≤ Q + 2) → fn_110_65 X' Q s (Int32.ofNat k) (Int32.ofNat i) a j = X a j) ∧ (∀ a j, a ≠ 546 → a ≠ 547 → ¬ (a = 540 ∧ j = 26) → fn_216_55 Y' s (Int32.ofNat k) (Int32.ofNat i) a j = Y a j) := by
  unfold fn_110_65 fn_110_81 fn_216_55 fn_216_71
  rw [zz_toN (by omega)]
  generalize hG : zz_w (zz_w X' (Q + 1) i s) (Q + 2) i (Int32.ofNat k) = G
  generalize hH : zz_w (zz_w Y' 546 i s) 547 i (Int32.ofNat k) = H
  have g0 : G Q 0 = Int32.ofNat N := by rw [← hG, aa_w_ne _ _ (by omega), aa_w_ne _ _ (by omega), hx]
  have h0 : H 540 26 = Int32.ofNat N := by rw [← hH, aa_w_ne _ _ (by omega), aa_w_ne _ _ (by omega), hy]
  rw [g0, h0, aa_succ]
  refine ⟨⟨aa_w_at _ _ _ _, aa_w_at _ _ _ _, fun j hj => ?_⟩, fun a j z => ?_, fun a j z1 z2 z3 => ?_⟩
  · unfold rg_v
    rw [aa_w_ne _ _ (by omega), aa_w_ne _ _ (by omega), aa_w_ne _ _ (by omega), aa_w_ne _ _ (by omega)]
    by_cases e : j = i
    · subst e
      have G1 : G (Q + 1) j = s := by rw [← hG, aa_w_ne _ _ (by omega), aa_w_at]
      have G2 : G (Q + 2) j = Int32.ofNat k := by rw [← hG, aa_w_at]
      have H1 : H 546 j = s := by rw [← hH, aa_w_ne _ _ (by omega), aa_w_at]
      have H2 : H 547 j = Int32.ofNat k := by rw [← hH, aa_w_at]
      rw [G1, G2, H1, H2]
      exact ⟨rfl, rfl, hs, k, hk, rfl⟩
    · have G1 : G (Q + 1) j = X' (Q + 1) j := by rw [← hG, aa_w_ne _ _ (by omega), aa_w_ne _ _ (by omega)]
      have G2 : G (Q + 2) j = X' (Q + 2) j := by rw [← hG, aa_w_ne _ _ (by omega), aa_w_ne _ _ (by omega)]
      have H1 : H 546 j = Y' 546 j := by rw [← hH, aa_w_ne _ _ (by omega), aa_w_ne _ _ (by omega)]
      have H2 : H 547 j = Y' 547 j := by rw [← hH, aa_w_ne _ _ (by omega), aa_w_ne _ _ (by omega)]
      rw [G1, G2, H1, H2]
      exact h j (by omega) (by omega)
  · rw [aa_w_ne _ _ (by omega), ← hG, aa_w_ne _ _ (by omega), aa_w_ne _ _ (by omega)]
    exact fx a j z
  · rw [aa_w_ne _ _ (by omega), ← hH, aa_w_ne _ _ (by omega), aa_w_ne _ _ (by omega)]
    exact fy a j z1 z2 z3
theorem in_r {X Y : aa_G} {Q N M k : Nat} {s : Int32} (hQ : Q + 2 < 540) (h : rg_r X Y Q N M) (hN : N < 16) (hs : 0 ≤ s.toInt ∧ s.toInt ≤ 86399) (hk : k < M) : rg_r (fn_110 X Q s (Int32.ofNat k)) (fn_216 Y s (Int32.ofNat k)) Q (N + 1) M ∧ (∀ a j, ¬ (Q ≤ a ∧ a ≤ Q + 2) → fn_110 X Q s (Int32.ofNat k) a j = X a j) ∧ (∀ a j, a ≠ 546 → a ≠ 547 → ¬ (a = 540 ∧ j = 26) → fn_216 Y s (Int32.ofNat k) a j = Y a j) := by
  obtain ⟨h1, h2, h3⟩ := h
  unfold fn_110 fn_216
  rw [h1, h2, if_pos (c := Int32.ofNat N < 16) (ti_lt.mpr (by rw [zz_ofN (by omega), show (16 : Int32).toInt = 16 from rfl]; omega))]
  unfold fn_110_15 fn_216_5
  refine lp_two (Q := fun (x y : aa_G) => rg_r x y Q (N + 1) M ∧ (∀ a j, ¬ (Q ≤ a ∧ a ≤ Q + 2) → x a j = X a j) ∧ (∀ a j, a ≠ 546 → a ≠ 547 → ¬ (a = 540 ∧ j = 26) → y a j = Y a j)) (fun (n : Nat) (p q : aa_G × Int32) => n ≤ N ∧ p.2 = Int32.ofNat n ∧ q.2 = Int32.ofNat n ∧ (∀ j, j ≤ N → (j < N ∨ n < j) → rg_v p.1 q.1 Q M j) ∧ p.1 Q 0 = Int32.ofNat N ∧ q.1 540 26 = Int32.ofNat N ∧ (∀ a j, ¬ (Q ≤ a ∧ a ≤ Q + 2) → p.1 a j = X a j) ∧ (∀ a j, a ≠ 546 → a ≠ 547 → ¬ (a = 540 ∧ j = 26) → q.1 a j = Y a j)) ?_ ?_ N _ _ ⟨Nat.le_refl _, rfl, rfl, fun j q1 q2 => h3 j (by omega), h1, h2, fun _ _ _ => rfl, fun _ _ _ _ _ => rfl⟩
  · rintro n ⟨A, i⟩ ⟨B, i'⟩ ⟨r1, r2, r3, r4, r5, r6, r7, r8⟩
    dsimp only at r2 r3 r4 r5 r6 r7 r8 ⊢
    subst r2 r3
    have v := r4 n (by omega) (.inl (by omega))
    have c0 : ¬ Int32.ofNat (n + 1) ≤ 0 := fun z => by have := aa_le32.mp z; rw [zz_ofN (by omega), i_0] at this; omega
    have em : Int32.ofNat (n + 1) - 1 = Int32.ofNat n := by rw [cb_pred (by omega) (by omega), Nat.add_sub_cancel]
    have em2 : Int32.ofNat (n + 1) + (-1) = Int32.ofNat n := by rw [Int32.add_neg_eq_sub, em]
    unfold fn_110_15b fn_216_5b
    rw [if_neg c0, if_neg c0, em, zz_toN (by omega), zz_toN (by omega), v.1]
    by_cases z : B 546 n ≤ s
    · rw [if_pos z, if_pos z]
      exact .inr (.inr (.inr ⟨_, _, rfl, rfl, in_fin hN r1 hs hk r4 r5 r6 r7 r8⟩))
    · rw [if_neg z, if_neg z]
      unfold fn_110_57 fn_216_47
      rw [em2, zz_toN (by omega), zz_toN (by omega)]
      refine .inl ⟨_, _, rfl, rfl, by omega, rfl, rfl, fun j q1 q2 => ?_, ?_, ?_, fun a j z => ?_, fun a j z1 z2 z3 => ?_⟩
      · dsimp only
        unfold rg_v
        rw [aa_w_ne (zz_w A (Q + 1) (n + 1) (B 546 n)) (zz_w A (Q + 1) (n + 1) (B 546 n) (Q + 2) n) (show ¬ (Q + 1 = Q + 2 ∧ j = n + 1) by omega), aa_w_ne (zz_w B 546 (n + 1) (B 546 n)) (zz_w B 546 (n + 1) (B 546 n) 547 n) (show ¬ (546 = 547 ∧ j = n + 1) by omega)]
        by_cases e : j = n + 1
        · subst e
          rw [aa_w_at, aa_w_at, aa_w_at, aa_w_at, aa_w_ne A (B 546 n) (show ¬ (Q + 2 = Q + 1 ∧ n = n + 1) by omega), aa_w_ne B (B 546 n) (show ¬ (547 = 546 ∧ n = n + 1) by omega)]
          exact ⟨rfl, v.2.1, v.2.2⟩
        · rw [aa_w_ne A (B 546 n) (show ¬ (Q + 1 = Q + 1 ∧ j = n + 1) by omega), aa_w_ne B (B 546 n) (show ¬ (546 = 546 ∧ j = n + 1) by omega), aa_w_ne _ _ (show ¬ (Q + 2 = Q + 2 ∧ j = n + 1) by omega), aa_w_ne A (B 546 n) (show ¬ (Q + 2 = Q + 1 ∧ j = n + 1) by omega), aa_w_ne _ _ (show ¬ (547 = 547 ∧ j = n + 1) by omega), aa_w_ne B (B 546 n) (show ¬ (547 = 546 ∧ j = n + 1) by omega)]
          exact r4 j q1 (by omega)
      · dsimp only
        rw [aa_w_ne _ _ (by omega), aa_w_ne _ _ (by omega)]
        exact r5
      · dsimp only
        rw [aa_w_ne _ _ (by omega), aa_w_ne _ _ (by omega)]
        exact r6
      · dsimp only
        rw [aa_w_ne _ _ (by omega), aa_w_ne _ _ (by omega)]
        exact r7 a j z
      · dsimp only
        rw [aa_w_ne _ _ (by omega), aa_w_ne _ _ (by omega)]
        exact r8 a j z1 z2 z3
  · rintro ⟨A, i⟩ ⟨B, i'⟩ ⟨r1, r2, r3, r4, r5, r6, r7, r8⟩
    dsimp only at r2 r3 r4 r5 r6 r7 r8 ⊢
    subst r2 r3
    unfold fn_110_15b fn_216_5b
    rw [if_pos (c := Int32.ofNat 0 ≤ 0) (by decide), if_pos (c := Int32.ofNat 0 ≤ 0) (by decide)]
    exact ⟨_, _, rfl, rfl, in_fin hN r1 hs hk r4 r5 r6 r7 r8⟩
/-- one half of a DAY, for one BELL: both sides -/
theorem ha_c {X Y : aa_G} {Q N M k : Nat} {v mid : Int32} (hQ : Q + 2 < 540) (h : rg_r X Y Q N M) (hN : N < 16) (hk : k < M) (hv : v = -2 ∨ (0 ≤ v.toInt ∧ v.toInt ≤ 172797)) (hm : mid = 0 ∨ mid = 86400) : ∃ N2, (N2 = N ∨ N2 = N + 1) ∧ rg_r (if v = -2 then X else if fn_14 (v - mid) 0 86399 = 0 then X else fn_110 X Q (v - mid) (Int32.ofNat k)) (if v = -2 then Y else if fn_14 (v - mid) 0 86399 = 0 then Y else fn_216 Y (v - mid) (Int32.ofNat k)) Q N2 M ∧ (∀ a j, ¬ (Q ≤ a ∧ a ≤ Q + 2) → (if v = -2 then X else if fn_14 (v - mid) 0 86399 = 0 then X else fn_110 X Q (v - mid) (Int32.ofNat k)) a j = X a j) ∧ (∀ a j, a ≠ 546 → a ≠ 547 → ¬ (a = 540 ∧ j = 26) → (if v = -2 then Y else if fn_14 (v - mid) 0 86399 = 0 then Y else fn_216 Y (v - mid) (Int32.ofNat k)) a j = Y a j) := by
  by_cases z : v = -2
  · rw [if_pos z, if_pos z]
    exact ⟨N, .inl rfl, h, fun _ _ _ => rfl, fun _ _ _ _ _ => rfl⟩
  · rw [if_neg z, if_neg z]
    by_cases z2 : fn_14 (v - mid) 0 86399 = 0
    · rw [if_pos z2, if_pos z2]
      exact ⟨N, .inl rfl, h, fun _ _ _ => rfl, fun _ _ _ _ _ => rfl⟩
    · rw [if_neg z2, if_neg z2]
      exact ⟨N + 1, .inr rfl, in_r hQ h hN (ti_14n.mp z2) hk⟩
/-- the model's part of it -/
theorem ha_0 {Y : aa_G} {v k : Int32} (hv : v = -2 ∨ (0 ≤ v.toInt ∧ v.toInt ≤ 172797)) (b1 b2 : Int32) : fn_212_104 Y b1 b2 k (if v = -2 then -1 else v) = .inl ((if v = -2 then Y else if fn_14 (v - 0) 0 86399 = 0 then Y else fn_216 Y (v - 0) k), k + 1) := by
  unfold fn_212_104 fn_212_125
  rw [Int32.sub_zero]
  by_cases z : v = -2
  · rw [if_pos z, if_pos z, if_pos (c := (-1 : Int32) < 0) neg_1]
  · have hv := hv.resolve_left z
    rw [if_neg z, if_neg z, if_neg (c := v < 0) (fun h => by have := ti_lt.mp h; rw [i_0] at this; omega)]
    have E : fn_14 v 0 86399 = 0 ↔ 86400 ≤ v := by
      rw [ti_14z, aa_le32, i_0, i_864, show (86399 : Int32).toInt = 86399 from rfl]
      omega
    by_cases z2 : 86400 ≤ v
    · rw [if_pos z2, if_pos (E.mpr z2)]
    · rw [if_neg z2, if_neg (mt E.mp z2)]
theorem ha_1 {Y : aa_G} {v k : Int32} (hv : v = -2 ∨ (0 ≤ v.toInt ∧ v.toInt ≤ 172797)) (b1 b2 b4 : Int32) : fn_212_63 Y b1 b2 k b4 (if v = -2 then -1 else v) = fn_212_82 (if v = -2 then Y else if fn_14 (v - 86400) 0 86399 = 0 then Y else fn_216 Y (v - 86400) k) b1 b2 k b4 := by
  unfold fn_212_63
  by_cases z : v = -2
  · rw [if_pos z, if_pos z, if_pos (c := (-1 : Int32) < 86400) (by decide)]
  · have hv := hv.resolve_left z
    have e : (v - 86400).toInt = v.toInt - 86400 := aa_sub32 (by rw [i_864]; omega) (by rw [i_864]; omega)
    have E : fn_14 (v - 86400) 0 86399 = 0 ↔ v < 86400 := by
      rw [ti_14z, ti_lt, e, i_0, i_864, show (86399 : Int32).toInt = 86399 from rfl]
      omega
    rw [if_neg z, if_neg z]
    by_cases z2 : v < 86400
    · rw [if_pos z2, if_pos (E.mpr z2)]
    · rw [if_neg z2, if_neg (mt E.mp z2)]
/-- a half on the model's side: where nothing is laid, -1 -/
theorem mh_90 {g Y : aa_G} {t k M c0 th : Nat} {F : pb_F} {ts : List fl_T} {cs : List Int32} {d h : Int32} (W : wd_g g) (ht : (t : Int) < (g 541 0).toInt) (WY : wd_g Y) (e : Y 541 = g 541) (hM : M ≤ 8) (hk : k < M) (hm : br_m (fun q => g 541 (203 + q)) (fun q => g 541 (259 + q)) k F th c0 cs) (hr : cd_rel ts cs) (hF : br_F F) (hh : h = 0 ∨ h = 1) (E : ev_E) (hE : ∀ u l : Int, hv_t (g 541) t d.toInt h.toInt = some (u, l) → ∀ Z : aa_G, (Z 540 18).toInt = l → E = (d - d / 7 * 7, (d - d / 360 * 360, (Z 540 18, (Int32.ofNat t, d))))) : ∃ Z : aa_G, wd_g Z ∧ Z 541 = g 541 ∧ (∀ a j, a ≠ 548 → a ≠ 549 → ¬ (a = 540 ∧ 13 ≤ j ∧ j ≤ 18) → Z a j = Y a j) ∧
    ((fn_194 Y (Int32.ofNat t) d h).1 = 0 ∧ rv (g 541) F ts E (hv_t (g 541) t d.toInt h.toInt) = -2 ∧ Z = (fn_194 Y (Int32.ofNat t) d h).2 ∨ (fn_194 Y (Int32.ofNat t) d h).1 ≠ 0 ∧ (fn_213 (fn_194 Y (Int32.ofNat t) d h).2 (Int32.ofNat t) d (Int32.ofNat k)) = (if rv (g 541) F ts E (hv_t (g 541) t d.toInt h.toInt) = -2 then -1 else rv (g 541) F ts E (hv_t (g 541) t d.toInt h.toInt), Z)) := by
  obtain ⟨z1, z2, z3, v⟩ := lv_half d h WY (t := t) (by rw [e]; exact ht) hh
  rw [e] at v
  generalize fn_194 Y (Int32.ofNat t) d h = G at z1 z2 z3 v ⊢
  obtain ⟨w, G⟩ := G
  dsimp only at z1 z2 z3 v ⊢
  cases hq : hv_t (g 541) t d.toInt h.toInt with
  | none =>
    rw [hq] at v
    refine ⟨G, z1, z2.trans e, fun a j _ _ z => z3 a j (by omega), .inl ⟨lv_m0 v, ?_, rfl⟩⟩
    unfold rv
    rw [if_pos rfl]
  | some r =>
    obtain ⟨u, l⟩ := r
    rw [hq] at v
    have w1 : w = 1 := lv_m1 v
    subst w1
    obtain ⟨k1, k2⟩ := mr_213 (town := Int32.ofNat t) (d := d) W ht (z2.trans e) hM hk hm hr hF hq v
    rw [hq] at k1
    rw [hE u l hq G v.2.2]
    have fr : ∀ a j, a ≠ 548 → a ≠ 549 → ¬ (a = 540 ∧ 13 ≤ j ∧ j ≤ 18) → (fn_213 G (Int32.ofNat t) d (Int32.ofNat k)).2 a j = Y a j := fun a j z4 z5 z6 => (k2 a j z4 z5).trans (z3 a j (by omega))
    refine ⟨(fn_213 G (Int32.ofNat t) d (Int32.ofNat k)).2, wd_of z1 (fun a j z => k2 a j (by omega) (by omega)), (funext fun j => k2 541 j (by omega) (by omega)).trans (z2.trans e), fr, .inr ⟨by decide, ?_⟩⟩
    exact Prod.ext k1 rfl
theorem f31_t {X : aa_G} {t : Nat} (W : wd_g X) (ht : (t : Int) < (X 541 0).toInt) : fn_31 X (Int32.ofNat t) = some (5 * t + 14) := by
  have n4 := W.1
  obtain ⟨t', h1, h2, h3, h4, -⟩ := gt_s W (a := Int32.ofNat t) (by rw [zz_ofN (by omega)]; omega)
  have e : t' = t := by
    have := congrArg Int32.toInt h2
    rw [zz_ofN (by omega), zz_ofN (by omega)] at this
    omega
  rw [h4, e]
theorem lv_mv {X X' : aa_G} {P : Nat} {q : Option (Int × Int)} (h : lv_c X P q) (f : ∀ j, X' P j = X P j) : lv_c X' P q := by
  cases q with
  | none => exact ⟨(f 0).trans h.1, (f 3).trans h.2.1, (f 4).trans h.2.2⟩
  | some r => exact ⟨(f 0).trans h.1, by rw [f 3]; exact h.2.1, by rw [f 4]; exact h.2.2⟩
theorem rg_mv {X Y Z : aa_G} {Q N M : Nat} (h : rg_r X Y Q N M) (f1 : ∀ j, Z 546 j = Y 546 j) (f2 : ∀ j, Z 547 j = Y 547 j) (f3 : Z 540 26 = Y 540 26) : rg_r X Z Q N M := by
  obtain ⟨h1, h2, h3⟩ := h
  refine ⟨h1, f3.trans h2, fun i hi => ?_⟩
  have k := h3 i hi
  unfold rg_v at k ⊢
  rw [f1, f2]
  exact k
/-- the class's half and the model's half of one BELL -/
theorem hb_one {g X Y : aa_G} {t k M N c0 T0 Q P : Nat} {F : pb_F} {ts : List fl_T} {cs : List Int32} {d h mid : Int32} (hQ : Q + 2 < 540) (hP : ¬ (Q ≤ P ∧ P ≤ Q + 2)) (W : wd_g g) (ht : (t : Int) < (g 541 0).toInt) (WY : wd_g Y) (e : Y 541 = g 541) (hM : M ≤ 8) (hk : k < M) (h0 : X 4 0 = Int32.ofNat M) (h21 : X 2 1 = g 541 1) (hc : brk_c X 2 k F T0 ts) (hm : br_m (fun q => g 541 (203 + q)) (fun q => g 541 (259 + q)) k F ts.length c0 cs) (hr : cd_rel ts cs) (hs : ∀ t r, ts = t :: r → fl_h t.1 = false) (hF : br_F F) (hh : h = 0 ∨ h = 1) (hv : lv_c X P (hv_t (g 541) t d.toInt h.toInt)) (hd : X P 1 = d) (hN : N < 16) (hrg : rg_r X Y Q N M) (hmid : mid = 0 ∨ mid = 86400) :
    ∃ (Z : aa_G) (v : Int32) (N2 : Nat), (v = -2 ∨ (0 ≤ v.toInt ∧ v.toInt ≤ 172797)) ∧ wd_g Z ∧ Z 541 = g 541 ∧ (∀ a j, a ≠ 548 → a ≠ 549 → ¬ (a = 540 ∧ 13 ≤ j ∧ j ≤ 18) → Z a j = Y a j) ∧ ((fn_194 Y (Int32.ofNat t) d h).1 = 0 ∧ v = -2 ∧ Z = (fn_194 Y (Int32.ofNat t) d h).2 ∨ (fn_194 Y (Int32.ofNat t) d h).1 ≠ 0 ∧ fn_213 (fn_194 Y (Int32.ofNat t) d h).2 (Int32.ofNat t) d (Int32.ofNat k) = (if v = -2 then -1 else v, Z)) ∧
    (N2 = N ∨ N2 = N + 1) ∧ rg_r (fn_104 X Q P (Int32.ofNat t) (Int32.ofNat k) mid) (if v = -2 then Z else if fn_14 (v - mid) 0 86399 = 0 then Z else fn_216 Z (v - mid) (Int32.ofNat k)) Q N2 M ∧ (∀ a j, ¬ (Q ≤ a ∧ a ≤ Q + 2) → fn_104 X Q P (Int32.ofNat t) (Int32.ofNat k) mid a j = X a j) ∧ (∀ a j, a ≠ 546 → a ≠ 547 → ¬ (a = 540 ∧ j = 26) → (if v = -2 then Z else if fn_14 (v - mid) 0 86399 = 0 then Z else fn_216 Z (v - mid) (Int32.ofNat k)) a j = Z a j) := by
  have c := cr_104 (Q := Q) (town := Int32.ofNat t) (mid := mid) W ht h0 hM hk hc hs hF h21 hv
  have b := rv_b (ts := ts) (E := ev_g X P (Int32.ofNat t)) (b := d.toInt) (h := h.toInt) W ht hF
  obtain ⟨Z, z1, z2, z3, z4⟩ := mh_90 (E := ev_g X P (Int32.ofNat t)) (d := d) (h := h) W ht WY e hM hk hm hr hF hh (fun u l hq Z hZ => by
    rw [hq] at hv
    have e4 : X P 4 = Z 540 18 := ti_eq.mpr (hv.2.2.trans hZ.symm)
    unfold ev_g
    rw [e4, hd])
  generalize rv (g 541) F ts (ev_g X P (Int32.ofNat t)) (hv_t (g 541) t d.toInt h.toInt) = v at b c z4
  obtain ⟨N2, n1, n2, n3, n4⟩ := ha_c (v := v) (mid := mid) hQ (rg_mv hrg (fun j => z3 546 j (by omega) (by omega) (by omega)) (fun j => z3 547 j (by omega) (by omega) (by omega)) (z3 540 26 (by omega) (by omega) (by omega))) hN hk b hmid
  dsimp only at c
  rw [← c] at n2 n3
  exact ⟨Z, v, N2, b, z1, z2, z3, z4, n1, n2, n3, n4⟩
theorem cd_head {ts : List fl_T} {cs : List Int32} (h : cd_rel ts cs) : ∀ t r, ts = t :: r → fl_h t.1 = false := by
  intro t r e
  rcases h with ⟨h, -⟩ | ⟨⟨kv, r', h⟩, -⟩
  · rw [h] at e
    cases e
  · rw [h] at e
    cases e
    rfl
/-- RINGS of a DAY: what both sides gather -/
def ga_q (g g2 X0 : aa_G) (Q M : Nat) (x y : aa_G) : Prop := ∃ N, N ≤ 2 * M ∧ rg_r x y Q N M ∧ (∀ a j, ¬ (Q ≤ a ∧ a ≤ Q + 2) → x a j = X0 a j) ∧ wd_g y ∧ y 541 = g 541 ∧ ∀ a j, a ≠ 546 → a ≠ 547 → a ≠ 548 → a ≠ 549 → ¬ (a = 540 ∧ 13 ≤ j ∧ j ≤ 26) → y a j = g2 a j
theorem ga_all {g g2 : aa_G} {t Q : Nat} {d : Int32} (hQ : Q = 463 ∨ Q = 469) (W : wd_g g) (W2 : wd_g g2) (e : g2 541 = g 541) (B : br_B g g 2 0) (hb : g 4 0 = g 541 2) (ht : (t : Int) < (g 541 0).toInt) (hd : 0 ≤ d.toInt ∧ d.toInt ≤ 35999) : ∃ M, M ≤ 8 ∧ g 4 0 = Int32.ofNat M ∧ (∀ k, k < M → br_1 g (fun q => g 541 (203 + q)) (fun q => g 541 (259 + q)) 2 k) ∧ wd_g (fn_103 g Q (Int32.ofNat t) d) ∧ (fn_103 g Q (Int32.ofNat t) d) 541 = g 541 ∧ (∀ a j, ¬ (Q ≤ a ∧ a ≤ Q + 5) → fn_103 g Q (Int32.ofNat t) d a j = g a j) ∧ ∃ X0, ga_q g g2 X0 Q M (fn_103 g Q (Int32.ofNat t) d) (fn_212 g2 (Int32.ofNat t) d) := by
  have n4 := W.1
  obtain ⟨M, hM, hM0, hB⟩ := B
  have hM0 : g 4 0 = Int32.ofNat M := hM0
  have hB : ∀ k, k < M → br_1 g (fun q => g 541 (203 + q)) (fun q => g 541 (259 + q)) 2 k := fun k hk => by
    obtain ⟨F, T0, ts, c0, cs, b1, b2, b3⟩ := hB k hk
    exact ⟨F, T0, ts, c0, cs, b1, br_me (by omega) (fun q _ => by rw [show 399 * 0 + (203 + q) = 203 + q by omega]) (fun q _ => by rw [show 399 * 0 + (259 + q) = 259 + q by omega]) b2, b3⟩
  -- the looks
  have e103 : fn_103 g Q (Int32.ofNat t) d = fn_103_29 (fn_78 (zz_w g Q 0 0) (Q + 3) (fn_31 (zz_w g Q 0 0) (Int32.ofNat t)) (d - 1) 1) Q (Int32.ofNat t) d := by
    unfold fn_103
    rw [if_pos (c := fn_77 d ≠ 0) (ti_77n.mpr hd)]
  generalize hG0 : zz_w g Q 0 0 = G0 at e103
  have f0 : ∀ a j, ¬ (a = Q ∧ j = 0) → G0 a j = g a j := fun a j z => by rw [← hG0, aa_w_ne _ _ z]
  have q0 : G0 Q 0 = 0 := by rw [← hG0, aa_w_at]
  have w0 : wd_g G0 := wd_of W (fun k j z => f0 k j (by omega))
  have x0 : G0 541 = g 541 := funext fun j => f0 541 j (by omega)
  rw [f31_t w0 (by rw [x0]; exact ht)] at e103
  obtain ⟨w1, x1, f1, v1, d1⟩ := lv_look (Q + 3) (d - 1) 1 w0 (t := t) (by rw [x0]; exact ht) (by omega) (.inr rfl)
  rw [x0] at x1 v1
  generalize fn_78 G0 (Q + 3) (some (5 * t + 14)) (d - 1) 1 = G1 at e103 w1 x1 f1 v1 d1
  unfold fn_103_29 at e103
  rw [f31_t w1 (by rw [x1]; exact ht)] at e103
  obtain ⟨w2, x2, f2, v2, d2⟩ := lv_look (Q + 4) d 0 w1 (t := t) (by rw [x1]; exact ht) (by omega) (.inl rfl)
  rw [x1] at x2 v2
  generalize fn_78 G1 (Q + 4) (some (5 * t + 14)) d 0 = G2 at e103 w2 x2 f2 v2 d2
  unfold fn_103_43 at e103
  rw [f31_t w2 (by rw [x2]; exact ht)] at e103
  obtain ⟨w3, x3, f3, v3, d3⟩ := lv_look (Q + 5) d 1 w2 (t := t) (by rw [x2]; exact ht) (by omega) (.inr rfl)
  rw [x2] at x3 v3
  generalize fn_78 G2 (Q + 5) (some (5 * t + 14)) d 1 = X0 at e103 w3 x3 f3 v3 d3
  unfold fn_103_57 at e103
  have fX0 : ∀ a j, ¬ (Q ≤ a ∧ a ≤ Q + 5) → X0 a j = g a j := fun a j z => (f3 a j (by omega)).trans ((f2 a j (by omega)).trans ((f1 a j (by omega)).trans (f0 a j (by omega))))
  have X00 : X0 Q 0 = 0 := (f3 Q 0 (by omega)).trans ((f2 Q 0 (by omega)).trans ((f1 Q 0 (by omega)).trans q0))
  have la : lv_c X0 (Q + 3) (hv_t (g 541) t (d - 1).toInt (1 : Int32).toInt) := lv_mv v1 fun j => (f3 (Q + 3) j (by omega)).trans (f2 (Q + 3) j (by omega))
  have da : X0 (Q + 3) 1 = d - 1 := (f3 (Q + 3) 1 (by omega)).trans ((f2 (Q + 3) 1 (by omega)).trans d1)
  have lb : lv_c X0 (Q + 4) (hv_t (g 541) t d.toInt (0 : Int32).toInt) := lv_mv v2 fun j => f3 (Q + 4) j (by omega)
  have db : X0 (Q + 4) 1 = d := (f3 (Q + 4) 1 (by omega)).trans d2
  have key : ga_q g g2 X0 Q M (fn_103 g Q (Int32.ofNat t) d) (fn_212 g2 (Int32.ofNat t) d) := by
    rw [e103]
    unfold fn_103_60 fn_212 fn_212_7
    generalize hY0 : zz_w g2 540 26 0 = Y0
    have fY0 : ∀ a j, ¬ (a = 540 ∧ j = 26) → Y0 a j = g2 a j := fun a j z => by rw [← hY0, aa_w_ne _ _ z]
    refine lp_two (Q := ga_q g g2 X0 Q M) (fun (n : Nat) (p q : aa_G × Int32) => ∃ k N, k + n = M ∧ N ≤ 2 * k ∧ p.2 = Int32.ofNat k ∧ q.2 = Int32.ofNat k ∧ rg_r p.1 q.1 Q N M ∧ (∀ a j, ¬ (Q ≤ a ∧ a ≤ Q + 2) → p.1 a j = X0 a j) ∧ wd_g q.1 ∧ q.1 541 = g 541 ∧ ∀ a j, a ≠ 546 → a ≠ 547 → a ≠ 548 → a ≠ 549 → ¬ (a = 540 ∧ 13 ≤ j ∧ j ≤ 26) → q.1 a j = g2 a j) ?_ ?_ M _ _ ⟨0, 0, by omega, by omega, rfl, rfl, ⟨X00, (by rw [← hY0]; exact aa_w_at g2 540 26 0), fun i hi => absurd hi (Nat.not_lt_zero i)⟩, fun _ _ _ => rfl, wd_of W2 (fun k j z => fY0 k j (by omega)), (funext fun j => fY0 541 j (by omega)).trans e, fun a j _ _ _ _ z => fY0 a j (by omega)⟩
    · rintro n ⟨X, i⟩ ⟨Y, i'⟩ ⟨k, N, r1, r2, r3, r4, r5, r6, r7, r8, r9⟩
      dsimp only at r3 r4 r5 r6 r7 r8 r9 ⊢
      subst r3 r4
      have hk : k < M := by omega
      obtain ⟨F, T0, ts, c0, cs, b1, b2, b3, b4⟩ := hB k hk
      have hs := cd_head b3
      have xg : ∀ a j, ¬ (Q ≤ a ∧ a ≤ Q + 5) → X a j = g a j := fun a j z => (r6 a j (by omega)).trans (fX0 a j z)
      have x40 : X 4 0 = Int32.ofNat M := (xg 4 0 (by omega)).trans hM0
      have x21 : X 2 1 = g 541 1 := (xg 2 1 (by omega)).trans W.2.2.2.1
      have xc : brk_c X 2 k F T0 ts := br_ce (g := g) (S := 2) (S' := 2) (by omega) (fun o j o1 o2 _ => xg _ j (by omega)) b1
      have x5 : X 5 k = F.1 := xc.1.1
      have y2 : Y 541 2 = Int32.ofNat M := by rw [r8, ← hb]; exact hM0
      have yh : Y 541 (203 + 7 * k) = F.1 := by rw [r8]; exact b2.1.1
      have e203 : (203 : Int32) + 7 * Int32.ofNat k = Int32.ofNat (203 + 7 * k) := by rw [mb_7 (by omega), show (203 : Int32) + Int32.ofNat (7 * k) = Int32.ofNat (203 + 7 * k) from i_add 203 (7 * k)]
      have k1 : ¬ Int32.ofNat M ≤ Int32.ofNat k := fun z => by have := aa_le32.mp z; rw [zz_ofN (by omega), zz_ofN (by omega)] at this; omega
      have k2 : ¬ (8 : Int32) ≤ Int32.ofNat k := fun z => by have := aa_le32.mp z; rw [zz_ofN (by omega), show (8 : Int32).toInt = 8 from rfl] at this; omega
      unfold fn_103_60b fn_212_7b
      rw [x40, if_neg k1, if_neg k2, zz_toN (by omega), x5, show (2 : Int32).toNatClampNeg = 2 from rfl, y2, if_neg k1, e203, zz_toN (by omega), yh]
      -- the half of the day itself: the model's end of a step
      have last : ∀ (X1 Y1 : aa_G) (N1 : Nat) (P : Nat) (h : Int32), (P = Q + 4 ∧ h = 0 ∨ P = Q + 5 ∧ h = 1) → rg_r X1 Y1 Q N1 M → N1 ≤ 2 * k + 1 → (∀ a j, ¬ (Q ≤ a ∧ a ≤ Q + 2) → X1 a j = X0 a j) → wd_g Y1 → Y1 541 = g 541 → (∀ a j, a ≠ 546 → a ≠ 547 → a ≠ 548 → a ≠ 549 → ¬ (a = 540 ∧ 13 ≤ j ∧ j ≤ 26) → Y1 a j = g2 a j) → ∃ Z, fn_212_82 Y1 (Int32.ofNat t) d (Int32.ofNat k) h = .inl (Z, Int32.ofNat k + 1) ∧ ∃ N2, N2 ≤ N1 + 1 ∧ rg_r (fn_104 X1 Q P (Int32.ofNat t) (Int32.ofNat k) 0) Z Q N2 M ∧ (∀ a j, ¬ (Q ≤ a ∧ a ≤ Q + 2) → fn_104 X1 Q P (Int32.ofNat t) (Int32.ofNat k) 0 a j = X0 a j) ∧ wd_g Z ∧ Z 541 = g 541 ∧ ∀ a j, a ≠ 546 → a ≠ 547 → a ≠ 548 → a ≠ 549 → ¬ (a = 540 ∧ 13 ≤ j ∧ j ≤ 26) → Z a j = g2 a j := by
        intro X1 Y1 N1 P h hP p1 p2 p3 p4 p5 p6
        have xg1 : ∀ a j, ¬ (Q ≤ a ∧ a ≤ Q + 5) → X1 a j = g a j := fun a j z => (p3 a j (by omega)).trans (fX0 a j z)
        have lk : lv_c X1 P (hv_t (g 541) t d.toInt h.toInt) ∧ X1 P 1 = d := by
          rcases hP with ⟨rfl, rfl⟩ | ⟨rfl, rfl⟩
          · exact ⟨lv_mv lb fun j => p3 _ j (by omega), (p3 _ 1 (by omega)).trans db⟩
          · exact ⟨lv_mv v3 fun j => p3 _ j (by omega), (p3 _ 1 (by omega)).trans d3⟩
        obtain ⟨Z, v, N2, a1, a2, a3, a4, a5, a6, a7, a8, a9⟩ := hb_one (Q := Q) (P := P) (mid := 0) (by omega) (by omega) W ht p4 p5 hM hk ((xg1 4 0 (by omega)).trans hM0) ((xg1 2 1 (by omega)).trans W.2.2.2.1) (br_ce (g := g) (S := 2) (S' := 2) (by omega) (fun o j o1 o2 _ => xg1 _ j (by omega)) b1) b2 b3 hs b4 (hP.elim (fun z => .inl z.2) (fun z => .inr z.2)) lk.1 lk.2 (by omega) p1 (.inl rfl)
        refine ⟨_, ?_, N2, by omega, a7, fun a j z => (a8 a j z).trans (p3 a j z), wd_of a2 (fun a j z => a9 a j (by omega) (by omega) (by omega)), (funext fun j => a9 541 j (by omega) (by omega) (by omega)).trans a3, fun a j z1 z2 z3 z4 z5 => (a9 a j z1 z2 (by omega)).trans ((a4 a j z3 z4 (by omega)).trans (p6 a j z1 z2 z3 z4 z5))⟩
        unfold fn_212_82 fn_212_90 fn_212_100
        rw [← ha_0 a1 (Int32.ofNat t) d]
        rcases a5 with ⟨c1, c2, c3⟩ | ⟨c1, c2⟩
        · rw [if_pos c1, ← c3, c2, if_pos (c := (-2 : Int32) = -2) rfl]
        · rw [if_neg c1, c2]
      rcases b4.1 with hF0 | hF1
      · rw [hF0, if_neg (c := (0 : Int32) ≠ 0) (fun z => z rfl), if_pos (c := (0 : Int32) ≠ 1) (by decide)]
        unfold fn_103_105 fn_103_135 fn_212_62 fn_212_63
        rw [if_pos (c := (-1 : Int32) < 86400) (by decide)]
        obtain ⟨Z, z1, N2, z2, z3, z4, z5, z6, z7⟩ := last X Y N (Q + 4) 0 (.inl ⟨rfl, rfl⟩) r5 (by omega) r6 r7 r8 r9
        rw [z1, aa_succ]
        exact .inl ⟨_, _, rfl, rfl, k + 1, N2, by omega, by omega, rfl, rfl, z3, z4, z5, z6, z7⟩
      · rw [hF1, if_pos (c := (1 : Int32) ≠ 0) (by decide), if_neg (c := (1 : Int32) ≠ 1) (fun z => z rfl)]
        unfold fn_103_122 fn_103_135 fn_212_47 fn_212_62 fn_212_59
        obtain ⟨Z, v, N2, a1, a2, a3, a4, a5, a6, a7, a8, a9⟩ := hb_one (Q := Q) (P := Q + 3) (d := d - 1) (h := 1) (mid := 86400) (by omega) (by omega) W ht r7 r8 hM hk x40 x21 xc b2 b3 hs b4 (.inr rfl) (lv_mv la fun j => r6 _ j (by omega)) ((r6 _ 1 (by omega)).trans da) (by omega) r5 (.inr rfl)
        have em : (if (fn_194 Y (Int32.ofNat t) (d - 1) 1).1 = 0 then fn_212_63 (fn_194 Y (Int32.ofNat t) (d - 1) 1).2 (Int32.ofNat t) d (Int32.ofNat k) 1 (-1) else fn_212_63 (fn_213 (fn_194 Y (Int32.ofNat t) (d - 1) 1).2 (Int32.ofNat t) (d - 1) (Int32.ofNat k)).2 (Int32.ofNat t) d (Int32.ofNat k) 1 (fn_213 (fn_194 Y (Int32.ofNat t) (d - 1) 1).2 (Int32.ofNat t) (d - 1) (Int32.ofNat k)).1) = fn_212_63 Z (Int32.ofNat t) d (Int32.ofNat k) 1 (if v = -2 then -1 else v) := by
          rcases a5 with ⟨c1, c2, c3⟩ | ⟨c1, c2⟩
          · rw [if_pos c1, ← c3, c2, if_pos (c := (-2 : Int32) = -2) rfl]
          · rw [if_neg c1, c2]
        rw [em, ha_1 a1]
        have zw : wd_g (if v = -2 then Z else if fn_14 (v - 86400) 0 86399 = 0 then Z else fn_216 Z (v - 86400) (Int32.ofNat k)) := wd_of a2 (fun a j z => a9 a j (by omega) (by omega) (by omega))
        obtain ⟨Z2, z1, N3, z2, z3, z4, z5, z6, z7⟩ := last (fn_104 X Q (Q + 3) (Int32.ofNat t) (Int32.ofNat k) 86400) (if v = -2 then Z else if fn_14 (v - 86400) 0 86399 = 0 then Z else fn_216 Z (v - 86400) (Int32.ofNat k)) N2 (Q + 5) 1 (.inr ⟨rfl, rfl⟩) a7 (by omega) (fun a j z => (a8 a j z).trans (r6 a j z)) zw ((funext fun j => a9 541 j (by omega) (by omega) (by omega)).trans a3) (fun a j y1 y2 y3 y4 y5 => (a9 a j y1 y2 (by omega)).trans ((a4 a j y3 y4 (by omega)).trans (r9 a j y1 y2 y3 y4 y5)))
        rw [z1, aa_succ]
        exact .inl ⟨_, _, rfl, rfl, k + 1, N3, by omega, by omega, rfl, rfl, z3, z4, z5, z6, z7⟩
    · rintro ⟨X, i⟩ ⟨Y, i'⟩ ⟨k, N, r1, r2, r3, r4, r5, r6, r7, r8, r9⟩
      dsimp only at r3 r4 r5 r6 r7 r8 r9 ⊢
      subst r3 r4
      have x40 : X 4 0 = Int32.ofNat M := (r6 4 0 (by omega)).trans ((fX0 4 0 (by omega)).trans hM0)
      have y2 : Y 541 2 = Int32.ofNat M := by rw [r8, ← hb]; exact hM0
      have k1 : Int32.ofNat M ≤ Int32.ofNat k := aa_le32.mpr (by rw [zz_ofN (by omega), zz_ofN (by omega)]; omega)
      unfold fn_103_60b fn_212_7b
      rw [x40, if_pos k1, show (2 : Int32).toNatClampNeg = 2 from rfl, y2, if_pos k1]
      exact ⟨_, _, rfl, rfl, N, by omega, r5, r6, r7, r8, r9⟩
  refine ⟨M, hM, hM0, hB, ?_⟩
  obtain ⟨N, n1, n2, n3, n4, n5, n6⟩ := key
  have fr : ∀ a j, ¬ (Q ≤ a ∧ a ≤ Q + 5) → fn_103 g Q (Int32.ofNat t) d a j = g a j := fun a j z => (n3 a j (by omega)).trans (fX0 a j z)
  exact ⟨wd_of W (fun a j z => fr a j (by omega)), funext fun j => fr 541 j (by omega), fr, X0, N, n1, n2, n3, n4, n5, n6⟩
