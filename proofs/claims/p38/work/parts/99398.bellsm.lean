/-! BELLS: bells() of the model, with what it leaves -/
def bg_fr (g g' : aa_G) : Prop := ∀ k j, ¬ (k = 540 ∧ 10 ≤ j ∧ j ≤ 12) → k ≠ 544 → k ≠ 545 → g' k j = g k j
theorem bm_bell {g : aa_G} {b : Nat → Int32} {n N T c p : Nat} {z : Int32} (h : tm_ok g b n) (hN : N ≤ 8) (hT : T ≤ 40) (hc : c ≤ 60 + 2 * T) (hp : p ≤ n) (h10 : g 540 10 = Int32.ofNat N) (h11 : g 540 11 = Int32.ofNat c) (h12 : g 540 12 = Int32.ofNat T) : (∃ f g', pb_bell b n p N T = .inl f ∧ fn_179 (tm_at g p z) = (0, g') ∧ mb_bbad g f N c g') ∨ (∃ q F T2 cs g' z', pb_bell b n p N T = .inr (q, (F, (T2, cs))) ∧ q ≤ n ∧ fn_179 (tm_at g p z) = (1, tm_at g' q z') ∧ mb_bst g g' N T c F T2 cs) := by
  have k := tr_w (mb_bell (z := z) h hN hT hc hp h10 h11 h12) (fun n v h r => dn_179 r)
  rcases k with ⟨f, k1, k2, g', k3, k4⟩ | ⟨q, F, T2, cs, k1, k2, k3, g', z', k4, k5⟩
  · exact .inl ⟨f, g', k1, pr_e (vi_i k2) (ep_H k3), k4⟩
  · exact .inr ⟨q, F, T2, cs, g', z', k1, k2, pr_e (vi_i k3) (ep_H k4), k5⟩
theorem bm_loop {b : Nat → Int32} {n : Nat} {g0 : aa_G} : ∀ (k p N T c : Nat) (g : aa_G) (z : Int32), n < k + p → p ≤ n → N ≤ 8 → T ≤ 40 → c ≤ 2 * T → bg_fr g0 g → tm_ok g b n → g 540 10 = Int32.ofNat N → g 540 11 = Int32.ofNat c → g 540 12 = Int32.ofNat T →
    (∃ f g', ml_loop b n k p N T = .inl f ∧ g' 540 6 = Int32.ofNat f ∧ (∀ k j, ¬ (k = 540 ∧ ((5 ≤ j ∧ j ≤ 7) ∨ (10 ≤ j ∧ j ≤ 12))) → k ≠ 544 → k ≠ 545 → g' k j = g0 k j) ∧ fn_178_21 (tm_at g p z) 1 = fn_178_44 g' 0) ∨
    (∃ N2 c2 g' q z2, ml_loop b n k p N T = .inr N2 ∧ N2 ≤ 8 ∧ c2 ≤ 80 ∧ bg_fr g0 g' ∧ g' 540 10 = Int32.ofNat N2 ∧ g' 540 11 = Int32.ofNat c2 ∧ fn_178_21 (tm_at g p z) 1 = fn_178_44 (tm_at g' q z2) 1) := by
  intro k
  induction k with
  | zero => intro p N T c g z hk hp; omega
  | succ k ih =>
    intro p N T c g z hk hp hN hT hc hf h h10 h11 h12
    have hn := h.2.1
    have e5 : tm_at g p z 540 5 = Int32.ofNat p := by
      unfold tm_at
      rw [aa_w_ne _ _ (by omega), aa_w_at]
    have e4 : tm_at g p z 540 4 = Int32.ofNat n := (tz_m _ _ _ (by omega)).trans h.1
    by_cases hm : p < n
    · have hb : fn_178_21b (tm_at g p z) 1 = .inl ((fn_179 (tm_at g p z)).2, (fn_179 (tm_at g p z)).1) := by
        unfold fn_178_21b fn_178_40
        rw [if_neg (by decide), e4, e5, if_neg (fun z => by
          have := (i_le (by omega) (by omega)).mp z
          omega)]
      have hs : fn_178_21 (tm_at g p z) 1 = fn_178_21 (fn_179 (tm_at g p z)).2 (fn_179 (tm_at g p z)).1 := by
        unfold fn_178_21
        exact lp_l hb
      rcases bm_bell (z := z) h hN hT (by omega) hp h10 h11 h12 with ⟨f, g', b1, b2, b3⟩ | ⟨q, F, T2, cs, g', z', b1, b2, b3, b4⟩
      · left
        refine ⟨f, g', ml_inl hm b1, b3.2, fun a j z1 z2 z3 => (b3.1 a j z1 (by omega) (by omega)).trans (hf a j (by omega) z2 z3), ?_⟩
        rw [hs, b2]
        unfold fn_178_21
        refine lp_r ?_
        show fn_178_21b g' 0 = _
        unfold fn_178_21b
        rw [if_pos rfl]
      · obtain ⟨a1, a2, a3, a4, a5, a6, -⟩ := (cb_pb (b := b) (n := n) (p := p) (N := N) hT).2 q F T2 cs b1
        obtain ⟨s1, s2, s3, s4, -⟩ := b4
        rw [ml_inr hm b1, hs, b3]
        exact ih q (N + 1) T2 (c + cs.length) g' z' (by omega) a2 (by omega) a3 (by omega) (fun a j z1 z2 z3 => (s1 a j z1 (fun e => z3 e.1) (fun e => z2 e.1)).trans (hf a j z1 z2 z3)) (s1.ok h) s2 s3 s4
    · right
      refine ⟨N, c, g, p, z, ml_no hm, hN, by omega, hf, h10, h11, ?_⟩
      unfold fn_178_21
      refine lp_r ?_
      show fn_178_21b (tm_at g p z) 1 = _
      unfold fn_178_21b
      rw [if_neg (by decide), e4, e5, if_pos ((i_le (by omega) (by omega)).mpr (by omega))]
/-- the numbers go to row 0 -/
theorem bc_1 {N : Nat} (hN : N ≤ 8) : ∀ (m j : Nat) (g : aa_G), j + m = 7 * N → g 540 10 = Int32.ofNat N → ∃ g', fn_178_71 g (Int32.ofNat j) = fn_178_106 g' 0 ∧ (∀ q, 203 + j ≤ q → q < 203 + 7 * N → g' 541 q = g 544 (q - 203)) ∧ ∀ k i, ¬ (k = 541 ∧ 203 + j ≤ i ∧ i < 203 + 7 * N) → g' k i = g k i
  | 0, j, g, hj, h => by
    refine ⟨g, ?_, fun q q1 q2 => by omega, fun _ _ _ => rfl⟩
    unfold fn_178_71
    refine lp_r ?_
    show fn_178_71b g (Int32.ofNat j) = _
    unfold fn_178_71b
    rw [h, show (7 : Int32) * Int32.ofNat N = Int32.ofNat (7 * N) from (Int32.ofNat_mul 7 N).symm, if_pos ((i_le (by omega) (by omega)).mpr (by omega))]
  | m + 1, j, g, hj, h => by
    have hs : fn_178_71 g (Int32.ofNat j) = fn_178_71 (zz_w g 541 (203 + j) (g 544 j)) (Int32.ofNat (j + 1)) := by
      unfold fn_178_71
      refine lp_l ?_
      show fn_178_71b g (Int32.ofNat j) = _
      unfold fn_178_71b
      rw [h, show (7 : Int32) * Int32.ofNat N = Int32.ofNat (7 * N) from (Int32.ofNat_mul 7 N).symm, if_neg (fun z => by
        have := (i_le (by omega) (by omega)).mp z
        omega), show (203 : Int32) + Int32.ofNat j = Int32.ofNat (203 + j) from i_add 203 j, zz_toN (by omega), zz_toN (by omega), aa_succ]
    obtain ⟨g', r1, r2, r3⟩ := bc_1 hN m (j + 1) (zz_w g 541 (203 + j) (g 544 j)) (by omega) ((aa_w_ne _ _ (by omega)).trans h)
    refine ⟨g', hs.trans r1, fun q q1 q2 => ?_, fun k i z => ?_⟩
    · by_cases e : q = 203 + j
      · rw [r3 541 q (by omega), e, aa_w_at, show 203 + j - 203 = j by omega]
      · rw [r2 q (by omega) q2, aa_w_ne _ _ (by omega)]
    · rw [r3 k i (by omega), aa_w_ne _ _ (by omega)]
theorem bc_2 {c : Nat} (hc : c ≤ 80) : ∀ (m j : Nat) (g : aa_G), j + m = c → g 540 11 = Int32.ofNat c → ∃ g', fn_178_106 g (Int32.ofNat j) = (g 540 10, g') ∧ (∀ q, 259 + j ≤ q → q < 259 + c → g' 541 q = g 545 (q - 259)) ∧ ∀ k i, ¬ (k = 541 ∧ 259 + j ≤ i ∧ i < 259 + c) → g' k i = g k i
  | 0, j, g, hj, h => by
    refine ⟨g, ?_, fun q q1 q2 => by omega, fun _ _ _ => rfl⟩
    unfold fn_178_106
    refine lp_r ?_
    show fn_178_106b g (Int32.ofNat j) = _
    unfold fn_178_106b
    rw [h, if_pos ((i_le (by omega) (by omega)).mpr (by omega))]
  | m + 1, j, g, hj, h => by
    have hs : fn_178_106 g (Int32.ofNat j) = fn_178_106 (zz_w g 541 (259 + j) (g 545 j)) (Int32.ofNat (j + 1)) := by
      unfold fn_178_106
      refine lp_l ?_
      show fn_178_106b g (Int32.ofNat j) = _
      unfold fn_178_106b
      rw [h, if_neg (fun z => by
        have := (i_le (by omega) (by omega)).mp z
        omega), show (259 : Int32) + Int32.ofNat j = Int32.ofNat (259 + j) from i_add 259 j, zz_toN (by omega), zz_toN (by omega), aa_succ]
    obtain ⟨g', r1, r2, r3⟩ := bc_2 hc m (j + 1) (zz_w g 541 (259 + j) (g 545 j)) (by omega) ((aa_w_ne _ _ (by omega)).trans h)
    refine ⟨g', ?_, fun q q1 q2 => ?_, fun k i z => ?_⟩
    · rw [hs, r1, aa_w_ne _ _ (by omega)]
    · by_cases e : q = 259 + j
      · rw [r3 541 q (by omega), e, aa_w_at, show 259 + j - 259 = j by omega]
      · rw [r2 q (by omega) q2, aa_w_ne _ _ (by omega)]
    · rw [r3 k i (by omega), aa_w_ne _ _ (by omega)]
/-- what the model's bells() leaves -/
def xb_m (r : Nat ⊕ Nat) (c : Nat) (g g' : aa_G) : Prop := g' 540 4 = 0 ∧ g' 540 6 = bl_flt r ∧ (∀ k j, k ≠ 541 → ¬ (k = 540 ∧ (j = 1 ∨ (4 ≤ j ∧ j ≤ 7) ∨ (10 ≤ j ∧ j ≤ 12))) → k ≠ 544 → k ≠ 545 → g' k j = g k j) ∧ (match r with
  | .inl _ => (∀ j, g' 541 j = g 541 j) ∧ g' 540 1 = g 540 1
  | .inr N => g' 541 2 = Int32.ofNat N ∧ (∀ j, j < 203 → j ≠ 2 → g' 541 j = g 541 j) ∧ (∀ j, 399 ≤ j → j < 1197 → g' 541 j = g 541 j) ∧ g' 540 1 = Int32.ofNat (min (c + 1) 12) ∧ (∀ q, q < 399 → g' 541 (399 * (3 + min c 11) + q) = g 541 (399 * 0 + q)) ∧ (∀ i q, q < 399 → i < min c 11 → g' 541 (399 * (3 + i) + q) = g 541 (399 * (3 + i + (if c = 12 then 1 else 0)) + q)))
theorem bm_all {g : aa_G} {b : Nat → Int32} {n c : Nat} (h : tm_ok g b n) (hc : g 540 1 = Int32.ofNat c) (h12 : c ≤ 12) : (fn_178 g).1 = bl_ans (ml_loop b n (n + 1) 0 0 0) ∧ xb_m (ml_loop b n (n + 1) 0 0 0) c g (fn_178 g).2 := by
  have hn := h.2.1
  have em : fn_178 g = fn_178_21 (tm_at (zz_w (zz_w (zz_w (zz_w g 540 6 (-1)) 540 10 0) 540 11 0) 540 12 0) 0 (g 540 7)) 1 := by
    unfold fn_178 fn_178_4 fn_165 tm_at
    have e : zz_w (zz_w (zz_w (zz_w (zz_w g 540 5 0) 540 6 (-1)) 540 10 0) 540 11 0) 540 12 0 = zz_w (zz_w (zz_w (zz_w (zz_w (zz_w g 540 6 (-1)) 540 10 0) 540 11 0) 540 12 0) 540 5 (Int32.ofNat 0)) 540 7 (g 540 7) := by
      rw [zz_id (g := zz_w (zz_w (zz_w (zz_w (zz_w g 540 6 (-1)) 540 10 0) 540 11 0) 540 12 0) 540 5 (Int32.ofNat 0)) (by rw [aa_w_ne _ _ (by omega), aa_w_ne _ _ (by omega), aa_w_ne _ _ (by omega), aa_w_ne _ _ (by omega), aa_w_ne _ _ (by omega)]), zz_w_comm (zz_w (zz_w (zz_w g 540 6 (-1)) 540 10 0) 540 11 0) (k := 540) (j := 12) (a := 540) (b := 5) _ _ (by omega), zz_w_comm (zz_w (zz_w g 540 6 (-1)) 540 10 0) (k := 540) (j := 11) (a := 540) (b := 5) _ _ (by omega), zz_w_comm (zz_w g 540 6 (-1)) (k := 540) (j := 10) (a := 540) (b := 5) _ _ (by omega), zz_w_comm g (k := 540) (j := 6) (a := 540) (b := 5) _ _ (by omega)]
      rfl
    rw [e]
  generalize hG : zz_w (zz_w (zz_w (zz_w g 540 6 (-1)) 540 10 0) 540 11 0) 540 12 0 = G at em
  have G4 : ∀ k j, ¬ (k = 540 ∧ (j = 6 ∨ (10 ≤ j ∧ j ≤ 12))) → G k j = g k j := fun k j e => by
    rw [← hG, aa_w_ne _ _ (by omega), aa_w_ne _ _ (by omega), aa_w_ne _ _ (by omega), aa_w_ne _ _ (by omega)]
  have hok : tm_ok G b n := ⟨(G4 540 4 (by omega)).trans h.1, h.2.1, fun j hj => by rw [G4 543 j (by omega)]; exact h.2.2 j hj⟩
  have g12 : G 540 12 = 0 := by rw [← hG, aa_w_at]
  have g11 : G 540 11 = 0 := by rw [← hG, aa_w_ne _ _ (by omega), aa_w_at]
  have g10 : G 540 10 = 0 := by rw [← hG, aa_w_ne _ _ (by omega), aa_w_ne _ _ (by omega), aa_w_at]
  have g6 : G 540 6 = -1 := by rw [← hG, aa_w_ne _ _ (by omega), aa_w_ne _ _ (by omega), aa_w_ne _ _ (by omega), aa_w_at]
  rw [em]
  rcases bm_loop (g0 := G) (n + 1) 0 0 0 0 G (g 540 7) (by omega) (Nat.zero_le _) (by omega) (by omega) (Nat.le_refl _) (fun _ _ _ _ _ => rfl) hok g10 g11 g12 with ⟨f, g', k1, k2, k3, k4⟩ | ⟨N2, c2, g', q, z2, k1, k2, k3, k4, k5, k6, k7⟩
  · rw [k1, k4]
    unfold fn_178_44
    rw [if_neg (fun z => z rfl)]
    refine ⟨rfl, ?_, ?_, fun k j z1 z2 z3 z4 => ?_, fun j => ?_, ?_⟩
    · show zz_w g' 540 4 0 540 4 = 0
      rw [aa_w_at]
    · show zz_w g' 540 4 0 540 6 = Int32.ofNat f
      rw [aa_w_ne _ _ (by omega)]; exact k2
    · show zz_w g' 540 4 0 k j = g k j
      rw [aa_w_ne _ _ (by omega), k3 k j (by omega) z3 z4, G4 k j (by omega)]
    · show zz_w g' 540 4 0 541 j = g 541 j
      rw [aa_w_ne _ _ (by omega), k3 541 j (by omega) (by omega) (by omega), G4 541 j (by omega)]
    · show zz_w g' 540 4 0 540 1 = g 540 1
      rw [aa_w_ne _ _ (by omega), k3 540 1 (by omega) (by omega) (by omega), G4 540 1 (by omega)]
  · rw [k1, k7]
    unfold fn_178_44
    rw [if_pos (by decide)]
    generalize hK : zz_w (tm_at g' q z2) 540 4 0 = K
    have K1 : ∀ k j, ¬ (k = 540 ∧ (j = 4 ∨ j = 5 ∨ j = 7)) → K k j = g' k j := fun k j e => by
      rw [← hK, aa_w_ne _ _ (by omega), tz_m _ _ _ (by omega)]
    have hK4 : K 540 4 = 0 := by rw [← hK, aa_w_at]
    have Kg : ∀ k j, ¬ (k = 540 ∧ ((4 ≤ j ∧ j ≤ 7) ∨ (10 ≤ j ∧ j ≤ 12))) → k ≠ 544 → k ≠ 545 → K k j = g k j := fun k j z1 z2 z3 => (K1 k j (by omega)).trans ((k4 k j (by omega) z2 z3).trans (G4 k j (by omega)))
    have pm := dm_deed (g := K) ((Kg 540 1 (by omega) (by omega) (by omega)).trans hc) h12
    have K6 : K 540 6 = -1 := (K1 540 6 (by omega)).trans ((k4 540 6 (by omega) (by omega) (by omega)).trans g6)
    generalize fn_156 K = M at pm ⊢
    obtain ⟨m1, m2, m3, m4⟩ := pm
    unfold fn_178_59
    rw [show (2 : Int32).toNatClampNeg = 2 from rfl]
    have M10 : M 540 10 = Int32.ofNat N2 := (m4 540 10 (by omega) (by omega)).trans ((K1 540 10 (by omega)).trans k5)
    have M11 : M 540 11 = Int32.ofNat c2 := (m4 540 11 (by omega) (by omega)).trans ((K1 540 11 (by omega)).trans k6)
    obtain ⟨P, p1, p2, p3⟩ := bc_1 k2 (7 * N2) 0 (zz_w M 541 2 (M 540 10)) (by omega) ((aa_w_ne _ _ (by omega)).trans M10)
    obtain ⟨R, r1, r2, r3⟩ := bc_2 k3 c2 0 P (by omega) ((p3 540 11 (by omega)).trans ((aa_w_ne _ _ (by omega)).trans M11))
    rw [show (Int32.ofNat 0 : Int32) = 0 from rfl] at p1 r1
    rw [p1, r1]
    have fr : ∀ k j, ¬ (k = 541 ∧ (j = 2 ∨ (203 ≤ j ∧ j < 399))) → R k j = M k j := fun k j z => (r3 k j (by omega)).trans ((p3 k j (by omega)).trans (aa_w_ne _ _ (by omega)))
    refine ⟨?_, (fr 540 4 (by omega)).trans ((m4 540 4 (by omega) (by omega)).trans hK4), (fr 540 6 (by omega)).trans ((m4 540 6 (by omega) (by omega)).trans K6), fun k j z1 z2 z3 z4 => ?_, ?_, fun j z1 z2 => ?_, fun j z1 z2 => ?_, ?_, fun q hq => ?_, fun i q hq hi => ?_⟩
    · show P 540 10 = Int32.ofNat N2
      rw [p3 540 10 (by omega), aa_w_ne _ _ (by omega), M10]
    · show R k j = g k j
      rw [fr k j (by omega), m4 k j (by omega) (by omega), Kg k j (by omega) z3 z4]
    · show R 541 2 = Int32.ofNat N2
      rw [r3 541 2 (by omega), p3 541 2 (by omega), aa_w_at, M10]
    · show R 541 j = g 541 j
      rw [fr 541 j (by omega), m4 541 j (by omega) (by omega), Kg 541 j (by omega) (by omega) (by omega)]
    · show R 541 j = g 541 j
      rw [fr 541 j (by omega), m4 541 j (by omega) (by omega), Kg 541 j (by omega) (by omega) (by omega)]
    · exact (fr 540 1 (by omega)).trans m1
    · show R 541 (399 * (3 + min c 11) + q) = g 541 (399 * 0 + q)
      rw [fr 541 _ (by omega), m2 q hq, Kg 541 _ (by omega) (by omega) (by omega)]
    · show R 541 (399 * (3 + i) + q) = g 541 (399 * (3 + i + (if c = 12 then 1 else 0)) + q)
      rw [fr 541 _ (by omega), m3 i q hq hi, Kg 541 _ (by omega) (by omega) (by omega)]
theorem mu_bells {B : rq_Q} (hcp : rq_cp B) {gc gm gc' gm' : aa_G} {b : Nat → Int32} {n c e : Nat} (hi : aa_inv gm) (h : rr_g (qb_s B) gc gm) (hd : rd_g (qb_s B) gc gm c e) (hc : xb_c (cl_loop b n (n + 1) 0 0 0) e c gc gc') (hm : xb_m (ml_loop b n (n + 1) 0 0 0) c gm gm') (hB : ∀ N, ml_loop b n (n + 1) 0 0 0 = .inr N → B gc' gm' 2 0) : rr_g (qb_s B) gc' gm' := by
  rw [cl_ml (n + 1) 0 0 0 (by omega)] at hc
  obtain ⟨h0, h2, -, s1, s2, s3, s4, s5, s6, s7⟩ := h
  obtain ⟨x0, x1, xk, xr⟩ := hc
  obtain ⟨y0, y1, yk, yr⟩ := hm
  have he := hd.1.2
  have n4 : 0 ≤ (gm 541 0).toInt ∧ (gm 541 0).toInt ≤ 4 := iv_n hi (r := 0)
  have fc : ∀ k j, ¬ (2 ≤ k ∧ k ≤ 65) → ¬ (32 * e + 68 ≤ k ∧ k ≤ 32 * e + 99) → ¬ (k = 66 ∧ j ≤ 1) → k ≠ 454 → ¬ (k = 1 ∧ j = 13) → gc' k j = gc k j := xk
  have rest : (qb_s B gc' gm' 2 0) → (∀ j, 399 ≤ j → j < 1197 → gm' 541 j = gm 541 j) → (∃ c e, rd_g (qb_s B) gc' gm' c e) → rr_g (qb_s B) gc' gm' := by
    intro r1 r3 r4
    refine ⟨r1, fun k hk => ⟨?_, fun z => ?_⟩, r4, ?_, fun k hk => ?_, x1.trans y1.symm, ?_, ?_, ?_, fun j hj => ?_⟩
    · rw [fc 453 k (by omega) (by omega) (by omega) (by omega) (by omega), yk 542 k (by omega) (by omega) (by omega) (by omega)]; exact (h2 k hk).1
    · rw [yk 542 k (by omega) (by omega) (by omega) (by omega)] at z
      exact rq_same (qb_cp hcp) hi (by omega) (fun k' j _ _ => fc k' j (by omega) (by omega) (by omega) (by omega) (by omega)) (fun q hq => r3 _ (by omega) (by omega)) ((h2 k hk).2 z)
    · rw [x0, y0]
    · rw [yk 543 k (by omega) (by omega) (by omega) (by omega), fc 455 k (by omega) (by omega) (by omega) (by omega) (by omega)]; exact s2 k hk
    · rw [fc 1 14 (by omega) (by omega) (by omega) (by omega) (by omega), yk 540 35 (by omega) (by omega) (by omega) (by omega)]; exact s4
    · rw [yk 540 16 (by omega) (by omega) (by omega) (by omega)]; exact s5
    · rw [fc 459 0 (by omega) (by omega) (by omega) (by omega) (by omega), yk 540 37 (by omega) (by omega) (by omega) (by omega)]; exact s6
    · rw [yk 540 37 (by omega) (by omega) (by omega) (by omega)] at hj
      rw [fc 460 j (by omega) (by omega) (by omega) (by omega) (by omega), yk 553 j (by omega) (by omega) (by omega) (by omega)]; exact s7 j hj
  cases hr : ml_loop b n (n + 1) 0 0 0 with
  | inl f =>
    rw [hr] at xr yr
    obtain ⟨v5, v4⟩ := yr
    have u4 : ∀ k j, ¬ (34 ≤ k ∧ k ≤ 65) → k ≠ 454 → ¬ (k = 1 ∧ j = 13) → gc' k j = gc k j := xr
    obtain ⟨d1, ⟨d2, d3, d4⟩, d5⟩ := hd
    exact rest (rq_same (qb_cp hcp) hi (by omega) (fun k j _ _ => u4 k j (by omega) (by omega) (by omega)) (fun q hq => v5 _) h0) (fun j _ _ => v5 j) ⟨c, e, d1, ⟨(u4 66 0 (by omega) (by omega) (by omega)).trans d2, v4.trans d3, (u4 66 1 (by omega) (by omega) (by omega)).trans d4⟩, fun i hi' => rq_same (qb_cp hcp) hi (by omega) (fun k j _ _ => u4 k j (by omega) (by omega) (by omega)) (fun q hq => v5 _) (d5 i hi')⟩
  | inr N =>
    have hBB := hB N hr
    rw [hr] at xr yr
    obtain ⟨⟨u1, u2, u3, u4⟩, u6, u7, u8⟩ := xr
    obtain ⟨v1, v2, v3, v6, v7, v8⟩ := yr
    obtain ⟨⟨q1, q2, q3, q4⟩, qb⟩ := h0
    have q1 : gc 2 0 = gm 541 0 := q1
    have v20 : gm' 541 0 = gm 541 0 := v2 0 (by omega) (by omega)
    refine rest ⟨⟨u1.trans (q1.trans v20.symm), u2.trans (q2.trans (v2 1 (by omega) (by omega)).symm), u4.trans v1.symm, fun t ht => ?_⟩, hBB⟩ v3 ⟨_, _, rd_push (qb_cp hcp) hi ⟨⟨q1, q2, q3, q4⟩, qb⟩ hd u6 u7 u8 (fun k j z1 z2 z3 => fc k j (by omega) (by omega) (by omega) (by omega) (by omega)) v6 v7 v8⟩
    have ht : (t : Int) < (gm' 541 0).toInt := ht
    rw [v20] at ht
    have ht4 : t < 4 := by omega
    obtain ⟨a1, a2, a3, a4⟩ := q4 t ht
    obtain ⟨w1, w2⟩ := u3 t ht4
    obtain ⟨cc, hcc, hc1⟩ := tq_count hi ht4
    have E1 : 5 * t + (2 + 12) = 5 * t + 14 := by omega
    have E2 : 399 * 0 + 50 * t + 3 = 50 * t + 3 := by omega
    rw [E1, E2] at a1 a2 a3 ⊢
    rw [E2] at a4
    have hz : (gm 541 (50 * t + 3 + 1)).toInt = cc := by
      show (gm 541 (50 * t + 4)).toInt = cc
      rw [hc1, i_12 hcc]
    refine ⟨?_, ?_, fun i hi' o o1 o2 => ?_, fun i hi' => ?_⟩
    · rw [w1 0 (by omega), v2 _ (by omega) (by omega)]; exact a1
    · rw [w1 1 (by omega), v2 _ (by omega) (by omega)]; exact a2
    · rw [v2 _ (by omega) (by omega)] at hi'
      rw [w2 o i o1 o2 (by omega), v2 _ (by omega) (by omega)]
      exact a3 i hi' o o1 o2
    · rw [v2 _ (by omega) (by omega)] at hi'
      rw [v2 _ (by omega) (by omega), v2 _ (by omega) (by omega)]
      exact a4 i hi'
