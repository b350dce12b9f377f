/-! write(), octet() on both sides -/
/-- so far the same has been written, N bytes at most; all else is as it was -/
def wr_t (gc0 gm0 gc gm : aa_G) (N : Nat) : Prop := ∃ n, n ≤ N ∧ gc 459 0 = Int32.ofNat n ∧ gm 540 37 = Int32.ofNat n ∧ (∀ j, j < n → gc 460 j = gm 553 j) ∧ (∀ k j, ¬ (k = 459 ∧ j = 0) → k ≠ 460 → gc k j = gc0 k j) ∧ ∀ k j, ¬ (k = 540 ∧ j = 37) → k ≠ 553 → gm k j = gm0 k j
theorem wr_byte {b : Int32} (h : 0 ≤ b.toInt ∧ b.toInt ≤ 127) : vp_nar .byte b.toInt8.toInt32 = b := by
  obtain ⟨n, n1, rfl, n3⟩ := ti_nat h.1
  have k : ∀ n, n < 128 → vp_nar .byte (Int32.ofNat n).toInt8.toInt32 = Int32.ofNat n := by decide +kernel
  exact k n (by omega)
theorem wr_put {gc0 gm0 gc gm : aa_G} {N : Nat} {b : Int32} (hN : N < 256) (hb : 0 ≤ b.toInt ∧ b.toInt ≤ 127) (h : wr_t gc0 gm0 gc gm N) : wr_t gc0 gm0 (fn_147 gc b) (fn_266 gm b) (N + 1) := by
  obtain ⟨n, h1, h2, h3, h4, h5, h6⟩ := h
  unfold fn_147 fn_147_22 fn_266 fn_266_13
  rw [wr_byte hb, h2, h3, if_neg (fun z => by
    have := aa_le32.mp z
    rw [zz_ofN (by omega), show (256 : Int32).toInt = 256 from rfl] at this
    omega), zz_toN (by omega), aa_w_ne _ _ (by omega), aa_w_ne _ _ (by omega), h2, h3, aa_succ]
  refine ⟨n + 1, by omega, aa_w_at _ _ _ _, aa_w_at _ _ _ _, fun j hj => ?_, fun k j z1 z2 => ?_, fun k j z1 z2 => ?_⟩
  · have l1 : ∀ x, zz_w (zz_w gc 460 n b) 459 0 x 460 j = zz_w gc 460 n b 460 j := fun x => aa_w_ne _ _ (by omega)
    have l2 : ∀ x, zz_w (zz_w gm 553 n b) 540 37 x 553 j = zz_w gm 553 n b 553 j := fun x => aa_w_ne _ _ (by omega)
    rw [l1, l2]
    by_cases e : j = n
    · rw [e, aa_w_at, aa_w_at]
    · rw [aa_w_ne _ _ (by omega), aa_w_ne _ _ (by omega)]
      exact h4 j (by omega)
  · rw [aa_w_ne _ _ (by omega), aa_w_ne _ _ (by omega)]
    exact h5 k j z1 z2
  · rw [aa_w_ne _ _ (by omega), aa_w_ne _ _ (by omega)]
    exact h6 k j z1 z2
theorem wr_up {gc0 gm0 gc gm : aa_G} {N M : Nat} (h : wr_t gc0 gm0 gc gm N) (hM : N ≤ M) : wr_t gc0 gm0 gc gm M := by
  obtain ⟨n, h1, h2⟩ := h
  exact ⟨n, by omega, h2⟩
theorem wr_dig {s u : Nat} (hs : s ≤ 99999) (hu : 0 < u ∧ u ≤ 10000) : 48 + (Int32.ofNat s / Int32.ofNat u - Int32.ofNat s / Int32.ofNat u / 10 * 10) = Int32.ofNat (48 + s / u % 10) ∧ s / u % 10 ≤ 9 := by
  have es : (Int32.ofNat s).toInt = s := zz_ofN (by omega)
  have eu : (Int32.ofNat u).toInt = u := zz_ofN (by omega)
  have e1 : (Int32.ofNat s / Int32.ofNat u).toInt = ((s / u : Nat) : Int) := by
    rw [ti_div (by omega) (by omega), es, eu]
    rfl
  have hq : s / u ≤ s := Nat.div_le_self s u
  generalize Int32.ofNat s / Int32.ofNat u = z at e1 ⊢
  generalize s / u = q at e1 hq ⊢
  have e2 : z = Int32.ofNat q := ti_eq.mpr (by rw [e1, zz_ofN (by omega)])
  have e3 : (Int32.ofNat q - Int32.ofNat q / 10 * 10) = Int32.ofNat (q % 10) := ti_eq.mpr (by
    rw [ti_rem (by rw [zz_ofN (by omega)]; omega) (by decide), zz_ofN (by omega), zz_ofN (by omega)]
    rfl)
  refine ⟨?_, by omega⟩
  rw [e2, e3]
  exact i_add 48 _
theorem wr_ten {u : Nat} (hu : u ≤ 10000) : Int32.ofNat u / 10 = Int32.ofNat (u / 10) := ti_eq.mpr (by
  rw [ti_div (by rw [zz_ofN (by omega)]; omega) (by decide), zz_ofN (by omega), zz_ofN (by omega)]
  rfl)
theorem wr_cs {g : aa_G} {s u : Nat} (hs : s ≤ 99999) (hu : 0 < u ∧ u ≤ 10000) (h : u ≤ s ∨ u = 1) : fn_148_19 g (Int32.ofNat s) (Int32.ofNat u) = fn_148_19 (fn_147 g (Int32.ofNat (48 + s / u % 10))) (Int32.ofNat s) (Int32.ofNat (u / 10)) := by
  unfold fn_148_19
  refine lp_l ?_
  show fn_148_19b g (Int32.ofNat s) (Int32.ofNat u) = _
  unfold fn_148_19b
  rw [if_neg (fun z => by
    have := aa_le32.mp z
    rw [zz_ofN (by omega), show (0 : Int32).toInt = 0 from rfl] at this
    omega)]
  have e33 : fn_148_33 g (Int32.ofNat s) (Int32.ofNat u) = .inl (fn_147 g (Int32.ofNat (48 + s / u % 10)), Int32.ofNat (u / 10)) := by
    unfold fn_148_33 fn_148_46
    rw [(wr_dig hs hu).1, wr_ten hu.2]
  by_cases c1 : Int32.ofNat u ≤ Int32.ofNat s
  · rw [if_pos c1]
    exact e33
  · have c2 := mt (i_le (a := u) (b := s) (by omega) (by omega)).mpr c1
    have c3 : u = 1 := by omega
    rw [if_neg c1, if_neg (fun z => z (by rw [c3]; rfl))]
    exact e33
theorem wr_ck {g : aa_G} {s u : Nat} (hs : s ≤ 99999) (hu : 1 < u ∧ u ≤ 10000) (h : s < u) : fn_148_19 g (Int32.ofNat s) (Int32.ofNat u) = fn_148_19 g (Int32.ofNat s) (Int32.ofNat (u / 10)) := by
  unfold fn_148_19
  refine lp_l ?_
  show fn_148_19b g (Int32.ofNat s) (Int32.ofNat u) = _
  unfold fn_148_19b fn_148_46
  rw [if_neg (fun z => by
    have := aa_le32.mp z
    rw [zz_ofN (by omega), show (0 : Int32).toInt = 0 from rfl] at this
    omega), if_neg (fun z => by
    have := (i_le (by omega) (by omega)).mp z
    omega), if_pos (c := Int32.ofNat u ≠ 1) (fun z => by
    have := congrArg Int32.toInt z
    rw [zz_ofN (by omega), show (1 : Int32).toInt = 1 from rfl] at this
    omega), wr_ten hu.2]
theorem wr_ce {g : aa_G} {s : Int32} : fn_148_19 g s 0 = g := by
  unfold fn_148_19
  refine lp_r ?_
  show fn_148_19b g s 0 = _
  unfold fn_148_19b
  rw [if_pos (by decide)]
theorem wr_ms {g : aa_G} {s u : Nat} (hs : s ≤ 99999) (hu : 0 < u ∧ u ≤ 10000) : fn_267_33 g (Int32.ofNat s) (Int32.ofNat u) = fn_267_33 (fn_266 g (Int32.ofNat (48 + s / u % 10))) (Int32.ofNat s) (Int32.ofNat (u / 10)) := by
  unfold fn_267_33
  refine lp_l ?_
  show fn_267_33b g (Int32.ofNat s) (Int32.ofNat u) = _
  unfold fn_267_33b fn_267_50
  rw [if_neg (fun z => by
    have := aa_le32.mp z
    rw [zz_ofN (by omega), show (0 : Int32).toInt = 0 from rfl] at this
    omega), (wr_dig hs hu).1, wr_ten hu.2]
theorem wr_me {g : aa_G} {s : Int32} : fn_267_33 g s 0 = g := by
  unfold fn_267_33
  refine lp_r ?_
  show fn_267_33b g s 0 = _
  unfold fn_267_33b
  rw [if_pos (by decide)]
theorem wr_mf {g : aa_G} {s u : Nat} (hs : s ≤ 99999) (hu : 0 < u ∧ u ≤ 10000) (h : s / u ≤ 9) : fn_267_17 g (Int32.ofNat s) (Int32.ofNat u) = fn_267_33 g (Int32.ofNat s) (Int32.ofNat u) := by
  unfold fn_267_17
  refine lp_r ?_
  show fn_267_17b g (Int32.ofNat s) (Int32.ofNat u) = _
  unfold fn_267_17b
  rw [if_pos]
  refine aa_le32.mpr ?_
  rw [ti_div (by rw [zz_ofN (by omega)]; omega) (by rw [zz_ofN (by omega)]; omega), zz_ofN (by omega), zz_ofN (by omega), show (9 : Int32).toInt = 9 from rfl]
  have : ((s : Int) / (u : Int)) = ((s / u : Nat) : Int) := rfl
  omega
theorem wr_mn {g : aa_G} {s u : Nat} (hs : s ≤ 99999) (hu : 0 < u ∧ u ≤ 10000) (h : 9 < s / u) : fn_267_17 g (Int32.ofNat s) (Int32.ofNat u) = fn_267_17 g (Int32.ofNat s) (Int32.ofNat (u * 10)) := by
  unfold fn_267_17
  refine lp_l ?_
  show fn_267_17b g (Int32.ofNat s) (Int32.ofNat u) = _
  unfold fn_267_17b
  rw [if_neg, show Int32.ofNat u * 10 = Int32.ofNat (u * 10) from (Int32.ofNat_mul u 10).symm]
  intro z
  have := aa_le32.mp z
  rw [ti_div (by rw [zz_ofN (by omega)]; omega) (by rw [zz_ofN (by omega)]; omega), zz_ofN (by omega), zz_ofN (by omega), show (9 : Int32).toInt = 9 from rfl] at this
  have e : ((s : Int) / (u : Int)) = ((s / u : Nat) : Int) := rfl
  omega
section WN
variable {gc0 gm0 gc gm : aa_G} {N s : Nat}
theorem wr_b9 {s u : Nat} : 0 ≤ (Int32.ofNat (48 + s / u % 10)).toInt ∧ (Int32.ofNat (48 + s / u % 10)).toInt ≤ 127 := by
  have : s / u % 10 ≤ 9 := by omega
  rw [zz_ofN (by omega)]
  omega
theorem wr_u1 (hs : s ≤ 99999) (hN : N + 1 ≤ 256) (h : wr_t gc0 gm0 gc gm N) : wr_t gc0 gm0 (fn_148_19 gc (Int32.ofNat s) (Int32.ofNat 1)) (fn_267_33 gm (Int32.ofNat s) (Int32.ofNat 1)) (N + 1) := by
  rw [wr_cs hs (by omega) (.inr rfl), wr_ms hs (by omega), show (Int32.ofNat (1 / 10) : Int32) = 0 from rfl, wr_ce, wr_me]
  exact wr_put (by omega) wr_b9 h
theorem wr_u2 (hs : s ≤ 99999) (hN : N + 2 ≤ 256) (hu : 10 ≤ s) (h : wr_t gc0 gm0 gc gm N) : wr_t gc0 gm0 (fn_148_19 gc (Int32.ofNat s) (Int32.ofNat 10)) (fn_267_33 gm (Int32.ofNat s) (Int32.ofNat 10)) (N + 2) := by
  rw [wr_cs hs (by omega) (.inl hu), wr_ms hs (by omega), show (10 / 10 : Nat) = 1 from rfl]
  exact wr_u1 hs (by omega) (wr_put (by omega) wr_b9 h)
theorem wr_u3 (hs : s ≤ 99999) (hN : N + 3 ≤ 256) (hu : 100 ≤ s) (h : wr_t gc0 gm0 gc gm N) : wr_t gc0 gm0 (fn_148_19 gc (Int32.ofNat s) (Int32.ofNat 100)) (fn_267_33 gm (Int32.ofNat s) (Int32.ofNat 100)) (N + 3) := by
  rw [wr_cs hs (by omega) (.inl hu), wr_ms hs (by omega), show (100 / 10 : Nat) = 10 from rfl]
  exact wr_u2 hs (by omega) (by omega) (wr_put (by omega) wr_b9 h)
theorem wr_u4 (hs : s ≤ 99999) (hN : N + 4 ≤ 256) (hu : 1000 ≤ s) (h : wr_t gc0 gm0 gc gm N) : wr_t gc0 gm0 (fn_148_19 gc (Int32.ofNat s) (Int32.ofNat 1000)) (fn_267_33 gm (Int32.ofNat s) (Int32.ofNat 1000)) (N + 4) := by
  rw [wr_cs hs (by omega) (.inl hu), wr_ms hs (by omega), show (1000 / 10 : Nat) = 100 from rfl]
  exact wr_u3 hs (by omega) (by omega) (wr_put (by omega) wr_b9 h)
theorem wr_u5 (hs : s ≤ 99999) (hN : N + 5 ≤ 256) (hu : 10000 ≤ s) (h : wr_t gc0 gm0 gc gm N) : wr_t gc0 gm0 (fn_148_19 gc (Int32.ofNat s) (Int32.ofNat 10000)) (fn_267_33 gm (Int32.ofNat s) (Int32.ofNat 10000)) (N + 5) := by
  rw [wr_cs hs (by omega) (.inl hu), wr_ms hs (by omega), show (10000 / 10 : Nat) = 1000 from rfl]
  exact wr_u4 hs (by omega) (by omega) (wr_put (by omega) wr_b9 h)
/-- a number that is not below 0 -/
theorem wr_size (hs : s ≤ 99999) (hN : N + 5 ≤ 256) (h : wr_t gc0 gm0 gc gm N) : wr_t gc0 gm0 (fn_148_19 gc (Int32.ofNat s) (Int32.ofNat 10000)) (fn_267_17 gm (Int32.ofNat s) (Int32.ofNat 1)) (N + 5) := by
  by_cases c1 : s < 10
  · rw [wr_ck hs (by omega) (by omega), show (10000 / 10 : Nat) = 1000 from rfl, wr_ck hs (by omega) (by omega), show (1000 / 10 : Nat) = 100 from rfl, wr_ck hs (by omega) (by omega), show (100 / 10 : Nat) = 10 from rfl, wr_ck hs (by omega) (by omega), show (10 / 10 : Nat) = 1 from rfl, wr_mf hs (by omega) (by omega)]
    exact wr_up (wr_u1 hs (by omega) h) (by omega)
  · rw [wr_mn hs (by omega) (by omega), show 1 * 10 = 10 from rfl]
    by_cases c2 : s < 100
    · rw [wr_ck hs (by omega) (by omega), show (10000 / 10 : Nat) = 1000 from rfl, wr_ck hs (by omega) (by omega), show (1000 / 10 : Nat) = 100 from rfl, wr_ck hs (by omega) (by omega), show (100 / 10 : Nat) = 10 from rfl, wr_mf hs (by omega) (by omega)]
      exact wr_up (wr_u2 hs (by omega) (by omega) h) (by omega)
    · rw [wr_mn hs (by omega) (by omega), show 10 * 10 = 100 from rfl]
      by_cases c3 : s < 1000
      · rw [wr_ck hs (by omega) (by omega), show (10000 / 10 : Nat) = 1000 from rfl, wr_ck hs (by omega) (by omega), show (1000 / 10 : Nat) = 100 from rfl, wr_mf hs (by omega) (by omega)]
        exact wr_up (wr_u3 hs (by omega) (by omega) h) (by omega)
      · rw [wr_mn hs (by omega) (by omega), show 100 * 10 = 1000 from rfl]
        by_cases c4 : s < 10000
        · rw [wr_ck hs (by omega) (by omega), show (10000 / 10 : Nat) = 1000 from rfl, wr_mf hs (by omega) (by omega)]
          exact wr_up (wr_u4 hs (by omega) (by omega) h) (by omega)
        · rw [wr_mn hs (by omega) (by omega), show 1000 * 10 = 10000 from rfl, wr_mf hs (by omega) (by omega)]
          exact wr_u5 hs (by omega) (by omega) h
end WN
/-- a number, with its sign -/
theorem wr_num {gc0 gm0 gc gm : aa_G} {N M : Nat} {v : Int32} (hv : -99999 ≤ v.toInt ∧ v.toInt ≤ 99999) (hM : N + (if 0 ≤ v.toInt then 5 else 6) ≤ M) (hN : M ≤ 256) (h : wr_t gc0 gm0 gc gm N) : wr_t gc0 gm0 (fn_148 gc v) (fn_267 gm v) M := by
  unfold fn_148 fn_267 fn_148_10 fn_267_15 fn_227
  by_cases h0 : 0 ≤ v
  · have h1 := aa_le32.mp h0
    rw [show (0 : Int32).toInt = 0 from rfl] at h1
    rw [if_pos h1] at hM
    obtain ⟨s, s1, rfl, s3⟩ := ti_nat h1
    rw [if_pos h0, if_pos h0, if_pos h0, if_pos h0]
    exact wr_up (wr_size (by omega) (by omega) h) hM
  · have h1 := mt aa_le32.mpr h0
    rw [show (0 : Int32).toInt = 0 from rfl] at h1
    rw [if_neg h1] at hM
    have en : (-v).toInt = -v.toInt := ti_neg (by omega)
    obtain ⟨s, s1, s2, s3⟩ := ti_nat (show 0 ≤ (-v).toInt by omega)
    have ez : 0 - v = -v := ti_eq.mpr (by
      rw [aa_sub32 (by rw [show (0 : Int32).toInt = 0 from rfl]; omega) (by rw [show (0 : Int32).toInt = 0 from rfl]; omega), en, show (0 : Int32).toInt = 0 from rfl]
      omega)
    rw [if_neg h0, if_neg h0, if_neg h0, if_neg h0, ez, s2]
    exact wr_up (wr_size (by omega) (by omega) (wr_put (by omega) (by decide) h)) (by omega)
section WP
variable {gc0 gm0 gc gm : aa_G} {N t i : Nat}
/-- a point's values, on both sides -/
def wp_v (gc0 gm0 : aa_G) (t i : Nat) : Prop := (∀ o, 1 ≤ o → o ≤ 4 → gc0 (5 * t + 14 + o) i = gm0 541 (50 * t + 4 * i + 4 + o)) ∧ (0 ≤ (gm0 541 (50 * t + 4 * i + 5)).toInt ∧ (gm0 541 (50 * t + 4 * i + 5)).toInt ≤ 359) ∧ (-1 ≤ (gm0 541 (50 * t + 4 * i + 8)).toInt ∧ (gm0 541 (50 * t + 4 * i + 8)).toInt ≤ 1) ∧ (gm0 541 (50 * t + 4 * i + 8) = -1 → (0 ≤ (gm0 541 (50 * t + 4 * i + 6)).toInt ∧ (gm0 541 (50 * t + 4 * i + 6)).toInt ≤ 86399) ∧ (0 ≤ (gm0 541 (50 * t + 4 * i + 7)).toInt ∧ (gm0 541 (50 * t + 4 * i + 7)).toInt ≤ 86399))
theorem wr_c {n : Nat} (h : wr_t gc0 gm0 gc gm N) {a b j : Nat} (hk : gc0 a b = gm0 541 j) (h1 : a ≤ 33) : gc a b = gm0 541 j := by
  obtain ⟨n, -, -, -, -, h5, -⟩ := h
  exact (h5 a b (by omega) (by omega)).trans hk
theorem wr_m (h : wr_t gc0 gm0 gc gm N) (j : Nat) : gm 541 j = gm0 541 j := by
  obtain ⟨n, -, -, -, -, -, h6⟩ := h
  exact h6 541 j (by omega) (by omega)
theorem wp_step (ht : t < 4) (hi : i < 12) (hN : N + 19 ≤ 256) (hp : wp_v gc0 gm0 t i) (h : wr_t gc0 gm0 gc gm N) : ∃ gc', (if gc (5 * t + 14 + 4) i = (-1) then fn_146_56 gc (5 * t + 14) (Int32.ofNat i) 0 else fn_146_56 gc (5 * t + 14) (Int32.ofNat i) 1) = .inl (gc', Int32.ofNat (i + 1)) ∧ wr_t gc0 gm0 gc' (fn_268 gm (Int32.ofNat (50 * t + 4 * i + 5))) (N + 19) := by
  obtain ⟨v, vy, vp, vd⟩ := hp
  have cv : ∀ (gc gm : aa_G) (N : Nat), wr_t gc0 gm0 gc gm N → ∀ o, 1 ≤ o → o ≤ 4 → gc (5 * t + 14 + o) i = gm0 541 (50 * t + 4 * i + 4 + o) := fun gc gm N h o o1 o2 => wr_c (n := 0) h (v o o1 o2) (by omega)
  have mv : ∀ (gc gm : aa_G) (N : Nat), wr_t gc0 gm0 gc gm N → ∀ j, gm 541 j = gm0 541 j := fun gc gm N h j => wr_m h j
  have p4 := cv gc gm N h 4 (by omega) (by omega)
  rw [show 50 * t + 4 * i + 4 + 4 = 50 * t + 4 * i + 8 by omega] at p4
  unfold fn_268
  rw [show Int32.ofNat (50 * t + 4 * i + 5) + 3 = Int32.ofNat (50 * t + 4 * i + 8) from i_add _ 3, zz_toN (by omega), mv gc gm N h, p4]
  by_cases hpol : gm0 541 (50 * t + 4 * i + 8) = -1
  · obtain ⟨d1, d2⟩ := vd hpol
    rw [if_pos hpol, if_pos hpol]
    unfold fn_146_56 fn_268_17
    rw [if_pos (c := (0 : Int32) = 0) rfl, if_pos (c := (0 : Int32) = 0) rfl]
    unfold fn_146_69 fn_268_30
    have a1 := wr_put (b := 112) (by omega) (by decide) h
    unfold fn_146_72 fn_268_33
    rw [zz_toN (by omega), zz_toN (by omega), cv _ _ _ a1 1 (by omega) (by omega), show 50 * t + 4 * i + 4 + 1 = 50 * t + 4 * i + 5 by omega, mv _ _ _ a1]
    have a2 := wr_num (v := gm0 541 (50 * t + 4 * i + 5)) (M := N + 6) (by omega) (by rw [if_pos (by omega)]; omega) (by omega) a1
    unfold fn_146_82 fn_268_43
    have a3 := wr_put (b := 44) (by omega) (by decide) a2
    unfold fn_146_88 fn_268_49
    rw [if_pos (c := (0 : Int32) = 0) rfl, if_pos (c := (0 : Int32) = 0) rfl, zz_toN (by omega), cv _ _ _ a3 2 (by omega) (by omega), show 50 * t + 4 * i + 4 + 2 = 50 * t + 4 * i + 6 by omega, show Int32.ofNat (50 * t + 4 * i + 5) + 1 = Int32.ofNat (50 * t + 4 * i + 6) from i_add _ 1, zz_toN (by omega), mv _ _ _ a3]
    unfold fn_146_108 fn_268_73
    have a4 := wr_num (v := gm0 541 (50 * t + 4 * i + 6)) (M := N + 12) (by omega) (by rw [if_pos (by omega)]; omega) (by omega) a3
    unfold fn_146_111 fn_268_76
    rw [if_neg (c := (0 : Int32) ≠ 0) (fun z => z rfl), if_neg (c := (0 : Int32) ≠ 0) (fun z => z rfl)]
    have a5 := wr_put (b := 44) (by omega) (by decide) a4
    unfold fn_146_121 fn_268_86
    rw [zz_toN (by omega), cv _ _ _ a5 3 (by omega) (by omega), show 50 * t + 4 * i + 4 + 3 = 50 * t + 4 * i + 7 by omega, show Int32.ofNat (50 * t + 4 * i + 5) + 2 = Int32.ofNat (50 * t + 4 * i + 7) from i_add _ 2, zz_toN (by omega), mv _ _ _ a5]
    have a6 := wr_num (v := gm0 541 (50 * t + 4 * i + 7)) (M := N + 18) (by omega) (by rw [if_pos (by omega)]; omega) (by omega) a5
    unfold fn_146_131 fn_146_137 fn_268_98
    rw [aa_succ]
    exact ⟨_, rfl, wr_put (b := 59) (by omega) (by decide) a6⟩
  · rw [if_neg hpol, if_neg hpol]
    have hp1 := ti_ne.mp hpol
    rw [ti_m1] at hp1
    unfold fn_146_56 fn_268_17
    rw [if_neg (c := (1 : Int32) = 0) (by decide), if_neg (c := (1 : Int32) = 0) (by decide)]
    unfold fn_146_69 fn_268_30
    have a1 := wr_put (b := 120) (by omega) (by decide) h
    unfold fn_146_72 fn_268_33
    rw [zz_toN (by omega), zz_toN (by omega), cv _ _ _ a1 1 (by omega) (by omega), show 50 * t + 4 * i + 4 + 1 = 50 * t + 4 * i + 5 by omega, mv _ _ _ a1]
    have a2 := wr_num (v := gm0 541 (50 * t + 4 * i + 5)) (M := N + 6) (by omega) (by rw [if_pos (by omega)]; omega) (by omega) a1
    unfold fn_146_82 fn_268_43
    have a3 := wr_put (b := 44) (by omega) (by decide) a2
    unfold fn_146_88 fn_268_49
    rw [if_neg (c := (1 : Int32) = 0) (by decide), if_neg (c := (1 : Int32) = 0) (by decide), zz_toN (by omega), cv _ _ _ a3 4 (by omega) (by omega), show 50 * t + 4 * i + 4 + 4 = 50 * t + 4 * i + 8 by omega, show Int32.ofNat (50 * t + 4 * i + 5) + 3 = Int32.ofNat (50 * t + 4 * i + 8) from i_add _ 3, zz_toN (by omega), mv _ _ _ a3]
    unfold fn_146_108 fn_268_73
    have a4 := wr_num (v := gm0 541 (50 * t + 4 * i + 8)) (M := N + 12) (by omega) (by rw [if_pos (by omega)]; omega) (by omega) a3
    unfold fn_146_111 fn_268_76
    rw [if_pos (c := (1 : Int32) ≠ 0) (by decide), if_pos (c := (1 : Int32) ≠ 0) (by decide)]
    unfold fn_146_131 fn_146_137 fn_268_98
    rw [aa_succ]
    exact ⟨_, rfl, wr_up (wr_put (b := 59) (by omega) (by decide) a4) (by omega)⟩
theorem wp_loop {c : Nat} (ht : t < 4) (hc : c ≤ 12) (hp : ∀ i, i < c → wp_v gc0 gm0 t i) (h1 : gc0 (5 * t + 14) 1 = Int32.ofNat c) (h2 : gm0 541 (50 * t + 4) = Int32.ofNat c) : ∀ (m i : Nat) (gc gm : aa_G), i + m = c → wr_t gc0 gm0 gc gm (8 + 19 * i) → ∃ gm', fn_265_38 gm (Int32.ofNat t) (Int32.ofNat i) = (gm' 540 37, gm') ∧ wr_t gc0 gm0 (fn_146_27 gc (5 * t + 14) (Int32.ofNat i)) gm' (8 + 19 * c)
  | 0, i, gc, gm, hi, h => by
    have hic : i = c := by omega
    subst hic
    have e1 : gc (5 * t + 14) 1 = Int32.ofNat i := (wr_c (n := 0) h (h1.trans h2.symm) (by omega)).trans h2
    have e2 : gm 541 (50 * t + 4) = Int32.ofNat i := (wr_m h _).trans h2
    refine ⟨gm, ?_, ?_⟩
    · unfold fn_265_38
      refine lp_r ?_
      show fn_265_38b gm (Int32.ofNat t) (Int32.ofNat i) = _
      unfold fn_265_38b
      rw [ml_ta, show Int32.ofNat (50 * t + 3) + 1 = Int32.ofNat (50 * t + 4) from i_add _ 1, zz_toN (by omega), e2, if_pos (aa_le32.mpr (Int.le_refl _))]
    · have e : fn_146_27 gc (5 * t + 14) (Int32.ofNat i) = gc := by
        unfold fn_146_27
        refine lp_r ?_
        show fn_146_27b gc (5 * t + 14) (Int32.ofNat i) = _
        unfold fn_146_27b
        rw [e1, if_pos (aa_le32.mpr (Int.le_refl _))]
      rw [e]
      exact h
  | m + 1, i, gc, gm, hi, h => by
    have e1 : gc (5 * t + 14) 1 = Int32.ofNat c := (wr_c (n := 0) h (h1.trans h2.symm) (by omega)).trans h2
    have e2 : gm 541 (50 * t + 4) = Int32.ofNat c := (wr_m h _).trans h2
    obtain ⟨gc', s1, s2⟩ := wp_step ht (show i < 12 by omega) (by omega) (hp i (by omega)) h
    have m1 : fn_265_38 gm (Int32.ofNat t) (Int32.ofNat i) = fn_265_38 (fn_268 gm (Int32.ofNat (50 * t + 4 * i + 5))) (Int32.ofNat t) (Int32.ofNat (i + 1)) := by
      unfold fn_265_38
      refine lp_l ?_
      show fn_265_38b gm (Int32.ofNat t) (Int32.ofNat i) = _
      unfold fn_265_38b fn_265_62
      rw [ml_ta, show Int32.ofNat (50 * t + 3) + 1 = Int32.ofNat (50 * t + 4) from i_add _ 1, zz_toN (by omega), e2, if_neg (fun z => by
        have := (i_le (by omega) (by omega)).mp z
        omega), ml_pa, aa_succ]
    have c1 : fn_146_27 gc (5 * t + 14) (Int32.ofNat i) = fn_146_27 gc' (5 * t + 14) (Int32.ofNat (i + 1)) := by
      unfold fn_146_27
      refine lp_l ?_
      show fn_146_27b gc (5 * t + 14) (Int32.ofNat i) = _
      unfold fn_146_27b
      rw [e1, if_neg (fun z => by
        have := (i_le (by omega) (by omega)).mp z
        omega), if_neg (fun z => by
        have := aa_le32.mp z
        rw [zz_ofN (by omega), show (12 : Int32).toInt = 12 from rfl] at this
        omega), zz_toN (by omega)]
      exact s1
    rw [m1, c1]
    exact wp_loop ht hc hp h1 h2 m (i + 1) gc' _ (by omega) (wr_up s2 (by omega))
end WP
theorem mu_write {B : rq_Q} (hcp : rq_cp B) {gc gm : aa_G} (hi : aa_inv gm) (hφ : aa_Phi gm) (h : rr_g (qb_s B) gc gm) (a : Int32) : mu_ok B (fn_145 gc a) (fn_265 gm a) := by
  have h' := h
  obtain ⟨h0, h2, hd, s1, s2, s3, s4, s5, s6, s7⟩ := h
  have h := h'
  unfold fn_145 fn_265
  rcases ct_two hi h0 a with ⟨t, t4, rfl, tn, e1, e2, k⟩ | ⟨tn, e1, e2⟩
  · rw [e1, e2, if_pos (by decide)]
    dsimp only
    obtain ⟨c, hc, h1⟩ := tq_count hi t4
    obtain ⟨k1, k2, k3, -⟩ := k
    have hcz : (gm 541 (50 * t + 3 + 1)).toInt = c := by
      show (gm 541 (50 * t + 4)).toInt = c
      rw [h1, i_12 hc]
    have hp : ∀ i, i < c → wp_v gc gm t i := fun i hi' => by
      have g1 := iv_t hi (r := 0) (t := t) (o := 2 + 4 * i) t4 (by omega)
      have g2 := iv_t hi (r := 0) (t := t) (o := 4 * i + 1 + 2) t4 (by omega)
      have g3 := iv_t hi (r := 0) (t := t) (o := 4 * i + 2 + 2) t4 (by omega)
      have g4 := iv_t hi (r := 0) (t := t) (o := 4 * i + 3 + 2) t4 (by omega)
      have e : aa_town (2 + 4 * i) = (0, 359) := by
        unfold aa_town
        rw [if_neg (fun z => by have := Nat.eq_of_beq_eq_true z; omega), if_neg (fun z => by have := Nat.eq_of_beq_eq_true z; omega), show (2 + 4 * i - 2) % 4 = 0 by omega]
        rfl
      rw [e, show 399 * 0 + 50 * t + 3 + (2 + 4 * i) = 50 * t + 4 * i + 5 by omega] at g1
      rw [aa_town1, show 399 * 0 + 50 * t + 3 + (4 * i + 1 + 2) = 50 * t + 4 * i + 6 by omega] at g2
      rw [aa_town2, show 399 * 0 + 50 * t + 3 + (4 * i + 2 + 2) = 50 * t + 4 * i + 7 by omega] at g3
      rw [aa_town3, show 399 * 0 + 50 * t + 3 + (4 * i + 3 + 2) = 50 * t + 4 * i + 8 by omega] at g4
      have gd := (hφ.1 0 (by omega)).1 t i t4 (by omega) (by rw [show 399 * 0 + 50 * t + 4 = 50 * t + 3 + 1 by omega, hcz]; omega)
      unfold aa_gd at gd
      rw [show 399 * 0 + 50 * t + 4 * i + 5 + 3 = 50 * t + 4 * i + 8 by omega, show 399 * 0 + 50 * t + 4 * i + 5 + 1 = 50 * t + 4 * i + 6 by omega, show 399 * 0 + 50 * t + 4 * i + 5 + 2 = 50 * t + 4 * i + 7 by omega] at gd
      refine ⟨fun o o1 o2 => ?_, g1, g4, fun z => ?_⟩
      · have := k3 i (by rw [hcz]; omega) o o1 o2
        rwa [show 50 * t + 3 + 1 + 4 * i + o = 50 * t + 4 * i + 4 + o by omega] at this
      · have gd := gd (by rw [z]; rfl)
        have g2 : (-1 : Int) ≤ (gm 541 (50 * t + 4 * i + 6)).toInt ∧ (gm 541 (50 * t + 4 * i + 6)).toInt ≤ 86399 := g2
        have g3 : (-1 : Int) ≤ (gm 541 (50 * t + 4 * i + 7)).toInt ∧ (gm 541 (50 * t + 4 * i + 7)).toInt ≤ 86399 := g3
        omega
    have co := iv_t hi (r := 0) (t := t) (o := 0) t4 (by omega)
    rw [show 399 * 0 + 50 * t + 3 + 0 = 50 * t + 3 by omega] at co
    have co : (-43200 : Int) ≤ (gm 541 (50 * t + 3)).toInt ∧ (gm 541 (50 * t + 3)).toInt ≤ 43200 := co
    have a0 : wr_t gc gm (zz_w gc 459 0 0) (zz_w gm 540 37 0) 0 := ⟨0, Nat.le_refl 0, aa_w_at _ _ _ _, aa_w_at _ _ _ _, fun j hj => absurd hj (Nat.not_lt_zero j), fun k j z1 z2 => aa_w_ne _ _ z1, fun k j z1 z2 => aa_w_ne _ _ z1⟩
    have a1 := wr_put (b := 116) (by omega) (by decide) a0
    unfold fn_146 fn_146_11 fn_265_21 fn_209
    rw [ml_ta, zz_toN (by omega), wr_c (n := 0) a1 k1 (by omega), wr_m a1]
    have a2 := wr_num (v := gm 541 (50 * t + 3)) (M := 7) (by omega) (by split <;> omega) (by omega) a1
    unfold fn_146_19 fn_265_30
    have a3 := wr_put (b := 59) (by omega) (by decide) a2
    unfold fn_146_25 fn_265_36
    obtain ⟨gm', f1, f2⟩ := wp_loop (c := c) t4 hc hp (k2.trans h1) h1 c 0 _ _ (by omega) (wr_up a3 (by omega))
    rw [show (Int32.ofNat 0 : Int32) = 0 from rfl] at f1 f2
    rw [f1]
    unfold fn_145_27
    generalize fn_146_27 (fn_147 (fn_148 (fn_147 (zz_w gc 459 0 0) 116) (gm 541 (50 * t + 3))) 59) (5 * t + 14) 0 = gc' at f2 ⊢
    obtain ⟨n, n1, n2, n3, n4, n5, n6⟩ := f2
    obtain ⟨c', e', hd1, hd2, hd3⟩ := hd
    refine mu_mk (n2.trans n3.symm) ⟨rq_same (qb_cp hcp) hi (by omega) (fun k j _ _ => n5 k j (by omega) (by omega)) (fun q hq => n6 541 _ (by omega) (by omega)) h0, fun k hk => ⟨?_, fun z => ?_⟩, ⟨c', e', hd1, ⟨?_, ?_, ?_⟩, fun i hi' => rq_same (qb_cp hcp) hi (by omega) (fun k j _ _ => n5 k j (by omega) (by omega)) (fun q hq => n6 541 _ (by omega) (by omega)) (hd3 i hi')⟩, ?_, fun k hk => ?_, ?_, ?_, ?_, n2.trans n3.symm, fun j hj => ?_⟩
    · rw [n5 453 k (by omega) (by omega), n6 542 k (by omega) (by omega)]; exact (h2 k hk).1
    · rw [n6 542 k (by omega) (by omega)] at z
      exact rq_same (qb_cp hcp) hi (by omega) (fun k' j _ _ => n5 k' j (by omega) (by omega)) (fun q hq => n6 541 _ (by omega) (by omega)) ((h2 k hk).2 z)
    · rw [n5 66 0 (by omega) (by omega)]; exact hd2.1
    · rw [n6 540 1 (by omega) (by omega)]; exact hd2.2.1
    · rw [n5 66 1 (by omega) (by omega)]; exact hd2.2.2
    · rw [n5 454 0 (by omega) (by omega), n6 540 4 (by omega) (by omega)]; exact s1
    · rw [n6 543 k (by omega) (by omega), n5 455 k (by omega) (by omega)]; exact s2 k hk
    · rw [n5 1 13 (by omega) (by omega), n6 540 6 (by omega) (by omega)]; exact s3
    · rw [n5 1 14 (by omega) (by omega), n6 540 35 (by omega) (by omega)]; exact s4
    · rw [n6 540 16 (by omega) (by omega)]; exact s5
    · rw [n3, zz_ofN (by omega)] at hj
      exact n4 j (by omega)
  · rw [e1, e2, if_neg (by decide)]
    exact mu_mk rfl h
theorem oc_all {Q : rq_Q} {gc gm : aa_G} (h : rr_g Q gc gm) (hb : 0 ≤ (gm 540 37).toInt) (a : Int32) : fn_149 gc a = fn_269 gm a := by
  obtain ⟨-, -, -, -, -, -, -, -, s6, s7⟩ := h
  unfold fn_149 fn_269
  rw [s6]
  have hlt := (gm 540 37).toInt_lt
  have es : (gm 540 37 - 1).toInt = (gm 540 37).toInt - 1 := aa_sub32 (by rw [show (1 : Int32).toInt = 1 from rfl]; omega) (by rw [show (1 : Int32).toInt = 1 from rfl]; omega)
  by_cases hz : (0 : Int32).toInt ≤ a.toInt ∧ a.toInt ≤ (gm 540 37 - 1).toInt
  · rw [if_neg (ti_14n.mpr hz), if_neg (ti_154n.mpr hz)]
    obtain ⟨j, j1, rfl, j3⟩ := ti_nat (show 0 ≤ a.toInt from hz.1)
    rw [zz_toN j1]
    exact s7 j (by rw [es] at hz; omega)
  · rw [if_pos (ti_14z.mpr hz), if_pos (ti_154z.mpr hz)]
