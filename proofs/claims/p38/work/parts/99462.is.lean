/-! IS: both sides count the same -/
def sm_f (f : Nat → Nat) : Nat → Nat → Nat
  | _, 0 => 0
  | i, k + 1 => f i + sm_f f (i + 1) k
theorem ls_sum {ρ : Type} {d : ρ} {B : Int32 × Int32 → (Int32 × Int32) ⊕ ρ} {f : Nat → Nat} {n : Nat} {E : Int32 → ρ} (h1 : ∀ (s : Int32) (i : Nat), i < n → B (s, Int32.ofNat i) = .inl (s + Int32.ofNat (f i), Int32.ofNat (i + 1))) (h2 : ∀ s, B (s, Int32.ofNat n) = .inr (E s)) : ∀ (k i : Nat) (s : Int32), i + k = n → lp_f d B (s, Int32.ofNat i) = E (s + Int32.ofNat (sm_f f i k)) := by
  intro k
  induction k with
  | zero =>
    intro i s e
    obtain rfl : i = n := by omega
    rw [lp_r (h2 s)]
    show E s = E (s + 0)
    rw [Int32.add_zero]
  | succ k ih =>
    intro i s e
    rw [lp_l (h1 s i (by omega)), ih (i + 1) _ (by omega), Int32.add_assoc, mb_add (f i) _ rfl]
    rfl
/-- points of a town, those that are no polar ones -/
def is_c (g : aa_G) (t : Nat) : Nat := (g 541 (50 * t + 4)).toInt.toNat
noncomputable def is_p (g : aa_G) (t i : Nat) : Nat := if g 541 (50 * t + 4 * i + 8) = -1 then 0 else 1
theorem is_cc {g : aa_G} (hi : aa_inv g) {t : Nat} (ht : t < 4) : is_c g t ≤ 12 ∧ g 541 (50 * t + 4) = Int32.ofNat (is_c g t) := by
  obtain ⟨c, hc, hc1⟩ := tq_count hi ht
  have e : is_c g t = c := by
    unfold is_c
    rw [hc1, i_12 hc]
    omega
  rw [e]
  exact ⟨hc, hc1⟩
theorem is_73 {g : aa_G} (hi : aa_inv g) (q : q1_s g g 2 0) {t : Nat} (ht : t < 4) (ht2 : (t : Int) < (g 541 0).toInt) : fn_73 g (5 * t + 14) = Int32.ofNat (sm_f (is_p g t) 0 (is_c g t)) := by
  obtain ⟨q1, q2, q3, -⟩ := q.2.2.2 t ht2
  obtain ⟨hc, hc1⟩ := is_cc hi ht
  have E1 : 5 * t + (2 + 12) = 5 * t + 14 := by omega
  have E2 : 399 * 0 + 50 * t + 3 = 50 * t + 3 := by omega
  rw [E1, E2] at q2 q3
  have hc2 : g (5 * t + 14) 1 = Int32.ofNat (is_c g t) := q2.trans hc1
  have hc3 : (g 541 (50 * t + 3 + 1)).toInt = is_c g t := by
    show (g 541 (50 * t + 4)).toInt = _
    rw [hc1, i_12 hc]
  unfold fn_73 fn_73_4
  have k := ls_sum (d := (0 : Int32)) (B := fun z : (Int32 × Int32) => fn_73_4b g (5 * t + 14) z.1 z.2) (f := is_p g t) (n := is_c g t) (E := id) (fun s i h => ?_) (fun s => ?_) (is_c g t) 0 0 (by omega)
  · exact k.trans (Int32.zero_add _)
  · show fn_73_4b g (5 * t + 14) s (Int32.ofNat i) = _
    unfold fn_73_4b fn_73_25
    rw [hc2, if_neg (c := Int32.ofNat (is_c g t) ≤ Int32.ofNat i) (fun z => by have := (i_le (by omega) (by omega)).mp z; omega), zz_toN (by omega), mb_add i 1 (v := 1) rfl, q3 i (by rw [hc3]; omega) 4 (by omega) (by omega), show 50 * t + 3 + 1 + 4 * i + 4 = 50 * t + 4 * i + 8 by omega]
    unfold is_p
    by_cases z : g 541 (50 * t + 4 * i + 8) = -1
    · rw [if_pos z, if_pos z]
      show Sum.inl (s, _) = Sum.inl (s + 0, _)
      rw [Int32.add_zero]
    · rw [if_neg z, if_neg z]
      rfl
  · show fn_73_4b g (5 * t + 14) s (Int32.ofNat (is_c g t)) = _
    unfold fn_73_4b
    rw [hc2, if_pos (c := Int32.ofNat (is_c g t) ≤ Int32.ofNat (is_c g t)) ((i_le (by omega) (by omega)).mpr (Nat.le_refl _))]
    rfl
theorem is_n {g : aa_G} (hi : aa_inv g) : ∃ n, n ≤ 4 ∧ g 541 0 = Int32.ofNat n ∧ (g 541 0).toInt = n := by
  have n4 : 0 ≤ (g 541 0).toInt ∧ (g 541 0).toInt ≤ 4 := iv_n hi (r := 0)
  exact ⟨(g 541 0).toInt.toNat, by omega, aa_eqN (by omega) (by omega), by omega⟩
theorem is_72 {g : aa_G} (hi : aa_inv g) (q : q1_s g g 2 0) {n : Nat} (hn : n ≤ 4) (h1 : g 541 0 = Int32.ofNat n) (h2 : (g 541 0).toInt = n) : fn_72 g 0 = Int32.ofNat (sm_f (is_c g) 0 n) ∧ fn_72 g 1 = Int32.ofNat (sm_f (fun t => sm_f (is_p g t) 0 (is_c g t)) 0 n) := by
  have e20 : g 2 0 = Int32.ofNat n := q.1.trans h1
  unfold fn_72 fn_72_4
  constructor
  · have k := ls_sum (d := (0 : Int32)) (B := fun z : (Int32 × Int32) => fn_72_4b g 0 z.1 z.2) (f := is_c g) (n := n) (E := id) (fun s i h => ?_) (fun s => ?_) n 0 0 (by omega)
    · exact k.trans (Int32.zero_add _)
    · show fn_72_4b g 0 s (Int32.ofNat i) = _
      obtain ⟨-, q2, -, -⟩ := q.2.2.2 i (by show (i : Int) < (g 541 0).toInt; omega)
      have q2 : g (5 * i + 14) 1 = g 541 (399 * 0 + 50 * i + 3 + 1) := q2
      unfold fn_72_4b fn_72_38
      rw [e20, if_neg (c := Int32.ofNat n ≤ Int32.ofNat i) (fun z => by have := (i_le (by omega) (by omega)).mp z; omega), if_pos (c := (0 : Int32) = 0) rfl, zz_toN (by omega), mb_add i 1 (v := 1) rfl, q2, show 399 * 0 + 50 * i + 3 + 1 = 50 * i + 4 by omega, ← (is_cc hi (t := i) (by omega)).2]
    · show fn_72_4b g 0 s (Int32.ofNat n) = _
      unfold fn_72_4b
      rw [e20, if_pos (c := Int32.ofNat n ≤ Int32.ofNat n) ((i_le (by omega) (by omega)).mpr (Nat.le_refl _))]
      rfl
  · have k := ls_sum (d := (0 : Int32)) (B := fun z : (Int32 × Int32) => fn_72_4b g 1 z.1 z.2) (f := fun t => sm_f (is_p g t) 0 (is_c g t)) (n := n) (E := id) (fun s i h => ?_) (fun s => ?_) n 0 0 (by omega)
    · exact k.trans (Int32.zero_add _)
    · show fn_72_4b g 1 s (Int32.ofNat i) = _
      unfold fn_72_4b fn_72_38
      rw [e20, if_neg (c := Int32.ofNat n ≤ Int32.ofNat i) (fun z => by have := (i_le (by omega) (by omega)).mp z; omega), if_neg (c := (1 : Int32) = 0) (by decide), zz_toN (by omega), mb_add i 1 (v := 1) rfl, is_73 hi q (t := i) (by omega) (by omega)]
    · show fn_72_4b g 1 s (Int32.ofNat n) = _
      unfold fn_72_4b
      rw [e20, if_pos (c := Int32.ofNat n ≤ Int32.ofNat n) ((i_le (by omega) (by omega)).mpr (Nat.le_refl _))]
      rfl
theorem is_163 {g : aa_G} (hi : aa_inv g) {n : Nat} (hn : n ≤ 4) (h1 : g 541 0 = Int32.ofNat n) : fn_163 g = Int32.ofNat (sm_f (is_c g) 0 n) := by
  have z0 : (0 : Int32).toNatClampNeg = 0 := rfl
  unfold fn_163 fn_163_4
  have k := ls_sum (d := (0 : Int32)) (B := fun z : (Int32 × Int32) => fn_163_4b g z.1 z.2) (f := is_c g) (n := n) (E := id) (fun s i h => ?_) (fun s => ?_) n 0 0 (by omega)
  · exact k.trans (Int32.zero_add _)
  · show fn_163_4b g s (Int32.ofNat i) = _
    unfold fn_163_4b
    rw [z0, h1, if_neg (c := Int32.ofNat n ≤ Int32.ofNat i) (fun z => by have := (i_le (by omega) (by omega)).mp z; omega), ml_ta i, mb_add _ 1 (v := 1) rfl, mb_add i 1 (v := 1) rfl, zz_toN (by omega), show 50 * i + 3 + 1 = 50 * i + 4 by omega, ← (is_cc hi (t := i) (by omega)).2]
  · show fn_163_4b g s (Int32.ofNat n) = _
    unfold fn_163_4b
    rw [z0, h1, if_pos (c := Int32.ofNat n ≤ Int32.ofNat n) ((i_le (by omega) (by omega)).mpr (Nat.le_refl _))]
    rfl
theorem is_252 {g : aa_G} (hi : aa_inv g) {n : Nat} (hn : n ≤ 4) (h1 : g 541 0 = Int32.ofNat n) (a : Int32) : fn_252 g a = if a.toInt = 0 then g 541 a.toNatClampNeg else if a.toInt = 1 then g 541 a.toNatClampNeg else if a.toInt = 2 then g 541 a.toNatClampNeg else if a.toInt = 3 then g 540 1 else if a.toInt = 4 then g 540 4 else if a.toInt = 5 then fn_163 g else if a.toInt = 6 then Int32.ofNat (sm_f (fun t => sm_f (is_p g t) 0 (is_c g t)) 0 n) else -1 := by
  have z0 : (0 : Int32).toNatClampNeg = 0 := rfl
  unfold fn_252 fn_252_4
  have k := ls_sum (d := (0 : Int32)) (B := fun z : (Int32 × Int32) => fn_252_4b g a z.1 z.2) (f := fun t => sm_f (is_p g t) 0 (is_c g t)) (n := n) (E := fun s => if a.toInt = 0 then g 541 a.toNatClampNeg else if a.toInt = 1 then g 541 a.toNatClampNeg else if a.toInt = 2 then g 541 a.toNatClampNeg else if a.toInt = 3 then g 540 1 else if a.toInt = 4 then g 540 4 else if a.toInt = 5 then fn_163 g else if a.toInt = 6 then s else -1) (fun s i h => ?_) (fun s => ?_) n 0 0 (by omega)
  · refine k.trans ?_
    rw [Int32.zero_add]
  · show fn_252_4b g a s (Int32.ofNat i) = _
    obtain ⟨hc, hc1⟩ := is_cc hi (t := i) (by omega)
    unfold fn_252_4b
    rw [z0, h1, if_neg (c := Int32.ofNat n ≤ Int32.ofNat i) (fun z => by have := (i_le (by omega) (by omega)).mp z; omega)]
    unfold fn_252_17
    have k := ls_sum (d := (.inr 0 : (Int32 × Int32) ⊕ Int32)) (B := fun z : (Int32 × Int32) => fn_252_17b g a z.1 (Int32.ofNat i) z.2) (f := is_p g i) (n := is_c g i) (E := fun s => .inl (s, Int32.ofNat (i + 1))) (fun s j h => ?_) (fun s => ?_) (is_c g i) 0 s (by omega)
    · exact k
    · show fn_252_17b g a s (Int32.ofNat i) (Int32.ofNat j) = _
      unfold fn_252_17b fn_252_56
      rw [ml_ta i, mb_add _ 1 (v := 1) rfl, zz_toN (by omega), show 50 * i + 3 + 1 = 50 * i + 4 by omega, hc1, if_neg (c := Int32.ofNat (is_c g i) ≤ Int32.ofNat j) (fun z => by have := (i_le (by omega) (by omega)).mp z; omega), ml_pa, mb_add _ 3 (v := 3) rfl, zz_toN (by omega), show 50 * i + 4 * j + 5 + 3 = 50 * i + 4 * j + 8 by omega, mb_add j 1 (v := 1) rfl]
      unfold is_p
      by_cases z : g 541 (50 * i + 4 * j + 8) = -1
      · rw [if_pos z, if_pos z]
        rfl
      · rw [if_neg z, if_neg z]
        rfl
    · show fn_252_17b g a s (Int32.ofNat i) (Int32.ofNat (is_c g i)) = _
      unfold fn_252_17b
      rw [ml_ta i, mb_add _ 1 (v := 1) rfl, zz_toN (by omega), show 50 * i + 3 + 1 = 50 * i + 4 by omega, hc1, if_pos (c := Int32.ofNat (is_c g i) ≤ Int32.ofNat (is_c g i)) ((i_le (by omega) (by omega)).mpr (Nat.le_refl _)), mb_add i 1 (v := 1) rfl]
  · show fn_252_4b g a s (Int32.ofNat n) = _
    unfold fn_252_4b
    rw [z0, h1, if_pos (c := Int32.ofNat n ≤ Int32.ofNat n) ((i_le (by omega) (by omega)).mpr (Nat.le_refl _))]
    repeat' split
    all_goals rfl
theorem ak_71 {g : aa_G} (hi : aa_inv g) (hR : lr_R g) (a : Int32) : fn_71 g a = fn_252 g a := by
  obtain ⟨n, hn, h1, h2⟩ := is_n hi
  have hR0 := hR.1
  obtain ⟨⟨q, -⟩, -, ⟨c, e, ⟨hc, he⟩, ⟨r0, r1, r2⟩, -⟩, s1, -⟩ := hR0
  obtain ⟨k1, k2⟩ := is_72 hi q hn h1 h2
  rw [is_252 hi hn h1 a, is_163 hi hn h1]
  unfold fn_71
  rw [k1, k2]
  have q1 : g 2 0 = g 541 0 := q.1
  have q2 : g 2 1 = g 541 1 := q.2.1
  have q3 : g 4 0 = g 541 2 := q.2.2.1
  have n0 : a.toNatClampNeg = a.toInt.toNat := ti_n
  by_cases z0 : a.toInt = 0
  · rw [if_pos z0, if_pos z0, n0, z0]; exact q1
  · rw [if_neg z0, if_neg z0]
    by_cases z1 : a.toInt = 1
    · rw [if_pos z1, if_pos z1, n0, z1]; exact q2
    · rw [if_neg z1, if_neg z1]
      by_cases z2 : a.toInt = 2
      · rw [if_pos z2, if_pos z2, n0, z2]; exact q3
      · rw [if_neg z2, if_neg z2, r0.trans r1.symm, s1]
theorem lq_71 {g : aa_G} {a0 : Int32} (hi : aa_inv g) (hφ : aa_Phi g) (hR : lr_R g) : lq_ok true 71 252 [.int a0] g :=
  lq_as hi hφ hR (ko_fi (ko_71 hi hφ) fun _ _ _ r => dn_71 r) (ko_fi (ko_252 hi hφ) fun _ _ _ r => dn_252 r) (ak_71 hi hR a0)
