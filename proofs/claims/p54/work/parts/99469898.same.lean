/-! SAME: rings of one town at which another town rings too: both sides say the same -/
/-- whether x is one of k values from place i -/
def hz (f : Nat → Int32) (x : Int32) : Nat → Nat → Int32
  | _, 0 => 0
  | i, k + 1 => if f i ≠ x then hz f x (i + 1) k else 1
theorem hz_eq {f h : Nat → Int32} {x : Int32} : ∀ (k i : Nat), (∀ j, i ≤ j → j < i + k → f j = h j) → hz f x i k = hz h x i k
  | 0, _, _ => rfl
  | k + 1, i, e => by
    show (if f i ≠ x then hz f x (i + 1) k else 1) = (if h i ≠ x then hz h x (i + 1) k else 1)
    rw [e i (Nat.le_refl _) (by omega), hz_eq k (i + 1) fun j h1 h2 => e j (by omega) (by omega)]
theorem hz_no {f : Nat → Int32} {x : Int32} : ∀ (k i : Nat), (∀ j, i ≤ j → j < i + k → f j ≠ x) → hz f x i k = 0
  | 0, _, _ => rfl
  | k + 1, i, e => by
    show (if f i ≠ x then hz f x (i + 1) k else 1) = 0
    rw [if_pos (e i (Nat.le_refl _) (by omega)), hz_no k (i + 1) fun j h1 h2 => e j (by omega) (by omega)]
theorem hz_139 {X : aa_G} {Q N : Nat} {x : Int32} (hN : N ≤ 16) (h0 : X Q 0 = Int32.ofNat N) : ∀ (k i : Nat), i + k = N → fn_139_2 X Q x (Int32.ofNat i) = hz (X (Q + 1)) x i k := by
  intro k
  induction k with
  | zero =>
    intro i e
    obtain rfl : i = N := by omega
    unfold fn_139_2
    refine lp_r ?_
    skip
    unfold fn_139_2b
    rw [h0, if_pos (aa_le32.mpr (Int.le_refl _))]
    rfl
  | succ k ih =>
    intro i e
    have hn : ¬ Int32.ofNat N ≤ Int32.ofNat i := fun z => by
      have := aa_le32.mp z
      rw [zz_ofN (by omega), zz_ofN (by omega)] at this
      omega
    by_cases z : X (Q + 1) i = x
    · have e1 : hz (X (Q + 1)) x i (k + 1) = 1 := if_neg (fun h => h z)
      rw [e1]
      unfold fn_139_2
      refine lp_r ?_
      skip
      unfold fn_139_2b
      rw [h0, if_neg hn, zz_toN (by omega), if_neg (fun h => h z)]
    · have e1 : hz (X (Q + 1)) x i (k + 1) = hz (X (Q + 1)) x (i + 1) k := if_pos z
      rw [e1, ← ih (i + 1) (by omega)]
      unfold fn_139_2
      refine lp_l ?_
      skip
      unfold fn_139_2b
      rw [h0, if_neg hn, zz_toN (by omega), if_pos z, aa_succ]
theorem hz_249 {Y : aa_G} {N : Nat} {x : Int32} (hN : N ≤ 16) (h0 : Y 540 26 = Int32.ofNat N) : ∀ (k i : Nat), i + k = N → fn_249_18 Y x (Int32.ofNat i) = (hz (Y 546) x i k, Y) := by
  intro k
  induction k with
  | zero =>
    intro i e
    obtain rfl : i = N := by omega
    unfold fn_249_18
    refine lp_r ?_
    skip
    unfold fn_249_18b
    rw [h0, if_pos (aa_le32.mpr (Int.le_refl _))]
    rfl
  | succ k ih =>
    intro i e
    have hn : ¬ Int32.ofNat N ≤ Int32.ofNat i := fun z => by
      have := aa_le32.mp z
      rw [zz_ofN (by omega), zz_ofN (by omega)] at this
      omega
    by_cases z : Y 546 i = x
    · have e1 : hz (Y 546) x i (k + 1) = 1 := if_neg (fun h => h z)
      rw [e1]
      unfold fn_249_18
      refine lp_r ?_
      skip
      unfold fn_249_18b
      rw [h0, if_neg hn, zz_toN (by omega), if_neg (fun h => h z)]
    · have e1 : hz (Y 546) x i (k + 1) = hz (Y 546) x (i + 1) k := if_pos z
      rw [e1, ← ih (i + 1) (by omega)]
      unfold fn_249_18
      refine lp_l ?_
      skip
      unfold fn_249_18b
      rw [h0, if_neg hn, zz_toN (by omega), if_pos z, aa_succ]
/-- whether a town rings at this second of a DAY (out of g) -/
noncomputable def sh (g : aa_G) (t : Nat) (d x : Int32) : Int32 := fn_139 (fn_103 g 469 (Int32.ofNat t) d) 469 x
theorem sh_o {X : aa_G} {Q : Nat} {a d : Int32} (h : ¬ (0 ≤ d.toInt ∧ d.toInt ≤ 35999)) : fn_103 X Q a d = zz_w X Q 0 0 := by
  unfold fn_103
  exact if_neg (mt ti_77n.mp h)
theorem sh_out {X : aa_G} {a d x : Int32} (h : ¬ (0 ≤ d.toInt ∧ d.toInt ≤ 35999)) : fn_139 (fn_103 X 469 a d) 469 x = 0 := by
  rw [sh_o h]
  exact hz_139 (N := 0) (by omega) (aa_w_at _ _ _ _) 0 0 rfl
theorem sh_two {g X Y : aa_G} {t : Nat} {d x : Int32} (W : wd_g g) (WX : wd_g X) (eX : X 541 = g 541) (WY : wd_g Y) (eY : Y 541 = g 541) (B : br_B g g 2 0) (hb : g 4 0 = g 541 2) (BX : br_B X X 2 0) (hX : X 4 0 = X 541 2) (ht : (t : Int) < (g 541 0).toInt) (hd : 0 ≤ d.toInt ∧ d.toInt ≤ 35999) : fn_139 (fn_103 X 469 (Int32.ofNat t) d) 469 x = sh g t d x ∧ fn_249_15 (fn_212 Y (Int32.ofNat t) d) x = (sh g t d x, fn_212 Y (Int32.ofNat t) d) ∧ (¬ (0 ≤ x.toInt ∧ x.toInt ≤ 86399) → sh g t d x = 0) := by
  obtain ⟨N, M, r, -, -⟩ := rp_of (Q := 469) (.inr rfl) W WY eY B hb ht hd
  obtain ⟨N', M', r', -, -⟩ := rp_of (g := X) (g2 := Y) (Q := 469) (.inr rfl) WX WY (eY.trans eX.symm) BX hX (by rw [eX]; exact ht) hd
  have n1 := r.1
  have n2 := r'.1
  obtain ⟨p1, p2, p3⟩ := r.2.2.1
  obtain ⟨q1, q2, q3⟩ := r'.2.2.1
  have eN : N' = N := by
    have h := congrArg Int32.toInt (q2.symm.trans p2)
    rw [zz_ofN (by omega), zz_ofN (by omega)] at h
    omega
  have s1 : sh g t d x = hz (fn_103 g 469 (Int32.ofNat t) d 470) x 0 N := hz_139 (by omega) p1 N 0 (by omega)
  have s2 : fn_139 (fn_103 X 469 (Int32.ofNat t) d) 469 x = hz (fn_103 X 469 (Int32.ofNat t) d 470) x 0 N' := hz_139 (by omega) q1 N' 0 (by omega)
  have s3 : fn_249_15 (fn_212 Y (Int32.ofNat t) d) x = (hz (fn_212 Y (Int32.ofNat t) d 546) x 0 N, fn_212 Y (Int32.ofNat t) d) := hz_249 (by omega) p2 N 0 (by omega)
  have c1 : hz (fn_103 g 469 (Int32.ofNat t) d 470) x 0 N = hz (fn_212 Y (Int32.ofNat t) d 546) x 0 N := hz_eq N 0 fun j _ h => (p3 j (by omega)).1
  have c2 : hz (fn_103 X 469 (Int32.ofNat t) d 470) x 0 N' = hz (fn_212 Y (Int32.ofNat t) d 546) x 0 N' := hz_eq N' 0 fun j _ h => (q3 j (by omega)).1
  refine ⟨?_, ?_, fun hx => ?_⟩
  · rw [s1, s2, c1, c2, eN]
  · rw [s1, s3, c1]
  · rw [s1, c1]
    refine hz_no N 0 fun j _ h e => hx ?_
    rw [← e]
    exact (p3 j (by omega)).2.2.1
/-- what a shift's heap must keep -/
def sh_J (g X : aa_G) (N : Nat) (S : Nat → Int32) : Prop := wd_g X ∧ X 541 = g 541 ∧ br_B X X 2 0 ∧ X 4 0 = X 541 2 ∧ X 463 0 = Int32.ofNat N ∧ ∀ i, i < N → X 464 i = S i
theorem sh_fr {g X X' : aa_G} {N : Nat} {S : Nat → Int32} (J : sh_J g X N S) (f : ∀ a j, ¬ (469 ≤ a ∧ a ≤ 474) → X' a j = X a j) : sh_J g X' N S := by
  obtain ⟨W, e, B, b, n, s⟩ := J
  have e' : X' 541 = X 541 := funext fun j => f 541 j (by omega)
  refine ⟨wd_of W fun k j z => f k j (by omega), e'.trans e, br_go (gc := X) (gm := X) (S := 2) (r := 0) (f 4 0 (by omega)) (fun o j o1 o2 _ => f (4 + o) j (by omega)) (fun q _ _ => by rw [e']) B, ?_, (f 463 0 (by omega)).trans n, fun i hi => (f 464 i (by omega)).trans (s i hi)⟩
  rw [f 4 0 (by omega), e', b]
theorem sh_st {g X : aa_G} {N t : Nat} {S : Nat → Int32} {d : Int32} (J : sh_J g X N S) (ht : (t : Int) < (g 541 0).toInt) : sh_J g (fn_103 X 469 (Int32.ofNat t) d) N S := by
  refine sh_fr J fun a j h => ?_
  by_cases hd : 0 ≤ d.toInt ∧ d.toInt ≤ 35999
  · obtain ⟨N', M', -, f, -⟩ := rp_of (g := X) (g2 := X) (Q := 469) (.inr rfl) J.1 J.1 rfl J.2.2.1 J.2.2.2.1 (by rw [J.2.1]; exact ht) hd
    exact f a j (by omega)
  · rw [sh_o hd]
    exact aa_w_ne _ _ (by omega)
def sm (v : Int32) : Int32 := if v = 0 then 0 else 1
/-- the class: one shift -/
theorem sh_79 {X : aa_G} {b1 b2 kk ah : Int32} {B3 B4 N : Nat} {S : Nat → Int32} {v : Int32 → Int32} (hN : N ≤ 16) (h0 : X 463 0 = Int32.ofNat N) (hS : ∀ i, i < N → X 464 i = S i) (ha : fn_94 X B3 B4 = ah) (hv : ∀ x, fn_139 X 469 x = v x) : ∀ (k i : Nat) (a : Int32), i + k = N → fn_138_79 X b1 b2 B3 B4 a kk (Int32.ofNat i) = .inl (X, su (fun j => sm (v ((S j + ah) - kk * 86400))) i k a, kk + 1) := by
  intro k
  induction k with
  | zero =>
    intro i a e
    obtain rfl : i = N := by omega
    unfold fn_138_79
    refine lp_r ?_
    dsimp only
    unfold fn_138_79b
    rw [h0, if_pos (aa_le32.mpr (Int.le_refl _))]
    rfl
  | succ k ih =>
    intro i a e
    have hn : ¬ Int32.ofNat N ≤ Int32.ofNat i := fun z => by
      have := aa_le32.mp z
      rw [zz_ofN (by omega), zz_ofN (by omega)] at this
      omega
    have e1 : su (fun j => sm (v ((S j + ah) - kk * 86400))) i (k + 1) a = su (fun j => sm (v ((S j + ah) - kk * 86400))) (i + 1) k (a + sm (v ((S i + ah) - kk * 86400))) := rfl
    rw [e1, ← ih (i + 1) _ (by omega)]
    unfold fn_138_79
    refine lp_l ?_
    dsimp only
    unfold fn_138_79b
    rw [h0, if_neg hn, zz_toN (by omega), hS i (by omega), ha, hv]
    unfold fn_138_127 sm
    rw [aa_succ]
    by_cases z : v ((S i + ah) - kk * 86400) = 0
    · rw [if_pos z, if_pos z, Int32.add_zero]
    · rw [if_neg z, if_neg z]
theorem sh_52 {g X : aa_G} {b1 d kk ah a : Int32} {t1 t2 N : Nat} {S : Nat → Int32} (hN : N ≤ 16) (W : wd_g g) (B : br_B g g 2 0) (hb : g 4 0 = g 541 2) (J : sh_J g X N S) (h1 : (t1 : Int) < (g 541 0).toInt) (h2 : (t2 : Int) < (g 541 0).toInt) (eb : b1 - b1 / 4 * 4 = Int32.ofNat t2) (ha : ah = g 541 (50 * t2 + 3) - g 541 (50 * t1 + 3)) (hk : ¬ 1 < kk) : fn_138_52b X b1 d (5 * t1 + 14) (5 * t2 + 14) a kk = .inl (fn_103 X 469 (Int32.ofNat t2) (d + kk), su (fun j => sm (sh g t2 (d + kk) ((S j + ah) - kk * 86400))) 0 N a, kk + 1) := by
  unfold fn_138_52b
  rw [if_neg hk, eb]
  unfold fn_138_76
  have J' := sh_st (d := d + kk) J h2
  refine sh_79 (ah := ah) (v := sh g t2 (d + kk)) hN J'.2.2.2.2.1 J'.2.2.2.2.2 ?_ (fun x => ?_) N 0 a (by omega)
  · rw [of_94 J'.1 (by rw [J'.2.1]; exact h1) (by rw [J'.2.1]; exact h2), J'.2.1, ha]
  · by_cases hd : 0 ≤ (d + kk).toInt ∧ (d + kk).toInt ≤ 35999
    · exact (sh_two W J.1 J.2.1 W rfl B hb J.2.2.1 J.2.2.2.1 h2 hd).1
    · unfold sh
      rw [sh_out hd, sh_out hd]
theorem sh_4 {dd : Int32 × aa_G} {f : (aa_G × Int32 × Int32) → ((aa_G × Int32 × Int32) ⊕ (Int32 × aa_G))} {s s1 s2 s3 : aa_G × Int32 × Int32} {r : Int32 × aa_G} (h1 : f s = .inl s1) (h2 : f s1 = .inl s2) (h3 : f s2 = .inl s3) (h4 : f s3 = .inr r) : lp_f dd f s = r := by
  rw [lp_l h1, lp_l h2, lp_l h3, lp_r h4]
theorem sha_c {g X : aa_G} {b1 d ah : Int32} {t1 t2 N : Nat} {S : Nat → Int32} (hN : N ≤ 16) (W : wd_g g) (B : br_B g g 2 0) (hb : g 4 0 = g 541 2) (J : sh_J g X N S) (h1 : (t1 : Int) < (g 541 0).toInt) (h2 : (t2 : Int) < (g 541 0).toInt) (eb : b1 - b1 / 4 * 4 = Int32.ofNat t2) (ha : ah = g 541 (50 * t2 + 3) - g 541 (50 * t1 + 3)) : (fn_138_46 X b1 d (5 * t1 + 14) (5 * t2 + 14)).1 = su (fun j => sm (sh g t2 (d + 1) ((S j + ah) - 1 * 86400))) 0 N (su (fun j => sm (sh g t2 (d + 0) ((S j + ah) - 0 * 86400))) 0 N (su (fun j => sm (sh g t2 (d + -1) ((S j + ah) - -1 * 86400))) 0 N 0)) := by
  have J1 := sh_st (d := d + -1) J h2
  have J2 := sh_st (d := d + 0) J1 h2
  have s1 := sh_52 (kk := -1) (d := d) (a := 0) hN W B hb J h1 h2 eb ha (by decide)
  have s2 := sh_52 (kk := 0) (d := d) (a := su (fun j => sm (sh g t2 (d + -1) ((S j + ah) - -1 * 86400))) 0 N 0) hN W B hb J1 h1 h2 eb ha (by decide)
  have s3 := sh_52 (kk := 1) (d := d) (a := su (fun j => sm (sh g t2 (d + 0) ((S j + ah) - 0 * 86400))) 0 N (su (fun j => sm (sh g t2 (d + -1) ((S j + ah) - -1 * 86400))) 0 N 0)) hN W B hb J2 h1 h2 eb ha (by decide)
  rw [show (-1 + 1 : Int32) = 0 by decide] at s1
  rw [show (0 + 1 : Int32) = 1 by decide] at s2
  rw [show (1 + 1 : Int32) = 2 by decide] at s3
  have s4 : ∀ (Z : aa_G) (A : Int32), fn_138_52b Z b1 d (5 * t1 + 14) (5 * t2 + 14) A 2 = .inr (A, Z) := fun Z A => by
    unfold fn_138_52b
    exact if_pos (by decide)
  have T : ∀ (A1 A2 A3 : Int32) (X1 X2 X3 : aa_G), fn_138_52b X b1 d (5 * t1 + 14) (5 * t2 + 14) 0 (-1) = .inl (X1, A1, 0) → fn_138_52b X1 b1 d (5 * t1 + 14) (5 * t2 + 14) A1 0 = .inl (X2, A2, 1) → fn_138_52b X2 b1 d (5 * t1 + 14) (5 * t2 + 14) A2 1 = .inl (X3, A3, 2) → (fn_138_46 X b1 d (5 * t1 + 14) (5 * t2 + 14)).1 = A3 := fun A1 A2 A3 X1 X2 X3 h1 h2 h3 => by
    have z := sh_4 (dd := (0, X)) (f := fun z : (aa_G × Int32 × Int32) => fn_138_52b z.1 b1 d (5 * t1 + 14) (5 * t2 + 14) z.2.1 z.2.2) (s := (X, 0, -1)) (s1 := (X1, A1, 0)) (s2 := (X2, A2, 1)) (s3 := (X3, A3, 2)) h1 h2 h3 (s4 X3 A3)
    unfold fn_138_46 fn_138_52
    rw [z]
  exact T _ _ _ _ _ _ s1 s2 s3
/-- three sums are one -/
theorem i_4 (a b x y : Int32) : a + b + (x + y) = (a + x) + (b + y) := by
  rw [Int32.add_assoc, ← Int32.add_assoc b, Int32.add_comm b, Int32.add_assoc x, ← Int32.add_assoc a]
theorem su_pl (f h : Nat → Int32) : ∀ (k i : Nat) (a b : Int32), su (fun j => f j + h j) i k (a + b) = su f i k a + su h i k b
  | 0, _, _, _ => rfl
  | k + 1, i, a, b => by
    show su (fun j => f j + h j) (i + 1) k (a + b + (f i + h i)) = su f (i + 1) k (a + f i) + su h (i + 1) k (b + h i)
    rw [i_4, su_pl f h k (i + 1)]
theorem su_3 (f h m : Nat → Int32) (k i : Nat) : su m i k (su h i k (su f i k 0)) = su (fun j => f j + h j + m j) i k 0 := by
  have e1 : su (fun j => f j + h j) i k 0 = su f i k 0 + su h i k 0 := by
    have z := su_pl f h k i 0 0
    rw [Int32.add_zero] at z
    exact z
  have e2 : su (fun j => f j + h j + m j) i k 0 = su (fun j => f j + h j) i k 0 + su m i k 0 := by
    have z := su_pl (fun j => f j + h j) m k i 0 0
    rw [Int32.add_zero] at z
    exact z
  rw [e2, e1, su_0 m k i (su h i k (su f i k 0)), su_0 h k i (su f i k 0)]
/-- the model's ring in the other town's time -/
noncomputable def sd (g : aa_G) (t1 t2 : Nat) (d s : Int32) : Int32 :=
  if 0 ≤ d.toInt + (s.toInt + ((g 541 (50 * t2 + 3)).toInt - (g 541 (50 * t1 + 3)).toInt)) / 86400 ∧ d.toInt + (s.toInt + ((g 541 (50 * t2 + 3)).toInt - (g 541 (50 * t1 + 3)).toInt)) / 86400 ≤ 35999 then sh g t2 (Int32.ofInt (d.toInt + (s.toInt + ((g 541 (50 * t2 + 3)).toInt - (g 541 (50 * t1 + 3)).toInt)) / 86400)) (Int32.ofInt ((s.toInt + ((g 541 (50 * t2 + 3)).toInt - (g 541 (50 * t1 + 3)).toInt)) % 86400)) else 0
theorem sm_0 : sm 0 = 0 := rfl
theorem i_xk {s ah k : Int32} {A q : Int} (hA : s.toInt + ah.toInt = A) (h0 : -1000000 ≤ A ∧ A ≤ 1000000) (hk : k.toInt = q) (hq : -100000 ≤ q ∧ q ≤ 100000) : ((s + ah) - k).toInt = A - q := by
  have a2 : (s + ah).toInt = A := by rw [aa_add32 (by omega) (by omega), hA]
  rw [aa_sub32 (by rw [a2, hk]; omega) (by rw [a2, hk]; omega), a2, hk]
theorem i_dk {d k : Int32} {q : Int} (hd : 0 ≤ d.toInt ∧ d.toInt ≤ 35999) (hk : k.toInt = q) (hq : -1 ≤ q ∧ q ≤ 1) : (d + k).toInt = d.toInt + q := by
  rw [aa_add32 (by rw [hk]; omega) (by rw [hk]; omega), hk]
theorem sd_no {g : aa_G} {t2 : Nat} (W : wd_g g) (B : br_B g g 2 0) (hb : g 4 0 = g 541 2) (h2 : (t2 : Int) < (g 541 0).toInt) (c x : Int32) (hx : ¬ (0 ≤ x.toInt ∧ x.toInt ≤ 86399)) : sm (sh g t2 c x) = 0 := by
  by_cases hc : 0 ≤ c.toInt ∧ c.toInt ≤ 35999
  · rw [(sh_two W W rfl W rfl B hb B hb h2 hc).2.2 hx]
    rfl
  · unfold sh
    rw [sh_out hc]
    rfl
theorem sd_ye {g : aa_G} {t1 t2 : Nat} {d s c x : Int32} {A : Int} (hA : A = s.toInt + ((g 541 (50 * t2 + 3)).toInt - (g 541 (50 * t1 + 3)).toInt)) (hc : c.toInt = d.toInt + A / 86400) (hx : x.toInt = A % 86400) : sm (sh g t2 c x) = sm (sd g t1 t2 d s) := by
  unfold sd
  rw [← hA, ← hc, ← hx, Int32.ofInt_toInt, Int32.ofInt_toInt]
  by_cases hc : 0 ≤ c.toInt ∧ c.toInt ≤ 35999
  · rw [if_pos hc]
  · rw [if_neg hc]
    unfold sh
    rw [sh_out hc]
theorem sd_3 {g : aa_G} {t1 t2 : Nat} {d s c1 c2 c3 x1 x2 x3 : Int32} {A D : Int} (W : wd_g g) (B : br_B g g 2 0) (hb : g 4 0 = g 541 2) (h2 : (t2 : Int) < (g 541 0).toInt) (hA : A = s.toInt + ((g 541 (50 * t2 + 3)).toInt - (g 541 (50 * t1 + 3)).toInt)) (hA2 : -86400 ≤ A ∧ A ≤ 172799) (hD : d.toInt = D) (hc1 : c1.toInt = D - 1) (hc2 : c2.toInt = D) (hc3 : c3.toInt = D + 1) (hx1 : x1.toInt = A + 86400) (hx2 : x2.toInt = A) (hx3 : x3.toInt = A - 86400) : sm (sh g t2 c1 x1) + sm (sh g t2 c2 x2) + sm (sh g t2 c3 x3) = sm (sd g t1 t2 d s) := by
  have no : ∀ (c x : Int32) (X : Int), x.toInt = X → ¬ (0 ≤ X ∧ X ≤ 86399) → sm (sh g t2 c x) = 0 := fun c x X e h => sd_no W B hb h2 c x (by rw [e]; exact h)
  have ye : ∀ (c x : Int32) (C X : Int), c.toInt = C → x.toInt = X → C = D + A / 86400 → X = A % 86400 → sm (sh g t2 c x) = sm (sd g t1 t2 d s) := fun c x C X e1 e2 h1 h2 => sd_ye hA (by rw [e1, hD]; exact h1) (by rw [e2]; exact h2)
  clear hA
  rcases (by omega : A / 86400 = -1 ∨ A / 86400 = 0 ∨ A / 86400 = 1) with f | f | f
  · rw [ye c1 x1 _ _ hc1 hx1 (by rw [f]; rfl) (by omega), no c2 x2 _ hx2 (by omega), no c3 x3 _ hx3 (by omega), Int32.add_zero, Int32.add_zero]
  · rw [no c1 x1 _ hx1 (by omega), ye c2 x2 _ _ hc2 hx2 (by rw [f, Int.add_zero]) (by omega), no c3 x3 _ hx3 (by omega), Int32.add_zero, Int32.zero_add]
  · rw [no c1 x1 _ hx1 (by omega), no c2 x2 _ hx2 (by omega), ye c3 x3 _ _ hc3 hx3 (by rw [f]) (by omega), Int32.add_zero, Int32.zero_add]
theorem m_1 : (-1 * 86400 : Int32).toInt = -86400 := by decide
theorem m_2 : (0 * 86400 : Int32).toInt = 0 := by decide
theorem m_3 : (1 * 86400 : Int32).toInt = 86400 := by decide
theorem sd_eq {g : aa_G} {t1 t2 : Nat} {d s ah : Int32} (W : wd_g g) (B : br_B g g 2 0) (hb : g 4 0 = g 541 2) (h1 : (t1 : Int) < (g 541 0).toInt) (h2 : (t2 : Int) < (g 541 0).toInt) (hd : 0 ≤ d.toInt ∧ d.toInt ≤ 35999) (hs : 0 ≤ s.toInt ∧ s.toInt ≤ 86399) (ha : ah = g 541 (50 * t2 + 3) - g 541 (50 * t1 + 3)) : sm (sh g t2 (d + -1) ((s + ah) - -1 * 86400)) + sm (sh g t2 (d + 0) ((s + ah) - 0 * 86400)) + sm (sh g t2 (d + 1) ((s + ah) - 1 * 86400)) = sm (sd g t1 t2 d s) := by
  have o1 := (W.2.2.2.2.2 t1 h1).2.2.1
  have o2 := (W.2.2.2.2.2 t2 h2).2.2.1
  have a1 : ah.toInt = (g 541 (50 * t2 + 3)).toInt - (g 541 (50 * t1 + 3)).toInt := by rw [ha]; exact aa_sub32 (by omega) (by omega)
  have hA2 : -86400 ≤ s.toInt + ah.toInt ∧ s.toInt + ah.toInt ≤ 172799 := by omega
  have e1 : (s + ah - -1 * 86400).toInt = s.toInt + ah.toInt - -86400 := i_xk rfl (by omega) m_1 (by omega)
  have e2 : (s + ah - 0 * 86400).toInt = s.toInt + ah.toInt - 0 := i_xk rfl (by omega) m_2 (by omega)
  have e3 : (s + ah - 1 * 86400).toInt = s.toInt + ah.toInt - 86400 := i_xk rfl (by omega) m_3 (by omega)
  exact sd_3 W B hb h2 (by rw [a1]) hA2 rfl (i_dk hd i_m1 (by decide)) ((i_dk hd i_0 (by decide)).trans (Int.add_zero _)) (i_dk hd i_1 (by decide)) (e1.trans (by rw [Int.sub_neg])) (e2.trans (Int.sub_zero _)) e3
/-- the model: one ring after another -/
theorem sh_65 {g : aa_G} {b1 d : Int32} {t1 t2 N : Nat} {S : Nat → Int32} (hN : N ≤ 16) (W : wd_g g) (B : br_B g g 2 0) (hb : g 4 0 = g 541 2) (h1 : (t1 : Int) < (g 541 0).toInt) (h2 : (t2 : Int) < (g 541 0).toInt) (ea : b1 / 4 = Int32.ofNat t1) (eb : b1 - b1 / 4 * 4 = Int32.ofNat t2) (hd : 0 ≤ d.toInt ∧ d.toInt ≤ 35999) (hS : ∀ i, i < N → 0 ≤ (S i).toInt ∧ (S i).toInt ≤ 86399) : ∀ (k i : Nat) (Y : aa_G) (a : Int32), i + k = N → wd_g Y → Y 541 = g 541 → (∀ j, j < N → Y 551 j = S j) → (fn_248_65 Y b1 d (Int32.ofNat N) a (Int32.ofNat i)).1 = su (fun j => sm (sd g t1 t2 d (S j))) i k a := by
  intro k
  induction k with
  | zero =>
    intro i Y a e _ _ _
    have eN : i = N := by omega
    rw [eN]
    have z : fn_248_65b Y b1 d (Int32.ofNat N) a (Int32.ofNat N) = .inr (a, Y) := by
      unfold fn_248_65b
      exact if_pos (aa_le32.mpr (Int.le_refl _))
    exact congrArg Prod.fst (lp_r (d := (0, Y)) (f := fun z : (aa_G × Int32 × Int32) => fn_248_65b z.1 b1 d (Int32.ofNat N) z.2.1 z.2.2) (s := (Y, a, Int32.ofNat N)) z)
  | succ k ih =>
    intro i Y a e WY eY h551
    have hn : ¬ Int32.ofNat N ≤ Int32.ofNat i := fun z => by
      have := aa_le32.mp z
      rw [zz_ofN (by omega), zz_ofN (by omega)] at this
      omega
    have hs := hS i (by omega)
    obtain ⟨q1, q2, f⟩ := mk_208x (g := Y) (t := t1) (t2 := t2) (b := d) (c := (S i).toInt64) WY (by rw [eY]; exact h1) (by rw [eY]; exact h2) hd (by rw [l_of]; omega)
    rw [l_of, eY] at q1 q2
    have key : ∃ Y', fn_248_65b Y b1 d (Int32.ofNat N) a (Int32.ofNat i) = .inl (Y', a + sm (sd g t1 t2 d (S i)), Int32.ofNat (i + 1)) ∧ wd_g Y' ∧ Y' 541 = g 541 ∧ ∀ j, j < N → Y' 551 j = S j := by
      unfold fn_248_65b
      rw [if_neg hn, zz_toN (by omega), h551 i (by omega), eb, ea]
      generalize fn_208 Y (Int32.ofNat t1) d.toInt64 (S i).toInt64 (Int32.ofNat t2) = Z at q1 q2 f ⊢
      have WZ : wd_g Z := wd_of WY (fun k j z => f k j (by omega))
      have eZ : Z 541 = g 541 := (funext fun j => f 541 j (by omega)).trans eY
      have hZ : ∀ j, j < N → Z 551 j = S j := fun j hj => (f 551 j (by omega)).trans (h551 j hj)
      have fin : ∀ (v : Int32) (Y' : aa_G), fn_249 Z (Int32.ofNat t2) (Z 540 22) (Z 540 23) = (v, Y') → sm v = sm (sd g t1 t2 d (S i)) → fn_248_91 Z b1 d (Int32.ofNat N) a (Int32.ofNat i) = .inl (Y', a + sm (sd g t1 t2 d (S i)), Int32.ofNat (i + 1)) := fun v Y' h hv => by
        unfold fn_248_91
        rw [eb, h, ← hv]
        unfold fn_248_108 fn_248_116 sm
        dsimp only
        rw [aa_succ]
        by_cases z : v = 0
        · rw [if_pos z, if_pos z]
        · rw [if_neg z, if_neg z]
      by_cases hz : 0 ≤ (Z 540 22).toInt ∧ (Z 540 22).toInt ≤ 35999
      · obtain ⟨N2, M2, r, -, n6⟩ := rp_of (g := g) (g2 := Z) (Q := 469) (.inr rfl) W WZ eZ B hb h2 hz
        refine ⟨fn_212 Z (Int32.ofNat t2) (Z 540 22), fin (sh g t2 (Z 540 22) (Z 540 23)) _ ?_ ?_, r.2.2.2.2.1.1, r.2.2.2.2.1.2, fun j hj => (n6 551 j (by omega) (by omega) (by omega) (by omega) (by omega)).trans (hZ j hj)⟩
        · unfold fn_249
          rw [if_pos (ti_193n.mpr hz)]
          exact (sh_two W W rfl WZ eZ B hb B hb h2 hz).2.1
        · unfold sd
          rw [← q1, ← q2, if_pos hz, Int32.ofInt_toInt, Int32.ofInt_toInt]
      · refine ⟨Z, fin 0 _ ?_ ?_, WZ, eZ, hZ⟩
        · unfold fn_249
          exact if_neg (mt ti_193n.mp hz)
        · unfold sd
          rw [← q1, if_neg hz]
    obtain ⟨Y', k1, k2, k3, k4⟩ := key
    have e1 : su (fun j => sm (sd g t1 t2 d (S j))) i (k + 1) a = su (fun j => sm (sd g t1 t2 d (S j))) (i + 1) k (a + sm (sd g t1 t2 d (S i))) := rfl
    rw [e1, ← ih (i + 1) Y' _ (by omega) k2 k3 k4]
    exact congrArg Prod.fst (lp_l (d := (0, Y)) (f := fun z : (aa_G × Int32 × Int32) => fn_248_65b z.1 b1 d (Int32.ofNat N) z.2.1 z.2.2) (s := (Y, a, Int32.ofNat i)) k1)
/-- the model keeps the first town's rings by themselves -/
theorem sh_33 {Y0 : aa_G} {b1 d : Int32} {N : Nat} (hN : N ≤ 16) : ∀ (k i : Nat) (Y : aa_G), i + k = N → (∀ a j, a ≠ 551 → Y a j = Y0 a j) → (∀ j, j < i → Y 551 j = Y0 546 j) → ∃ G : aa_G, fn_248_33 Y b1 d (Int32.ofNat N) (Int32.ofNat i) = fn_248_65 G b1 d (Int32.ofNat N) 0 0 ∧ (∀ a j, a ≠ 551 → G a j = Y0 a j) ∧ ∀ j, j < N → G 551 j = Y0 546 j := by
  intro k
  induction k with
  | zero =>
    intro i Y e f h
    have eN : i = N := by omega
    rw [eN] at h ⊢
    refine ⟨Y, ?_, f, h⟩
    refine lp_r (f := fun z : (aa_G × Int32) => fn_248_33b z.1 b1 d (Int32.ofNat N) z.2) (s := (Y, Int32.ofNat N)) ?_
    dsimp only
    unfold fn_248_33b
    rw [if_pos (aa_le32.mpr (Int.le_refl _))]
  | succ k ih =>
    intro i Y e f h
    have hn : ¬ Int32.ofNat N ≤ Int32.ofNat i := fun z => by
      have := aa_le32.mp z
      rw [zz_ofN (by omega), zz_ofN (by omega)] at this
      omega
    obtain ⟨G, g1, g2, g3⟩ := ih (i + 1) (zz_w Y 551 i (Y 546 i)) (by omega) (fun a j z => (aa_w_ne _ _ (by omega)).trans (f a j z)) (fun j hj => by
      by_cases z : j = i
      · rw [z, aa_w_at]
        exact f 546 i (by omega)
      · rw [aa_w_ne _ _ (by omega)]
        exact h j (by omega))
    refine ⟨G, ?_, g2, g3⟩
    rw [← g1]
    refine lp_l (f := fun z : (aa_G × Int32) => fn_248_33b z.1 b1 d (Int32.ofNat N) z.2) (s := (Y, Int32.ofNat i)) (s' := (zz_w Y 551 i (Y 546 i), Int32.ofNat (i + 1))) ?_
    dsimp only
    unfold fn_248_33b
    rw [if_neg hn, zz_toN (by omega), aa_succ]
theorem ak_138 {g g2 : aa_G} (W : wd_g g) (W2 : wd_g g2) (e : g2 541 = g 541) (B : br_B g g 2 0) (hb : g 4 0 = g 541 2) (a d : Int32) : (fn_138 g a d).1 = (fn_248 g2 a d).1 := by
  have e0 : g2 541 0 = g 541 0 := by rw [e]
  rcases gk_at W a with ⟨t1, t2, ⟨ht1, hat1, hu1⟩, ⟨ht2, hat2, hu2⟩, ⟨c1, c2⟩, ha1, ha2, ha3⟩ | ⟨c1, hk⟩
  · have k0 : ¬ fn_239 g2 a = 0 := fun z => (gd_239z W2).mp z (by rw [e0]; exact ⟨ha1, ha2, ha3⟩)
    unfold fn_138 fn_248
    rw [c1, c2, if_neg k0]
    dsimp only
    by_cases hd : 0 ≤ d.toInt ∧ d.toInt ≤ 35999
    · rw [if_pos (ti_77n.mpr hd), if_pos (ti_193n.mpr hd), hat1]
      obtain ⟨N, M, r, f1, n6⟩ := rp_of (g := g) (g2 := g2) (Q := 463) (.inl rfl) W W2 e B hb hu1 hd
      obtain ⟨hN, -, ⟨r1, r2, r3⟩, ⟨w1, x1⟩, ⟨w2, x2⟩, -, -, BX, bX⟩ := r
      generalize fn_103 g 463 (Int32.ofNat t1) d = X at r1 r3 w1 x1 f1 BX bX ⊢
      generalize fn_212 g2 (Int32.ofNat t1) d = Y at r2 r3 w2 x2 n6 ⊢
      rw [sha_c (S := X 464) (by omega) W B hb ⟨w1, x1, BX, bX, r1, fun i _ => rfl⟩ hu1 hu2 hat2 rfl, su_3]
      unfold fn_248_25
      obtain ⟨G, g1, g2, g3⟩ := sh_33 (Y0 := Y) (b1 := a) (d := d) (N := N) (by omega) N 0 Y (by omega) (fun _ _ _ => rfl) (fun j hj => by omega)
      have g1' : fn_248_33 Y a d (Int32.ofNat N) 0 = fn_248_65 G a d (Int32.ofNat N) 0 0 := g1
      rw [r2, g1']
      have WG : wd_g G := wd_of w2 fun k j z => g2 k j (by omega)
      have eG : G 541 = g 541 := (funext fun j => g2 541 j (by omega)).trans x2
      have T := sh_65 (S := X 464) (b1 := a) (by omega) W B hb hu1 hu2 hat1 hat2 hd (fun i hi => by rw [(r3 i hi).1]; exact (r3 i hi).2.2.1) N 0 G 0 (by omega) WG eG (fun j hj => (g3 j hj).trans (r3 j hj).1.symm)
      refine Eq.trans ?_ T.symm
      refine su_eq N 0 _ fun j _ hj => ?_
      exact sd_eq W B hb hu1 hu2 hd (by rw [(r3 j (by omega)).1]; exact (r3 j (by omega)).2.2.1) rfl
    · rw [if_neg (mt ti_77n.mp hd), if_neg (mt ti_193n.mp hd)]
  · have E1 : (fn_138 g a d).1 = -1 := by
      unfold fn_138
      rcases c1 with h | h
      · rw [h]
        cases fn_134 g a <;> rfl
      · rw [h]
        cases fn_133 g a <;> rfl
    have E2 : (fn_248 g2 a d).1 = -1 := by
      unfold fn_248
      rw [if_pos ((gd_239z W2).mpr (by rw [e0]; exact hk))]
    rw [E1, E2]
