/-! LOOPS WITH THE HEAP IN THE STATE -/
def fd_i {σ : Type} (F : Nat → σ → σ) : Nat → Nat → σ → σ
  | _, 0, s => s
  | i, k + 1, s => fd_i F (i + 1) k (F i s)
theorem hp_loop {σ τ : Type} {B : τ → τ ⊕ (Int32 × aa_G)} {dd : Int32 × aa_G} {enc : aa_G → σ → Nat → τ} {F : Nat → σ → σ} {E : σ → Int32} {n : Nat} {P : aa_G → Prop} {I : Nat → σ → Prop}
    (h1 : ∀ X s d, P X → I d s → d < n → ∃ Y, B (enc X s d) = .inl (enc Y (F d s) (d + 1)) ∧ P Y ∧ I (d + 1) (F d s))
    (h2 : ∀ X s, P X → I n s → ∃ Y, B (enc X s n) = .inr (E s, Y)) : ∀ (k d : Nat) (X : aa_G) (s : σ), P X → I d s → d + k = n → (lp_f dd B (enc X s d)).1 = E (fd_i F d k s) := by
  intro k
  induction k with
  | zero =>
    intro d X s p i e
    obtain rfl : d = n := by omega
    obtain ⟨Y, y⟩ := h2 X s p i
    rw [lp_r y]
    rfl
  | succ k ih =>
    intro d X s p i e
    obtain ⟨Y, y1, y2, y3⟩ := h1 X s d p i (by omega)
    rw [lp_l y1, ih (d + 1) Y (F d s) y2 y3 (by omega)]
    rfl
/-! SEASON (122, 226): both sides say the same -/
def sc_v (k l : Int32) : Int32 := if k ≠ 0 then (if k ≠ 1 then -(if 0 ≤ l - 43200 then l - 43200 else -(l - 43200)) else -l) else l
noncomputable def se_f (T : Nat → Int32) (t : Nat) (k : Int32) (d : Nat) (s : Int32 × Int32 × Int32) : Int32 × Int32 × Int32 := match hv_t T t (d : Int) 0 with
  | none => (s.1, s.2.1, s.2.2 + 1)
  | some (_, l) => if s.1 = -2 ∨ s.2.1 < sc_v k (Int32.ofInt l) then (Int32.ofNat d, sc_v k (Int32.ofInt l), s.2.2) else s
noncomputable def sp_23 (T : Nat → Int32) (a k : Int32) : Int32 := if ¬ (0 ≤ a.toInt ∧ a.toInt < (T 0).toInt) ∨ ¬ (0 ≤ k.toInt ∧ k.toInt ≤ 3) then -1 else
  (fun s : Int32 × Int32 × Int32 => if k ≠ 3 then s.1 else s.2.2) (fd_i (se_f T a.toInt.toNat k) 0 360 (-2, 0, 0))
theorem sc_123 (k l : Int32) : fn_123 l k = sc_v k l := by
  unfold fn_123 sc_v
  rw [Int32.zero_sub]
theorem c23_day {X : aa_G} {t d : Nat} {k : Int32} (W : wd_g X) (ht : (t : Int) < (X 541 0).toInt) (hd : d < 360) (s : Int32 × Int32 × Int32) : ∃ Y : aa_G, fn_122_37b X k (5 * t + 14) s.1 s.2.1 s.2.2 (Int32.ofNat d) = .inl (Y, (se_f (X 541) t k d s).1, (se_f (X 541) t k d s).2.1, (se_f (X 541) t k d s).2.2, Int32.ofNat (d + 1)) ∧ wd_g Y ∧ Y 541 = X 541 := by
  obtain ⟨f, -, -, m⟩ := (ck_look (g := X) (P := 461) (d := Int32.ofNat d) (h := 0) W ht (by omega) (.inl rfl)).1
  rw [show (0 : Int32).toInt = 0 from rfl, zz_ofN (by omega)] at m
  unfold fn_122_37b
  rw [if_neg (c := (360 : Int32) ≤ Int32.ofNat d) (fun h => by have := aa_le32.mp h; rw [zz_ofN (by omega), show (360 : Int32).toInt = 360 from rfl] at this; omega)]
  generalize fn_78 X 461 (some (5 * t + 14)) (Int32.ofNat d) 0 = Y at f m ⊢
  refine ⟨Y, ?_, wd_of W (fun k j z => f k j (by omega)), funext fun j => f 541 j (by omega)⟩
  unfold fn_122_56 fn_122_99 fn_122_107 se_f
  rw [mb_add d 1 (v := 1) rfl]
  cases hq : hv_t (X 541) t (d : Int) 0 with
  | none =>
    rw [hq] at m
    rw [if_neg (c := Y 461 0 ≠ 0) (fun z => z m.1)]
  | some r =>
    obtain ⟨u, l⟩ := r
    rw [hq] at m
    obtain ⟨m1, m2, m3⟩ := m
    rw [if_pos (c := Y 461 0 ≠ 0) (by rw [m1]; decide), of_ti m3, sc_123]
    dsimp only
    by_cases z1 : s.1 = -2
    · rw [if_pos z1, if_pos (.inl z1)]
    · rw [if_neg z1]
      by_cases z2 : sc_v k (Int32.ofInt l) ≤ s.2.1
      · rw [if_pos z2, if_neg (c := s.1 = -2 ∨ s.2.1 < sc_v k (Int32.ofInt l)) (fun h => h.elim z1 fun h => Int32.not_le.mpr h z2)]
      · rw [if_neg z2, if_pos (c := s.1 = -2 ∨ s.2.1 < sc_v k (Int32.ofInt l)) (.inr (Int32.not_le.mp z2))]
theorem m23_day {X : aa_G} {t d : Nat} {k : Int32} (W : wd_g X) (ht : (t : Int) < (X 541 0).toInt) (hd : d < 360) (s : Int32 × Int32 × Int32) : ∃ Y : aa_G, fn_226_31b X (Int32.ofNat t) k s.1 s.2.1 s.2.2 (Int32.ofNat d) = .inl (Y, (se_f (X 541) t k d s).1, (se_f (X 541) t k d s).2.1, (se_f (X 541) t k d s).2.2, Int32.ofNat (d + 1)) ∧ wd_g Y ∧ Y 541 = X 541 := by
  obtain ⟨f, m⟩ := mk_222 (d := Int32.ofNat d) W ht
  rw [zz_ofN (by omega)] at m
  unfold fn_226_31b
  rw [if_neg (c := (360 : Int32) ≤ Int32.ofNat d) (fun h => by have := aa_le32.mp h; rw [zz_ofN (by omega), show (360 : Int32).toInt = 360 from rfl] at this; omega)]
  generalize fn_222 X (Int32.ofNat t) (Int32.ofNat d) = Y at f m ⊢
  obtain ⟨v, Y⟩ := Y
  dsimp only at f m ⊢
  refine ⟨Y, ?_, wd_of W (fun k j z => f k j (by omega)), funext fun j => f 541 j (by omega)⟩
  unfold fn_226_46 fn_226_61 fn_226_93 fn_226_117 fn_226_124 se_f
  rw [mb_add d 1 (v := 1) rfl]
  cases hq : hv_t (X 541) t (d : Int) 0 with
  | none =>
    rw [hq] at m
    have m : v = -1 := ti_eq.mpr m
    rw [if_neg (c := v ≠ -1) (fun z => z m), if_pos m, if_pos m, if_pos m]
    by_cases k0 : k = 0
    · rw [if_neg (c := k ≠ 0) (fun z => z k0)]
    · rw [if_pos (c := k ≠ 0) k0]
      by_cases k1 : k = 1
      · rw [if_neg (c := k ≠ 1) (fun z => z k1)]
      · rw [if_pos (c := k ≠ 1) k1]
  | some r =>
    obtain ⟨u, l⟩ := r
    rw [hq] at m
    have m : v.toInt = l := m
    obtain ⟨v1, v2, v3, v4, -⟩ := hv_b W ht hq
    have hv : ¬ v = -1 := fun z => by rw [z] at m; have : (-1 : Int) = l := m; omega
    rw [if_pos (c := v ≠ -1) hv, if_neg hv, if_neg hv, if_neg hv, Int32.add_zero, of_ti m]
    have fin : ∀ x : Int32, x = sc_v k (Int32.ofInt l) → (if s.1 = -2 then (Sum.inl (Y, Int32.ofNat d, x, s.2.2, Int32.ofNat (d + 1)) : (aa_G × Int32 × Int32 × Int32 × Int32) ⊕ (Int32 × aa_G)) else if s.2.1 < x then .inl (Y, Int32.ofNat d, x, s.2.2, Int32.ofNat (d + 1)) else .inl (Y, s.1, s.2.1, s.2.2, Int32.ofNat (d + 1))) = .inl (Y, (if s.1 = -2 ∨ s.2.1 < sc_v k (Int32.ofInt l) then (Int32.ofNat d, sc_v k (Int32.ofInt l), s.2.2) else s).1, (if s.1 = -2 ∨ s.2.1 < sc_v k (Int32.ofInt l) then (Int32.ofNat d, sc_v k (Int32.ofInt l), s.2.2) else s).2.1, (if s.1 = -2 ∨ s.2.1 < sc_v k (Int32.ofInt l) then (Int32.ofNat d, sc_v k (Int32.ofInt l), s.2.2) else s).2.2, Int32.ofNat (d + 1)) := by
      intro x e
      subst e
      by_cases z1 : s.1 = -2
      · rw [if_pos z1, if_pos (.inl z1)]
      · rw [if_neg z1]
        by_cases z2 : s.2.1 < sc_v k (Int32.ofInt l)
        · rw [if_pos z2, if_pos (c := s.1 = -2 ∨ s.2.1 < sc_v k (Int32.ofInt l)) (.inr z2)]
        · rw [if_neg z2, if_neg (c := s.1 = -2 ∨ s.2.1 < sc_v k (Int32.ofInt l)) (fun h => h.elim z1 z2)]
    by_cases k0 : k = 0
    · rw [if_neg (c := k ≠ 0) (fun z => z k0)]
      exact fin _ (by unfold sc_v; rw [if_neg (c := k ≠ 0) (fun z => z k0)])
    · rw [if_pos (c := k ≠ 0) k0]
      by_cases k1 : k = 1
      · rw [if_neg (c := k ≠ 1) (fun z => z k1)]
        exact fin _ (by unfold sc_v; rw [if_pos (c := k ≠ 0) k0, if_neg (c := k ≠ 1) (fun z => z k1)])
      · rw [if_pos (c := k ≠ 1) k1]
        exact fin _ (by unfold sc_v fn_227; rw [if_pos (c := k ≠ 0) k0, if_pos (c := k ≠ 1) k1])
theorem ck_122 {g : aa_G} (W : wd_g g) (a k : Int32) : (fn_122 g a k).1 = sp_23 (g 541) a k := by
  unfold fn_122 sp_23
  rcases ct_at W a with ⟨t, ht, rfl, ht2, e1, -⟩ | ⟨n1, e1, -⟩
  · rw [e1]
    dsimp only
    by_cases zk : fn_14 k 0 3 ≠ 0
    · have hk : 0 ≤ k.toInt ∧ k.toInt ≤ 3 := ti_14n.mp zk
      rw [if_pos zk, if_neg (c := ¬ (0 ≤ (Int32.ofNat t).toInt ∧ (Int32.ofNat t).toInt < (g 541 0).toInt) ∨ ¬ (0 ≤ k.toInt ∧ k.toInt ≤ 3)) (by rw [zz_ofN (by omega)]; omega), zz_ofN (by omega), show ((t : Int).toNat) = t by omega]
      unfold fn_122_37
      exact hp_loop (B := fun z : (aa_G × Int32 × Int32 × Int32 × Int32) => fn_122_37b z.1 k (5 * t + 14) z.2.1 z.2.2.1 z.2.2.2.1 z.2.2.2.2) (enc := fun X (s : Int32 × Int32 × Int32) d => (X, s.1, s.2.1, s.2.2, Int32.ofNat d)) (F := se_f (g 541) t k) (E := fun s : Int32 × Int32 × Int32 => if k ≠ 3 then s.1 else s.2.2) (n := 360) (P := fun X => wd_g X ∧ X 541 = g 541) (I := fun _ _ => True)
        (fun X s d p _ hd => by
          obtain ⟨Y, y1, y2, y3⟩ := c23_day (k := k) p.1 (by rw [p.2]; exact ht2) hd s
          rw [p.2] at y1 y3
          exact ⟨Y, y1, ⟨y2, y3⟩, trivial⟩)
        (fun X s p _ => by
          refine ⟨X, ?_⟩
          show fn_122_37b X k (5 * t + 14) s.1 s.2.1 s.2.2 (Int32.ofNat 360) = _
          unfold fn_122_37b
          rw [if_pos (c := (360 : Int32) ≤ Int32.ofNat 360) (by decide)]
          by_cases k3 : k ≠ 3
          · rw [if_pos k3, if_pos k3]
          · rw [if_neg k3, if_neg k3]) 360 0 g (-2, 0, 0) ⟨W, rfl⟩ trivial rfl
    · rw [if_neg zk, if_pos (.inr (fun h => zk (ti_14n.mpr h)))]
  · rw [e1, if_pos (c := ¬ (0 ≤ a.toInt ∧ a.toInt < (g 541 0).toInt) ∨ ¬ (0 ≤ k.toInt ∧ k.toInt ≤ 3)) (.inl n1)]
theorem mk_226 {g : aa_G} (W : wd_g g) (a k : Int32) : (fn_226 g a k).1 = sp_23 (g 541) a k := by
  unfold fn_226 sp_23
  rcases ct_at W a with ⟨t, ht, rfl, ht2, -, e1⟩ | ⟨n1, -, e1⟩
  · rw [if_neg (c := fn_192 g (Int32.ofNat t) = 0) (by rw [e1]; decide)]
    by_cases zk : fn_154 k 0 3 ≠ 0
    · have hk : 0 ≤ k.toInt ∧ k.toInt ≤ 3 := ti_154n.mp zk
      rw [if_pos zk, if_neg (c := ¬ (0 ≤ (Int32.ofNat t).toInt ∧ (Int32.ofNat t).toInt < (g 541 0).toInt) ∨ ¬ (0 ≤ k.toInt ∧ k.toInt ≤ 3)) (by rw [zz_ofN (by omega)]; omega), zz_ofN (by omega), show ((t : Int).toNat) = t by omega]
      unfold fn_226_31
      exact hp_loop (B := fun z : (aa_G × Int32 × Int32 × Int32 × Int32) => fn_226_31b z.1 (Int32.ofNat t) k z.2.1 z.2.2.1 z.2.2.2.1 z.2.2.2.2) (enc := fun X (s : Int32 × Int32 × Int32) d => (X, s.1, s.2.1, s.2.2, Int32.ofNat d)) (F := se_f (g 541) t k) (E := fun s : Int32 × Int32 × Int32 => if k ≠ 3 then s.1 else s.2.2) (n := 360) (P := fun X => wd_g X ∧ X 541 = g 541) (I := fun _ _ => True)
        (fun X s d p _ hd => by
          obtain ⟨Y, y1, y2, y3⟩ := m23_day (k := k) p.1 (by rw [p.2]; exact ht2) hd s
          rw [p.2] at y1 y3
          exact ⟨Y, y1, ⟨y2, y3⟩, trivial⟩)
        (fun X s p _ => by
          refine ⟨X, ?_⟩
          show fn_226_31b X (Int32.ofNat t) k s.1 s.2.1 s.2.2 (Int32.ofNat 360) = _
          unfold fn_226_31b
          rw [if_pos (c := (360 : Int32) ≤ Int32.ofNat 360) (by decide)]
          by_cases k3 : k ≠ 3
          · rw [if_pos k3, if_pos k3]
          · rw [if_neg k3, if_neg k3]) 360 0 g (-2, 0, 0) ⟨W, rfl⟩ trivial rfl
    · rw [if_neg zk, if_pos (.inr (fun h => zk (ti_154n.mpr h)))]
  · rw [if_pos (c := fn_192 g a = 0) e1, if_pos (.inl n1)]
theorem lq_122 {g : aa_G} {a0 a1 : Int32} (hi : aa_inv g) (hφ : aa_Phi g) (hR : lr_R g) : lq_ok true 122 226 [.int a0, .int a1] g :=
  lq_ask (y := fn_226 (fn_122 g a0 a1).2 a0 a1) hi hφ hR (ko_fw (ko_122 hi hφ) fun _ _ _ r => dn_122 r) (fun i1 p1 => ko_fw (ko_226 i1 p1) fun _ _ _ r => dn_226 r) (by decide +kernel) (by decide +kernel) (by decide +kernel) (by decide +kernel) (by decide +kernel) (by decide +kernel) fun W W2 e => by rw [ck_122 W, mk_226 W2, e]
