/-! QUESTIONS OF MANY DAYS' RINGS, OF TWO TOWNS' RINGS, by the model's words: total, busiest, same -/
section YM86
variable {g Y : aa_G} {t t2 : Nat} {lst : List (yBell × List fl_T)} {day s : Int}
theorem rl_246 {L : List (Int × Int)} {b1 b2 b3 b5 : Int32} (Br : yBr (g 541) lst) (hb : ∀ z ∈ L, (0 ≤ z.1 ∧ z.1 < 86400) ∧ 0 ≤ z.2 ∧ z.2 < lst.length) (h : rl_w g Y L) (l16 : L.length ≤ 16) : ∀ (n i : Nat) (a : Int), i + n = L.length → fn_246_51 Y b1 b2 b3 (Int32.ofInt a) b5 (Int32.ofNat i) = .inl (Y, Int32.ofInt (a + sm_i (fun j => y_stk lst (y_s2 L j)) i n), b5 + 1)
  | 0, i, a, e => by
    unfold fn_246_51
    refine lp_r ?_
    dsimp only
    unfold fn_246_51b
    rw [h.1.1, if_pos (aa_le32.mpr (by rw [zz_ofN (by omega), zz_ofN (by omega)]; omega))]
    show _ = Sum.inr (Sum.inl (Y, Int32.ofInt (a + 0), b5 + 1))
    rw [Int.add_zero]
  | n + 1, i, a, e => by
    have ih := rl_246 (b1 := b1) (b2 := b2) (b3 := b3) (b5 := b5) Br hb h l16 n (i + 1) (a + y_stk lst (y_s2 L i)) (by omega)
    have e9 : a + sm_i (fun j => y_stk lst (y_s2 L j)) i (n + 1) = a + y_stk lst (y_s2 L i) + sm_i (fun j => y_stk lst (y_s2 L j)) (i + 1) n := by
      show a + (y_stk lst (y_s2 L i) + sm_i _ (i + 1) n) = _
      omega
    rw [e9, ← ih]
    unfold fn_246_51
    refine lp_l ?_
    dsimp only
    unfold fn_246_51b
    rw [h.1.1, if_neg (fun z => by have := aa_le32.mp z; rw [zz_ofN (by omega), zz_ofN (by omega)] at this; omega), rl_217 Br hb h l16 (by omega), yi_add, aa_succ]
/-- total -/
noncomputable def tt_f (a : Nat → Int32) (t : Nat) (lst : List (yBell × List fl_T)) (d : Nat) (s : Int) : Int := s + y_sts lst (yRq a t lst (d : Int))
theorem m_246 (W : wd_g g) (ht : (t : Int) < (g 541 0).toInt) (Br : yBr (g 541) lst) (hd : 0 ≤ day ∧ day ≤ 35999) {many : Int} (hm : 1 ≤ many ∧ many ≤ 60) : (fn_246 g (Int32.ofInt (t : Int)) (Int32.ofInt day) (Int32.ofInt many)).1 = Int32.ofInt (fd_i (tt_f (g 541) t lst) day.toNat many.toNat 0) := by
  unfold fn_246
  rw [← yi_n t, if_neg (y_192 W ht), if_neg (y_193 hd), if_pos (show ¬ fn_154 (Int32.ofInt many) 1 60 = 0 from y_154 (a := many) (lo := 1) (hi := 60) (by omega) (by omega) (by omega) hm)]
  unfold fn_246_33
  have en : Int32.ofInt day + Int32.ofInt many = Int32.ofInt (day + many) := yi_add day many
  refine Eq.trans ?_ (hp_loop (dd := (0, g)) (B := fun z : (aa_G × Int32 × Int32) => fn_246_33b z.1 (Int32.ofNat t) (Int32.ofInt day) (Int32.ofInt many) z.2.1 z.2.2) (enc := fun X (s : Int) d => (X, Int32.ofInt s, Int32.ofInt (d : Int))) (F := tt_f (g 541) t lst) (E := fun s => Int32.ofInt s) (n := day.toNat + many.toNat) (P := fun X => wd_g X ∧ X 541 = g 541) (I := fun d _ => day.toNat ≤ d) ?_ ?_ many.toNat day.toNat g 0 ⟨W, rfl⟩ (Nat.le_refl _) (by omega))
  · rw [show ((day.toNat : Nat) : Int) = day by omega]
    rfl
  · rintro X s d ⟨p1, p2⟩ hI hdn
    have L := rl_lay2 (day := (d : Int)) W ht Br (by omega) p1 p2
    have hb := yRq_b (d := (d : Int)) (yWb_of W) ht Br
    have l16 := yRq_len (t := t) (d := (d : Int)) Br
    have kd : ¬ Int32.ofInt (day + many) ≤ Int32.ofInt (d : Int) := mt (yi_le (by omega) (by omega)).mp (by omega)
    have es : Int32.ofInt (d : Int) + 1 = Int32.ofInt ((d + 1 : Nat) : Int) := yi_add d 1
    dsimp only
    unfold fn_246_33b tt_f
    rw [en, if_neg kd]
    generalize yRq (g 541) t lst (d : Int) = R at L hb l16 ⊢
    generalize fn_212 X (Int32.ofNat t) (Int32.ofInt (d : Int)) = Z at L ⊢
    have h9 := rl_246 (b1 := Int32.ofNat t) (b2 := Int32.ofInt day) (b3 := Int32.ofInt many) (b5 := Int32.ofInt (d : Int)) Br hb L l16 R.length 0 s (by omega)
    rw [es] at h9
    exact ⟨Z, h9, ⟨L.2.2.1, L.2.2.2⟩, by omega⟩
  · rintro X s ⟨p1, p2⟩ hI
    refine ⟨X, ?_⟩
    dsimp only
    unfold fn_246_33b
    rw [en, if_pos ((yi_le (by omega) (by omega)).mpr (by omega))]
/-- busiest: the eight counts are emptied -/
theorem bz_0 {b1 b2 b3 b4 : Int32} : ∀ (n k : Nat) (X : aa_G), k + n = 8 → (∀ j, j < k → X 550 j = 0) → ∃ Z : aa_G, fn_236_40 X b1 b2 b3 b4 (Int32.ofNat k) = fn_236_64 Z b1 b2 b3 b4 b2 ∧ (∀ a j, a ≠ 550 → Z a j = X a j) ∧ ∀ j, j < 8 → Z 550 j = 0
  | 0, k, X, e, h => by
    refine ⟨X, ?_, fun _ _ _ => rfl, fun j hj => h j (by omega)⟩
    unfold fn_236_40
    refine lp_r ?_
    dsimp only
    unfold fn_236_40b
    rw [if_pos (aa_le32.mpr (by rw [zz_ofN (by omega), show (8 : Int32).toInt = 8 from rfl]; omega))]
  | n + 1, k, X, e, h => by
    obtain ⟨Z, z1, z2, z3⟩ := bz_0 (b1 := b1) (b2 := b2) (b3 := b3) (b4 := b4) n (k + 1) (zz_w X 550 k 0) (by omega) (fun j hj => by
      rcases Nat.lt_or_eq_of_le (Nat.le_of_lt_succ hj) with z | z
      · rw [aa_w_ne _ _ (by omega)]
        exact h j z
      · rw [z, aa_w_at])
    refine ⟨Z, ?_, fun a j ha => (z2 a j ha).trans (aa_w_ne _ _ (by omega)), z3⟩
    rw [← z1]
    unfold fn_236_40
    refine lp_l ?_
    dsimp only
    unfold fn_236_40b
    rw [if_neg (fun z => by have := aa_le32.mp z; rw [zz_ofN (by omega), show (8 : Int32).toInt = 8 from rfl] at this; omega), zz_toN (by omega), aa_succ]
/-- how often a bell rings among these rings -/
def bz_n (L : List (Int × Int)) (k j : Nat) : Int := if y_s2 L j = (k : Int) then 1 else 0
def bz_L (L : List (Int × Int)) (k : Nat) : Int := sm_i (bz_n L k) 0 L.length
theorem bz_L_b (L : List (Int × Int)) (k : Nat) : 0 ≤ bz_L L k ∧ bz_L L k ≤ L.length := by
  have := sm_i_b (f := bz_n L k) (B := 1) (fun i => by unfold bz_n; split <;> omega) L.length 0
  rw [Int.one_mul] at this
  exact this
theorem bz_1 {L : List (Int × Int)} {m : Int} {b1 b2 b3 b4 b5 : Int32} (hm : m ≤ 8) (hb : ∀ z ∈ L, (0 ≤ z.1 ∧ z.1 < 86400) ∧ 0 ≤ z.2 ∧ z.2 < m) (l16 : L.length ≤ 16) : ∀ (n i : Nat) (X : aa_G) (c : Nat → Int), i + n = L.length → rl_w g X L → (∀ k, k < 8 → X 550 k = Int32.ofInt (c k)) → ∃ Z, fn_236_82 X b1 b2 b3 b4 b5 (Int32.ofNat i) = .inl (Z, b5 + 1) ∧ rl_w g Z L ∧ ∀ k, k < 8 → Z 550 k = Int32.ofInt (c k + sm_i (bz_n L k) i n)
  | 0, i, X, c, e, h, hc => by
    refine ⟨X, ?_, h, fun k hk => by rw [hc k hk]; show _ = Int32.ofInt (c k + 0); rw [Int.add_zero]⟩
    unfold fn_236_82
    refine lp_r ?_
    dsimp only
    unfold fn_236_82b
    rw [h.1.1, if_pos (aa_le32.mpr (by rw [zz_ofN (by omega), zz_ofN (by omega)]; omega))]
  | n + 1, i, X, c, e, h, hc => by
    obtain ⟨-, b2'⟩ := y_s_b hb (show i < L.length by omega)
    obtain ⟨-, e2⟩ := rl_at h (show i < L.length by omega)
    obtain ⟨v, ev⟩ : ∃ v : Nat, y_s2 L i = v := ⟨(y_s2 L i).toNat, by omega⟩
    have e3 : (X 547 i).toNatClampNeg = v := by rw [e2, ev, ← yi_n, zz_toN (by omega)]
    obtain ⟨Z, z1, z2, z3⟩ := bz_1 (b1 := b1) (b2 := b2) (b3 := b3) (b4 := b4) (b5 := b5) hm hb l16 n (i + 1) (zz_w X 550 v (X 550 v + 1)) (fun k => c k + bz_n L k i) (by omega) ⟨⟨by rw [aa_w_ne _ _ (by omega)]; exact h.1.1, fun q z ez => by rw [aa_w_ne _ _ (by omega), aa_w_ne _ _ (by omega)]; exact h.1.2.1 q z ez, h.1.2.2⟩, h.2.1, wd_of h.2.2.1 fun a j z => aa_w_ne _ _ (by omega), (funext fun j => aa_w_ne _ _ (by omega)).trans h.2.2.2⟩ (fun k hk => by
      unfold bz_n
      rw [ev]
      by_cases q : k = v
      · rw [q, aa_w_at, hc v (by omega), if_pos rfl]
        exact yi_add (c v) 1
      · rw [aa_w_ne _ _ (by omega), hc k hk, if_neg (by omega), Int.add_zero])
    refine ⟨Z, ?_, z2, fun k hk => (z3 k hk).trans (congrArg Int32.ofInt ?_)⟩
    · rw [← z1]
      unfold fn_236_82
      refine lp_l ?_
      dsimp only
      unfold fn_236_82b
      rw [h.1.1, if_neg (fun z => by have := aa_le32.mp z; rw [zz_ofN (by omega), zz_ofN (by omega)] at this; omega), zz_toN (by omega), e3, aa_succ]
    · show c k + bz_n L k i + sm_i _ (i + 1) n = c k + (bz_n L k i + sm_i _ (i + 1) n)
      omega
/-- how often a bell rings in many days -/
noncomputable def bz_f (a : Nat → Int32) (t : Nat) (lst : List (yBell × List fl_T)) (k d : Nat) (s : Int) : Int := s + bz_L (yRq a t lst (d : Int)) k
theorem bz_2 {many : Int} {b4 : Int32} (W : wd_g g) (ht : (t : Int) < (g 541 0).toInt) (Br : yBr (g 541) lst) (hd : 0 ≤ day ∧ day ≤ 35999) (hm : 1 ≤ many ∧ many ≤ 60) : ∀ (n d : Nat) (X : aa_G) (c : Nat → Int), (d : Int) + n = day + many → day ≤ d → wd_g X → X 541 = g 541 → (∀ k, k < 8 → X 550 k = Int32.ofInt (c k)) → ∃ Z, fn_236_64 X (Int32.ofNat t) (Int32.ofInt day) (Int32.ofInt many) b4 (Int32.ofInt (d : Int)) = fn_236_125 Z b4 0 1 ∧ ∀ k, k < 8 → Z 550 k = Int32.ofInt (fd_i (bz_f (g 541) t lst k) d n (c k))
  | 0, d, X, c, e, h, p1, p2, hc => by
    refine ⟨X, ?_, hc⟩
    unfold fn_236_64
    refine lp_r ?_
    dsimp only
    unfold fn_236_64b
    rw [show Int32.ofInt day + Int32.ofInt many = Int32.ofInt (day + many) from yi_add day many, if_pos ((yi_le (by omega) (by omega)).mpr (by omega))]
  | n + 1, d, X, c, e, h, p1, p2, hc => by
    have L := rl_lay2 (day := (d : Int)) W ht Br (by omega) p1 p2
    have hb := yRq_b (d := (d : Int)) (yWb_of W) ht Br
    have l16 := yRq_len (t := t) (d := (d : Int)) Br
    have l8 := Br.2.1
    have hk : ∀ k, k < 8 → fn_212 X (Int32.ofNat t) (Int32.ofInt (d : Int)) 550 k = Int32.ofInt (c k) := fun k hk => ((rl_layu (g := X) (t := t) (lst := lst) (day := (d : Int)) p1 (by rw [p2]; exact ht) (by rw [p2]; exact Br) (by omega)).2 550 k (Or.inl rfl)).trans (hc k hk)
    have kd : ¬ Int32.ofInt (day + many) ≤ Int32.ofInt (d : Int) := mt (yi_le (by omega) (by omega)).mp (by omega)
    have es : Int32.ofInt (d : Int) + 1 = Int32.ofInt ((d + 1 : Nat) : Int) := yi_add d 1
    obtain ⟨Z, z1, z2, z3⟩ := bz_1 (b1 := Int32.ofNat t) (b2 := Int32.ofInt day) (b3 := Int32.ofInt many) (b4 := b4) (b5 := Int32.ofInt (d : Int)) (show (lst.length : Int) ≤ 8 by omega) hb l16 (yRq (g 541) t lst (d : Int)).length 0 _ c (by omega) L hk
    rw [es] at z1
    obtain ⟨V, v1, v2⟩ := bz_2 (b4 := b4) W ht Br hd hm n (d + 1) Z (fun k => bz_f (g 541) t lst k d (c k)) (by omega) (by omega) z2.2.2.1 z2.2.2.2 z3
    refine ⟨V, ?_, v2⟩
    rw [← v1]
    unfold fn_236_64
    refine lp_l ?_
    dsimp only
    unfold fn_236_64b
    rw [show Int32.ofInt day + Int32.ofInt many = Int32.ofInt (day + many) from yi_add day many, if_neg kd]
    exact z1
theorem bz_f_b {a : Nat → Int32} (Br : yBr a lst) (k : Nat) : ∀ (n d : Nat) (s : Int), 0 ≤ s → 0 ≤ fd_i (bz_f a t lst k) d n s ∧ fd_i (bz_f a t lst k) d n s ≤ s + 16 * n
  | 0, d, s, h => ⟨h, by show s ≤ s + 16 * ((0 : Nat) : Int); omega⟩
  | n + 1, d, s, h => by
    have b1 := bz_L_b (yRq a t lst (d : Int)) k
    have l16 := yRq_len (t := t) (d := (d : Int)) Br
    have h2 := bz_f_b Br k n (d + 1) (s + bz_L (yRq a t lst (d : Int)) k) (by omega)
    show 0 ≤ fd_i (bz_f a t lst k) (d + 1) n (s + bz_L (yRq a t lst (d : Int)) k) ∧ fd_i (bz_f a t lst k) (d + 1) n (s + bz_L (yRq a t lst (d : Int)) k) ≤ s + 16 * ((n + 1 : Nat) : Int)
    omega
/-- the first of the largest counts -/
def bz_g (c : Nat → Int) (k b : Nat) : Nat := if c k ≤ c b then b else k
theorem bz_3 {Z : aa_G} {c : Nat → Int} {i : Int} (hi : i = 0 ∨ i = 1) (hz : ∀ k, k < 8 → Z 550 k = Int32.ofInt (c k)) (hc : ∀ k, k < 8 → 0 ≤ c k ∧ c k ≤ 10000) : ∀ (n k b : Nat), k + n = 8 → b < 8 → (fn_236_125 Z (Int32.ofInt i) (Int32.ofNat b) (Int32.ofNat k)).1 = Int32.ofInt (if i = 1 then c (fd_i (bz_g c) k n b) else if c (fd_i (bz_g c) k n b) = 0 then -1 else ((fd_i (bz_g c) k n b : Nat) : Int))
  | 0, k, b, e, hb => by
    have hcb := hc b hb
    have z1 : Int32.ofInt i = 1 ↔ i = 1 := yi_eq (b := 1) (by omega) (by omega)
    have z2 : Int32.ofInt (c b) = 0 ↔ c b = 0 := yi_eq (b := 0) (by omega) (by omega)
    show _ = Int32.ofInt (if i = 1 then c b else if c b = 0 then -1 else (b : Int))
    refine congrArg Prod.fst (?_ : _ = (Int32.ofInt (if i = 1 then c b else if c b = 0 then -1 else (b : Int)), Z))
    unfold fn_236_125
    refine lp_r ?_
    dsimp only
    unfold fn_236_125b
    rw [if_pos (aa_le32.mpr (by rw [zz_ofN (by omega), show (8 : Int32).toInt = 8 from rfl]; omega)), zz_toN (by omega), hz b hb]
    by_cases c1 : i = 1
    · rw [if_neg (fun z => z (z1.mpr c1)), if_pos c1]
    · rw [if_pos (mt z1.mp c1), if_neg c1]
      by_cases c2 : c b = 0
      · rw [if_neg (fun z => z (z2.mpr c2)), if_pos c2]
        rfl
      · rw [if_pos (mt z2.mp c2), if_neg c2, yi_n]
  | n + 1, k, b, e, hb => by
    have hcb := hc b hb
    have hck := hc k (by omega)
    have z : Int32.ofInt (c k) ≤ Int32.ofInt (c b) ↔ c k ≤ c b := yi_le (by omega) (by omega)
    show _ = Int32.ofInt (if i = 1 then c (fd_i (bz_g c) (k + 1) n (bz_g c k b)) else if c (fd_i (bz_g c) (k + 1) n (bz_g c k b)) = 0 then -1 else ((fd_i (bz_g c) (k + 1) n (bz_g c k b) : Nat) : Int))
    rw [← bz_3 hi hz hc n (k + 1) (bz_g c k b) (by omega) (by unfold bz_g; split <;> omega)]
    refine congrArg Prod.fst ?_
    unfold fn_236_125
    refine lp_l ?_
    dsimp only
    unfold fn_236_125b fn_236_156 bz_g
    rw [if_neg (fun z => by have := aa_le32.mp z; rw [zz_ofN (by omega), show (8 : Int32).toInt = 8 from rfl] at this; omega), zz_toN (show k < 2147483648 by omega), zz_toN (show b < 2147483648 by omega), hz k (by omega), hz b hb, aa_succ]
    by_cases q : c k ≤ c b
    · rw [if_pos (z.mpr q), if_pos q]
    · rw [if_neg (mt z.mp q), if_neg q]
noncomputable def y_bz (a : Nat → Int32) (t : Nat) (lst : List (yBell × List fl_T)) (day many : Int) (k : Nat) : Int := fd_i (bz_f a t lst k) day.toNat many.toNat 0
noncomputable def s_117 (a : Nat → Int32) (t : Nat) (lst : List (yBell × List fl_T)) (day many i : Int) : Int := if i = 1 then y_bz a t lst day many (fd_i (bz_g (y_bz a t lst day many)) 1 7 0) else if y_bz a t lst day many (fd_i (bz_g (y_bz a t lst day many)) 1 7 0) = 0 then -1 else ((fd_i (bz_g (y_bz a t lst day many)) 1 7 0 : Nat) : Int)
theorem m_236 (W : wd_g g) (ht : (t : Int) < (g 541 0).toInt) (Br : yBr (g 541) lst) (hd : 0 ≤ day ∧ day ≤ 35999) {many i : Int} (hm : 1 ≤ many ∧ many ≤ 60) (hi : i = 0 ∨ i = 1) : (fn_236 g (Int32.ofInt (t : Int)) (Int32.ofInt day) (Int32.ofInt many) (Int32.ofInt i)).1 = Int32.ofInt (s_117 (g 541) t lst day many i) := by
  unfold fn_236
  rw [← yi_n t, if_neg (y_192 W ht), if_neg (show ¬ fn_154 (Int32.ofInt many) 1 60 = 0 from y_154 (a := many) (lo := 1) (hi := 60) (by omega) (by omega) (by omega) hm), if_neg (y_193 hd), if_pos (show ¬ fn_154 (Int32.ofInt i) 0 1 = 0 from y_154 (a := i) (lo := 0) (hi := 1) (by omega) (by omega) (by omega) (by omega))]
  obtain ⟨Z, z1, z2, z3⟩ := bz_0 (b1 := Int32.ofNat t) (b2 := Int32.ofInt day) (b3 := Int32.ofInt many) (b4 := Int32.ofInt i) 8 0 g rfl (fun j hj => absurd hj (Nat.not_lt_zero j))
  refine (congrArg Prod.fst z1).trans ?_
  obtain ⟨V, v1, v2⟩ := bz_2 (b4 := Int32.ofInt i) W ht Br hd hm many.toNat day.toNat Z (fun _ => 0) (by omega) (by omega) (wd_of W fun a j z => z2 a j (by omega)) (funext fun j => z2 541 j (by omega)) (fun k hk => z3 k hk)
  rw [show ((day.toNat : Nat) : Int) = day by omega] at v1
  refine (congrArg Prod.fst v1).trans ?_
  exact bz_3 (c := y_bz (g 541) t lst day many) hi v2 (fun k hk => by
    have := bz_f_b (t := t) Br k many.toNat day.toNat 0 (Int.le_refl 0)
    unfold y_bz
    omega) 7 1 0 rfl (by omega)
/-- is there a ring at that second -/
def y_any (L : List (Int × Int)) (s : Int) : Nat → Nat → Int
  | _, 0 => 0
  | i, n + 1 => if y_s1 L i = s then 1 else y_any L s (i + 1) n
theorem y_any_b (L : List (Int × Int)) (s : Int) : ∀ n i, y_any L s i n = 0 ∨ y_any L s i n = 1
  | 0, i => Or.inl rfl
  | n + 1, i => by
    show (if y_s1 L i = s then (1 : Int) else y_any L s (i + 1) n) = 0 ∨ (if y_s1 L i = s then (1 : Int) else y_any L s (i + 1) n) = 1
    split
    · exact Or.inr rfl
    · exact y_any_b L s n (i + 1)
theorem rl_249 {L : List (Int × Int)} {m : Int} (hs : 0 ≤ s ∧ s ≤ 86399) (hb : ∀ z ∈ L, (0 ≤ z.1 ∧ z.1 < 86400) ∧ 0 ≤ z.2 ∧ z.2 < m) (h : rl_w g Y L) (l16 : L.length ≤ 16) : ∀ (n i : Nat), i + n = L.length → fn_249_18 Y (Int32.ofInt s) (Int32.ofNat i) = (Int32.ofInt (y_any L s i n), Y)
  | 0, i, e => by
    unfold fn_249_18
    refine lp_r ?_
    show fn_249_18b Y (Int32.ofInt s) (Int32.ofNat i) = _
    unfold fn_249_18b
    rw [h.1.1, if_pos (aa_le32.mpr (by rw [zz_ofN (by omega), zz_ofN (by omega)]; omega))]
    rfl
  | n + 1, i, e => by
    obtain ⟨a1, -⟩ := rl_at h (show i < L.length by omega)
    have b1 := y_s_b hb (show i < L.length by omega)
    have k1 : ¬ Int32.ofNat L.length ≤ Int32.ofNat i := fun z => by have := aa_le32.mp z; rw [zz_ofN (by omega), zz_ofN (by omega)] at this; omega
    have z : Int32.ofInt (y_s1 L i) = Int32.ofInt s ↔ y_s1 L i = s := yi_eq (by omega) (by omega)
    show _ = (Int32.ofInt (if y_s1 L i = s then 1 else y_any L s (i + 1) n), Y)
    by_cases c : y_s1 L i = s
    · rw [if_pos c]
      unfold fn_249_18
      refine lp_r ?_
      show fn_249_18b Y (Int32.ofInt s) (Int32.ofNat i) = _
      unfold fn_249_18b
      rw [h.1.1, if_neg k1, zz_toN (by omega), a1, if_neg (fun q => q (z.mpr c))]
      rfl
    · rw [if_neg c, ← rl_249 hs hb h l16 n (i + 1) (by omega)]
      unfold fn_249_18
      refine lp_l ?_
      show fn_249_18b Y (Int32.ofInt s) (Int32.ofNat i) = _
      unfold fn_249_18b
      rw [h.1.1, if_neg k1, zz_toN (by omega), a1, if_pos (mt z.mp c), aa_succ]
noncomputable def y_hit (a : Nat → Int32) (t : Nat) (lst : List (yBell × List fl_T)) (d s : Int) : Int := if 0 ≤ d ∧ d ≤ 35999 then y_any (yRq a t lst d) s 0 (yRq a t lst d).length else 0
theorem y_hit_b (a : Nat → Int32) (t : Nat) (lst : List (yBell × List fl_T)) (d s : Int) : y_hit a t lst d s = 0 ∨ y_hit a t lst d s = 1 := by
  unfold y_hit
  split
  · exact y_any_b _ _ _ _
  · exact Or.inl rfl
theorem y_249 {a : Nat → Int32} {X : aa_G} (W : wd_g X) (e : X 541 = a) (ht : (t : Int) < (a 0).toInt) (Br : yBr a lst) (hd : -1000000 ≤ day ∧ day ≤ 1000000) (hs : 0 ≤ s ∧ s ≤ 86399) : (fn_249 X (Int32.ofNat t) (Int32.ofInt day) (Int32.ofInt s)).1 = Int32.ofInt (y_hit a t lst day s) ∧ wd_g (fn_249 X (Int32.ofNat t) (Int32.ofInt day) (Int32.ofInt s)).2 ∧ (fn_249 X (Int32.ofNat t) (Int32.ofInt day) (Int32.ofInt s)).2 541 = a ∧ ∀ j, (fn_249 X (Int32.ofNat t) (Int32.ofInt day) (Int32.ofInt s)).2 551 j = X 551 j := by
  subst e
  unfold fn_249 y_hit
  by_cases c : 0 ≤ day ∧ day ≤ 35999
  · rw [if_pos (y_193 c), if_pos c]
    obtain ⟨L, f⟩ := rl_layu (lst := lst) (day := day) W ht Br (by omega)
    have hb := yRq_b (d := day) (yWb_of W) ht Br
    have l16 := yRq_len (t := t) (d := day) Br
    have h9 := rl_249 hs hb L l16 (yRq (X 541) t lst day).length 0 (by omega)
    unfold fn_249_15
    rw [show fn_249_18 (fn_212 X (Int32.ofNat t) (Int32.ofInt day)) (Int32.ofInt s) 0 = _ from h9]
    exact ⟨rfl, L.2.2.1, L.2.2.2, fun j => f 551 j (Or.inr rfl)⟩
  · rw [if_neg (fun z => z (ti_193z.mpr (by rw [yi_T (by omega)]; exact c))), if_neg c]
    exact ⟨rfl, W, rfl, fun _ => rfl⟩
/-- same: the seconds are kept aside -/
theorem sa_0 {b1 b2 : Int32} {N : Nat} (hN : N ≤ 16) {S : Nat → Int32} : ∀ (n k : Nat) (X : aa_G), k + n = N → (∀ j, j < N → X 546 j = S j) → (∀ j, j < k → X 551 j = S j) → ∃ Z : aa_G, fn_248_33 X b1 b2 (Int32.ofNat N) (Int32.ofNat k) = fn_248_65 Z b1 b2 (Int32.ofNat N) 0 0 ∧ (∀ a j, a ≠ 551 → Z a j = X a j) ∧ ∀ j, j < N → Z 551 j = S j
  | 0, k, X, e, h, h2 => by
    refine ⟨X, ?_, fun _ _ _ => rfl, fun j hj => h2 j (by omega)⟩
    unfold fn_248_33
    refine lp_r ?_
    dsimp only
    unfold fn_248_33b
    rw [if_pos (aa_le32.mpr (by rw [zz_ofN (by omega), zz_ofN (by omega)]; omega))]
  | n + 1, k, X, e, h, h2 => by
    obtain ⟨Z, z1, z2, z3⟩ := sa_0 (b1 := b1) (b2 := b2) hN (S := S) n (k + 1) (zz_w X 551 k (X 546 k)) (by omega) (fun j hj => (aa_w_ne _ _ (by omega)).trans (h j hj)) (fun j hj => by
      rcases Nat.lt_or_eq_of_le (Nat.le_of_lt_succ hj) with z | z
      · rw [aa_w_ne _ _ (by omega)]
        exact h2 j z
      · rw [z, aa_w_at]
        exact h k (by omega))
    refine ⟨Z, ?_, fun a j ha => (z2 a j ha).trans (aa_w_ne _ _ (by omega)), z3⟩
    rw [← z1]
    unfold fn_248_33
    refine lp_l ?_
    dsimp only
    unfold fn_248_33b
    rw [if_neg (fun z => by have := aa_le32.mp z; rw [zz_ofN (by omega), zz_ofN (by omega)] at this; omega), zz_toN (by omega), aa_succ]
noncomputable def sa_f (a : Nat → Int32) (t t2 : Nat) (lst : List (yBell × List fl_T)) (day : Int) (d : Nat) (s : Int) : Int := s + y_hit a t2 lst (s_ovD a t t2 day (y_s1 (yRq a t lst day) d)) (s_ovS a t t2 day (y_s1 (yRq a t lst day) d))
theorem m_248 (W : wd_g g) (ht : (t : Int) < (g 541 0).toInt) (ht2 : (t2 : Int) < (g 541 0).toInt) (Br : yBr (g 541) lst) (hd : 0 ≤ day ∧ day ≤ 35999) : (fn_248 g (Int32.ofInt (4 * (t : Int) + t2)) (Int32.ofInt day)).1 = Int32.ofInt (fd_i (sa_f (g 541) t t2 lst day) 0 (yRq (g 541) t lst day).length 0) := by
  have n4 := W.1
  obtain ⟨k1, k2⟩ := y_key (t := t) (t2 := t2) (by omega) (by omega)
  unfold fn_248
  rw [if_neg (y_239 W ht ht2), if_pos (y_193 hd), k1]
  have L := rl_lay2 (day := day) W ht Br (by omega) W rfl
  have hb := yRq_b (d := day) (yWb_of W) ht Br
  have l16 := yRq_len (t := t) (d := day) Br
  obtain ⟨R, eR⟩ : ∃ R, R = yRq (g 541) t lst day := ⟨_, rfl⟩
  have eF : ∀ d s, sa_f (g 541) t t2 lst day d s = s + y_hit (g 541) t2 lst (s_ovD (g 541) t t2 day (y_s1 R d)) (s_ovS (g 541) t t2 day (y_s1 R d)) := fun d s => by rw [eR]; rfl
  rw [← eR] at L hb l16 ⊢
  generalize fn_212 g (Int32.ofNat t) (Int32.ofInt day) = Z at L ⊢
  unfold fn_248_25
  rw [L.1.1]
  obtain ⟨V, v1, v2, v3⟩ := sa_0 (b1 := Int32.ofInt (4 * (t : Int) + t2)) (b2 := Int32.ofInt day) l16 (S := fun j => Int32.ofInt (y_s1 R j)) R.length 0 Z (by omega) (fun j hj => (rl_at L hj).1) (fun j hj => absurd hj (Nat.not_lt_zero j))
  refine (congrArg Prod.fst v1).trans ?_
  unfold fn_248_65
  refine Eq.trans ?_ (hp_loop (dd := (0, V)) (B := fun z : (aa_G × Int32 × Int32) => fn_248_65b z.1 (Int32.ofInt (4 * (t : Int) + t2)) (Int32.ofInt day) (Int32.ofNat R.length) z.2.1 z.2.2) (enc := fun X (s : Int) d => (X, Int32.ofInt s, Int32.ofNat d)) (F := sa_f (g 541) t t2 lst day) (E := fun s => Int32.ofInt s) (n := R.length) (P := fun X => wd_g X ∧ X 541 = g 541 ∧ ∀ j, j < R.length → X 551 j = Int32.ofInt (y_s1 R j)) (I := fun _ _ => True) ?_ ?_ R.length 0 V 0 ⟨wd_of L.2.2.1 fun a j z => v2 a j (by omega), (funext fun j => v2 541 j (by omega)).trans L.2.2.2, v3⟩ trivial (by omega))
  · rfl
  · rintro X s d ⟨p1, p2, p3⟩ - hdn
    have b1 := y_s_b hb hdn
    have hc : ((Int32.ofInt (y_s1 R d)).toInt64).toInt = y_s1 R d := by rw [Int32.toInt_toInt64, yi_T (by omega)]
    obtain ⟨d1, d2, d3, d4⟩ := y_208 (t := t) (t2 := t2) (c := (Int32.ofInt (y_s1 R d)).toInt64) p1 (by rw [p2]; exact ht) (by rw [p2]; exact ht2) hd hc (by omega)
    rw [p2] at d1 d2 d4
    have d5 : ∀ j, fn_208 X (Int32.ofNat t) (Int32.ofInt day).toInt64 (Int32.ofInt (y_s1 R d)).toInt64 (Int32.ofNat t2) 551 j = X 551 j := fun j => (mk_208x (b := Int32.ofInt day) (c := (Int32.ofInt (y_s1 R d)).toInt64) p1 (by rw [p2]; exact ht) (by rw [p2]; exact ht2) (by rw [yi_T (by omega)]; exact hd) (by rw [hc]; omega)).2.2 551 j (by omega)
    have ob := s_ov_b (s := y_s1 R d) (yWb_of W) ht ht2 hd (by omega)
    rw [eF]
    dsimp only
    unfold fn_248_65b
    rw [if_neg (fun z => by have := aa_le32.mp z; rw [zz_ofN (by omega), zz_ofN (by omega)] at this; omega), zz_toN (by omega), p3 d hdn, k1, k2]
    generalize fn_208 X (Int32.ofNat t) (Int32.ofInt day).toInt64 (Int32.ofInt (y_s1 R d)).toInt64 (Int32.ofNat t2) = U at d1 d2 d3 d4 d5 ⊢
    unfold fn_248_91 fn_248_108 fn_248_116
    rw [k1, k2, d1, d2]
    obtain ⟨c1, c2, c3, c4⟩ := y_249 (t := t2) (lst := lst) (day := s_ovD (g 541) t t2 day (y_s1 R d)) (s := s_ovS (g 541) t t2 day (y_s1 R d)) d3 d4 ht2 Br (by omega) ob.2
    have hh := y_hit_b (g 541) t2 lst (s_ovD (g 541) t t2 day (y_s1 R d)) (s_ovS (g 541) t t2 day (y_s1 R d))
    generalize fn_249 U (Int32.ofNat t2) (Int32.ofInt (s_ovD (g 541) t t2 day (y_s1 R d))) (Int32.ofInt (s_ovS (g 541) t t2 day (y_s1 R d))) = H at c1 c2 c3 c4 ⊢
    rw [c1, aa_succ]
    refine ⟨H.2, ?_, ⟨c2, c3, fun j hj => (c4 j).trans ((d5 j).trans (p3 j hj))⟩, trivial⟩
    rcases hh with q | q
    · rw [q, if_pos (show Int32.ofInt 0 = 0 from rfl), show Int32.ofInt s + 0 = Int32.ofInt (s + 0) from yi_add s 0]
    · rw [q, if_neg (show ¬ Int32.ofInt 1 = 0 by decide), show Int32.ofInt s + 1 = Int32.ofInt (s + 1) from yi_add s 1]
  · rintro X s ⟨p1, p2, p3⟩ -
    refine ⟨X, ?_⟩
    dsimp only
    unfold fn_248_65b
    rw [if_pos (aa_le32.mpr (Int.le_refl _))]
end YM86
