/-! the model's deed: a row copied onto a row, whatever the ints are; and parts -/
section ZR
variable {X : zz_X} {m pc : Nat} {lv : zz_V} {h : zz_H} {φ : Option Value → zz_H → Prop}
theorem zz_fin.ial {i : Int32} {k n : Nat} {r : List Value} {x y u w : Nat} {vv : Value} {sw : List (Int × Nat)} (hT : zz_T m pc = some (.iaload, (x, y, u, w), vv, sw)) (ha : zz_arr h (k + 1) 0 = some n) (hb : zz_inb i n = true) (kk : zz_fin X m (pc + 1, lv, .int (h.2.2 (k + 1) i.toNatClampNeg) :: r, h) φ) : zz_fin X m (pc, lv, .int i :: .ref (k + 1) :: r, h) φ := by
  refine zz_fin.step1 hT ?_ kk
  show zz_ial X pc lv (.int i :: .ref (k + 1) :: r) h = _
  unfold zz_ial
  dsimp only
  rw [ha]
  dsimp only
  rw [if_pos hb]
  rfl
theorem zz_fin.ias {i a : Int32} {k n : Nat} {r : List Value} {x y u w : Nat} {vv : Value} {sw : List (Int × Nat)} (hT : zz_T m pc = some (.iastore, (x, y, u, w), vv, sw)) (ha : zz_arr h (k + 1) 0 = some n) (hb : zz_inb i n = true) (kk : zz_fin X m (pc + 1, lv, r, (h.1, (h.2.1, zz_w h.2.2 (k + 1) i.toNatClampNeg a))) φ) : zz_fin X m (pc, lv, .int a :: .int i :: .ref (k + 1) :: r, h) φ := by
  refine zz_fin.step1 hT ?_ kk
  show zz_ias pc lv (.int a :: .int i :: .ref (k + 1) :: r) h = _
  unfold zz_ias
  dsimp only
  rw [ha]
  dsimp only
  rw [if_pos hb]
  rfl
end ZR
theorem zz_ofN {n : Nat} (h : n < 2147483648) : (Int32.ofNat n).toInt = n := Int32.toInt_ofNat_of_lt (by omega)
theorem zz_inbN {n l : Nat} (h : n < l) (hl : l < 2147483648) : zz_inb (Int32.ofNat n) l = true := by
  have e := zz_ofN (show n < 2147483648 by omega)
  have e0 : (0 : Int32).toInt = 0 := by decide
  refine decide_eq_true ?_
  rintro (q | q)
  · have := Int32.lt_iff_toInt_lt.mp q
    omega
  · have e2 : (Int32.ofNat n).toNatClampNeg = (Int32.ofNat n).toInt.toNat := rfl
    rw [e2, e] at q
    omega
theorem zz_row (t k : Nat) : (399 : Int32) * Int32.ofNat t + Int32.ofNat k = Int32.ofNat (399 * t + k) := by
  rw [Int32.ofNat_add, Int32.ofNat_mul]
  rfl
theorem zz_toN {n : Nat} (h : n < 2147483648) : (Int32.ofNat n).toNatClampNeg = n := by
  have e : (Int32.ofNat n).toNatClampNeg = (Int32.ofNat n).toInt.toNat := rfl
  rw [e, zz_ofN h]
  rfl
theorem zz_w_ne (g : Nat → Nat → Int32) {a b : Nat} (v : Int32) {c j : Nat} (h : ¬ (c = a ∧ j = b)) : zz_w g a b v c j = g c j := by
  by_cases hc : c = a
  · subst hc
    rw [zz_w_self]
    unfold upd
    rw [if_neg fun e => h ⟨rfl, e⟩]
  · rw [zz_w_other _ _ _ hc]
theorem row_loop (f t : Nat) (hf : f < 16) (ht : t < 16) (n : Nat) : ∀ (k : Nat), n + k = 399 → ∀ (g : Nat → Nat → Int32), zz_fin none 152 (2, [some (.ref 540), some (.int (Int32.ofNat f)), some (.int (Int32.ofNat t)), some (.int (Int32.ofNat k))], [], ((553, 15206), (zz_ly, g))) (fun v h => v = none ∧ ∃ g', h = ((553, 15206), (zz_ly, g')) ∧ ∀ c j, ¬ (c = 541 ∧ 399 * t ≤ j) → g' c j = g c j) := by
  induction n with
  | zero =>
    intro k hk g
    refine zz_fin.steps (n := 2) (s' := (6, [some (.ref 540), some (.int (Int32.ofNat f)), some (.int (Int32.ofNat t)), some (.int (Int32.ofNat k))], [.int 399, .int (Int32.ofNat k)], ((553, 15206), (zz_ly, g)))) rfl ?_
    refine zz_fin.ic rfl (fun c => ?_) (fun c => ?_)
    · exact zz_fin.at (n := 1) rfl ⟨rfl, g, rfl, fun c j hc => rfl⟩
    · refine absurd (decide_eq_true ?_) c
      refine Int32.le_iff_toInt_le.mpr ?_
      rw [zz_ofN (by omega), show (399 : Int32).toInt = 399 by decide]
      omega
  | succ n ih =>
    intro k hk g
    refine zz_fin.steps (n := 2) (s' := (6, [some (.ref 540), some (.int (Int32.ofNat f)), some (.int (Int32.ofNat t)), some (.int (Int32.ofNat k))], [.int 399, .int (Int32.ofNat k)], ((553, 15206), (zz_ly, g)))) rfl ?_
    refine zz_fin.ic rfl (fun c => ?_) (fun c => ?_)
    · have c1 := Int32.le_iff_toInt_le.mp (of_decide_eq_true c)
      rw [zz_ofN (by omega), show (399 : Int32).toInt = 399 by decide] at c1
      omega
    · refine zz_fin.steps (n := 14) (s' := (31, [some (.ref 540), some (.int (Int32.ofNat f)), some (.int (Int32.ofNat t)), some (.int (Int32.ofNat k))], [.int (399 * Int32.ofNat f + Int32.ofNat k), .ref 541, .int (399 * Int32.ofNat t + Int32.ofNat k), .ref 541], ((553, 15206), (zz_ly, g)))) rfl ?_
      rw [zz_row, zz_row]
      refine zz_fin.ial (n := 6384) rfl rfl (zz_inbN (by omega) (by omega)) ?_
      refine zz_fin.ias (n := 6384) rfl rfl (zz_inbN (by omega) (by omega)) ?_
      rw [zz_toN (by omega), zz_toN (by omega)]
      refine zz_fin.steps (n := 2) (s' := (2, [some (.ref 540), some (.int (Int32.ofNat f)), some (.int (Int32.ofNat t)), some (.int (Int32.ofNat k + 1))], [], ((553, 15206), (zz_ly, (zz_w g 541 (399 * t + k) (g 541 (399 * f + k))))))) rfl ?_
      rw [show Int32.ofNat k + 1 = Int32.ofNat (k + 1) from (Int32.ofNat_add k 1).symm]
      refine (ih (k + 1) (by omega) _).mono ?_
      rintro v h ⟨rfl, g', rfl, hg⟩
      exact ⟨rfl, g', rfl, fun c j hc => by rw [hg c j hc, zz_w_ne _ _ fun e => hc ⟨e.1, by omega⟩]⟩
theorem row_copy (f t : Nat) (hf : f < 16) (ht : t < 16) (g : Nat → Nat → Int32) : zz_fin none 152 (0, zz_in [.ref 540, .int (Int32.ofNat f), .int (Int32.ofNat t)] (zz_nl 152), [], ((553, 15206), (zz_ly, g))) (fun v h => v = none ∧ ∃ g', h = ((553, 15206), (zz_ly, g')) ∧ ∀ c j, ¬ (c = 541 ∧ 399 * t ≤ j) → g' c j = g c j) := by
  refine zz_fin.steps (n := 2) (s' := (2, [some (.ref 540), some (.int (Int32.ofNat f)), some (.int (Int32.ofNat t)), some (.int (Int32.ofNat 0))], [], ((553, 15206), (zz_ly, g)))) rfl ?_
  exact row_loop f t hf ht 399 0 rfl g
theorem deedOf_0 (g : Nat → Nat → Int32) (h0 : g 540 1 = 0) : zz_fin none 157 (0, zz_in [.ref 540, .int 0] (zz_nl 157), [], ((553, 15206), (zz_ly, g))) (fun v h => v = none ∧ ∃ g', h = ((553, 15206), (zz_ly, g')) ∧ ∀ j, j < 399 → g' 541 j = g 541 j) := by
  refine zz_fin.steps (n := 2) (s' := (4, [some (.ref 540), some (.int 0), none], [.int (g 540 1)], ((553, 15206), (zz_ly, g)))) rfl ?_
  rw [h0]
  refine zz_fin.steps (n := 6) (s' := (49, [some (.ref 540), some (.int 0), none], [.ref 540, .int 3, .int 0, .ref 540], ((553, 15206), (zz_ly, g)))) rfl ?_
  refine zz_fin.steps (n := 1) (s' := (52, [some (.ref 540), some (.int 0), none], [.int (g 540 1), .int 3, .int 0, .ref 540], ((553, 15206), (zz_ly, g)))) rfl ?_
  rw [h0]
  refine zz_fin.steps (n := 1) (s' := (53, [some (.ref 540), some (.int 0), none], [.int 3, .int 0, .ref 540], ((553, 15206), (zz_ly, g)))) rfl ?_
  refine zz_fin.call rfl rfl (Nat.le_of_ble_eq_true rfl) (row_copy 0 3 (by omega) (by omega) g) ?_
  rintro v h ⟨rfl, g1, rfl, hg⟩
  refine zz_fin.steps (n := 6) (s' := (66, [some (.ref 540), some (.int 0), none], [], ((553, 15206), (zz_ly, (zz_w g1 540 1 (g1 540 1 + 1)))))) rfl ?_
  refine zz_fin.at (n := 1) rfl ⟨rfl, _, rfl, fun j hj => ?_⟩
  rw [zz_w_ne _ _ fun e => absurd e.1 (by omega), hg 541 j fun e => by have := e.2; omega]
theorem parts_m (g : Nat → Nat → Int32) (hg : ∀ c, 540 ≤ c → g c = zz_g0 c) (n : Int32) (hn : 1 ≤ n ∧ n ≤ 3600) : zz_fin none 256 (0, zz_in [.ref 540, .int n] (zz_nl 256), [], ((553, 15206), (zz_ly, g))) (fun v h => v = some (.int 60) ∧ h.1 = zz_hs.1) := by
  refine zz_fin.steps (n := 3) (s' := (5, [some (.ref 540), some (.int n)], [.int 3600, .int 1, .int n], ((553, 15206), (zz_ly, g)))) rfl ?_
  refine zz_fin.call (ψ := fun v h => v = some (.int 1) ∧ h = ((553, 15206), (zz_ly, g))) rfl rfl (Nat.le_of_ble_eq_true rfl) (zz_within1 (Or.inr rfl) hn) ?_
  rintro v h ⟨rfl, rfl⟩
  refine zz_fin.steps (n := 4) (s' := (14, [some (.ref 540), some (.int n)], [.int n, .int 1, .ref 540], ((553, 15206), (zz_ly, g)))) rfl ?_
  refine zz_fin.call (ψ := fun v h => v = some (.int 60) ∧ h.1 = zz_hs.1) rfl rfl (Nat.le_of_ble_eq_true rfl) ?_ ?_
  · refine zz_fin.steps (n := 1) (s' := (1, [some (.ref 540), some (.int 1), some (.int n), none], [.ref 540], ((553, 15206), (zz_ly, g)))) rfl ?_
    refine zz_fin.call (ψ := fun v h => v = none ∧ ∃ g', h = ((553, 15206), (zz_ly, g')) ∧ ∀ j, j < 399 → g' 541 j = g 541 j) rfl rfl (Nat.le_of_ble_eq_true rfl) ?_ ?_
    · refine zz_fin.steps (n := 2) (s' := (2, [some (.ref 540)], [.int 0, .ref 540], ((553, 15206), (zz_ly, g)))) rfl ?_
      refine zz_fin.call rfl rfl (Nat.le_of_ble_eq_true rfl) (deedOf_0 g (by rw [hg 540 (by omega)]; rfl)) ?_
      rintro v h ⟨rfl, g1, rfl, h1⟩
      exact zz_fin.at (n := 1) rfl ⟨rfl, g1, rfl, h1⟩
    · rintro v h ⟨rfl, g1, rfl, h1⟩
      refine zz_fin.steps (n := 3) (s' := (9, [some (.ref 540), some (.int 1), some (.int n), none], [.int 1, .ref 541], ((553, 15206), (zz_ly, g1)))) rfl ?_
      refine zz_fin.steps (n := 1) (s' := (10, [some (.ref 540), some (.int 1), some (.int n), none], [.int (g1 541 1)], ((553, 15206), (zz_ly, g1)))) rfl ?_
      rw [h1 1 (by omega), hg 541 (by omega)]
      refine zz_fin.steps (n := 7) (s' := (19, [some (.ref 540), some (.int 1), some (.int n), some (.int 60)], [.int 60], ((553, 15206), (zz_ly, (zz_w g1 541 1 n))))) rfl ?_
      exact zz_fin.at (n := 1) rfl ⟨rfl, rfl⟩
  · rintro v h ⟨rfl, hh⟩
    refine zz_fin.steps (n := 1) (s' := (21, [some (.ref 540), some (.int n)], [.int 60], h)) rfl ?_
    exact zz_fin.at (n := 1) rfl ⟨rfl, hh⟩
/-! a run that keeps the shapes -/
def zz_kp (e : zz_I) (st : List Value) : Bool := match e with
  | (i, _, _, _) => match i with
    | .putfield _ => match st with
      | .int _ :: _ => true
      | _ => false
    | .aastore => false
    | .new _ => false
    | .newarray _ => false
    | .anewarray _ => false
    | _ => true
theorem zz_step_kp {X : zz_X} {us : Nat → List Nat} {rt pc : Nat} {q : zz_I} {lv : zz_V} {st : List Value} {h : zz_H} {s' : zz_S} (hs : zz_step X us rt q pc lv st h = some (.inl s')) (hn : zz_kp q st = true) : s'.2.2.2.1 = h.1 ∧ s'.2.2.2.2.1 = h.2.1 := by
  obtain ⟨i, ⟨x, y, u, w⟩, v, sw⟩ := q
  cases i with
  | putfield n =>
    obtain ⟨a, r, fs, ho, ⟨b, rfl, -, -, rfl⟩ | ⟨q, q0, rfl, -, -, rfl⟩⟩ := zz_put_ok hs
    · exact ⟨rfl, rfl⟩
    · cases hn
  | iastore =>
    obtain ⟨a, i, r, c, n, rfl, ho, -, rfl⟩ := zz_ias_ok hs
    exact ⟨rfl, rfl⟩
  | bastore =>
    obtain ⟨a, i, r, c, n, t, rfl, ho, -, ⟨-, rfl⟩ | ⟨-, rfl⟩⟩ := zz_bas_ok hs
    · exact ⟨rfl, rfl⟩
    · exact ⟨rfl, rfl⟩
  | aastore => cases hn
  | new n => cases hn
  | newarray n => cases hn
  | anewarray n => cases hn
  | invokestatic n =>
    simp only [zz_step] at hs
    split at hs
    · simp only [zz_cs, zz_call] at hs
      repeat' split at hs
      all_goals cases hs
    · split at hs
      · obtain ⟨n, sp, dp, r, a, d, na, nb, rfl, ha, -, -, rfl⟩ := zz_cpy_ok hs
        exact ⟨rfl, rfl⟩
      · split at hs
        · obtain ⟨a, d, r, -, -, rfl⟩ := zz_mm_ok hs
          exact ⟨rfl, rfl⟩
        · split at hs
          · obtain ⟨a, d, r, -, -, rfl⟩ := zz_mm_ok hs
            exact ⟨rfl, rfl⟩
          · split at hs
            · obtain ⟨a, r, -, -, rfl⟩ := zz_ma_ok hs
              exact ⟨rfl, rfl⟩
            · cases hs
  | _ =>
    simp only [zz_step, zz_go, zz_int, zz_lng, zz_rfl, zz_is, zz_ls, zz_as, zz_i2, zz_l2, zz_if, zz_ic, zz_get, zz_ial, zz_bal, zz_aal, zz_len, zz_call, zz_cs, zz_cv] at hs
    repeat' split at hs
    all_goals first
      | (cases hs; done)
      | (cases hs; exact ⟨rfl, rfl⟩)
def zz_fl (P : zz_P) (us : Nat → List Nat) (X : zz_X) : Nat → Nat → zz_S → Bool
  | 0, _, _ => true
  | n + 1, m, (pc, lv, st, h) => match P.1 m pc with
    | none => true
    | some e => match zz_step X us (P.2.1 m) e pc lv st h with
      | none => true
      | some (.inl s) => zz_kp e st && zz_fl P us X n m s
      | some (.inr (.inl _)) => true
      | some (.inr (.inr (m', as, rest))) => match zz_walk P us X n m' (0, zz_in as (P.2.2 m'), [], h) with
        | some (.inr (_, v, h')) => zz_fl P us X n m' (0, zz_in as (P.2.2 m'), [], h) && zz_fl P us X n m (pc + 3, lv, v.toList ++ rest, h')
        | _ => true
theorem zz_walk_fl {P : zz_P} {us : Nat → List Nat} {X : zz_X} : ∀ (n m : Nat) (s : zz_S) (r : zz_S ⊕ zz_R), zz_walk P us X n m s = some r → zz_fl P us X n m s = true → (zz_rz r).1 = s.2.2.2.1 ∧ (zz_rz r).2.1 = s.2.2.2.2.1
  | 0, m, s, r, h, hn => by
    cases h
    exact ⟨rfl, rfl⟩
  | n + 1, m, (pc, lv, st, h), r, hw, hn => by
    unfold zz_walk at hw
    unfold zz_fl at hn
    cases hT : P.1 m pc with
    | none => rw [hT] at hw; cases hw
    | some e =>
      rw [hT] at hw hn
      dsimp only at hw hn
      cases hs : zz_step X us (P.2.1 m) e pc lv st h with
      | none => rw [hs] at hw; cases hw
      | some o =>
        rw [hs] at hw hn
        cases o with
        | inl s' =>
          dsimp only at hw hn
          rw [Bool.and_eq_true] at hn
          have h1 := zz_walk_fl n m s' r hw hn.2
          have h2 := zz_step_kp hs hn.1
          exact ⟨h1.1.trans h2.1, h1.2.trans h2.2⟩
        | inr o =>
          cases o with
          | inl r' =>
            cases hw
            have h1 := zz_step_end hs
            show r'.2.2.1 = h.1 ∧ r'.2.2.2.1 = h.2.1
            rw [h1.2.1]
            exact ⟨rfl, rfl⟩
          | inr o =>
            obtain ⟨m2, as, rest⟩ := o
            dsimp only at hw hn
            by_cases hf : (zz_in as 0).length ≤ P.2.2 m2
            · rw [if_pos hf] at hw
              cases hc : zz_walk P us X n m2 (0, zz_in as (P.2.2 m2), [], h) with
              | none => rw [hc] at hw; cases hw
              | some o2 =>
                rw [hc] at hw hn
                cases o2 with
                | inl s2 => cases hw
                | inr q =>
                  obtain ⟨q, v, h'⟩ := q
                  dsimp only at hw hn
                  rw [Bool.and_eq_true] at hn
                  have h1 := zz_walk_fl n m _ r hw hn.2
                  have h2 := zz_walk_fl n m2 _ _ hc hn.1
                  exact ⟨h1.1.trans h2.1, h1.2.trans h2.2⟩
            · rw [if_neg hf] at hw
              cases hw
def zz_rmb : Bool := match zz_walk zz_Q zz_us none 187 40 (0, zz_in [.ref 66, .ref 2] (zz_nl 40), [], zz_hs) with
  | some (.inr (_, none, h)) => decide (h.2.2 2 1 = 60) && (zz_fl zz_Q zz_us none 187 40 (0, zz_in [.ref 66, .ref 2] (zz_nl 40), [], zz_hs) && (zz_wk zz_Q zz_us none 187 40 (0, zz_in [.ref 66, .ref 2] (zz_nl 40), [], zz_hs)).all (fun q => Nat.blt q.1 540))
  | _ => false
set_option maxRecDepth 100000 in
theorem zz_rmb_ok : zz_rmb = true := by decide +kernel
theorem remember_0 : ∃ g1 : Nat → Nat → Int32, g1 2 1 = 60 ∧ (∀ c, 540 ≤ c → g1 c = zz_g0 c) ∧ zz_fin none 40 (0, zz_in [.ref 66, .ref 2] (zz_nl 40), [], zz_hs) (fun v h => v = none ∧ h = ((553, 15206), (zz_ly, g1))) := by
  have h := zz_rmb_ok
  unfold zz_rmb at h
  split at h
  · rename_i q h1 e1
    simp only [Bool.and_eq_true, decide_eq_true_eq] at h
    obtain ⟨a1, a2, a3⟩ := h
    have b := zz_walk_fl _ _ _ _ e1 a2
    obtain ⟨n1, ly1, g1⟩ := h1
    obtain ⟨b1, b2⟩ := b
    have b1 : n1 = (553, 15206) := b1
    have b2 : ly1 = zz_ly := b2
    subst b1
    subst b2
    refine ⟨g1, a1, fun c hc => ?_, ⟨187, q, none, _, e1, rfl, rfl⟩⟩
    funext j
    refine zz_walk_wk _ _ _ _ e1 c j fun hm => ?_
    have := List.all_eq_true.mp a3 _ hm
    have := Nat.le_of_ble_eq_true this
    have : c < 540 := this
    omega
  · cases h
theorem xx_parts_n (a : Int32) (hc : ¬ (1 ≤ a ∧ a ≤ 3600)) : zz_fin none 61 (0, zz_in [.ref 1, .int a] (zz_nl 61), [], zz_hs) (fun v h => v = some (.int (-1)) ∧ h = zz_hs) := by
  refine zz_fin.steps (n := 3) (s' := (5, [some (.ref 1), some (.int a), none], [.int 3600, .int 1, .int a], zz_hs)) rfl ?_
  refine zz_fin.call (ψ := fun v h => v = some (.int 0) ∧ h = zz_hs) rfl rfl (Nat.le_of_ble_eq_true rfl) (zz_within0 (Or.inl rfl) hc) ?_
  rintro v h ⟨rfl, rfl⟩
  refine zz_fin.steps (n := 2) (s' := (12, [some (.ref 1), some (.int a), none], [.int (-1)], zz_hs)) rfl ?_
  exact zz_fin.at (n := 1) rfl ⟨rfl, rfl⟩
theorem mm_parts_n (a : Int32) (hc : ¬ (1 ≤ a ∧ a ≤ 3600)) : zz_fin none 256 (0, zz_in [.ref 540, .int a] (zz_nl 256), [], zz_hs) (fun v h => v = some (.int (-1)) ∧ h = zz_hs) := by
  refine zz_fin.steps (n := 3) (s' := (5, [some (.ref 540), some (.int a)], [.int 3600, .int 1, .int a], zz_hs)) rfl ?_
  refine zz_fin.call (ψ := fun v h => v = some (.int 0) ∧ h = zz_hs) rfl rfl (Nat.le_of_ble_eq_true rfl) (zz_within0 (Or.inr rfl) hc) ?_
  rintro v h ⟨rfl, rfl⟩
  refine zz_fin.steps (n := 2) (s' := (21, [some (.ref 540), some (.int a)], [.int (-1)], zz_hs)) rfl ?_
  exact zz_fin.at (n := 1) rfl ⟨rfl, rfl⟩
theorem law_c43 (xs : Nat → Int32) : zz_fin (some (6, xs)) 0 (2121, law_lv, [], zz_hs) law_phi := by
  by_cases hc : 1 ≤ xs 1 ∧ xs 1 ≤ 3600
  · obtain ⟨g1, a1, a2, k⟩ := remember_0
    refine law_k43 xs 60 ((553, 15206), (zz_ly, zz_w g1 2 1 (xs 1))) rfl ?_ (parts_m _ (fun c hc => by rw [zz_w_other _ _ _ (by omega)]; exact a2 c hc) _ hc)
    refine zz_fin.steps (n := 3) (s' := (5, [some (.ref 1), some (.int (xs 1)), none], [.int 3600, .int 1, .int (xs 1)], zz_hs)) rfl ?_
    refine zz_fin.call (ψ := fun v h => v = some (.int 1) ∧ h = zz_hs) rfl rfl (Nat.le_of_ble_eq_true rfl) (zz_within1 (Or.inl rfl) hc) ?_
    rintro v h ⟨rfl, rfl⟩
    refine zz_fin.steps (n := 5) (s' := (21, [some (.ref 1), some (.int (xs 1)), none], [.ref 2, .ref 66], zz_hs)) rfl ?_
    refine zz_fin.call rfl rfl (Nat.le_of_ble_eq_true rfl) k ?_
    rintro v h ⟨rfl, rfl⟩
    refine zz_fin.steps (n := 3) (s' := (31, [some (.ref 1), some (.int (xs 1)), none], [.int (g1 2 1)], ((553, 15206), (zz_ly, g1)))) rfl ?_
    rw [a1]
    refine zz_fin.steps (n := 6) (s' := (41, [some (.ref 1), some (.int (xs 1)), some (.int 60)], [.int 60], ((553, 15206), (zz_ly, zz_w g1 2 1 (xs 1))))) rfl ?_
    exact zz_fin.at (n := 1) rfl ⟨rfl, rfl⟩
  · exact law_k43 xs (-1) zz_hs rfl (xx_parts_n _ hc) ((mm_parts_n _ hc).mono fun v h q => ⟨q.1, by rw [q.2]⟩)
