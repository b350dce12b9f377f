/-! QUESTIONS TOLD IN NUMBERS (2): watch, exact, by the model's words -/
section YM76
variable {Y : aa_G} {t : Nat} {day f k i : Int}
theorem y_191 (W : wd_g Y) (ht : (t : Int) < (Y 541 0).toInt) (hd : 0 ≤ day ∧ day ≤ 35999) : ¬ fn_191 Y (Int32.ofNat t) (Int32.ofInt day) = 0 := fun z => by
  have n4 := W.1
  refine (gd_191z W).mp z ⟨?_, ?_⟩
  · rw [yi_n, y_ofn (show t ≤ 2147483647 by omega)]
    omega
  · rw [yi_T (by omega)]
    exact hd
theorem y_192 (W : wd_g Y) (ht : (t : Int) < (Y 541 0).toInt) : ¬ fn_192 Y (Int32.ofNat t) = 0 := fun z => by
  have n4 := W.1
  refine (gd_192z W).mp z ?_
  rw [yi_n, y_ofn (show t ≤ 2147483647 by omega)]
  omega
theorem y_154 {a lo hi : Int} (ha : -2147483648 ≤ a ∧ a ≤ 2147483647) (hl : -2147483648 ≤ lo ∧ lo ≤ 2147483647) (hh : -2147483648 ≤ hi ∧ hi ≤ 2147483647) (h : lo ≤ a ∧ a ≤ hi) : ¬ fn_154 (Int32.ofInt a) (Int32.ofInt lo) (Int32.ofInt hi) = 0 := fun z => ti_154z.mp z (by rw [yi_T ha, yi_T hl, yi_T hh]; exact h)
theorem y_225 {Z : aa_G} {x l : Int} (h : (Z 540 18).toInt = l) (hl : 0 ≤ l ∧ l ≤ 172798) (hx : 0 ≤ x ∧ x ≤ 12) : fn_225 Z (Int32.ofInt x) = Int32.ofInt ((x * l + 11) / 12) := by
  have m := yi_pb (a := x) (b := l) (x := 12) (y := 172798) (by omega) (by omega)
  have m0 : 0 ≤ x * l := Int.mul_nonneg hx.1 hl.1
  unfold fn_225
  rw [show Z 540 18 = Int32.ofInt l by rw [← h, yi_of], show (11 : Int32) = Int32.ofInt 11 from rfl, show (12 : Int32) = Int32.ofInt 12 from rfl, yi_mul, yi_add, yi_div (by omega) (by omega)]
/-- an hour's seconds, as the model tells them -/
def s_h (x l : Int) : Int := (x * l + 11) / 12
theorem yk_h {q x l : Int} (hq : 1 ≤ q) (hl : 1 ≤ l) (hx : 0 ≤ x ∧ x ≤ 12) : yk q (x * q) l = s_h x l := by
  unfold yk s_h
  have m0 : 0 ≤ x * l := Int.mul_nonneg hx.1 (by omega)
  have m1 : x * l ≤ 12 * l := Int.mul_le_mul_of_nonneg_right hx.2 (by omega)
  have e1 : x * q * l = q * (x * l) := by rw [Int.mul_comm x q, Int.mul_assoc]
  have e2 : (x * q * l + 12 * q - 1) / (12 * q) = (x * l + 11) / 12 := by
    rw [e1]
    generalize x * l = m at *
    have k1 : 12 * ((m + 11) / 12) ≤ m + 11 := by omega
    have k2 : m ≤ 12 * ((m + 11) / 12) := by omega
    generalize (m + 11) / 12 = c at *
    have p1 : q * (12 * c) ≤ q * (m + 11) := Int.mul_le_mul_of_nonneg_left k1 (by omega)
    have p2 : q * m ≤ q * (12 * c) := Int.mul_le_mul_of_nonneg_left k2 (by omega)
    have p3 : q * (m + 11) = q * m + q * 11 := Int.mul_add ..
    have p4 : q * (12 * c) = c * (12 * q) := by rw [Int.mul_comm, Int.mul_comm 12 c, Int.mul_assoc]
    have p5 : (c + 1) * (12 * q) = c * (12 * q) + 12 * q := by rw [Int.add_mul, Int.one_mul]
    rw [p4] at p1 p2
    refine Int.le_antisymm (Int.le_of_lt_add_one (Int.ediv_lt_of_lt_mul (by omega) (by rw [p5]; omega))) (Int.le_ediv_of_mul_le (by omega) (by omega))
  rw [e2]
  omega
noncomputable def s_99 (a : Nat → Int32) (t : Nat) (day k i : Int) : Int := match hv_t a t day 1 with
  | none => -2
  | some (u, l) => if i = 0 then u + s_h (3 * k) l else s_h (3 * k + 3) l - s_h (3 * k) l
theorem m_244 (W : wd_g Y) (ht : (t : Int) < (Y 541 0).toInt) (hd : 0 ≤ day ∧ day ≤ 35999) (hk : 0 ≤ k ∧ k ≤ 3) (hi : i = 0 ∨ i = 1) : (fn_244 Y (Int32.ofInt (t : Int)) (Int32.ofInt day) (Int32.ofInt k) (Int32.ofInt i)).1 = Int32.ofInt (s_99 (Y 541) t day k i) := by
  unfold fn_244
  rw [← yi_n t, if_neg (y_191 W ht hd), if_neg (show ¬ fn_154 (Int32.ofInt k) 0 3 = 0 from y_154 (a := k) (lo := 0) (hi := 3) (by omega) (by omega) (by omega) hk), if_pos (show ¬ fn_154 (Int32.ofInt i) 0 1 = 0 from y_154 (a := i) (lo := 0) (hi := 1) (by omega) (by omega) (by omega) (by omega))]
  obtain ⟨-, -, -, v⟩ := lv_half (Int32.ofInt day) 1 W ht (.inr rfl)
  rw [yi_T (a := day) (by omega)] at v
  have v : lv_m (fn_194 Y (Int32.ofNat t) (Int32.ofInt day) 1).1 (fn_194 Y (Int32.ofNat t) (Int32.ofInt day) 1).2 (hv_t (Y 541) t day 1) := v
  have hB := yWb_of W
  generalize fn_194 Y (Int32.ofNat t) (Int32.ofInt day) 1 = Z at v ⊢
  unfold fn_244_37 s_99
  cases e : hv_t (Y 541) t day 1 with
  | none =>
    rw [e] at v
    rw [if_neg (fun z => z (lv_m0 v))]
    rfl
  | some r =>
    obtain ⟨u, l⟩ := r
    rw [e] at v
    obtain ⟨v1, v2, v3⟩ := v
    have hl := hv_bnd2 hB ht e
    have k3 : (3 : Int32) * Int32.ofInt k = Int32.ofInt (3 * k) := yi_mul 3 k
    have k6 : Int32.ofInt (3 * k) + 3 = Int32.ofInt (3 * k + 3) := yi_add (3 * k) 3
    rw [if_pos (by rw [v1]; decide), k3, k6, y_225 v3 (by omega) (by omega), y_225 v3 (by omega) (by omega), show Z.2 540 17 = Int32.ofInt u by rw [← v2, yi_of], yi_sub, yi_add]
    dsimp only
    unfold s_h
    rcases hi with rfl | rfl
    · rw [if_neg (fun z => z rfl), if_pos rfl]
    · rw [if_pos (by decide), if_neg (by decide)]
/-- the twelve hours' common divisor with a length -/
def y_G (l : Int) : Int := if l % 12 = 0 then 12 else if l % 6 = 0 then 6 else if l % 4 = 0 then 4 else if l % 3 = 0 then 3 else if l % 2 = 0 then 2 else 1
theorem y_GE : ∀ r : Nat, r < 12 → ex_G r = Int32.ofInt (y_G (r : Int)) := by decide +kernel
theorem y_Gm (l : Int) : y_G (l % 12) = y_G l := by
  unfold y_G
  rw [show l % 12 % 12 = l % 12 by omega, show l % 12 % 6 = l % 6 by omega, show l % 12 % 4 = l % 4 by omega, show l % 12 % 3 = l % 3 by omega, show l % 12 % 2 = l % 2 by omega]
theorem y_Gb (l : Int) : (1 ≤ y_G l ∧ y_G l ≤ 12) ∧ (l % y_G l = 0 ∧ 12 % y_G l = 0) ∧ ∀ b : Int, y_G l < b → b ≤ 12 → ¬ (l % b = 0 ∧ 12 % b = 0) := by
  have h12 : ∀ b : Int, 1 ≤ b → b ≤ 12 → 12 % b = 0 → b = 1 ∨ b = 2 ∨ b = 3 ∨ b = 4 ∨ b = 6 ∨ b = 12 := fun b h1 h2 h3 => by
    have : b = 1 ∨ b = 2 ∨ b = 3 ∨ b = 4 ∨ b = 5 ∨ b = 6 ∨ b = 7 ∨ b = 8 ∨ b = 9 ∨ b = 10 ∨ b = 11 ∨ b = 12 := by omega
    rcases this with rfl | rfl | rfl | rfl | rfl | rfl | rfl | rfl | rfl | rfl | rfl | rfl <;> revert h3 <;> decide
  unfold y_G
  split
  · exact ⟨by omega, ⟨by omega, rfl⟩, fun b h1 h2 => by omega⟩
  split
  · refine ⟨by omega, ⟨by omega, rfl⟩, fun b h1 h2 h3 => ?_⟩
    rcases h12 b (by omega) h2 h3.2 with rfl | rfl | rfl | rfl | rfl | rfl <;> omega
  split
  · refine ⟨by omega, ⟨by omega, rfl⟩, fun b h1 h2 h3 => ?_⟩
    rcases h12 b (by omega) h2 h3.2 with rfl | rfl | rfl | rfl | rfl | rfl <;> omega
  split
  · refine ⟨by omega, ⟨by omega, rfl⟩, fun b h1 h2 h3 => ?_⟩
    rcases h12 b (by omega) h2 h3.2 with rfl | rfl | rfl | rfl | rfl | rfl <;> omega
  split
  · refine ⟨by omega, ⟨by omega, rfl⟩, fun b h1 h2 h3 => ?_⟩
    rcases h12 b (by omega) h2 h3.2 with rfl | rfl | rfl | rfl | rfl | rfl <;> omega
  · refine ⟨by omega, ⟨by omega, rfl⟩, fun b h1 h2 h3 => ?_⟩
    rcases h12 b (by omega) h2 h3.2 with rfl | rfl | rfl | rfl | rfl | rfl <;> omega
noncomputable def s_98 (a : Nat → Int32) (t : Nat) (day f i : Int) : Int := match hv_t a t day f with
  | none => -2
  | some (_, l) => if i = 0 then l / y_G l else 12 / y_G l
theorem m_241 (W : wd_g Y) (ht : (t : Int) < (Y 541 0).toInt) (hd : 0 ≤ day ∧ day ≤ 35999) (hf : f = 0 ∨ f = 1) (hi : i = 0 ∨ i = 1) : (fn_241 Y (Int32.ofInt (t : Int)) (Int32.ofInt day) (Int32.ofInt f) (Int32.ofInt i)).1 = Int32.ofInt (s_98 (Y 541) t day f i) := by
  unfold fn_241
  rw [← yi_n t, if_neg (y_191 W ht hd), if_neg (show ¬ fn_154 (Int32.ofInt f) 0 1 = 0 from y_154 (a := f) (lo := 0) (hi := 1) (by omega) (by omega) (by omega) (by omega)), if_pos (show ¬ fn_154 (Int32.ofInt i) 0 1 = 0 from y_154 (a := i) (lo := 0) (hi := 1) (by omega) (by omega) (by omega) (by omega))]
  obtain ⟨-, -, -, v⟩ := lv_half (Int32.ofInt day) (Int32.ofInt f) W ht (by rcases hf with rfl | rfl; exact .inl rfl; exact .inr rfl)
  rw [yi_T (a := day) (by omega), yi_T (a := f) (by omega)] at v
  have hB := yWb_of W
  generalize fn_194 Y (Int32.ofNat t) (Int32.ofInt day) (Int32.ofInt f) = Z at v ⊢
  unfold fn_241_37 s_98
  cases e : hv_t (Y 541) t day f with
  | none =>
    rw [e] at v
    rw [if_neg (fun z => z (lv_m0 v))]
    rfl
  | some r =>
    obtain ⟨u, l⟩ := r
    rw [e] at v
    obtain ⟨v1, v2, v3⟩ := v
    have hl := hv_bnd2 hB ht e
    have e18 : Z.2 540 18 = Int32.ofInt l := by rw [← v3, yi_of]
    rw [if_pos (by rw [v1]; decide)]
    have e1 : ex_E 9 (Z.2 540 18, 12) = some (ex_G (l % 12).toNat) := by
      unfold ex_E
      rw [if_neg (show ¬ (12 : Int32) = 0 by decide)]
      dsimp only
      rw [e18, show (12 : Int32) = Int32.ofInt 12 from rfl, yi_rem (by omega) (by omega)]
      have h9 := ex_EG (l % 12).toNat (by omega)
      rw [yi_n, show (((l % 12).toNat : Nat) : Int) = l % 12 by omega] at h9
      exact h9
    have e2 : ex_G (l % 12).toNat = Int32.ofInt (y_G l) := by
      rw [y_GE _ (by omega), show (((l % 12).toNat : Nat) : Int) = l % 12 by omega, y_Gm]
    have hG := (y_Gb l).1
    rw [ex_run 9 _ _ e1, e2, e18]
    dsimp only
    rcases hi with rfl | rfl
    · rw [if_neg (fun z => z rfl), if_pos rfl, yi_div (by omega) (by omega)]
    · rw [if_pos (by decide), if_neg (by decide), show (12 : Int32) = Int32.ofInt 12 from rfl, yi_div (by omega) (by omega)]
end YM76
