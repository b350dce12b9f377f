/-! NUMBERS of the machine told in Int -/
theorem yi_add (a b : Int) : Int32.ofInt a + Int32.ofInt b = Int32.ofInt (a + b) := (Int32.ofInt_add a b).symm
theorem yi_sub (a b : Int) : Int32.ofInt a - Int32.ofInt b = Int32.ofInt (a - b) := (Int32.ofInt_sub a b).symm
theorem yi_mul (a b : Int) : Int32.ofInt a * Int32.ofInt b = Int32.ofInt (a * b) := (Int32.ofInt_mul a b).symm
theorem yi_neg (a : Int) : -Int32.ofInt a = Int32.ofInt (-a) := (Int32.ofInt_neg a).symm
theorem yi_T {a : Int} (h : -2147483648 ≤ a ∧ a ≤ 2147483647) : (Int32.ofInt a).toInt = a := Int32.toInt_ofInt_of_le (by omega) (by omega)
theorem yi_of (x : Int32) : Int32.ofInt x.toInt = x := Int32.ofInt_toInt x
theorem yi_n (n : Nat) : Int32.ofNat n = Int32.ofInt n := Int32.ofInt_eq_ofNat.symm
theorem yi_cl {a : Int} (h : 0 ≤ a ∧ a ≤ 2147483647) : (Int32.ofInt a).toNatClampNeg = a.toNat := by rw [ti_n, yi_T (by omega)]
theorem yi_lt {a b : Int} (ha : -2147483648 ≤ a ∧ a ≤ 2147483647) (hb : -2147483648 ≤ b ∧ b ≤ 2147483647) : Int32.ofInt a < Int32.ofInt b ↔ a < b := by rw [Int32.lt_iff_toInt_lt, yi_T ha, yi_T hb]
theorem yi_le {a b : Int} (ha : -2147483648 ≤ a ∧ a ≤ 2147483647) (hb : -2147483648 ≤ b ∧ b ≤ 2147483647) : Int32.ofInt a ≤ Int32.ofInt b ↔ a ≤ b := by rw [Int32.le_iff_toInt_le, yi_T ha, yi_T hb]
theorem yi_eq {a b : Int} (ha : -2147483648 ≤ a ∧ a ≤ 2147483647) (hb : -2147483648 ≤ b ∧ b ≤ 2147483647) : Int32.ofInt a = Int32.ofInt b ↔ a = b := by rw [← Int32.toInt_inj, yi_T ha, yi_T hb]
theorem yi_div {a b : Int} (ha : 0 ≤ a ∧ a ≤ 2147483647) (hb : 1 ≤ b ∧ b ≤ 2147483647) : Int32.ofInt a / Int32.ofInt b = Int32.ofInt (a / b) := by
  have q1 : 0 ≤ a / b := Int.ediv_nonneg ha.1 (by omega)
  have q2 : a / b ≤ a := Int.ediv_le_self _ ha.1
  have ta := yi_T (a := a) (by omega)
  have tb := yi_T (a := b) (by omega)
  refine Int32.toInt_inj.mp ?_
  rw [ti_div (by rw [ta]; omega) (by rw [tb]; omega), ta, tb, yi_T (by omega)]
theorem yi_rem {a b : Int} (ha : 0 ≤ a ∧ a ≤ 2147483647) (hb : 1 ≤ b ∧ b ≤ 2147483647) : Int32.ofInt a - Int32.ofInt a / Int32.ofInt b * Int32.ofInt b = Int32.ofInt (a % b) := by
  have q1 : 0 ≤ a % b := Int.emod_nonneg _ (by omega)
  have q2 : a % b < b := Int.emod_lt_of_pos _ (by omega)
  have ta := yi_T (a := a) (by omega)
  have tb := yi_T (a := b) (by omega)
  refine Int32.toInt_inj.mp ?_
  rw [ti_rem (by rw [ta]; omega) (by rw [tb]; omega), ta, tb, yi_T (by omega)]
theorem yi_inb {a : Int} {n : Nat} (h : 0 ≤ a) (h2 : a < n) (hn : n ≤ 2147483647) : zz_inb (Int32.ofInt a) n = true := decide_eq_true fun z => by
  rcases z with z | z
  · have z := (yi_lt (a := a) (b := 0) (by omega) (by omega)).mp z
    omega
  · rw [yi_cl (by omega)] at z
    omega
theorem yi_min {a b : Int} (ha : -2147483648 ≤ a ∧ a ≤ 2147483647) (hb : -2147483648 ≤ b ∧ b ≤ 2147483647) : (if Int32.ofInt b < Int32.ofInt a then Int32.ofInt b else Int32.ofInt a) = Int32.ofInt (min a b) := by
  by_cases c : b < a
  · rw [if_pos ((yi_lt hb ha).mpr c), Int.min_eq_right (by omega)]
  · rw [if_neg (fun z => c ((yi_lt hb ha).mp z)), Int.min_eq_left (by omega)]
theorem yi_max {a b : Int} (ha : -2147483648 ≤ a ∧ a ≤ 2147483647) (hb : -2147483648 ≤ b ∧ b ≤ 2147483647) : (if Int32.ofInt a < Int32.ofInt b then Int32.ofInt b else Int32.ofInt a) = Int32.ofInt (max a b) := by
  by_cases c : a < b
  · rw [if_pos ((yi_lt ha hb).mpr c), Int.max_eq_right (by omega)]
  · rw [if_neg (fun z => c ((yi_lt ha hb).mp z)), Int.max_eq_left (by omega)]
def yabs (a : Int) : Int := if 0 ≤ a then a else -a
theorem yi_abs {a : Int} (ha : -2147483647 ≤ a ∧ a ≤ 2147483647) : (if 0 ≤ Int32.ofInt a then Int32.ofInt a else 0 - Int32.ofInt a) = Int32.ofInt (yabs a) := by
  unfold yabs
  by_cases c : 0 ≤ a
  · rw [if_pos (c := (0 : Int32) ≤ Int32.ofInt a) ((yi_le (a := 0) (by omega) (by omega)).mpr c), if_pos c]
  · rw [if_neg (c := (0 : Int32) ≤ Int32.ofInt a) (fun z => c ((yi_le (a := 0) (by omega) (by omega)).mp z)), if_neg c]
    refine (yi_sub 0 a).trans ?_
    rw [Int.zero_sub]
theorem yi_c_eq {a b : Int} (ha : -2147483648 ≤ a ∧ a ≤ 2147483647) (hb : -2147483648 ≤ b ∧ b ≤ 2147483647) : zz_cmp .eq (Int32.ofInt a) (Int32.ofInt b) = true ↔ a = b := (decide_eq_true_iff (p := Int32.ofInt a = Int32.ofInt b)).trans (yi_eq ha hb)
theorem yi_c_ne {a b : Int} (ha : -2147483648 ≤ a ∧ a ≤ 2147483647) (hb : -2147483648 ≤ b ∧ b ≤ 2147483647) : zz_cmp .ne (Int32.ofInt a) (Int32.ofInt b) = true ↔ a ≠ b := (decide_eq_true_iff (p := Int32.ofInt a ≠ Int32.ofInt b)).trans (not_congr (yi_eq ha hb))
theorem yi_c_lt {a b : Int} (ha : -2147483648 ≤ a ∧ a ≤ 2147483647) (hb : -2147483648 ≤ b ∧ b ≤ 2147483647) : zz_cmp .lt (Int32.ofInt a) (Int32.ofInt b) = true ↔ a < b := (decide_eq_true_iff (p := Int32.ofInt a < Int32.ofInt b)).trans (yi_lt ha hb)
theorem yi_c_ge {a b : Int} (ha : -2147483648 ≤ a ∧ a ≤ 2147483647) (hb : -2147483648 ≤ b ∧ b ≤ 2147483647) : zz_cmp .ge (Int32.ofInt a) (Int32.ofInt b) = true ↔ b ≤ a := (decide_eq_true_iff (p := Int32.ofInt b ≤ Int32.ofInt a)).trans (yi_le hb ha)
theorem yi_c_gt {a b : Int} (ha : -2147483648 ≤ a ∧ a ≤ 2147483647) (hb : -2147483648 ≤ b ∧ b ≤ 2147483647) : zz_cmp .gt (Int32.ofInt a) (Int32.ofInt b) = true ↔ b < a := (decide_eq_true_iff (p := Int32.ofInt b < Int32.ofInt a)).trans (yi_lt hb ha)
theorem yi_c_le {a b : Int} (ha : -2147483648 ≤ a ∧ a ≤ 2147483647) (hb : -2147483648 ≤ b ∧ b ≤ 2147483647) : zz_cmp .le (Int32.ofInt a) (Int32.ofInt b) = true ↔ a ≤ b := (decide_eq_true_iff (p := Int32.ofInt a ≤ Int32.ofInt b)).trans (yi_le ha hb)
theorem yi_z_eq {a : Int} (ha : -2147483648 ≤ a ∧ a ≤ 2147483647) : zz_cond .eq (Int32.ofInt a) = true ↔ a = 0 := (decide_eq_true_iff (p := Int32.ofInt a = Int32.ofInt 0)).trans (yi_eq ha (by omega))
theorem yi_z_ne {a : Int} (ha : -2147483648 ≤ a ∧ a ≤ 2147483647) : zz_cond .ne (Int32.ofInt a) = true ↔ a ≠ 0 := (decide_eq_true_iff (p := Int32.ofInt a ≠ Int32.ofInt 0)).trans (not_congr (yi_eq ha (by omega)))
theorem yi_z_lt {a : Int} (ha : -2147483648 ≤ a ∧ a ≤ 2147483647) : zz_cond .lt (Int32.ofInt a) = true ↔ a < 0 := (decide_eq_true_iff (p := Int32.ofInt a < Int32.ofInt 0)).trans (yi_lt ha (by omega))
theorem yi_z_ge {a : Int} (ha : -2147483648 ≤ a ∧ a ≤ 2147483647) : zz_cond .ge (Int32.ofInt a) = true ↔ 0 ≤ a := (decide_eq_true_iff (p := Int32.ofInt 0 ≤ Int32.ofInt a)).trans (yi_le (by omega) ha)
theorem yi_z_gt {a : Int} (ha : -2147483648 ≤ a ∧ a ≤ 2147483647) : zz_cond .gt (Int32.ofInt a) = true ↔ 0 < a := (decide_eq_true_iff (p := Int32.ofInt 0 < Int32.ofInt a)).trans (yi_lt (by omega) ha)
theorem yi_z_le {a : Int} (ha : -2147483648 ≤ a ∧ a ≤ 2147483647) : zz_cond .le (Int32.ofInt a) = true ↔ a ≤ 0 := (decide_eq_true_iff (p := Int32.ofInt a ≤ Int32.ofInt 0)).trans (yi_le ha (by omega))
/-! long ones -/
theorem yl_add (a b : Int) : Int64.ofInt a + Int64.ofInt b = Int64.ofInt (a + b) := (Int64.ofInt_add a b).symm
theorem yl_sub (a b : Int) : Int64.ofInt a - Int64.ofInt b = Int64.ofInt (a - b) := (Int64.ofInt_sub a b).symm
theorem yl_mul (a b : Int) : Int64.ofInt a * Int64.ofInt b = Int64.ofInt (a * b) := (Int64.ofInt_mul a b).symm
theorem yl_T {a : Int} (h : -9223372036854775808 ≤ a ∧ a ≤ 9223372036854775807) : (Int64.ofInt a).toInt = a := Int64.toInt_ofInt_of_le (by omega) (by omega)
theorem yl_i2l {a : Int} (h : -2147483648 ≤ a ∧ a ≤ 2147483647) : (Int32.ofInt a).toInt64 = Int64.ofInt a := Int64.toInt_inj.mp (by rw [Int32.toInt_toInt64, yi_T h, yl_T (by omega)])
theorem yl_l2i (a : Int) : (Int64.ofInt a).toInt32 = Int32.ofInt a := Int64.toInt32_ofInt
theorem yl_tdiv {a b : Int} (ha : -9223372036854775807 ≤ a ∧ a ≤ 9223372036854775807) (hb : 1 ≤ b ∧ b ≤ 9223372036854775807) : Int64.ofInt a / Int64.ofInt b = Int64.ofInt (a.tdiv b) := by
  have tb := yl_T (a := b) (by omega)
  have ta := yl_T (a := a) (by omega)
  have hn : (Int64.ofInt b) ≠ -1 := fun z => by
    have z := Int64.toInt_inj.mpr z
    rw [tb, show (-1 : Int64).toInt = -1 from rfl] at z
    omega
  have h1 : -a.natAbs ≤ a.tdiv b ∧ a.tdiv b ≤ a.natAbs := by
    have h2 := Int.natAbs_tdiv_le_natAbs a b
    omega
  refine Int64.toInt_inj.mp ?_
  rw [Int64.toInt_div_of_ne_right _ _ hn, ta, tb, yl_T (by omega)]
theorem yl_div {a b : Int} (ha : 0 ≤ a ∧ a ≤ 9223372036854775807) (hb : 1 ≤ b ∧ b ≤ 9223372036854775807) : Int64.ofInt a / Int64.ofInt b = Int64.ofInt (a / b) := by rw [yl_tdiv (by omega) hb, Int.tdiv_eq_ediv_of_nonneg ha.1]
theorem yl_rem {a b : Int} (ha : 0 ≤ a ∧ a ≤ 9223372036854775807) (hb : 1 ≤ b ∧ b ≤ 9223372036854775807) : Int64.ofInt a - Int64.ofInt a / Int64.ofInt b * Int64.ofInt b = Int64.ofInt (a % b) := by
  rw [yl_div ha hb, yl_mul, yl_sub, Int.emod_def, Int.mul_comm b]
theorem yl_ge {a b : Int} (ha : -9223372036854775808 ≤ a ∧ a ≤ 9223372036854775807) (hb : -9223372036854775808 ≤ b ∧ b ≤ 9223372036854775807) : zz_cond .ge (lg_cmp (Int64.ofInt a) (Int64.ofInt b)) = true ↔ b ≤ a := (decide_eq_true_iff (p := 0 ≤ lg_cmp (Int64.ofInt a) (Int64.ofInt b))).trans (by rw [l_cmp, yl_T ha, yl_T hb])
/-- floor by way of a division to zero -/
theorem yl_floor {v n : Int} (hn : 0 < n) : (if v.tdiv n * n ≤ v then v.tdiv n else v.tdiv n - 1) = v / n := by
  have e1 := Int.emod_add_mul_ediv v n
  have e2 := Int.emod_nonneg v (show n ≠ 0 by omega)
  have e3 := Int.emod_lt_of_pos v hn
  rw [Int.mul_comm] at e1
  rcases Int.lt_or_le v 0 with hv | hv
  · have q0 : v.tdiv n = -((-v) / n) := by rw [← Int.tdiv_eq_ediv_of_nonneg (by omega), Int.neg_tdiv, Int.neg_neg]
    have f1 := Int.emod_add_mul_ediv (-v) n
    have f2 := Int.emod_nonneg (-v) (show n ≠ 0 by omega)
    have f3 := Int.emod_lt_of_pos (-v) hn
    rw [Int.mul_comm] at f1
    rw [q0]
    generalize v / n = x at *
    generalize (-v) / n = y at *
    generalize v % n = r at *
    generalize (-v) % n = s at *
    have key : (x + y) * n = -(r + s) := by rw [Int.add_mul]; omega
    have hxy : x + y = 0 ∨ x + y = -1 := by
      rcases Int.lt_trichotomy (x + y) 0 with c | c | c
      · right
        rcases Int.lt_or_le (x + y) (-1) with d | d
        · have := Int.mul_le_mul_of_nonneg_right (show x + y ≤ -2 by omega) (Int.le_of_lt hn)
          omega
        · omega
      · exact Or.inl c
      · have := Int.mul_le_mul_of_nonneg_right (show 1 ≤ x + y by omega) (Int.le_of_lt hn)
        omega
    rcases hxy with c | c
    · rw [show -y = x by omega, if_pos (by omega)]
    · rw [c] at key
      rw [show -y = x + 1 by omega, if_neg (by rw [Int.add_mul]; omega)]
      omega
  · have q0 : v.tdiv n = v / n := Int.tdiv_eq_ediv_of_nonneg hv
    rw [q0, if_pos (by omega)]
theorem yl_tb {v n : Int} (hn : 0 < n) : v - n < v.tdiv n * n ∧ v.tdiv n * n < v + n := by
  rcases Int.lt_or_le v 0 with hv | hv
  · have q0 : v.tdiv n = -((-v) / n) := by rw [← Int.tdiv_eq_ediv_of_nonneg (by omega), Int.neg_tdiv, Int.neg_neg]
    have f1 := Int.emod_add_mul_ediv (-v) n
    have f2 := Int.emod_nonneg (-v) (show n ≠ 0 by omega)
    have f3 := Int.emod_lt_of_pos (-v) hn
    rw [q0, Int.neg_mul, Int.mul_comm]
    omega
  · have f1 := Int.emod_add_mul_ediv v n
    have f2 := Int.emod_nonneg v (show n ≠ 0 by omega)
    have f3 := Int.emod_lt_of_pos v hn
    rw [Int.tdiv_eq_ediv_of_nonneg hv, Int.mul_comm]
    omega
/-- a product of small ones -/
theorem yi_pb {a b x y : Int} (ha : -x ≤ a ∧ a ≤ x) (hb : 0 ≤ b ∧ b ≤ y) : -(x * y) ≤ a * b ∧ a * b ≤ x * y := by
  have h1 := Int.mul_le_mul_of_nonneg_right ha.2 hb.1
  have h2 := Int.mul_le_mul_of_nonneg_right ha.1 hb.1
  have h3 := Int.mul_le_mul_of_nonneg_left hb.2 (show 0 ≤ x by omega)
  rw [Int.neg_mul] at h2
  omega
