/-! NUMBERS: what Int32 does, in Int -/
theorem ti_mul {a b : Int32} (h1 : -2147483648 ≤ a.toInt * b.toInt) (h2 : a.toInt * b.toInt ≤ 2147483647) : (a * b).toInt = a.toInt * b.toInt := by
  rw [Int32.toInt_mul]
  exact Int.bmod_eq_of_le (by omega) (by omega)
theorem ti_neg {a : Int32} (h : -2147483647 ≤ a.toInt) : (-a).toInt = -a.toInt := by
  have h2 := a.toInt_lt
  rw [Int32.toInt_neg]
  exact Int.bmod_eq_of_le (by omega) (by omega)
theorem ti_div {a b : Int32} (h1 : 0 ≤ a.toInt) (h2 : 0 < b.toInt) : (a / b).toInt = a.toInt / b.toInt := by
  have h3 := a.toInt_lt
  rw [Int32.toInt_div, Int.tdiv_eq_ediv_of_nonneg h1]
  have q1 : 0 ≤ a.toInt / b.toInt := Int.ediv_nonneg h1 (by omega)
  have q2 : a.toInt / b.toInt ≤ a.toInt := Int.ediv_le_self _ h1
  exact Int.bmod_eq_of_le (by omega) (by omega)
theorem ti_rem {a b : Int32} (h1 : 0 ≤ a.toInt) (h2 : 0 < b.toInt) : (a - a / b * b).toInt = a.toInt % b.toInt := by
  have h3 := a.toInt_lt
  have e1 := ti_div h1 h2
  have q1 : 0 ≤ a.toInt / b.toInt := Int.ediv_nonneg h1 (by omega)
  have q3 : a.toInt / b.toInt * b.toInt ≤ a.toInt := Int.ediv_mul_le _ (by omega)
  have q4 : 0 ≤ a.toInt / b.toInt * b.toInt := Int.mul_nonneg q1 (by omega)
  have e2 : (a / b * b).toInt = a.toInt / b.toInt * b.toInt := by
    rw [ti_mul (by rw [e1]; omega) (by rw [e1]; omega), e1]
  rw [aa_sub32 (by rw [e2]; omega) (by rw [e2]; omega), e2, Int.emod_def, Int.mul_comm b.toInt]
theorem ti_eq {a b : Int32} : a = b ↔ a.toInt = b.toInt := Int32.toInt_inj.symm
theorem ti_ne {a b : Int32} : a ≠ b ↔ a.toInt ≠ b.toInt := not_congr ti_eq
theorem ti_lit (n : Nat) (h : n < 2147483648) : (OfNat.ofNat n : Int32).toInt = n := zz_ofN h
theorem ti_m1 : (-1 : Int32).toInt = -1 := rfl
theorem ti_n {a : Int32} : a.toNatClampNeg = a.toInt.toNat := rfl
/-- a number that is not below 0 is told by a Nat -/
theorem ti_nat {a : Int32} (h : 0 ≤ a.toInt) : ∃ n : Nat, n < 2147483648 ∧ a = Int32.ofNat n ∧ (n : Int) = a.toInt := by
  have h2 := a.toInt_lt
  exact ⟨a.toInt.toNat, by omega, aa_eqN (by omega) (by omega), by omega⟩
/-- two ways of a test of bounds -/
def ti_in (x a b : Int) : Bool := decide (a ≤ x) && decide (x ≤ b)
theorem ti_14 {a b c : Int32} : fn_14 a b c = if b.toInt ≤ a.toInt ∧ a.toInt ≤ c.toInt then 1 else 0 := by
  unfold fn_14
  by_cases h1 : a < b
  · rw [if_pos h1, if_neg fun z => by have := aa_lt32.mp h1; omega]
  · have h1' : b.toInt ≤ a.toInt := by
      have := mt aa_lt32.mpr h1
      omega
    rw [if_neg h1]
    by_cases h2 : c < a
    · rw [if_pos h2, if_neg fun z => by have := aa_lt32.mp h2; omega]
    · have h2' : a.toInt ≤ c.toInt := by
        have := mt aa_lt32.mpr h2
        omega
      rw [if_neg h2, if_pos ⟨h1', h2'⟩]
theorem ti_b0 {p : Prop} {ip : Decidable p} : (@ite Int32 p ip 1 0 = 0) ↔ ¬ p := by
  by_cases h : p
  · rw [if_pos h]
    exact ⟨fun z => absurd z (by decide), fun z => absurd h z⟩
  · rw [if_neg h]
    exact ⟨fun _ => h, fun _ => rfl⟩
theorem ti_14z {a b c : Int32} : fn_14 a b c = 0 ↔ ¬ (b.toInt ≤ a.toInt ∧ a.toInt ≤ c.toInt) := by rw [ti_14]; exact ti_b0
theorem ti_14n {a b c : Int32} : fn_14 a b c ≠ 0 ↔ (b.toInt ≤ a.toInt ∧ a.toInt ≤ c.toInt) := by
  rw [Ne, ti_14z, Decidable.not_not]
theorem ti_77z {a : Int32} : fn_77 a = 0 ↔ ¬ (0 ≤ a.toInt ∧ a.toInt ≤ 35999) := ti_14z
theorem ti_77n {a : Int32} : fn_77 a ≠ 0 ↔ (0 ≤ a.toInt ∧ a.toInt ≤ 35999) := ti_14n
/-- floorMod, floorDiv by a number above 0 -/
theorem ti_xor {a b : Int32} (hb : 0 < b.toInt) : 0 ≤ (a ^^^ b) ↔ 0 ≤ a.toInt := by
  rw [aa_le32]
  have e : (a ^^^ b).toInt = (a.toBitVec ^^^ b.toBitVec).toInt := rfl
  have ea : a.toInt = a.toBitVec.toInt := rfl
  have eb : b.toInt = b.toBitVec.toInt := rfl
  rw [show (0 : Int32).toInt = 0 from rfl, e, ea]
  rw [eb] at hb
  have mb : b.toBitVec.msb = false := by
    cases h : b.toBitVec.msb with
    | false => rfl
    | true =>
      have := BitVec.toInt_neg_of_msb_true h
      omega
  have hm : (a.toBitVec ^^^ b.toBitVec).msb = a.toBitVec.msb := by
    rw [BitVec.msb_xor, mb]
    cases a.toBitVec.msb <;> rfl
  constructor
  · intro z
    cases h : a.toBitVec.msb with
    | false => exact BitVec.toInt_nonneg_of_msb_false h
    | true =>
      have := BitVec.toInt_neg_of_msb_true (hm.trans h)
      omega
  · intro z
    cases h : a.toBitVec.msb with
    | false => exact BitVec.toInt_nonneg_of_msb_false (hm.trans h)
    | true =>
      have := BitVec.toInt_neg_of_msb_true h
      omega
theorem ti_dneg {a b : Int32} (ha : a.toInt < 0) (h0 : -2147483647 ≤ a.toInt) (hb : 0 < b.toInt) : (a / b).toInt = -((-a.toInt) / b.toInt) := by
  rw [Int32.toInt_div]
  have e : a.toInt.tdiv b.toInt = -((-a.toInt) / b.toInt) := by
    rw [← Int.tdiv_eq_ediv_of_nonneg (by omega), Int.neg_tdiv, Int.neg_neg]
  rw [e]
  have q1 : 0 ≤ (-a.toInt) / b.toInt := Int.ediv_nonneg (by omega) (by omega)
  have q2 : (-a.toInt) / b.toInt ≤ -a.toInt := Int.ediv_le_self _ (by omega)
  exact Int.bmod_eq_of_le (by omega) (by omega)
theorem ti_fl {x y : Int} (hy : 0 < y) : x / y = if (-x) / y * y = -x then -((-x) / y) else -((-x) / y) - 1 := by
  have k1 := Int.emod_add_mul_ediv (-x) y
  have k2 := Int.emod_nonneg (-x) (show y ≠ 0 by omega)
  have k3 := Int.emod_lt_of_pos (-x) hy
  have c1 : y * ((-x) / y) = (-x) / y * y := Int.mul_comm _ _
  split
  · rename_i e
    have e2 : x = -((-x) / y) * y := by rw [Int.neg_mul]; omega
    rw [Int.ediv_eq_iff_of_pos hy]
    constructor
    · omega
    · have : (-((-x) / y) + 1) * y = -((-x) / y) * y + y := by rw [Int.add_mul, Int.one_mul]
      omega
  · rename_i e
    rw [Int.ediv_eq_iff_of_pos hy]
    have e3 : (-((-x) / y) - 1) * y = -((-x) / y * y) - y := by rw [Int.sub_mul, Int.neg_mul, Int.one_mul]
    have e4 : (-((-x) / y) - 1 + 1) * y = -((-x) / y * y) := by rw [Int.sub_add_cancel, Int.neg_mul]
    constructor
    · omega
    · omega
theorem ti_82 {a b : Int32} (h0 : -2147483647 ≤ a.toInt) (hb : 0 < b.toInt) : (fn_82 a b).toInt = a.toInt / b.toInt := by
  have ha2 := a.toInt_lt
  unfold fn_82
  by_cases h : 0 ≤ a.toInt
  · rw [if_pos ((ti_xor hb).mpr h), ti_div h hb]
  · rw [if_neg fun z => h ((ti_xor hb).mp z)]
    have e := ti_dneg (by omega) h0 hb
    have q1 : 0 ≤ (-a.toInt) / b.toInt := Int.ediv_nonneg (by omega) (by omega)
    have q3 : (-a.toInt) / b.toInt * b.toInt ≤ -a.toInt := Int.ediv_mul_le _ (by omega)
    have q4 : 0 ≤ (-a.toInt) / b.toInt * b.toInt := Int.mul_nonneg q1 (by omega)
    have q2 : (-a.toInt) / b.toInt ≤ -a.toInt := Int.ediv_le_self _ (by omega)
    have e2 : (a / b * b).toInt = -((-a.toInt) / b.toInt * b.toInt) := by
      rw [ti_mul (by rw [e, Int.neg_mul]; omega) (by rw [e, Int.neg_mul]; omega), e, Int.neg_mul]
    rw [ti_fl hb]
    by_cases h5 : a / b * b = a
    · have h6 := ti_eq.mp h5
      rw [e2] at h6
      rw [if_pos h5, if_pos (by omega), e]
    · have h6 := mt ti_eq.mpr h5
      rw [e2] at h6
      rw [if_neg h5, if_neg (by omega), aa_sub32 (by rw [e, show (1 : Int32).toInt = 1 from rfl]; omega) (by rw [e, show (1 : Int32).toInt = 1 from rfl]; omega), e]
      rfl
theorem ti_81 {a b : Int32} (h0 : -2147483647 ≤ a.toInt) (hb : 0 < b.toInt) : (fn_81 a b).toInt = a.toInt % b.toInt := by
  have ha2 := a.toInt_lt
  have hb2 := b.toInt_lt
  unfold fn_81
  by_cases h : 0 ≤ a.toInt
  · rw [if_pos ((ti_xor hb).mpr h), ti_rem h hb]
  · rw [if_neg fun z => h ((ti_xor hb).mp z)]
    have e := ti_dneg (by omega) h0 hb
    have q1 : 0 ≤ (-a.toInt) / b.toInt := Int.ediv_nonneg (by omega) (by omega)
    have q3 : (-a.toInt) / b.toInt * b.toInt ≤ -a.toInt := Int.ediv_mul_le _ (by omega)
    have q4 : 0 ≤ (-a.toInt) / b.toInt * b.toInt := Int.mul_nonneg q1 (by omega)
    have k1 := Int.emod_add_mul_ediv (-a.toInt) b.toInt
    have k2 := Int.emod_nonneg (-a.toInt) (show b.toInt ≠ 0 by omega)
    have k3 := Int.emod_lt_of_pos (-a.toInt) hb
    have c1 : b.toInt * ((-a.toInt) / b.toInt) = (-a.toInt) / b.toInt * b.toInt := Int.mul_comm _ _
    have e2 : (a / b * b).toInt = -((-a.toInt) / b.toInt * b.toInt) := by
      rw [ti_mul (by rw [e, Int.neg_mul]; omega) (by rw [e, Int.neg_mul]; omega), e, Int.neg_mul]
    have e3 : (a - a / b * b).toInt = a.toInt + (-a.toInt) / b.toInt * b.toInt := by
      rw [aa_sub32 (by rw [e2]; omega) (by rw [e2]; omega), e2]
      omega
    have ef : a.toInt % b.toInt = a.toInt - (a.toInt / b.toInt) * b.toInt := by rw [Int.emod_def, Int.mul_comm]
    rw [ef, ti_fl hb]
    by_cases h5 : (a - a / b * b) = 0
    · have h6 := ti_eq.mp h5
      rw [e3, show (0 : Int32).toInt = 0 from rfl] at h6
      rw [if_pos h5, if_pos (by omega), e3, Int.neg_mul]
      omega
    · have h6 := mt ti_eq.mpr h5
      rw [e3, show (0 : Int32).toInt = 0 from rfl] at h6
      rw [if_neg h5, if_neg (by omega), aa_add32 (by rw [e3]; omega) (by rw [e3]; omega), e3, Int.sub_mul, Int.neg_mul, Int.one_mul]
      omega
