/-! THE TAPE'S BYTES: four bytes put into a word, the highest first, and what the class reads of it -/
theorem yb_cf (x : Int32) {i : Nat} (h : i < 4) : (cf_byte x (fd_sh i)).toBitVec = (x.toBitVec >>> (24 - 8 * i)) &&& 255#32 := by
  have key : ∀ (s : Int32) (n : Nat), ((s.toUInt32 &&& Int32.toUInt32 31).toBitVec % 32).toNat = n → (cf_byte x s).toBitVec = (x.toBitVec >>> n) &&& 255#32 := by
    intro s n k2
    unfold cf_byte
    rw [Int32.toBitVec_and]
    show (x.toUInt32 >>> (s.toUInt32 &&& Int32.toUInt32 31)).toBitVec &&& _ = _
    rw [UInt32.toBitVec_shiftRight, BitVec.ushiftRight_eq', k2]
    rfl
  match i, h with
  | 0, _ => exact key 24 24 (by decide)
  | 1, _ => exact key 16 16 (by decide)
  | 2, _ => exact key 8 8 (by decide)
  | 3, _ => exact key 0 0 (by decide)
theorem yb_sl (x : Int32) {i : Nat} (h : i < 4) : (x <<< (fd_sh i &&& 31)).toBitVec = x.toBitVec <<< (24 - 8 * i) := by
  have key : ∀ (s : Int32) (n : Nat), ((s &&& 31).toBitVec.smod 32).toNat = n → (x <<< (s &&& 31)).toBitVec = x.toBitVec <<< n := by
    intro s n k2
    rw [Int32.toBitVec_shiftLeft, BitVec.shiftLeft_eq', k2]
  match i, h with
  | 0, _ => exact key 24 24 (by decide)
  | 1, _ => exact key 16 16 (by decide)
  | 2, _ => exact key 8 8 (by decide)
  | 3, _ => exact key 0 0 (by decide)
/-- a byte -/
def yb_B (x : Int32) : Prop := ∀ q, 8 ≤ q → x.toBitVec.getLsbD q = false
theorem yb_B.ofNat {n : Nat} (h : n < 256) : yb_B (Int32.ofNat n) := by
  intro q hq
  show (BitVec.ofNat 32 n).getLsbD q = false
  rw [BitVec.getLsbD_ofNat, Nat.testBit_lt_two_pow (Nat.lt_of_lt_of_le h (Nat.pow_le_pow_right (n := 2) (by decide) hq)), Bool.and_false]
/-- the first k bytes in a word -/
def yb_w (b : Nat → Int32) : Nat → Int32
  | 0 => 0
  | k + 1 => yb_w b k ||| (b k <<< (fd_sh k &&& 31))
theorem yb_w.get {b : Nat → Int32} (hb : ∀ i, yb_B (b i)) {i j : Nat} (hi : i < 4) (hj : j < 8) : ∀ k : Nat, k ≤ 4 → (yb_w b k).toBitVec.getLsbD (24 - 8 * i + j) = (decide (i < k) && (b i).toBitVec.getLsbD j)
  | 0, _ => by
    rw [decide_eq_false (Nat.not_lt_zero i), Bool.false_and]
    show (0#32).getLsbD _ = false
    exact BitVec.getLsbD_zero
  | k + 1, hk => by
    have ih := yb_w.get hb hi hj k (by omega)
    show ((yb_w b k) ||| (b k <<< (fd_sh k &&& 31))).toBitVec.getLsbD _ = _
    rw [Int32.toBitVec_or, BitVec.getLsbD_or, ih, yb_sl (b k) (show k < 4 by omega), BitVec.getLsbD_shiftLeft, decide_eq_true (show 24 - 8 * i + j < 32 by omega), Bool.true_and]
    rcases Nat.lt_trichotomy i k with q | q | q
    · rw [hb k (24 - 8 * i + j - (24 - 8 * k)) (by omega), Bool.and_false, Bool.or_false, decide_eq_true q, decide_eq_true (show i < k + 1 by omega)]
    · rw [← q, decide_eq_false (Nat.lt_irrefl i), Bool.false_and, Bool.false_or, decide_eq_false (show ¬ 24 - 8 * i + j < 24 - 8 * i by omega), decide_eq_true (show i < i + 1 by omega), show 24 - 8 * i + j - (24 - 8 * i) = j by omega]
      rfl
    · rw [decide_eq_true (show 24 - 8 * i + j < 24 - 8 * k by omega), decide_eq_false (show ¬ i < k by omega), decide_eq_false (show ¬ i < k + 1 by omega)]
      rfl
/-- what the class reads of it -/
theorem yb_w.read {b : Nat → Int32} (hb : ∀ i, yb_B (b i)) {i k : Nat} (hi : i < 4) (hk : k ≤ 4) : cf_byte (yb_w b k) (fd_sh i) = if i < k then b i else 0 := by
  refine Int32.toBitVec_inj.mp ?_
  rw [yb_cf _ hi]
  apply BitVec.eq_of_getLsbD_eq
  intro j hj
  rw [BitVec.getLsbD_and, fd_255 j hj, BitVec.getLsbD_ushiftRight]
  by_cases h8 : j < 8
  · rw [decide_eq_true h8, Bool.and_true, yb_w.get hb hi h8 k hk]
    by_cases q : i < k
    · rw [if_pos q, decide_eq_true q, Bool.true_and]
    · rw [if_neg q, decide_eq_false q, Bool.false_and]
      show _ = (0#32).getLsbD j
      exact BitVec.getLsbD_zero.symm
  · rw [decide_eq_false h8, Bool.and_false]
    by_cases q : i < k
    · rw [if_pos q, hb i j (by omega)]
    · rw [if_neg q]
      show _ = (0#32).getLsbD j
      exact BitVec.getLsbD_zero.symm
/-- the five words: p bytes of twenty are in -/
def yb_row (b : Nat → Int32) (p : Nat) (j : Nat) : Int32 := yb_w (fun q => b (4 * j + q)) (min (p - 4 * j) 4)
theorem yb_row.zero (b : Nat → Int32) (j : Nat) : yb_row b 0 j = 0 := by
  unfold yb_row
  rw [show min (0 - 4 * j) 4 = 0 by omega]
  rfl
theorem yb_row.succ (b : Nat → Int32) (p : Nat) : yb_row b (p + 1) (p / 4) = yb_row b p (p / 4) ||| (b p <<< (fd_sh (p % 4) &&& 31)) := by
  unfold yb_row
  rw [show min (p + 1 - 4 * (p / 4)) 4 = p % 4 + 1 by omega, show min (p - 4 * (p / 4)) 4 = p % 4 by omega]
  show _ ||| ((fun q => b (4 * (p / 4) + q)) (p % 4) <<< _) = _
  show _ ||| (b (4 * (p / 4) + p % 4) <<< _) = _
  rw [show 4 * (p / 4) + p % 4 = p by omega]
theorem yb_row.other (b : Nat → Int32) {p j : Nat} (h : j ≠ p / 4) : yb_row b (p + 1) j = yb_row b p j := by
  unfold yb_row
  rw [show min (p + 1 - 4 * j) 4 = min (p - 4 * j) 4 by omega]
theorem yb_row.read {b : Nat → Int32} (hb : ∀ i, yb_B (b i)) {p i : Nat} (hi : i < 20) : cf_byte (yb_row b p (i / 4)) (fd_sh (i % 4)) = if i < p then b i else 0 := by
  unfold yb_row
  rw [yb_w.read (fun q => hb (4 * (i / 4) + q)) (show i % 4 < 4 by omega) (Nat.min_le_right ..)]
  show (if i % 4 < min (p - 4 * (i / 4)) 4 then b (4 * (i / 4) + i % 4) else 0) = _
  rw [show 4 * (i / 4) + i % 4 = i by omega]
  by_cases q : i < p
  · rw [if_pos q, if_pos (by omega)]
  · rw [if_neg q, if_neg (by omega)]
/-- the places to shift by, as the law counts them -/
theorem yb_by {p : Nat} (h : p < 20) : 24 - 8 * (Int32.ofNat p % 4) = fd_sh (p % 4) := by
  have k : ∀ p : Fin 20, 24 - 8 * (Int32.ofNat p.1 % 4) = fd_sh (p.1 % 4) := by decide
  exact k ⟨p, h⟩
theorem yb_at {p : Nat} (h : p < 20) : Int32.ofNat p / 4 = Int32.ofNat (p / 4) := by
  have k : ∀ p : Fin 20, Int32.ofNat p.1 / 4 = Int32.ofNat (p.1 / 4) := by decide
  exact k ⟨p, h⟩
