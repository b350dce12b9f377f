/-! FEED: a byte, both ways -/
theorem fd_255 : ∀ i, i < 32 → (255#32).getLsbD i = decide (i < 8) := by decide
theorem fd_bit (v : BitVec 32) (s : Nat) (hs : s ≤ 24) : (((v.sshiftRight s).setWidth 8).signExtend 32) &&& 255#32 = (v >>> s) &&& 255#32 := by
  apply BitVec.eq_of_getLsbD_eq
  intro i hi
  rw [BitVec.getLsbD_and, BitVec.getLsbD_and, fd_255 i hi]
  by_cases h8 : i < 8
  · have h1 : s + i < 32 := by omega
    have e1 : (((v.sshiftRight s).setWidth 8).signExtend 32).getLsbD i = v.getLsbD (s + i) := by
      rw [BitVec.getLsbD_signExtend, if_pos h8, BitVec.getLsbD_setWidth, BitVec.getLsbD_sshiftRight, decide_eq_true hi, decide_eq_true h8, if_pos h1, decide_eq_false (show ¬ 32 ≤ i by omega)]
      rfl
    have e2 : (v >>> s).getLsbD i = v.getLsbD (s + i) := BitVec.getLsbD_ushiftRight ..
    rw [e1, e2]
  · rw [decide_eq_false h8, Bool.and_false, Bool.and_false]
def cf_byte (x s : Int32) : Int32 := (x.toUInt32 >>> (s.toUInt32 &&& Int32.toUInt32 31)).toInt32 &&& 255
def mf_byte (x s : Int32) : Int32 := vp_nar .byte (x >>> (s &&& 31)).toInt8.toInt32
theorem fd_nar (y : Int32) : vp_nar .byte y.toInt8.toInt32 = y.toInt8.toInt32 := by
  rw [vp_nar_byte]
  exact congrArg Int8.toInt32 (Int8.toInt8_toInt32 _)
theorem fd_gen (x s : Int32) (n : Nat) (hn : n ≤ 24) (k1 : ((s &&& 31).toBitVec.smod 32).toNat = n) (k2 : ((s.toUInt32 &&& Int32.toUInt32 31).toBitVec % 32).toNat = n) : mf_byte x s &&& 255 = cf_byte x s := by
  unfold mf_byte cf_byte
  rw [fd_nar]
  refine Int32.toBitVec_inj.mp ?_
  have e1 : ((x >>> (s &&& 31)).toInt8.toInt32 &&& 255).toBitVec = ((((x.toBitVec.sshiftRight n).setWidth 8).signExtend 32) &&& 255#32) := by
    rw [Int32.toBitVec_and, Int8.toBitVec_toInt32, Int32.toBitVec_toInt8, Int32.toBitVec_shiftRight, BitVec.sshiftRight', k1, BitVec.signExtend_eq_setWidth_of_le _ (show 8 ≤ 32 by decide)]
    rfl
  have e2 : ((x.toUInt32 >>> (s.toUInt32 &&& Int32.toUInt32 31)).toInt32 &&& 255).toBitVec = ((x.toBitVec >>> n) &&& 255#32) := by
    rw [Int32.toBitVec_and]
    show (x.toUInt32 >>> (s.toUInt32 &&& Int32.toUInt32 31)).toBitVec &&& _ = _
    rw [UInt32.toBitVec_shiftRight, BitVec.ushiftRight_eq', k2]
    rfl
  rw [e1, e2]
  exact fd_bit _ n hn
theorem fd_byte24 (x : Int32) : mf_byte x 24 &&& 255 = cf_byte x 24 := fd_gen x 24 24 (by decide) (by decide) (by decide)
theorem fd_byte16 (x : Int32) : mf_byte x 16 &&& 255 = cf_byte x 16 := fd_gen x 16 16 (by decide) (by decide) (by decide)
theorem fd_byte8 (x : Int32) : mf_byte x 8 &&& 255 = cf_byte x 8 := fd_gen x 8 8 (by decide) (by decide) (by decide)
theorem fd_byte0 (x : Int32) : mf_byte x 0 &&& 255 = cf_byte x 0 := fd_gen x 0 0 (by decide) (by decide) (by decide)
/-- the four bytes, the highest first -/
def fd_sh : Nat → Int32
  | 0 => 24
  | 1 => 16
  | 2 => 8
  | _ => 0
theorem fd_byte (x : Int32) {i : Nat} (h : i < 4) : mf_byte x (fd_sh i) &&& 255 = cf_byte x (fd_sh i) := by
  match i, h with
  | 0, _ => exact fd_byte24 x
  | 1, _ => exact fd_byte16 x
  | 2, _ => exact fd_byte8 x
  | 3, _ => exact fd_byte0 x
