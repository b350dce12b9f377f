/-! AN ANALYSER OF METHODS: a step -/
def aa_lohi (s : aa_S) (f : aa_F) : Int × Int := (aa_lo s.1.1 s.1.2 f, aa_hi s.1.1 s.1.2 f)
def aa_kmul (pc : Nat) (s : aa_S) (a b : aa_F) (r : List aa_A) : aa_Q := match b.2, a.2 with
  | [], _ => some [(pc, aa_ar s r (aa_scale a b.1))]
  | _, [] => some [(pc, aa_ar s r (aa_scale b a.1))]
  | _, _ =>
    let q := aa_mul (aa_lohi s a).1 (aa_lohi s a).2 (aa_lohi s b).1 (aa_lohi s b).2
    some [(pc, if (-2147483648) ≤ q.1 ∧ q.2 ≤ 2147483647 then aa_pf s r q.1 q.2 else aa_pf s r (-2147483648) 2147483647)]
def aa_kdiv (pc : Nat) (s : aa_S) (a b : aa_F) (r : List aa_A) : aa_Q :=
  if 1 ≤ (aa_lohi s b).1 then (let q := aa_div (aa_lohi s a).1 (aa_lohi s a).2 (aa_lohi s b).1 (aa_lohi s b).2; some [(pc, aa_pf s r q.1 q.2)])
  else if (aa_lohi s b).2 < 0 then some [(pc, aa_pf s r (-2147483648) 2147483647)] else none
def aa_krem (pc : Nat) (s : aa_S) (a b : aa_F) (r : List aa_A) : aa_Q :=
  if 1 ≤ (aa_lohi s b).1 then (if 0 ≤ (aa_lohi s a).1 ∧ (aa_lohi s a).2 < (aa_lohi s b).1 then some [(pc, aa_pi s r a)] else
    let q := aa_rem (aa_lohi s a).1 (aa_lohi s a).2 (aa_lohi s b).2
    match aa_as (aa_pf s r q.1 q.2) (aa_plus (aa_add b (aa_id s.1.1.length) (-1)) (-1)) with
    | some p => some [(pc, p)]
    | none => none)
  else if (aa_lohi s b).2 < 0 then some [(pc, aa_pf s r (-2147483648) 2147483647)] else none
def aa_kand (pc : Nat) (s : aa_S) (_a b : aa_F) (r : List aa_A) : aa_Q := match b.2 with
  | [] => if 0 ≤ b.1 then some [(pc, aa_pf s r 0 b.1)] else some [(pc, aa_pf s r (-2147483648) 2147483647)]
  | _ => some [(pc, aa_pf s r (-2147483648) 2147483647)]
def aa_klmul (pc : Nat) (s : aa_S) (a b : aa_F) (r : List aa_A) : aa_Q := match b.2, a.2 with
  | [], _ => some [(pc, aa_arl s r (aa_scale a b.1))]
  | _, [] => some [(pc, aa_arl s r (aa_scale b a.1))]
  | _, _ =>
    let q := aa_mul (aa_lohi s a).1 (aa_lohi s a).2 (aa_lohi s b).1 (aa_lohi s b).2
    some [(pc, if (-9223372036854775808) ≤ q.1 ∧ q.2 ≤ 9223372036854775807 then aa_pfl s r q.1 q.2 else aa_pfl s r (-9223372036854775808) 9223372036854775807)]
def aa_kldiv (pc : Nat) (s : aa_S) (a b : aa_F) (r : List aa_A) : aa_Q :=
  if 1 ≤ (aa_lohi s b).1 then (let q := aa_div (aa_lohi s a).1 (aa_lohi s a).2 (aa_lohi s b).1 (aa_lohi s b).2; some [(pc, aa_pfl s r q.1 q.2)])
  else if (aa_lohi s b).2 < 0 then some [(pc, aa_pfl s r (-9223372036854775808) 9223372036854775807)] else none
section AK
variable {ws fr : aa_W} {s : aa_S} {ν : List Int} {g : aa_G} {lv : zz_V} {st : List Value} {pc : Nat} {a b : aa_F} {r : List aa_A} {l : List (Nat × aa_S)} {q : List Value}
theorem aa_ev_nil {n : Int} {f : aa_F} (h : f.2 = []) (hf : aa_ev ν f = some n) : f.1 = n := by
  obtain ⟨y, hy, e⟩ := aa_ev_some.mp hf
  rw [h] at hy
  cases hy
  omega
theorem aa_kmul_ok (h : aa_ok s ν g lv st) {x y : Int32} (e : aa_kmul pc s a b r = some l) (ha : aa_ev ν a = some x.toInt) (hb : aa_ev ν b = some y.toInt) (hq : aa_ms ν r q) : aa_res l ν g pc lv (.int (x * y) :: q) := by
  unfold aa_kmul at e
  split at e
  · rename_i h0
    cases e
    have e1 := aa_ev_nil h0 hb
    refine aa_ar_ok h hq (aa_scale_ev ha) ?_
    rw [Int32.toInt_mul, e1, Int.mul_comm]
  · rename_i h0 hx
    cases e
    have e1 := aa_ev_nil h0 ha
    refine aa_ar_ok h hq (aa_scale_ev hb) ?_
    rw [Int32.toInt_mul, e1]
  · cases e
    have b1 := aa_lo_ok h.1 h.2.1 ha
    have b2 := aa_hi_ok h.1 h.2.1 ha
    have b3 := aa_lo_ok h.1 h.2.1 hb
    have b4 := aa_hi_ok h.1 h.2.1 hb
    have b5 := aa_mul_ok b1 b2 b3 b4
    split
    · rename_i hc
      have hc : (-2147483648) ≤ (aa_mul (aa_lo s.1.1 s.1.2 a) (aa_hi s.1.1 s.1.2 a) (aa_lo s.1.1 s.1.2 b) (aa_hi s.1.1 s.1.2 b)).1 ∧ (aa_mul (aa_lo s.1.1 s.1.2 a) (aa_hi s.1.1 s.1.2 a) (aa_lo s.1.1 s.1.2 b) (aa_hi s.1.1 s.1.2 b)).2 ≤ 2147483647 := hc
      have e1 : (x * y).toInt = x.toInt * y.toInt := by
        rw [Int32.toInt_mul, aa_bm (by omega) (by omega)]
      exact aa_pf_ok h hq (by rw [e1]; exact b5.1) (by rw [e1]; exact b5.2)
    · exact aa_pff_ok h hq
theorem aa_klmul_ok (h : aa_ok s ν g lv st) {x y : Int64} (e : aa_klmul pc s a b r = some l) (ha : aa_ev ν a = some x.toInt) (hb : aa_ev ν b = some y.toInt) (hq : aa_ms ν r q) : aa_res l ν g pc lv (.long (x * y) :: q) := by
  unfold aa_klmul at e
  split at e
  · rename_i h0
    cases e
    have e1 := aa_ev_nil h0 hb
    refine aa_arl_ok h hq (aa_scale_ev ha) ?_
    rw [Int64.toInt_mul, e1, Int.mul_comm]
  · rename_i h0 hx
    cases e
    have e1 := aa_ev_nil h0 ha
    refine aa_arl_ok h hq (aa_scale_ev hb) ?_
    rw [Int64.toInt_mul, e1]
  · cases e
    have b1 := aa_lo_ok h.1 h.2.1 ha
    have b2 := aa_hi_ok h.1 h.2.1 ha
    have b3 := aa_lo_ok h.1 h.2.1 hb
    have b4 := aa_hi_ok h.1 h.2.1 hb
    have b5 := aa_mul_ok b1 b2 b3 b4
    split
    · rename_i hc
      have hc : (-9223372036854775808) ≤ (aa_mul (aa_lo s.1.1 s.1.2 a) (aa_hi s.1.1 s.1.2 a) (aa_lo s.1.1 s.1.2 b) (aa_hi s.1.1 s.1.2 b)).1 ∧ (aa_mul (aa_lo s.1.1 s.1.2 a) (aa_hi s.1.1 s.1.2 a) (aa_lo s.1.1 s.1.2 b) (aa_hi s.1.1 s.1.2 b)).2 ≤ 9223372036854775807 := hc
      have e1 : (x * y).toInt = x.toInt * y.toInt := by
        rw [Int64.toInt_mul, aa_bml (by omega) (by omega)]
      exact aa_pfl_ok h hq (by rw [e1]; exact b5.1) (by rw [e1]; exact b5.2)
    · exact aa_pffl_ok h hq
theorem aa_one_ne {y : Int32} (h : 1 ≤ y.toInt) : y ≠ -1 := fun e => by
  rw [e] at h
  exact absurd h (by decide)
theorem aa_one_nel {y : Int64} (h : 1 ≤ y.toInt) : y ≠ -1 := fun e => by
  rw [e] at h
  exact absurd h (by decide)
theorem aa_kdiv_ok (h : aa_ok s ν g lv st) {x y : Int32} (e : aa_kdiv pc s a b r = some l) (ha : aa_ev ν a = some x.toInt) (hb : aa_ev ν b = some y.toInt) (hq : aa_ms ν r q) : y ≠ 0 ∧ aa_res l ν g pc lv (.int (x / y) :: q) := by
  have b1 := aa_lo_ok h.1 h.2.1 ha
  have b2 := aa_hi_ok h.1 h.2.1 ha
  have b3 := aa_lo_ok h.1 h.2.1 hb
  have b4 := aa_hi_ok h.1 h.2.1 hb
  unfold aa_kdiv at e
  split at e
  · rename_i hc
    have hc : 1 ≤ aa_lo s.1.1 s.1.2 b := hc
    cases e
    have b5 := aa_div_ok b1 b2 b3 b4 hc
    have e1 : (x / y).toInt = x.toInt.tdiv y.toInt := Int32.toInt_div_of_ne_right _ _ (aa_one_ne (by omega))
    exact ⟨fun z => by rw [(aa_i32_zero y).mp z] at b3; omega, aa_pf_ok h hq (by rw [e1]; exact b5.1) (by rw [e1]; exact b5.2)⟩
  · split at e
    · rename_i hc
      have hc : aa_hi s.1.1 s.1.2 b < 0 := hc
      cases e
      exact ⟨fun z => by rw [(aa_i32_zero y).mp z] at b4; omega, aa_pff_ok h hq⟩
    · cases e
theorem aa_kldiv_ok (h : aa_ok s ν g lv st) {x y : Int64} (e : aa_kldiv pc s a b r = some l) (ha : aa_ev ν a = some x.toInt) (hb : aa_ev ν b = some y.toInt) (hq : aa_ms ν r q) : y ≠ 0 ∧ aa_res l ν g pc lv (.long (x / y) :: q) := by
  have b1 := aa_lo_ok h.1 h.2.1 ha
  have b2 := aa_hi_ok h.1 h.2.1 ha
  have b3 := aa_lo_ok h.1 h.2.1 hb
  have b4 := aa_hi_ok h.1 h.2.1 hb
  have z0 : y = 0 → y.toInt = 0 := fun z => by rw [z]; rfl
  unfold aa_kldiv at e
  split at e
  · rename_i hc
    have hc : 1 ≤ aa_lo s.1.1 s.1.2 b := hc
    cases e
    have b5 := aa_div_ok b1 b2 b3 b4 hc
    have e1 : (x / y).toInt = x.toInt.tdiv y.toInt := Int64.toInt_div_of_ne_right _ _ (aa_one_nel (by omega))
    exact ⟨fun z => by rw [z0 z] at b3; omega, aa_pfl_ok h hq (by rw [e1]; exact b5.1) (by rw [e1]; exact b5.2)⟩
  · split at e
    · rename_i hc
      have hc : aa_hi s.1.1 s.1.2 b < 0 := hc
      cases e
      exact ⟨fun z => by rw [z0 z] at b4; omega, aa_pffl_ok h hq⟩
    · cases e
theorem aa_krem_ok (h : aa_ok s ν g lv st) {x y : Int32} (e : aa_krem pc s a b r = some l) (ha : aa_ev ν a = some x.toInt) (hb : aa_ev ν b = some y.toInt) (hq : aa_ms ν r q) : y ≠ 0 ∧ aa_res l ν g pc lv (.int (x - x / y * y) :: q) := by
  have b1 := aa_lo_ok h.1 h.2.1 ha
  have b2 := aa_hi_ok h.1 h.2.1 ha
  have b3 := aa_lo_ok h.1 h.2.1 hb
  have b4 := aa_hi_ok h.1 h.2.1 hb
  unfold aa_krem at e
  split at e
  · rename_i hc
    have hc : 1 ≤ aa_lo s.1.1 s.1.2 b := hc
    have e1 : (x / y).toInt = x.toInt.tdiv y.toInt := Int32.toInt_div_of_ne_right _ _ (aa_one_ne (by omega))
    have e3 : x.toInt.tmod y.toInt = x.toInt - x.toInt.tdiv y.toInt * y.toInt := by rw [Int.tmod_def, Int.mul_comm]
    have b5 := aa_rem_ok (a := x.toInt) (b := x.toInt) (d := y.toInt) (Int.le_refl _) (Int.le_refl _) (by omega) (Int.le_refl _)
    have hx1 := x.le_toInt
    have hx2 := x.toInt_lt
    have hy1 := y.le_toInt
    have hy2 := y.toInt_lt
    have k1 : x.toInt.tmod y.toInt < y.toInt := Int.tmod_lt_of_pos _ (by omega)
    have k2 : -y.toInt < x.toInt.tmod y.toInt := by
      have := Int.tmod_lt_of_pos (-x.toInt) (show 0 < y.toInt by omega)
      rw [Int.neg_tmod] at this
      omega
    have e2 : (x - x / y * y).toInt = x.toInt.tmod y.toInt := by
      rw [Int32.toInt_sub, Int32.toInt_mul, e1]
      have e4 : x.toInt.tdiv y.toInt * y.toInt = x.toInt - x.toInt.tmod y.toInt := by omega
      have e5 : (-2147483648) ≤ x.toInt - x.toInt.tmod y.toInt ∧ x.toInt - x.toInt.tmod y.toInt ≤ 2147483647 := by
        unfold aa_rem at b5
        dsimp only at b5
        split at b5 <;> split at b5 <;> omega
      rw [e4, aa_bm e5.1 e5.2, aa_bm (by omega) (by omega)]
      omega
    refine ⟨fun z => by rw [(aa_i32_zero y).mp z] at b3; omega, ?_⟩
    split at e
    · rename_i hd
      have hd : 0 ≤ aa_lo s.1.1 s.1.2 a ∧ aa_hi s.1.1 s.1.2 a < aa_lo s.1.1 s.1.2 b := hd
      cases e
      refine aa_res0 (aa_pi_ok h hq ?_)
      rw [e2, Int.tmod_eq_emod_of_nonneg (by omega), Int.emod_eq_of_lt (by omega) (by omega)]
      exact ha
    · have b6 := aa_rem_ok b1 b2 (show 1 ≤ y.toInt by omega) b4
      have hn := aa_ok_new h (lo := (aa_rem (aa_lo s.1.1 s.1.2 a) (aa_hi s.1.1 s.1.2 a) (aa_hi s.1.1 s.1.2 b)).1) (hi := (aa_rem (aa_lo s.1.1 s.1.2 a) (aa_hi s.1.1 s.1.2 a) (aa_hi s.1.1 s.1.2 b)).2) (v := (x - x / y * y).toInt) (by rw [e2]; exact b6.1) (by rw [e2]; exact b6.2) (gr := 0) (fun z => absurd rfl z)
      have hn : aa_ok (aa_pf s r (aa_rem (aa_lo s.1.1 s.1.2 a) (aa_hi s.1.1 s.1.2 a) (aa_hi s.1.1 s.1.2 b)).1 (aa_rem (aa_lo s.1.1 s.1.2 a) (aa_hi s.1.1 s.1.2 a) (aa_hi s.1.1 s.1.2 b)).2) (ν ++ [(x - x / y * y).toInt]) g lv (.int (x - x / y * y) :: q) := ⟨hn.1, hn.2.1, hn.2.2.1, hn.2.2.2.1, ⟨⟨Nat.one_ne_zero, _, rfl, aa_ev_new h.1⟩, aa_ms_app hq⟩⟩
      obtain ⟨s', e6, h6⟩ := aa_as_ok hn (aa_plus_ev (n := -1) (aa_add_ev (k := -1) (aa_ev_app hb) (aa_ev_new h.1))) (by rw [e2]; omega)
      unfold aa_lohi at e
      dsimp only at e
      rw [e6] at e
      cases e
      exact aa_res1 h6
  · split at e
    · rename_i hc
      have hc : aa_hi s.1.1 s.1.2 b < 0 := hc
      cases e
      exact ⟨fun z => by rw [(aa_i32_zero y).mp z] at b4; omega, aa_pff_ok h hq⟩
    · cases e
theorem aa_and_le (x y : Int32) (h : 0 ≤ y.toInt) : 0 ≤ (x &&& y).toInt ∧ (x &&& y).toInt ≤ y.toInt := by
  have e1 : (x &&& y).toInt = (x.toBitVec &&& y.toBitVec).toInt := rfl
  have e2 : y.toInt = y.toBitVec.toInt := rfl
  have hy : y.toBitVec.toNat < 2 ^ 31 := by
    rw [e2, BitVec.toInt_eq_toNat_cond] at h
    have := y.toBitVec.isLt
    split at h <;> omega
  have hn : (x.toBitVec &&& y.toBitVec).toNat ≤ y.toBitVec.toNat := by
    rw [BitVec.toNat_and]
    exact Nat.and_le_right
  rw [e1, e2, BitVec.toInt_eq_toNat_cond, BitVec.toInt_eq_toNat_cond, if_pos (by omega), if_pos (by omega)]
  omega
theorem aa_kand_ok (h : aa_ok s ν g lv st) {x y : Int32} (e : aa_kand pc s a b r = some l) (hb : aa_ev ν b = some y.toInt) (hq : aa_ms ν r q) : aa_res l ν g pc lv (.int (x &&& y) :: q) := by
  unfold aa_kand at e
  split at e
  · rename_i h0
    have e1 := aa_ev_nil h0 hb
    split at e
    · rename_i hc
      cases e
      have := aa_and_le x y (by omega)
      exact aa_pf_ok h hq this.1 (by omega)
    · cases e
      exact aa_pff_ok h hq
  · cases e
    exact aa_pff_ok h hq
end AK
