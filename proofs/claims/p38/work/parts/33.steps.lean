/-! AN ANALYSER OF METHODS: one instruction -/
def aa_sn (s : aa_S) : List aa_A := s.2.2.2
def aa_lv (s : aa_S) : List aa_A := s.2.2.1
/-- another pile -/
def aa_wst (s : aa_S) (st : List aa_A) : aa_S := (s.1, (s.2.1, (s.2.2.1, st)))
def aa_wlv (s : aa_S) (lv st : List aa_A) : aa_S := (s.1, (s.2.1, (lv, st)))
def aa_pi (s : aa_S) (st : List aa_A) (f : aa_F) : aa_S := aa_wst s ((1, f) :: st)
/-- a new int within bounds -/
def aa_pf (s : aa_S) (st : List aa_A) (lo hi : Int) : aa_S := ((s.1.1 ++ [(lo, hi, 0)], s.1.2), (s.2.1, (s.2.2.1, (1, aa_id s.1.1.length) :: st)))
def aa_pfl (s : aa_S) (st : List aa_A) (lo hi : Int) : aa_S := ((s.1.1 ++ [(lo, hi, 0)], s.1.2), (s.2.1, (s.2.2.1, (2, aa_id s.1.1.length) :: st)))
def aa_ar (s : aa_S) (st : List aa_A) (f : aa_F) : aa_S := if (-2147483648) ≤ aa_lo s.1.1 s.1.2 f ∧ aa_hi s.1.1 s.1.2 f ≤ 2147483647 then aa_pi s st f else aa_pf s st (-2147483648) 2147483647
def aa_arl (s : aa_S) (st : List aa_A) (f : aa_F) : aa_S := if (-9223372036854775808) ≤ aa_lo s.1.1 s.1.2 f ∧ aa_hi s.1.1 s.1.2 f ≤ 9223372036854775807 then aa_wst s ((2, f) :: st) else aa_pfl s st (-9223372036854775808) 9223372036854775807
/-- the machine goes on in one of these -/
def aa_res (l : List (Nat × aa_S)) (ν : List Int) (g : aa_G) (pc : Nat) (lv : zz_V) (st : List Value) : Prop := ∃ s' ρ, (pc, s') ∈ l ∧ aa_ok s' (ν ++ ρ) g lv st
theorem aa_res1 {ν ρ : List Int} {g : aa_G} {pc : Nat} {lv : zz_V} {st : List Value} {s' : aa_S} (h : aa_ok s' (ν ++ ρ) g lv st) : aa_res [(pc, s')] ν g pc lv st := ⟨s', ρ, List.mem_cons_self, h⟩
theorem aa_res0 {ν : List Int} {g : aa_G} {pc : Nat} {lv : zz_V} {st : List Value} {s' : aa_S} (h : aa_ok s' ν g lv st) : aa_res [(pc, s')] ν g pc lv st := ⟨s', [], List.mem_cons_self, by rw [List.append_nil]; exact h⟩
section AS
variable {s : aa_S} {ν : List Int} {g : aa_G} {lv : zz_V} {st st' : List Value} {l : List aa_A} {pc : Nat}
theorem aa_pi_ok (h : aa_ok s ν g lv st) (h2 : aa_ms ν l st') {f : aa_F} {w : Int32} (hf : aa_ev ν f = some w.toInt) : aa_ok (aa_pi s l f) ν g lv (.int w :: st') := ⟨h.1, h.2.1, h.2.2.1, h.2.2.2.1, ⟨⟨Nat.one_ne_zero, w, rfl, hf⟩, h2⟩⟩
theorem aa_pf_ok (h : aa_ok s ν g lv st) (h2 : aa_ms ν l st') {lo hi : Int} {w : Int32} (h3 : lo ≤ w.toInt) (h4 : w.toInt ≤ hi) : aa_res [(pc, aa_pf s l lo hi)] ν g pc lv (.int w :: st') := by
  have hn := aa_ok_new h h3 h4 (gr := 0) (fun q => absurd rfl q)
  exact aa_res1 ⟨hn.1, hn.2.1, hn.2.2.1, hn.2.2.2.1, ⟨⟨Nat.one_ne_zero, w, rfl, aa_ev_new h.1⟩, aa_ms_app h2⟩⟩
theorem aa_pff_ok (h : aa_ok s ν g lv st) (h2 : aa_ms ν l st') {w : Int32} : aa_res [(pc, aa_pf s l (-2147483648) 2147483647)] ν g pc lv (.int w :: st') := by
  have h3 := w.le_toInt
  have h4 := w.toInt_lt
  exact aa_pf_ok h h2 (by omega) (by omega)
theorem aa_pfl_ok (h : aa_ok s ν g lv st) (h2 : aa_ms ν l st') {lo hi : Int} {w : Int64} (h3 : lo ≤ w.toInt) (h4 : w.toInt ≤ hi) : aa_res [(pc, aa_pfl s l lo hi)] ν g pc lv (.long w :: st') := by
  have hn := aa_ok_new h h3 h4 (gr := 0) (fun q => absurd rfl q)
  exact aa_res1 ⟨hn.1, hn.2.1, hn.2.2.1, hn.2.2.2.1, ⟨⟨Nat.succ_ne_zero _, w, rfl, aa_ev_new h.1⟩, aa_ms_app h2⟩⟩
theorem aa_pffl_ok (h : aa_ok s ν g lv st) (h2 : aa_ms ν l st') {w : Int64} : aa_res [(pc, aa_pfl s l (-9223372036854775808) 9223372036854775807)] ν g pc lv (.long w :: st') := by
  have h3 := w.le_toInt
  have h4 := w.toInt_lt
  exact aa_pfl_ok h h2 (by omega) (by omega)
theorem aa_bm {x : Int} (h1 : (-2147483648) ≤ x) (h2 : x ≤ 2147483647) : x.bmod (2 ^ 32) = x := Int.bmod_eq_of_le (by omega) (by omega)
theorem aa_bml {x : Int} (h1 : (-9223372036854775808) ≤ x) (h2 : x ≤ 9223372036854775807) : x.bmod (2 ^ 64) = x := Int.bmod_eq_of_le (by omega) (by omega)
theorem aa_ar_ok (h : aa_ok s ν g lv st) (h2 : aa_ms ν l st') {f : aa_F} {x : Int} (hf : aa_ev ν f = some x) {w : Int32} (hw : w.toInt = x.bmod (2 ^ 32)) : aa_res [(pc, aa_ar s l f)] ν g pc lv (.int w :: st') := by
  unfold aa_ar
  split
  · rename_i hc
    have b1 := aa_lo_ok h.1 h.2.1 hf
    have b2 := aa_hi_ok h.1 h.2.1 hf
    rw [aa_bm (by omega) (by omega)] at hw
    exact aa_res0 (aa_pi_ok h h2 (by rw [hw]; exact hf))
  · exact aa_pff_ok h h2
theorem aa_arl_ok (h : aa_ok s ν g lv st) (h2 : aa_ms ν l st') {f : aa_F} {x : Int} (hf : aa_ev ν f = some x) {w : Int64} (hw : w.toInt = x.bmod (2 ^ 64)) : aa_res [(pc, aa_arl s l f)] ν g pc lv (.long w :: st') := by
  unfold aa_arl
  split
  · rename_i hc
    have b1 := aa_lo_ok h.1 h.2.1 hf
    have b2 := aa_hi_ok h.1 h.2.1 hf
    rw [aa_bml (by omega) (by omega)] at hw
    exact aa_res0 ⟨h.1, h.2.1, h.2.2.1, h.2.2.2.1, ⟨⟨Nat.succ_ne_zero _, w, rfl, by rw [hw]; exact hf⟩, h2⟩⟩
  · exact aa_pffl_ok h h2
end AS
/-- the product's bounds -/
def aa_mul (a b c d : Int) : Int × Int :=
  let p := a * c
  let q := a * d
  let r := b * c
  let t := b * d
  (min (min p q) (min r t), max (max p q) (max r t))
theorem aa_mul_ok {a b c d x y : Int} (h1 : a ≤ x) (h2 : x ≤ b) (h3 : c ≤ y) (h4 : y ≤ d) : (aa_mul a b c d).1 ≤ x * y ∧ x * y ≤ (aa_mul a b c d).2 := by
  have key : ∀ z : Int, (min (a * z) (b * z) ≤ x * z ∧ x * z ≤ max (a * z) (b * z)) := fun z => by
    rcases Int.le_total 0 z with hz | hz
    · have k1 := Int.mul_le_mul_of_nonneg_right h1 hz
      have k2 := Int.mul_le_mul_of_nonneg_right h2 hz
      omega
    · have k1 := Int.mul_le_mul_of_nonpos_right h1 hz
      have k2 := Int.mul_le_mul_of_nonpos_right h2 hz
      omega
  have key2 : ∀ z : Int, (min (z * c) (z * d) ≤ z * y ∧ z * y ≤ max (z * c) (z * d)) := fun z => by
    rcases Int.le_total 0 z with hz | hz
    · have k1 := Int.mul_le_mul_of_nonneg_left h3 hz
      have k2 := Int.mul_le_mul_of_nonneg_left h4 hz
      omega
    · have k1 := Int.mul_le_mul_of_nonpos_left hz h3
      have k2 := Int.mul_le_mul_of_nonpos_left hz h4
      omega
  have k1 := key y
  have k2 := key2 a
  have k3 := key2 b
  show min (min (a * c) (a * d)) (min (b * c) (b * d)) ≤ x * y ∧ x * y ≤ max (max (a * c) (a * d)) (max (b * c) (b * d))
  omega
/-- the quotient's bounds, by a divisor above 0 -/
def aa_div (a b c d : Int) : Int × Int := (if 0 ≤ a then a / d else -((-a) / c), if 0 ≤ b then b / c else -((-b) / d))
theorem aa_tdiv_nonneg {x y : Int} (h : 0 ≤ x) : x.tdiv y = x / y := Int.tdiv_eq_ediv_of_nonneg h
theorem aa_ediv_mono {x y z : Int} (hz : 0 < z) (h : x ≤ y) : x / z ≤ y / z := Int.ediv_le_ediv hz h
theorem aa_ediv_anti {x c d : Int} (hx : 0 ≤ x) (hc : 0 < c) (h : c ≤ d) : x / d ≤ x / c := by
  refine (Int.le_ediv_iff_mul_le hc).mpr ?_
  have h1 : x / d * d ≤ x := Int.ediv_mul_le x (by omega)
  have h2 : 0 ≤ x / d := Int.ediv_nonneg hx (by omega)
  have h3 := Int.mul_le_mul_of_nonneg_left h h2
  omega
theorem aa_div_ok {a b c d x y : Int} (h1 : a ≤ x) (h2 : x ≤ b) (h3 : c ≤ y) (h4 : y ≤ d) (hc : 1 ≤ c) : (aa_div a b c d).1 ≤ x.tdiv y ∧ x.tdiv y ≤ (aa_div a b c d).2 := by
  have hn : ∀ z : Int, (-z).tdiv y = -(z.tdiv y) := fun z => Int.neg_tdiv z y
  have n0 : ∀ z : Int, 0 ≤ z → 0 ≤ z / y := fun z hz => Int.ediv_nonneg hz (by omega)
  unfold aa_div
  dsimp only
  rcases Int.le_total 0 x with hx | hx
  · rw [aa_tdiv_nonneg hx]
    have e0 := n0 x hx
    constructor
    · split
      · rename_i ha
        have := aa_ediv_mono (z := d) (by omega) h1
        have := aa_ediv_anti hx (show 0 < y by omega) h4
        omega
      · rename_i ha
        have : 0 ≤ (-a) / c := Int.ediv_nonneg (by omega) (by omega)
        omega
    · rw [if_pos (by omega)]
      have := aa_ediv_mono (z := c) (by omega) h2
      have := aa_ediv_anti hx (show 0 < c by omega) h3
      omega
  · have e : x.tdiv y = -((-x) / y) := by
      have := hn (-x)
      rw [Int.neg_neg] at this
      rw [this, aa_tdiv_nonneg (by omega)]
    rw [e]
    have e0 := n0 (-x) (by omega)
    constructor
    · split
      · rename_i ha
        have hx0 : x = 0 := by omega
        have ha0 : a = 0 := by omega
        subst hx0
        subst ha0
        rw [show -(0 : Int) = 0 from rfl, Int.zero_ediv, Int.zero_ediv]
        exact Int.le_refl 0
      · have := aa_ediv_mono (z := c) (by omega) (show -x ≤ -a by omega)
        have := aa_ediv_anti (show 0 ≤ -x by omega) (show 0 < c by omega) h3
        omega
    · split
      · have : 0 ≤ b / c := Int.ediv_nonneg (by omega) (by omega)
        omega
      · have := aa_ediv_mono (z := d) (by omega) (show -b ≤ -x by omega)
        have := aa_ediv_anti (show 0 ≤ -x by omega) (show 0 < y by omega) h4
        omega
theorem aa_emod_le {x y : Int} (hx : 0 ≤ x) (hy : 0 < y) : x % y ≤ x := by
  have h1 := Int.emod_def x y
  have h2 := Int.mul_nonneg (show 0 ≤ y by omega) (Int.ediv_nonneg hx (show 0 ≤ y by omega))
  omega
def aa_rem (a b d : Int) : Int × Int := (if 0 ≤ a then 0 else (if a < -(d - 1) then -(d - 1) else a), if 0 ≤ b then (if b < d - 1 then b else d - 1) else 0)
theorem aa_rem_ok {a b d x y : Int} (h1 : a ≤ x) (h2 : x ≤ b) (h3 : 1 ≤ y) (h4 : y ≤ d) : (aa_rem a b d).1 ≤ x.tmod y ∧ x.tmod y ≤ (aa_rem a b d).2 := by
  have e : x.tmod y = x - y * x.tdiv y := Int.tmod_def x y
  have k1 : x.tmod y < y := Int.tmod_lt_of_pos x (by omega)
  have k2 : -y < x.tmod y := by
    have := Int.tmod_lt_of_pos (-x) (show 0 < y by omega)
    rw [Int.neg_tmod] at this
    omega
  have k3 : 0 ≤ x → 0 ≤ x.tmod y ∧ x.tmod y ≤ x := fun hx => by
    have q1 := Int.tmod_nonneg y hx
    rw [Int.tmod_eq_emod_of_nonneg hx] at q1 ⊢
    exact ⟨q1, aa_emod_le hx (by omega)⟩
  have k4 : x ≤ 0 → x.tmod y ≤ 0 ∧ x ≤ x.tmod y := fun hx => by
    have q1 := Int.tmod_nonneg y (show 0 ≤ -x by omega)
    have q2 : (-x).tmod y ≤ -x := by
      rw [Int.tmod_eq_emod_of_nonneg (by omega)]
      exact aa_emod_le (by omega) (by omega)
    rw [Int.neg_tmod] at q1 q2
    omega
  unfold aa_rem
  dsimp only
  rcases Int.le_total 0 x with hx | hx
  · have := k3 hx
    constructor
    · split
      · omega
      · split <;> omega
    · rw [if_pos (by omega)]
      split <;> omega
  · have := k4 hx
    constructor
    · split
      · omega
      · split <;> omega
    · split
      · split <;> omega
      · omega
