/-! AN ANALYSER OF METHODS: numbers by names (forms), their bounds -/
abbrev aa_F : Type := Int × List (Nat × Int)
abbrev aa_I : Type := Int × Int × Nat
def aa_tm (ν : List Int) : List (Nat × Int) → Option Int
  | [] => some 0
  | (i, c) :: r => match ν[i]?, aa_tm ν r with
    | some v, some x => some (c * v + x)
    | _, _ => none
def aa_ev (ν : List Int) (f : aa_F) : Option Int := match aa_tm ν f.2 with
  | some x => some (f.1 + x)
  | none => none
theorem aa_tm_cons {ν : List Int} {i : Nat} {c x : Int} {r : List (Nat × Int)} : aa_tm ν ((i, c) :: r) = some x ↔ ∃ v y, ν[i]? = some v ∧ aa_tm ν r = some y ∧ x = c * v + y := by
  rw [aa_tm]
  constructor
  · intro h
    split at h
    · rename_i v y h1 h2
      cases h
      exact ⟨v, y, h1, h2, rfl⟩
    · cases h
  · rintro ⟨v, y, h1, h2, rfl⟩
    rw [h1, h2]
theorem aa_ev_some {ν : List Int} {f : aa_F} {x : Int} : aa_ev ν f = some x ↔ ∃ y, aa_tm ν f.2 = some y ∧ x = f.1 + y := by
  rw [aa_ev]
  constructor
  · intro h
    split at h
    · rename_i y h1
      cases h
      exact ⟨y, h1, rfl⟩
    · cases h
  · rintro ⟨y, h1, rfl⟩
    rw [h1]
def aa_ins (i : Nat) (c : Int) : List (Nat × Int) → List (Nat × Int)
  | [] => if c = 0 then [] else [(i, c)]
  | (j, d) :: r => if Nat.beq i j = true then (if c + d = 0 then r else (j, c + d) :: r) else if Nat.blt i j = true then (if c = 0 then (j, d) :: r else (i, c) :: (j, d) :: r) else (j, d) :: aa_ins i c r
theorem aa_ins_tm {ν : List Int} {i : Nat} {c v : Int} (hv : ν[i]? = some v) : ∀ (l : List (Nat × Int)) (x : Int), aa_tm ν l = some x → aa_tm ν (aa_ins i c l) = some (c * v + x)
  | [], x, h => by
    cases h
    rw [aa_ins]
    split
    · rename_i h0
      rw [h0]
      show some (0 : Int) = some (0 * v + 0)
      rw [Int.zero_mul]
      rfl
    · exact aa_tm_cons.mpr ⟨v, 0, hv, rfl, rfl⟩
  | (j, d) :: r, x, h => by
    obtain ⟨w, y, h1, h2, rfl⟩ := aa_tm_cons.mp h
    rw [aa_ins]
    split
    · rename_i hb
      have e := Nat.eq_of_beq_eq_true hb
      subst e
      rw [hv] at h1
      cases h1
      have e2 : c * v + (d * v + y) = (c + d) * v + y := by rw [Int.add_mul, Int.add_assoc]
      rw [e2]
      split
      · rename_i h0
        rw [h0, Int.zero_mul, Int.zero_add]
        exact h2
      · exact aa_tm_cons.mpr ⟨v, y, hv, h2, rfl⟩
    · split
      · split
        · rename_i h0
          rw [h0, Int.zero_mul, Int.zero_add]
          exact h
        · exact aa_tm_cons.mpr ⟨v, _, hv, h, rfl⟩
      · refine aa_tm_cons.mpr ⟨w, _, h1, aa_ins_tm hv r y h2, ?_⟩
        omega
def aa_addT (k : Int) : List (Nat × Int) → List (Nat × Int) → List (Nat × Int)
  | a, [] => a
  | a, (i, c) :: r => aa_addT k (aa_ins i (k * c) a) r
theorem aa_addT_tm {ν : List Int} {k : Int} : ∀ (b a : List (Nat × Int)) (x y : Int), aa_tm ν a = some x → aa_tm ν b = some y → aa_tm ν (aa_addT k a b) = some (x + k * y)
  | [], a, x, y, h1, h2 => by
    cases h2
    rw [aa_addT, Int.mul_zero, Int.add_zero]
    exact h1
  | (i, c) :: r, a, x, y, h1, h2 => by
    obtain ⟨v, z, h3, h4, rfl⟩ := aa_tm_cons.mp h2
    rw [aa_addT, aa_addT_tm r _ _ z (aa_ins_tm h3 a x h1) h4, Int.mul_add, Int.mul_assoc]
    congr 1
    omega
/-- f + k g -/
def aa_add (f g : aa_F) (k : Int) : aa_F := (f.1 + k * g.1, aa_addT k f.2 g.2)
theorem aa_add_ev {ν : List Int} {f g : aa_F} {k x y : Int} (h1 : aa_ev ν f = some x) (h2 : aa_ev ν g = some y) : aa_ev ν (aa_add f g k) = some (x + k * y) := by
  obtain ⟨a, ha, rfl⟩ := aa_ev_some.mp h1
  obtain ⟨b, hb, rfl⟩ := aa_ev_some.mp h2
  refine aa_ev_some.mpr ⟨a + k * b, aa_addT_tm _ _ _ _ ha hb, ?_⟩
  show _ = (f.1 + k * g.1) + _
  rw [Int.mul_add]
  omega
def aa_c (n : Int) : aa_F := (n, [])
def aa_id (i : Nat) : aa_F := (0, [(i, 1)])
def aa_plus (f : aa_F) (n : Int) : aa_F := (f.1 + n, f.2)
def aa_scale (f : aa_F) (k : Int) : aa_F := aa_add (aa_c 0) f k
theorem aa_c_ev {ν : List Int} {n : Int} : aa_ev ν (aa_c n) = some n := by
  refine aa_ev_some.mpr ⟨0, rfl, ?_⟩
  show n = n + 0
  omega
theorem aa_id_ev {ν : List Int} {i : Nat} {v : Int} (h : ν[i]? = some v) : aa_ev ν (aa_id i) = some v := by
  refine aa_ev_some.mpr ⟨v, aa_tm_cons.mpr ⟨v, 0, h, rfl, ?_⟩, ?_⟩
  · omega
  · show v = 0 + v
    omega
theorem aa_plus_ev {ν : List Int} {f : aa_F} {n x : Int} (h : aa_ev ν f = some x) : aa_ev ν (aa_plus f n) = some (x + n) := by
  obtain ⟨a, ha, rfl⟩ := aa_ev_some.mp h
  refine aa_ev_some.mpr ⟨a, ha, ?_⟩
  show _ = (f.1 + n) + a
  omega
theorem aa_scale_ev {ν : List Int} {f : aa_F} {k x : Int} (h : aa_ev ν f = some x) : aa_ev ν (aa_scale f k) = some (k * x) := by
  have := aa_add_ev (k := k) (aa_c_ev (ν := ν) (n := 0)) h
  rwa [Int.zero_add] at this
theorem aa_tm_app {ν ρ : List Int} : ∀ (l : List (Nat × Int)) (x : Int), aa_tm ν l = some x → aa_tm (ν ++ ρ) l = some x
  | [], x, h => h
  | (i, c) :: r, x, h => by
    obtain ⟨v, y, h1, h2, rfl⟩ := aa_tm_cons.mp h
    refine aa_tm_cons.mpr ⟨v, y, ?_, aa_tm_app r y h2, rfl⟩
    rw [List.getElem?_append_left (List.getElem?_eq_some_iff.mp h1).1]
    exact h1
theorem aa_ev_app {ν ρ : List Int} {f : aa_F} {x : Int} (h : aa_ev ν f = some x) : aa_ev (ν ++ ρ) f = some x := by
  obtain ⟨a, ha, rfl⟩ := aa_ev_some.mp h
  exact aa_ev_some.mpr ⟨a, aa_tm_app _ _ ha, rfl⟩
/-- names stand for numbers within their bounds, or for cells of their group -/
def aa_vb (iv : List aa_I) (ν : List Int) : Prop := ν.length = iv.length ∧ ∀ (i : Nat) (q : aa_I) (v : Int), iv[i]? = some q → ν[i]? = some v → q.1 ≤ v ∧ v ≤ q.2.1 ∧ (q.2.2 ≠ 0 → 0 ≤ v ∧ aa_gc v.toNat = q.2.2)
def aa_lbT (iv : List aa_I) : List (Nat × Int) → Int
  | [] => 0
  | (i, c) :: r => (match iv[i]? with
    | some q => if 0 ≤ c then c * q.1 else c * q.2.1
    | none => 0) + aa_lbT iv r
def aa_lb (iv : List aa_I) (f : aa_F) : Int := f.1 + aa_lbT iv f.2
theorem aa_lbT_ok {iv : List aa_I} {ν : List Int} (hb : aa_vb iv ν) : ∀ (l : List (Nat × Int)) (x : Int), aa_tm ν l = some x → aa_lbT iv l ≤ x
  | [], x, h => by cases h; exact Int.le_refl 0
  | (i, c) :: r, x, h => by
    obtain ⟨v, y, h1, h2, rfl⟩ := aa_tm_cons.mp h
    have ih := aa_lbT_ok hb r y h2
    have hi : i < iv.length := by rw [← hb.1]; exact (List.getElem?_eq_some_iff.mp h1).1
    rw [aa_lbT, List.getElem?_eq_getElem hi]
    have q := hb.2 i _ v (List.getElem?_eq_getElem hi) h1
    dsimp only
    split
    · rename_i hc
      have := Int.mul_le_mul_of_nonneg_left q.1 hc
      omega
    · rename_i hc
      have := Int.mul_le_mul_of_nonpos_left (a := c) (by omega) q.2.1
      omega
theorem aa_lb_ok {iv : List aa_I} {ν : List Int} (hb : aa_vb iv ν) {f : aa_F} {x : Int} (h : aa_ev ν f = some x) : aa_lb iv f ≤ x := by
  obtain ⟨a, ha, rfl⟩ := aa_ev_some.mp h
  have := aa_lbT_ok hb _ _ ha
  rw [aa_lb]
  omega
def aa_vc (cs : List aa_F) (ν : List Int) : Prop := ∀ f ∈ cs, ∃ x, aa_ev ν f = some x ∧ 0 ≤ x
/-- below f by what is known: the last name goes, by its bounds or by a form that is not below 0 -/
def aa_loN (iv : List aa_I) (cs : List aa_F) : Nat → aa_F → Int
  | 0, f => aa_lb iv f
  | n + 1, f => match f.2.getLast? with
    | none => f.1
    | some (i, c) => cs.foldl (fun a H => match H.2.getLast? with
        | none => a
        | some (j, d) => if Nat.beq j i = true then (let k := if 0 < d then c / d else (-c) / (-d)
            if 0 < k then (let z := aa_loN iv cs n (aa_add f H (-k)); if a < z then z else a) else a) else a)
        ((match iv[i]? with
          | some q => if 0 ≤ c then c * q.1 else c * q.2.1
          | none => 0) + aa_loN iv cs n (aa_add f (0, [(i, c)]) (-1)))
def aa_lo (iv : List aa_I) (cs : List aa_F) (f : aa_F) : Int := aa_loN iv cs 12 f
def aa_hi (iv : List aa_I) (cs : List aa_F) (f : aa_F) : Int := - aa_lo iv cs (aa_scale f (-1))
theorem aa_tm_all {ν : List Int} : ∀ (l : List (Nat × Int)) (x : Int), aa_tm ν l = some x → ∀ q ∈ l, ∃ v, ν[q.1]? = some v
  | (i, c) :: r, x, h, q, hq => by
    obtain ⟨v, y, h1, h2, rfl⟩ := aa_tm_cons.mp h
    rcases List.mem_cons.mp hq with rfl | hq
    · exact ⟨v, h1⟩
    · exact aa_tm_all r y h2 q hq
theorem aa_fold_le {cs : List aa_F} {F : Int → aa_F → Int} {x : Int} (hF : ∀ a, ∀ H ∈ cs, a ≤ x → F a H ≤ x) : ∀ a, a ≤ x → cs.foldl F a ≤ x := by
  induction cs with
  | nil => exact fun a h => h
  | cons H cs ih => exact fun a h => ih (fun a H hH => hF a H (List.mem_cons_of_mem _ hH)) _ (hF a H List.mem_cons_self h)
theorem aa_loN_ok {iv : List aa_I} {cs : List aa_F} {ν : List Int} (hb : aa_vb iv ν) (hc : aa_vc cs ν) : ∀ (n : Nat) {f : aa_F} {x : Int}, aa_ev ν f = some x → aa_loN iv cs n f ≤ x
  | 0, f, x, h => aa_lb_ok hb h
  | n + 1, f, x, h => by
    rw [aa_loN]
    obtain ⟨y, hy, hxy⟩ := aa_ev_some.mp h
    split
    · rename_i h0
      have h0 : f.2 = [] := List.getLast?_eq_none_iff.mp h0
      rw [h0] at hy
      cases hy
      omega
    · rename_i i c hl
      have hm : (i, c) ∈ f.2 := List.mem_of_getLast? hl
      obtain ⟨v, hv⟩ := aa_tm_all _ _ hy _ hm
      have hv : ν[i]? = some v := hv
      have hi : i < iv.length := by rw [← hb.1]; exact (List.getElem?_eq_some_iff.mp hv).1
      have hq := hb.2 i _ v (List.getElem?_eq_getElem hi) hv
      have e1 : aa_ev ν ((0, [(i, c)]) : aa_F) = some (c * v) := by
        refine aa_ev_some.mpr ⟨c * v, aa_tm_cons.mpr ⟨v, 0, hv, rfl, by omega⟩, ?_⟩
        show c * v = 0 + c * v
        omega
      refine aa_fold_le ?_ _ ?_
      · intro a H hH ha
        dsimp only
        split
        · exact ha
        · rename_i j d hj
          split
          · generalize (if 0 < d then c / d else (-c) / (-d)) = k
            split
            · rename_i hk
              obtain ⟨w, hw, w0⟩ := hc H hH
              have ih := aa_loN_ok hb hc n (aa_add_ev (k := -k) h hw)
              have := Int.mul_nonneg (show 0 ≤ k by omega) w0
              rw [Int.neg_mul] at ih
              split <;> omega
            · exact ha
          · exact ha
      · have ih := aa_loN_ok hb hc n (aa_add_ev (k := -1) h e1)
        rw [List.getElem?_eq_getElem hi]
        dsimp only
        split
        · rename_i hc0
          have := Int.mul_le_mul_of_nonneg_left hq.1 hc0
          omega
        · rename_i hc0
          have := Int.mul_le_mul_of_nonpos_left (a := c) (by omega) hq.2.1
          omega
theorem aa_lo_ok {iv : List aa_I} {cs : List aa_F} {ν : List Int} (hb : aa_vb iv ν) (hc : aa_vc cs ν) {f : aa_F} {x : Int} (h : aa_ev ν f = some x) : aa_lo iv cs f ≤ x := aa_loN_ok hb hc 12 h
theorem aa_hi_ok {iv : List aa_I} {cs : List aa_F} {ν : List Int} (hb : aa_vb iv ν) (hc : aa_vc cs ν) {f : aa_F} {x : Int} (h : aa_ev ν f = some x) : x ≤ aa_hi iv cs f := by
  have := aa_lo_ok hb hc (aa_scale_ev (k := -1) h)
  rw [aa_hi]
  omega
/-- f is not below 0: the bounds of its names by that -/
def aa_nar (f : aa_F) : List (Nat × Int) → List aa_I → Option (List aa_I)
  | [], iv => some iv
  | (i, c) :: r, iv => match iv[i]? with
    | none => none
    | some q =>
      let hr := - aa_lb iv (aa_scale (aa_add f (0, [(i, c)]) (-1)) (-1))
      let lo := if 0 < c then (if q.1 < -(hr / c) then -(hr / c) else q.1) else q.1
      let hi := if c < 0 then (if hr / (-c) < q.2.1 then hr / (-c) else q.2.1) else q.2.1
      if hi < lo then none else aa_nar f r (iv.set i (lo, hi, q.2.2))
theorem aa_vb_set {iv : List aa_I} {ν : List Int} (hb : aa_vb iv ν) {i : Nat} {q : aa_I} {v : Int} (hq : iv[i]? = some q) (hv : ν[i]? = some v) {lo hi : Int} (h1 : lo ≤ v) (h2 : v ≤ hi) : aa_vb (iv.set i (lo, hi, q.2.2)) ν := by
  refine ⟨by rw [List.length_set]; exact hb.1, fun j p w hp hw => ?_⟩
  by_cases hj : i = j
  · subst hj
    rw [List.getElem?_set_self (List.getElem?_eq_some_iff.mp hq).1] at hp
    cases hp
    rw [hv] at hw
    cases hw
    exact ⟨h1, h2, (hb.2 i q v hq hv).2.2⟩
  · rw [List.getElem?_set_ne hj] at hp
    exact hb.2 j p w hp hw
theorem aa_nar_ok {ν : List Int} {f : aa_F} {x : Int} (h : aa_ev ν f = some x) (hx : 0 ≤ x) : ∀ (l : List (Nat × Int)) (iv : List aa_I), aa_vb iv ν → (∀ q ∈ l, ∃ v, ν[q.1]? = some v) → ∃ iv', aa_nar f l iv = some iv' ∧ aa_vb iv' ν
  | [], iv, hb, _ => ⟨iv, rfl, hb⟩
  | (i, c) :: r, iv, hb, hl => by
    obtain ⟨v, hv⟩ := hl (i, c) List.mem_cons_self
    have hv : ν[i]? = some v := hv
    have hi : i < iv.length := by rw [← hb.1]; exact (List.getElem?_eq_some_iff.mp hv).1
    have hq := List.getElem?_eq_getElem hi
    have hbq := hb.2 i _ v hq hv
    have e1 : aa_ev ν ((0, [(i, c)]) : aa_F) = some (c * v) := by
      refine aa_ev_some.mpr ⟨c * v, aa_tm_cons.mpr ⟨v, 0, hv, rfl, by omega⟩, ?_⟩
      show c * v = 0 + c * v
      omega
    have e2 := aa_lb_ok hb (aa_scale_ev (k := -1) (aa_add_ev (k := -1) h e1))
    rw [aa_nar, hq]
    dsimp only
    generalize hhr : - aa_lb iv (aa_scale (aa_add f (0, [(i, c)]) (-1)) (-1)) = hr
    have e3 : x - c * v ≤ hr := by omega
    have e4 : 0 < c → -(hr / c) ≤ v := fun hc => by
      have : -v ≤ hr / c := (Int.le_ediv_iff_mul_le hc).mpr (by rw [Int.mul_comm, Int.mul_neg]; omega)
      omega
    have e5 : c < 0 → v ≤ hr / (-c) := fun hc => by
      refine (Int.le_ediv_iff_mul_le (by omega)).mpr ?_
      rw [Int.mul_comm, Int.neg_mul]
      omega
    have e6 : (if 0 < c then (if (iv[i]).1 < -(hr / c) then -(hr / c) else (iv[i]).1) else (iv[i]).1) ≤ v := by
      split
      · split
        · exact e4 (by assumption)
        · exact hbq.1
      · exact hbq.1
    have e7 : v ≤ (if c < 0 then (if hr / (-c) < (iv[i]).2.1 then hr / (-c) else (iv[i]).2.1) else (iv[i]).2.1) := by
      split
      · split
        · exact e5 (by assumption)
        · exact hbq.2.1
      · exact hbq.2.1
    rw [if_neg (by omega)]
    exact aa_nar_ok h hx r _ (aa_vb_set hb hq hv e6 e7) (fun q hq => hl q (List.mem_cons_of_mem _ hq))
