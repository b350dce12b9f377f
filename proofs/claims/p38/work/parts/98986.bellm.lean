/-! BELLS: a BELL; the model reads it -/
def pb_then {α : Type} (r : Nat ⊕ (Nat × Int32)) (k : Nat → Int32 → Nat ⊕ α) : Nat ⊕ α := match r with
  | .inl f => .inl f
  | .inr (q, z) => k q z
/-- where it ends; half, hour, part, strokes -/
abbrev pb_F : Type := Int32 × (Int32 × (Int32 × Int32))
abbrev pb_H : Type := Nat ⊕ (Nat × pb_F)
def pb_half (c : Int32) : Int32 := if c = 100 then 0 else 1
def pb_part (b : Nat → Int32) (n q : Nat) : Nat ⊕ (Nat × Int32) := if sp_hb b n q = 46 then sp_num b n false 0 3599 (q + 1) else .inr (q, 0)
/-- behind hour and part -/
def pb_end (b : Nat → Int32) (n q : Nat) (f y z : Int32) : pb_H := if sp_hb b n q = 42 then pb_then (sp_num b n false 1 24 (q + 1)) fun r w => .inr (r, (f, (y, (z, w)))) else .inl q
def pb_head (b : Nat → Int32) (n p N : Nat) : pb_H :=
  if ¬ (sp_hb b n p = 100 ∨ sp_hb b n p = 110) ∨ N = 8 then .inl p else
  pb_then (sp_num b n false 0 11 (p + 1)) fun q1 y => pb_then (pb_part b n q1) fun q2 z => pb_end b n q2 (pb_half (sp_hb b n p)) y z
def pb_cond (b : Nat → Int32) (n q T : Nat) : pd_R := if sp_hb b n q = 63 then pd_cond b n (q + 1) T else .inr (q, (T, []))
/-- a whole BELL, its end with it -/
abbrev pb_R : Type := Nat ⊕ (Nat × (pb_F × (Nat × List Int32)))
def pb_tail (b : Nat → Int32) (n : Nat) (F : pb_F) (r : pd_R) : pb_R := match r with
  | .inl f => .inl f
  | .inr (q, (T, cs)) => if sp_hb b n q = 59 then .inr (q + 1, (F, (T, cs))) else .inl q
def pb_bell (b : Nat → Int32) (n p N T : Nat) : pb_R := match pb_head b n p N with
  | .inl f => .inl f
  | .inr (q, F) => pb_tail b n F (pb_cond b n q T)
theorem pb_bell_inl {b : Nat → Int32} {n p N T f : Nat} (h : pb_head b n p N = .inl f) : pb_bell b n p N T = .inl f := by
  unfold pb_bell
  rw [h]
theorem pb_bell_inr {b : Nat → Int32} {n p N T q : Nat} {F : pb_F} (h : pb_head b n p N = .inr (q, F)) : pb_bell b n p N T = pb_tail b n F (pb_cond b n q T) := by
  unfold pb_bell
  rw [h]
theorem pb_then_inl {α : Type} {r : Nat ⊕ (Nat × Int32)} {k : Nat → Int32 → Nat ⊕ α} {f : Nat} (h : r = .inl f) : pb_then r k = .inl f := by
  rw [h]
  rfl
theorem pb_then_inr {α : Type} {r : Nat ⊕ (Nat × Int32)} {k : Nat → Int32 → Nat ⊕ α} {q : Nat} {z : Int32} (h : r = .inr (q, z)) : pb_then r k = k q z := by
  rw [h]
  rfl
theorem mb_7 {N : Nat} (h : N ≤ 8) : 7 * Int32.ofNat N = Int32.ofNat (7 * N) := by
  have e1 : (7 : Int32).toInt = 7 := rfl
  have e2 : (Int32.ofNat N).toInt = (N : Int) := zz_ofN (by omega)
  refine aa_eqN ?_ (by omega)
  rw [Int32.toInt_mul, e1, e2, aa_bm (by omega) (by omega)]
  omega
theorem mb_add (a k : Nat) {v : Int32} (h : v = Int32.ofNat k) : Int32.ofNat a + v = Int32.ofNat (a + k) := by
  rw [h]
  exact (Int32.ofNat_add a k).symm
theorem mb_sub {a k : Nat} (h : k ≤ a) (ha : a ≤ 1000) : Int32.ofNat a - Int32.ofNat k = Int32.ofNat (a - k) := by
  have e1 : (Int32.ofNat k).toInt = (k : Int) := zz_ofN (by omega)
  have e2 : (Int32.ofNat a).toInt = (a : Int) := zz_ofN (by omega)
  refine aa_eqN ?_ (by omega)
  rw [aa_sub32 (by rw [e1, e2]; omega) (by rw [e1, e2]; omega), e1, e2]
  omega
/-- of a BELL's places, and of what is being read, alone has anything changed -/
def mb_bfr (g g' : aa_G) (N c : Nat) : Prop := ∀ k j, ¬ (k = 540 ∧ 10 ≤ j ∧ j ≤ 12) → ¬ (k = 545 ∧ c ≤ j) → ¬ (k = 544 ∧ 7 * N ≤ j ∧ j < 7 * N + 7) → g' k j = g k j
def mb_bbad (g : aa_G) (f N c : Nat) (g' : aa_G) : Prop := (∀ k j, ¬ (k = 540 ∧ ((5 ≤ j ∧ j ≤ 7) ∨ (10 ≤ j ∧ j ≤ 12))) → ¬ (k = 545 ∧ c ≤ j) → ¬ (k = 544 ∧ 7 * N ≤ j ∧ j < 7 * N + 7) → g' k j = g k j) ∧ g' 540 6 = Int32.ofNat f
def mb_at (g : aa_G) (N : Nat) (F : pb_F) (th c d : Nat) : Prop := g 544 (7 * N) = F.1 ∧ g 544 (7 * N + 1) = F.2.1 ∧ g 544 (7 * N + 2) = F.2.2.1 ∧ g 544 (7 * N + 3) = F.2.2.2 ∧ g 544 (7 * N + 4) = Int32.ofNat th ∧ g 544 (7 * N + 5) = Int32.ofNat c ∧ g 544 (7 * N + 6) = Int32.ofNat d
def mb_bst (g g' : aa_G) (N T c : Nat) (F : pb_F) (T2 : Nat) (cs : List Int32) : Prop := mb_bfr g g' N c ∧ g' 540 10 = Int32.ofNat (N + 1) ∧ g' 540 11 = Int32.ofNat (c + cs.length) ∧ g' 540 12 = Int32.ofNat T2 ∧ (∀ i v, cs[i]? = some v → g' 545 (c + i) = v) ∧ mb_at g' N F (T2 - T) c (c + cs.length)
def mb_bres (g : aa_G) (n N T c : Nat) (r : pb_R) (v : Option Value) (h : zz_H) : Prop := (∃ f, r = .inl f ∧ v = some (.int 0) ∧ ∃ g', h = aa_H g' ∧ mb_bbad g f N c g') ∨ (∃ q F T2 cs, r = .inr (q, (F, (T2, cs))) ∧ q ≤ n ∧ v = some (.int 1) ∧ ∃ g' z, h = aa_H (tm_at g' q z) ∧ mb_bst g g' N T c F T2 cs)
theorem mb_bfr.rf {g : aa_G} {N c : Nat} : mb_bfr g g N c := fun _ _ _ _ _ => rfl
theorem mb_bfr.ok {g g' : aa_G} {b : Nat → Int32} {n N c : Nat} (hf : mb_bfr g g' N c) (h : tm_ok g b n) : tm_ok g' b n := ⟨(hf 540 4 (by omega) (by omega) (by omega)).trans h.1, h.2.1, fun j hj => by rw [hf 543 j (by omega) (by omega) (by omega)]; exact h.2.2 j hj⟩
theorem mb_bfr.bad {g g1 g2 : aa_G} {f N c : Nat} (hf : mb_bfr g g1 N c) (h : tm_bad g1 f g2) : mb_bbad g f N c g2 := ⟨fun k j a e d => (h.1 k j (by omega)).trans (hf k j (by omega) e d), h.2⟩
theorem mb_bfr.bad2 {g g1 g2 : aa_G} {f N c : Nat} (hf : mb_bfr g g1 N c) (h : mb_bad g1 f c g2) : mb_bbad g f N c g2 := ⟨fun k j a e d => (h.1 k j (by omega) e).trans (hf k j (by omega) e d), h.2⟩
theorem mb_bfr.w {g g1 : aa_G} {N c j : Nat} {v : Int32} (hf : mb_bfr g g1 N c) (h : 7 * N ≤ j ∧ j < 7 * N + 7) : mb_bfr g (zz_w g1 544 j v) N c := fun k i a e d => (aa_w_ne _ _ (by omega)).trans (hf k i a e d)
theorem mb_b227 {g g1 : aa_G} {b : Nat → Int32} {n N T c q T2 : Nat} {F : pb_F} {cs : List Int32} {z x : Int32} (h : tm_ok g b n) (hN : N < 8) (hT : T ≤ T2 ∧ T2 ≤ 40) (hq : q ≤ n) (hf : mb_bfr g g1 N c) (h10 : g1 540 10 = Int32.ofNat N) (h11 : g1 540 11 = Int32.ofNat (c + cs.length)) (h12 : g1 540 12 = Int32.ofNat T2) (hcs : ∀ i v, cs[i]? = some v → g1 545 (c + i) = v) (hF : g1 544 (7 * N) = F.1 ∧ g1 544 (7 * N + 1) = F.2.1 ∧ g1 544 (7 * N + 2) = F.2.2.1 ∧ g1 544 (7 * N + 3) = F.2.2.2 ∧ g1 544 (7 * N + 5) = Int32.ofNat c) : zz_fin none 179 (227, [some (.ref 540), some (.int x), some (.int (Int32.ofNat (7 * N))), some (.int (Int32.ofNat T))], [], aa_H (tm_at g1 q z)) (mb_bres g n N T c (pb_tail b n F (.inr (q, (T2, cs))))) := by
  have k12 : tm_at g1 q z 540 12 = Int32.ofNat T2 := (tm_at_ne _ _ _ (by omega)).trans h12
  refine zz_fin.steps (n := 9) (s' := (240, [some (.ref 540), some (.int x), some (.int (Int32.ofNat (7 * N))), some (.int (Int32.ofNat T))], [.int (((tm_at g1 q z) 540 12) - (Int32.ofNat T)), .int ((Int32.ofNat (7 * N)) + 4), .ref 544], aa_H (tm_at g1 q z))) rfl ?_
  rw [k12, mb_sub hT.1 (by omega), mb_add (7 * N) 4 (v := 4) rfl]
  refine zz_fin.ias (n := 56) rfl rfl (zz_inbN (by omega) (by omega)) ?_
  rw [zz_toN (by omega)]
  refine zz_fin.steps (n := 0) (s' := (241, [some (.ref 540), some (.int x), some (.int (Int32.ofNat (7 * N))), some (.int (Int32.ofNat T))], [], aa_H (zz_w (tm_at g1 q z) 544 (7 * N + 4) (Int32.ofNat (T2 - T))))) rfl ?_
  rw [tm_comm _ _ _ (by decide)]
  have k11 : tm_at (zz_w g1 544 (7 * N + 4) (Int32.ofNat (T2 - T))) q z 540 11 = Int32.ofNat (c + cs.length) := (tm_at_ne _ _ _ (by omega)).trans ((aa_w_ne _ _ (by omega)).trans h11)
  refine zz_fin.steps (n := 7) (s' := (253, [some (.ref 540), some (.int x), some (.int (Int32.ofNat (7 * N))), some (.int (Int32.ofNat T))], [.int ((tm_at (zz_w g1 544 (7 * N + 4) (Int32.ofNat (T2 - T))) q z) 540 11), .int ((Int32.ofNat (7 * N)) + 6), .ref 544], aa_H (tm_at (zz_w g1 544 (7 * N + 4) (Int32.ofNat (T2 - T))) q z))) rfl ?_
  rw [k11, mb_add (7 * N) 6 (v := 6) rfl]
  refine zz_fin.ias (n := 56) rfl rfl (zz_inbN (by omega) (by omega)) ?_
  rw [zz_toN (by omega)]
  refine zz_fin.steps (n := 0) (s' := (254, [some (.ref 540), some (.int x), some (.int (Int32.ofNat (7 * N))), some (.int (Int32.ofNat T))], [], aa_H (zz_w (tm_at (zz_w g1 544 (7 * N + 4) (Int32.ofNat (T2 - T))) q z) 544 (7 * N + 6) (Int32.ofNat (c + cs.length))))) rfl ?_
  rw [tm_comm _ _ _ (by decide)]
  have k10 : tm_at (zz_w (zz_w g1 544 (7 * N + 4) (Int32.ofNat (T2 - T))) 544 (7 * N + 6) (Int32.ofNat (c + cs.length))) q z 540 10 = Int32.ofNat N := (tm_at_ne _ _ _ (by omega)).trans ((aa_w_ne _ _ (by omega)).trans ((aa_w_ne _ _ (by omega)).trans h10))
  refine zz_fin.steps (n := 5) (s' := (261, [some (.ref 540), some (.int x), some (.int (Int32.ofNat (7 * N))), some (.int (Int32.ofNat T))], [.int (((tm_at (zz_w (zz_w g1 544 (7 * N + 4) (Int32.ofNat (T2 - T))) 544 (7 * N + 6) (Int32.ofNat (c + cs.length))) q z) 540 10) + 1), .ref 540], aa_H (tm_at (zz_w (zz_w g1 544 (7 * N + 4) (Int32.ofNat (T2 - T))) 544 (7 * N + 6) (Int32.ofNat (c + cs.length))) q z))) rfl ?_
  rw [k10, aa_succ]
  refine zz_fin.steps (n := 1) (s' := (264, [some (.ref 540), some (.int x), some (.int (Int32.ofNat (7 * N))), some (.int (Int32.ofNat T))], [], aa_H (zz_w (tm_at (zz_w (zz_w g1 544 (7 * N + 4) (Int32.ofNat (T2 - T))) 544 (7 * N + 6) (Int32.ofNat (c + cs.length))) q z) 540 10 (Int32.ofNat (N + 1))))) rfl ?_
  rw [tm_commj _ _ _ (by decide) (by decide)]
  have hf3 : mb_bfr g (zz_w (zz_w (zz_w g1 544 (7 * N + 4) (Int32.ofNat (T2 - T))) 544 (7 * N + 6) (Int32.ofNat (c + cs.length))) 540 10 (Int32.ofNat (N + 1))) N c := fun k j a e d => (aa_w_ne _ _ (by omega)).trans ((aa_w_ne _ _ (by omega)).trans ((aa_w_ne _ _ (by omega)).trans (hf k j a e d)))
  refine zz_fin.steps (n := 2) (s' := (267, [some (.ref 540), some (.int x), some (.int (Int32.ofNat (7 * N))), some (.int (Int32.ofNat T))], [.int 59, .ref 540], aa_H (tm_at (zz_w (zz_w (zz_w g1 544 (7 * N + 4) (Int32.ofNat (T2 - T))) 544 (7 * N + 6) (Int32.ofNat (c + cs.length))) 540 10 (Int32.ofNat (N + 1))) q z))) rfl ?_
  refine zz_fin.call rfl rfl (Nat.le_of_ble_eq_true rfl) (tm_takes (hf3.ok h) hq (c := 59) (by decide)) ?_
  rintro v h' (⟨rfl, k1, k2, rfl⟩ | ⟨rfl, k1, g', rfl, k2⟩)
  · refine zz_fin.at (n := 1) rfl (.inr ⟨q + 1, F, T2, cs, if_pos k1, k2, rfl, _, z, rfl, hf3, aa_w_at _ _ _ _, ?_, ?_, fun i v hi => ?_, ?_⟩)
    · rw [aa_w_ne _ _ (by omega), aa_w_ne _ _ (by omega), aa_w_ne _ _ (by omega)]; exact h11
    · rw [aa_w_ne _ _ (by omega), aa_w_ne _ _ (by omega), aa_w_ne _ _ (by omega)]; exact h12
    · rw [aa_w_ne _ _ (by omega), aa_w_ne _ _ (by omega), aa_w_ne _ _ (by omega)]; exact hcs i v hi
    · obtain ⟨m1, m2, m3, m4, m5⟩ := hF
      refine ⟨?_, ?_, ?_, ?_, ?_, ?_, ?_⟩
      · rw [aa_w_ne _ _ (by omega), aa_w_ne _ _ (by omega), aa_w_ne _ _ (by omega)]; exact m1
      · rw [aa_w_ne _ _ (by omega), aa_w_ne _ _ (by omega), aa_w_ne _ _ (by omega)]; exact m2
      · rw [aa_w_ne _ _ (by omega), aa_w_ne _ _ (by omega), aa_w_ne _ _ (by omega)]; exact m3
      · rw [aa_w_ne _ _ (by omega), aa_w_ne _ _ (by omega), aa_w_ne _ _ (by omega)]; exact m4
      · rw [aa_w_ne _ _ (by omega), aa_w_ne _ _ (by omega), aa_w_at]
      · rw [aa_w_ne _ _ (by omega), aa_w_ne _ _ (by omega), aa_w_ne _ _ (by omega)]; exact m5
      · rw [aa_w_ne _ _ (by omega), aa_w_at]
  · exact zz_fin.at (n := 1) rfl (.inl ⟨q, if_neg k1, rfl, g', rfl, hf3.bad k2⟩)
theorem mb_b137 {g g1 : aa_G} {b : Nat → Int32} {n N T c q : Nat} {f y z x3 : Int32} (h : tm_ok g b n) (hN : N < 8) (hT : T ≤ 40) (hc : c ≤ 60 + 2 * T) (hq : q ≤ n) (hf : mb_bfr g g1 N c) (h10 : g1 540 10 = Int32.ofNat N) (h11 : g1 540 11 = Int32.ofNat c) (h12 : g1 540 12 = Int32.ofNat T) (hF : g1 544 (7 * N) = f ∧ g1 544 (7 * N + 1) = y) {r : pb_R} (hr : r = (match pb_end b n q f y z with | .inl f => .inl f | .inr (q, F) => pb_tail b n F (pb_cond b n q T))) : zz_fin none 179 (137, [some (.ref 540), some (.int x3), some (.int (Int32.ofNat (7 * N))), none], [], aa_H (tm_at g1 q z)) (mb_bres g n N T c r) := by
  subst hr
  refine zz_fin.steps (n := 7) (s' := (148, [some (.ref 540), some (.int x3), some (.int (Int32.ofNat (7 * N))), none], [.int z, .int ((Int32.ofNat (7 * N)) + 2), .ref 544], aa_H (tm_at g1 q z))) rfl ?_
  rw [mb_add (7 * N) 2 (v := 2) rfl]
  refine zz_fin.ias (n := 56) rfl rfl (zz_inbN (by omega) (by omega)) ?_
  rw [zz_toN (by omega)]
  refine zz_fin.steps (n := 0) (s' := (149, [some (.ref 540), some (.int x3), some (.int (Int32.ofNat (7 * N))), none], [], aa_H (zz_w (tm_at g1 q z) 544 (7 * N + 2) z))) rfl ?_
  rw [tm_comm _ _ _ (by decide)]
  have hf1 : mb_bfr g (zz_w g1 544 (7 * N + 2) z) N c := hf.w (by omega)
  refine zz_fin.steps (n := 2) (s' := (152, [some (.ref 540), some (.int x3), some (.int (Int32.ofNat (7 * N))), none], [.int 42, .ref 540], aa_H (tm_at (zz_w g1 544 (7 * N + 2) z) q z))) rfl ?_
  refine zz_fin.call rfl rfl (Nat.le_of_ble_eq_true rfl) (tm_takes (hf1.ok h) hq (c := 42) (by decide)) ?_
  rintro v h' (⟨rfl, k1, k2, rfl⟩ | ⟨rfl, k1, g', rfl, k2⟩)
  · refine zz_fin.if rfl (fun cz => zc_no1 cz) (fun cz => ?_)
    refine zz_fin.steps (n := 3) (s' := (162, [some (.ref 540), some (.int x3), some (.int (Int32.ofNat (7 * N))), none], [.int 24, .int 1, .ref 540], aa_H (tm_at (zz_w g1 544 (7 * N + 2) z) (q + 1) z))) rfl ?_
    refine zz_fin.call rfl rfl (Nat.le_of_ble_eq_true rfl) (tm_plain (hf1.ok h) k2) ?_
    rintro v h' (⟨e, he, rfl, g', rfl, hg⟩ | ⟨q3, u, he, rfl, rfl⟩)
    · rw [show pb_end b n q f y z = .inl e from (if_pos k1).trans (pb_then_inl he)]
      refine zz_fin.if rfl (fun cz => absurd cz (by decide)) (fun cz => ?_)
      exact zz_fin.at (n := 2) rfl (.inl ⟨e, rfl, rfl, g', rfl, hf1.bad hg⟩)
    · rw [show pb_end b n q f y z = .inr (q3, (f, (y, (z, u)))) from (if_pos k1).trans (pb_then_inr he)]
      have hqn := sp_num_n he k2
      refine zz_fin.if rfl (fun cz => ?_) (fun cz => absurd rfl cz)
      refine zz_fin.steps (n := 7) (s' := (181, [some (.ref 540), some (.int x3), some (.int (Int32.ofNat (7 * N))), none], [.int u, .int ((Int32.ofNat (7 * N)) + 3), .ref 544], aa_H (tm_at (zz_w g1 544 (7 * N + 2) z) q3 u))) rfl ?_
      rw [mb_add (7 * N) 3 (v := 3) rfl]
      refine zz_fin.ias (n := 56) rfl rfl (zz_inbN (by omega) (by omega)) ?_
      rw [zz_toN (by omega)]
      refine zz_fin.steps (n := 0) (s' := (182, [some (.ref 540), some (.int x3), some (.int (Int32.ofNat (7 * N))), none], [], aa_H (zz_w (tm_at (zz_w g1 544 (7 * N + 2) z) q3 u) 544 (7 * N + 3) u))) rfl ?_
      rw [tm_comm _ _ _ (by decide)]
      have k11 : tm_at (zz_w (zz_w g1 544 (7 * N + 2) z) 544 (7 * N + 3) u) q3 u 540 11 = Int32.ofNat c := (tm_at_ne _ _ _ (by omega)).trans ((aa_w_ne _ _ (by omega)).trans ((aa_w_ne _ _ (by omega)).trans h11))
      refine zz_fin.steps (n := 7) (s' := (193, [some (.ref 540), some (.int x3), some (.int (Int32.ofNat (7 * N))), none], [.int ((tm_at (zz_w (zz_w g1 544 (7 * N + 2) z) 544 (7 * N + 3) u) q3 u) 540 11), .int ((Int32.ofNat (7 * N)) + 5), .ref 544], aa_H (tm_at (zz_w (zz_w g1 544 (7 * N + 2) z) 544 (7 * N + 3) u) q3 u))) rfl ?_
      rw [k11, mb_add (7 * N) 5 (v := 5) rfl]
      refine zz_fin.ias (n := 56) rfl rfl (zz_inbN (by omega) (by omega)) ?_
      rw [zz_toN (by omega)]
      refine zz_fin.steps (n := 0) (s' := (194, [some (.ref 540), some (.int x3), some (.int (Int32.ofNat (7 * N))), none], [], aa_H (zz_w (tm_at (zz_w (zz_w g1 544 (7 * N + 2) z) 544 (7 * N + 3) u) q3 u) 544 (7 * N + 5) (Int32.ofNat c)))) rfl ?_
      rw [tm_comm _ _ _ (by decide)]
      have hf2 : mb_bfr g (zz_w (zz_w (zz_w g1 544 (7 * N + 2) z) 544 (7 * N + 3) u) 544 (7 * N + 5) (Int32.ofNat c)) N c := (hf1.w (by omega)).w (by omega)
      have m10 : (zz_w (zz_w (zz_w g1 544 (7 * N + 2) z) 544 (7 * N + 3) u) 544 (7 * N + 5) (Int32.ofNat c)) 540 10 = Int32.ofNat N := (aa_w_ne _ _ (by omega)).trans ((aa_w_ne _ _ (by omega)).trans ((aa_w_ne _ _ (by omega)).trans h10))
      have m11 : (zz_w (zz_w (zz_w g1 544 (7 * N + 2) z) 544 (7 * N + 3) u) 544 (7 * N + 5) (Int32.ofNat c)) 540 11 = Int32.ofNat c := (aa_w_ne _ _ (by omega)).trans ((aa_w_ne _ _ (by omega)).trans ((aa_w_ne _ _ (by omega)).trans h11))
      have m12 : (zz_w (zz_w (zz_w g1 544 (7 * N + 2) z) 544 (7 * N + 3) u) 544 (7 * N + 5) (Int32.ofNat c)) 540 12 = Int32.ofNat T := (aa_w_ne _ _ (by omega)).trans ((aa_w_ne _ _ (by omega)).trans ((aa_w_ne _ _ (by omega)).trans h12))
      have mF : (zz_w (zz_w (zz_w g1 544 (7 * N + 2) z) 544 (7 * N + 3) u) 544 (7 * N + 5) (Int32.ofNat c)) 544 (7 * N) = f ∧ (zz_w (zz_w (zz_w g1 544 (7 * N + 2) z) 544 (7 * N + 3) u) 544 (7 * N + 5) (Int32.ofNat c)) 544 (7 * N + 1) = y ∧ (zz_w (zz_w (zz_w g1 544 (7 * N + 2) z) 544 (7 * N + 3) u) 544 (7 * N + 5) (Int32.ofNat c)) 544 (7 * N + 2) = z ∧ (zz_w (zz_w (zz_w g1 544 (7 * N + 2) z) 544 (7 * N + 3) u) 544 (7 * N + 5) (Int32.ofNat c)) 544 (7 * N + 3) = u ∧ (zz_w (zz_w (zz_w g1 544 (7 * N + 2) z) 544 (7 * N + 3) u) 544 (7 * N + 5) (Int32.ofNat c)) 544 (7 * N + 5) = Int32.ofNat c := ⟨(aa_w_ne _ _ (by omega)).trans ((aa_w_ne _ _ (by omega)).trans ((aa_w_ne _ _ (by omega)).trans hF.1)), (aa_w_ne _ _ (by omega)).trans ((aa_w_ne _ _ (by omega)).trans ((aa_w_ne _ _ (by omega)).trans hF.2)), (aa_w_ne _ _ (by omega)).trans ((aa_w_ne _ _ (by omega)).trans (aa_w_at _ _ _ _)), (aa_w_ne _ _ (by omega)).trans (aa_w_at _ _ _ _), aa_w_at _ _ _ _⟩
      generalize zz_w (zz_w (zz_w g1 544 (7 * N + 2) z) 544 (7 * N + 3) u) 544 (7 * N + 5) (Int32.ofNat c) = g3 at hf2 m10 m11 m12 mF ⊢
      refine zz_fin.steps (n := 2) (s' := (198, [some (.ref 540), some (.int x3), some (.int (Int32.ofNat (7 * N))), none], [.int ((tm_at g3 q3 u) 540 12)], aa_H (tm_at g3 q3 u))) rfl ?_
      rw [show tm_at g3 q3 u 540 12 = Int32.ofNat T from (tm_at_ne _ _ _ (by omega)).trans m12]
      refine zz_fin.steps (n := 2) (s' := (200, [some (.ref 540), some (.int x3), some (.int (Int32.ofNat (7 * N))), some (.int (Int32.ofNat T))], [.ref 540], aa_H (tm_at g3 q3 u))) rfl ?_
      refine zz_fin.call rfl rfl (Nat.le_of_ble_eq_true rfl) (tm_here (hf2.ok h) (Nat.le_trans hqn.1 h.2.1)) ?_
      rintro v h ⟨rfl, rfl⟩
      refine zz_fin.steps (n := 1) (s' := (205, [some (.ref 540), some (.int x3), some (.int (Int32.ofNat (7 * N))), some (.int (Int32.ofNat T))], [.int 63, .int (sp_hb b n q3)], aa_H (tm_at g3 q3 u))) rfl ?_
      refine zz_fin.ic rfl (fun c1 => ?_) (fun c1 => ?_)
      · have c1 : ¬ sp_hb b n q3 = 63 := of_decide_eq_true c1
        have e3 : pb_cond b n q3 T = .inr (q3, (T, [])) := if_neg c1
        dsimp only
        rw [e3]
        exact mb_b227 (F := (f, (y, (z, u)))) (cs := []) h hN ⟨Nat.le_refl _, hT⟩ hqn.1 hf2 m10 m11 m12 (fun i v e => by cases e) mF
      · have c1 : sp_hb b n q3 = 63 := Decidable.byContradiction fun z => c1 (decide_eq_true z)
        have hq3 : q3 < n := pd_in fun e => by rw [e] at c1; exact absurd c1 (by decide)
        have e3 : pb_cond b n q3 T = pd_cond b n (q3 + 1) T := if_pos c1
        dsimp only
        rw [e3]
        refine zz_fin.steps (n := 5) (s' := (215, [some (.ref 540), some (.int x3), some (.int (Int32.ofNat (7 * N))), some (.int (Int32.ofNat T))], [.int ((Int32.ofNat q3) + 1), .ref 540], aa_H (tm_at g3 q3 u))) rfl ?_
        rw [aa_succ]
        refine zz_fin.steps (n := 1) (s' := (218, [some (.ref 540), some (.int x3), some (.int (Int32.ofNat (7 * N))), some (.int (Int32.ofNat T))], [], aa_H (zz_w (tm_at g3 q3 u) 540 5 (Int32.ofNat (q3 + 1))))) rfl ?_
        rw [tm_inc]
        refine zz_fin.steps (n := 1) (s' := (219, [some (.ref 540), some (.int x3), some (.int (Int32.ofNat (7 * N))), some (.int (Int32.ofNat T))], [.ref 540], aa_H (tm_at g3 (q3 + 1) u))) rfl ?_
        refine zz_fin.call rfl rfl (Nat.le_of_ble_eq_true rfl) (mb_cond_all b n g3 (q3 + 1) T c u (hf2.ok h) hq3 hT hc m11 m12) ?_
        rintro v h' (⟨e, he, rfl, g', rfl, hb⟩ | ⟨q4, T2, cs, he, rfl, g4, z4, rfl, hs⟩)
        · rw [he]
          refine zz_fin.if rfl (fun cz => absurd cz (by decide)) (fun cz => ?_)
          exact zz_fin.at (n := 2) rfl (.inl ⟨e, rfl, rfl, g', rfl, hf2.bad2 hb⟩)
        · rw [he]
          refine zz_fin.if rfl (fun cz => ?_) (fun cz => absurd rfl cz)
          obtain ⟨a1, a2, a3, a4, a5⟩ := pd_cond_gd b n (q3 + 1) T q4 T2 cs hq3 hT he
          have st : ∀ k j, k ≠ 545 → ¬ (k = 540 ∧ (j = 11 ∨ j = 12)) → g4 k j = g3 k j := fun k j e1 e2 => hs.1 k j e2 (fun e => e1 e.1)
          exact mb_b227 (F := (f, (y, (z, u)))) h hN ⟨by omega, a4⟩ a2 (fun k j e1 e2 e3 => (hs.1 k j (by omega) e2).trans (hf2 k j e1 e2 e3)) ((st _ _ (by decide) (by omega)).trans m10) hs.2.1 hs.2.2.1 hs.2.2.2 ⟨(st _ _ (by decide) (by omega)).trans mF.1, (st _ _ (by decide) (by omega)).trans mF.2.1, (st _ _ (by decide) (by omega)).trans mF.2.2.1, (st _ _ (by decide) (by omega)).trans mF.2.2.2.1, (st _ _ (by decide) (by omega)).trans mF.2.2.2.2⟩
  · refine zz_fin.if rfl (fun cz => ?_) (fun cz => zc_no0 cz)
    rw [show pb_end b n q f y z = .inl q from if_neg k1]
    exact zz_fin.at (n := 2) rfl (.inl ⟨q, rfl, rfl, g', rfl, hf1.bad k2⟩)
theorem mb_b51 {g : aa_G} {b : Nat → Int32} {n N T c p : Nat} {z f : Int32} (h : tm_ok g b n) (hN : N < 8) (hT : T ≤ 40) (hc : c ≤ 60 + 2 * T) (hp : p < n) (h10 : g 540 10 = Int32.ofNat N) (h11 : g 540 11 = Int32.ofNat c) (h12 : g 540 12 = Int32.ofNat T) (hl : sp_hb b n p = 100 ∨ sp_hb b n p = 110) (hf0 : f = pb_half (sp_hb b n p)) : zz_fin none 179 (51, [some (.ref 540), some (.int f), none, none], [], aa_H (tm_at g p z)) (mb_bres g n N T c (pb_bell b n p N T)) := by
  have e0 : pb_head b n p N = pb_then (sp_num b n false 0 11 (p + 1)) fun q1 y => pb_then (pb_part b n q1) fun q2 z => pb_end b n q2 (pb_half (sp_hb b n p)) y z := if_neg (fun e => e.elim (fun e => e hl) (fun e => by omega))
  rw [← hf0] at e0
  refine zz_fin.steps (n := 5) (s' := (58, [some (.ref 540), some (.int f), none, none], [.int ((Int32.ofNat p) + 1), .ref 540], aa_H (tm_at g p z))) rfl ?_
  rw [aa_succ]
  refine zz_fin.steps (n := 1) (s' := (61, [some (.ref 540), some (.int f), none, none], [], aa_H (zz_w (tm_at g p z) 540 5 (Int32.ofNat (p + 1))))) rfl ?_
  rw [tm_inc]
  refine zz_fin.steps (n := 4) (s' := (68, [some (.ref 540), some (.int f), none, none], [.int (7 * ((tm_at g (p + 1) z) 540 10))], aa_H (tm_at g (p + 1) z))) rfl ?_
  rw [show tm_at g (p + 1) z 540 10 = Int32.ofNat N from (tm_at_ne _ _ _ (by omega)).trans h10, mb_7 (by omega)]
  refine zz_fin.steps (n := 5) (s' := (75, [some (.ref 540), some (.int f), some (.int (Int32.ofNat (7 * N))), none], [.int f, .int (Int32.ofNat (7 * N)), .ref 544], aa_H (tm_at g (p + 1) z))) rfl ?_
  refine zz_fin.ias (n := 56) rfl rfl (zz_inbN (by omega) (by omega)) ?_
  rw [zz_toN (by omega)]
  refine zz_fin.steps (n := 0) (s' := (76, [some (.ref 540), some (.int f), some (.int (Int32.ofNat (7 * N))), none], [], aa_H (zz_w (tm_at g (p + 1) z) 544 (7 * N) f))) rfl ?_
  rw [tm_comm _ _ _ (by decide)]
  have hf1 : mb_bfr g (zz_w g 544 (7 * N) f) N c := mb_bfr.rf.w (by omega)
  refine zz_fin.steps (n := 3) (s' := (80, [some (.ref 540), some (.int f), some (.int (Int32.ofNat (7 * N))), none], [.int 11, .int 0, .ref 540], aa_H (tm_at (zz_w g 544 (7 * N) f) (p + 1) z))) rfl ?_
  refine zz_fin.call rfl rfl (Nat.le_of_ble_eq_true rfl) (tm_plain (p := p + 1) (hf1.ok h) hp) ?_
  rintro v h' (⟨e, he, rfl, g', rfl, hg⟩ | ⟨q1, y, he, rfl, rfl⟩)
  · rw [pb_bell_inl (e0.trans (pb_then_inl he))]
    refine zz_fin.if rfl (fun cz => absurd cz (by decide)) (fun cz => ?_)
    exact zz_fin.at (n := 2) rfl (.inl ⟨e, rfl, rfl, g', rfl, hf1.bad hg⟩)
  · have e1 := e0.trans (pb_then_inr he)
    have hqn := sp_num_n he hp
    refine zz_fin.if rfl (fun cz => ?_) (fun cz => absurd rfl cz)
    refine zz_fin.steps (n := 7) (s' := (99, [some (.ref 540), some (.int f), some (.int (Int32.ofNat (7 * N))), none], [.int y, .int ((Int32.ofNat (7 * N)) + 1), .ref 544], aa_H (tm_at (zz_w g 544 (7 * N) f) q1 y))) rfl ?_
    rw [aa_succ]
    refine zz_fin.ias (n := 56) rfl rfl (zz_inbN (by omega) (by omega)) ?_
    rw [zz_toN (by omega)]
    refine zz_fin.steps (n := 0) (s' := (100, [some (.ref 540), some (.int f), some (.int (Int32.ofNat (7 * N))), none], [], aa_H (zz_w (tm_at (zz_w g 544 (7 * N) f) q1 y) 544 (7 * N + 1) y))) rfl ?_
    rw [tm_comm _ _ _ (by decide)]
    have hf2 : mb_bfr g (zz_w (zz_w g 544 (7 * N) f) 544 (7 * N + 1) y) N c := hf1.w (by omega)
    have m10 : (zz_w (zz_w g 544 (7 * N) f) 544 (7 * N + 1) y) 540 10 = Int32.ofNat N := (aa_w_ne _ _ (by omega)).trans ((aa_w_ne _ _ (by omega)).trans h10)
    have m11 : (zz_w (zz_w g 544 (7 * N) f) 544 (7 * N + 1) y) 540 11 = Int32.ofNat c := (aa_w_ne _ _ (by omega)).trans ((aa_w_ne _ _ (by omega)).trans h11)
    have m12 : (zz_w (zz_w g 544 (7 * N) f) 544 (7 * N + 1) y) 540 12 = Int32.ofNat T := (aa_w_ne _ _ (by omega)).trans ((aa_w_ne _ _ (by omega)).trans h12)
    have mF : (zz_w (zz_w g 544 (7 * N) f) 544 (7 * N + 1) y) 544 (7 * N) = f ∧ (zz_w (zz_w g 544 (7 * N) f) 544 (7 * N + 1) y) 544 (7 * N + 1) = y := ⟨(aa_w_ne _ _ (by omega)).trans (aa_w_at _ _ _ _), aa_w_at _ _ _ _⟩
    generalize zz_w (zz_w g 544 (7 * N) f) 544 (7 * N + 1) y = g2 at hf2 m10 m11 m12 mF ⊢
    refine zz_fin.steps (n := 2) (s' := (102, [some (.ref 540), some (.int f), some (.int (Int32.ofNat (7 * N))), none], [.int 0, .ref 540], aa_H (tm_at g2 q1 y))) rfl ?_
    refine zz_fin.steps (n := 1) (s' := (105, [some (.ref 540), some (.int f), some (.int (Int32.ofNat (7 * N))), none], [], aa_H (zz_w (tm_at g2 q1 y) 540 7 0))) rfl ?_
    rw [tm_over7]
    refine zz_fin.steps (n := 1) (s' := (106, [some (.ref 540), some (.int f), some (.int (Int32.ofNat (7 * N))), none], [.ref 540], aa_H (tm_at g2 q1 0))) rfl ?_
    refine zz_fin.call rfl rfl (Nat.le_of_ble_eq_true rfl) (tm_here (hf2.ok h) (Nat.le_trans hqn.1 h.2.1)) ?_
    rintro v h ⟨rfl, rfl⟩
    refine zz_fin.steps (n := 1) (s' := (111, [some (.ref 540), some (.int f), some (.int (Int32.ofNat (7 * N))), none], [.int 46, .int (sp_hb b n q1)], aa_H (tm_at g2 q1 0))) rfl ?_
    refine zz_fin.ic rfl (fun c1 => ?_) (fun c1 => ?_)
    · have c1 : ¬ sp_hb b n q1 = 46 := of_decide_eq_true c1
      have e2 := e1.trans (pb_then_inr (show pb_part b n q1 = .inr (q1, 0) from if_neg c1))
      exact mb_b137 h hN hT hc hqn.1 hf2 m10 m11 m12 mF (by unfold pb_bell; rw [e2])
    · have c1 : sp_hb b n q1 = 46 := Decidable.byContradiction fun z => c1 (decide_eq_true z)
      have hq1 : q1 < n := pd_in fun e => by rw [e] at c1; exact absurd c1 (by decide)
      have ep : pb_part b n q1 = sp_num b n false 0 3599 (q1 + 1) := if_pos c1
      refine zz_fin.steps (n := 5) (s' := (121, [some (.ref 540), some (.int f), some (.int (Int32.ofNat (7 * N))), none], [.int ((Int32.ofNat q1) + 1), .ref 540], aa_H (tm_at g2 q1 0))) rfl ?_
      rw [aa_succ]
      refine zz_fin.steps (n := 1) (s' := (124, [some (.ref 540), some (.int f), some (.int (Int32.ofNat (7 * N))), none], [], aa_H (zz_w (tm_at g2 q1 0) 540 5 (Int32.ofNat (q1 + 1))))) rfl ?_
      rw [tm_inc]
      refine zz_fin.steps (n := 3) (s' := (129, [some (.ref 540), some (.int f), some (.int (Int32.ofNat (7 * N))), none], [.int 3599, .int 0, .ref 540], aa_H (tm_at g2 (q1 + 1) 0))) rfl ?_
      refine zz_fin.call rfl rfl (Nat.le_of_ble_eq_true rfl) (tm_plain (p := q1 + 1) (hf2.ok h) hq1) ?_
      rintro v h' (⟨e, he, rfl, g', rfl, hg⟩ | ⟨q2, u, he, rfl, rfl⟩)
      · rw [pb_bell_inl (e1.trans (pb_then_inl (ep.trans he)))]
        refine zz_fin.if rfl (fun cz => absurd cz (by decide)) (fun cz => ?_)
        exact zz_fin.at (n := 2) rfl (.inl ⟨e, rfl, rfl, g', rfl, hf2.bad hg⟩)
      · have e2 := e1.trans (pb_then_inr (ep.trans he))
        have hqn2 := sp_num_n he hq1
        refine zz_fin.if rfl (fun cz => ?_) (fun cz => absurd rfl cz)
        exact mb_b137 h hN hT hc hqn2.1 hf2 m10 m11 m12 mF (by unfold pb_bell; rw [e2])
theorem mb_bell {g : aa_G} {b : Nat → Int32} {n N T c p : Nat} {z : Int32} (h : tm_ok g b n) (hN : N ≤ 8) (hT : T ≤ 40) (hc : c ≤ 60 + 2 * T) (hp : p ≤ n) (h10 : g 540 10 = Int32.ofNat N) (h11 : g 540 11 = Int32.ofNat c) (h12 : g 540 12 = Int32.ofNat T) : zz_fin none 179 (0, zz_in [.ref 540] (zz_nl 179), [], aa_H (tm_at g p z)) (mb_bres g n N T c (pb_bell b n p N T)) := by
  have hn := h.2.1
  have k10 : tm_at g p z 540 10 = Int32.ofNat N := (tm_at_ne _ _ _ (by omega)).trans h10
  refine zz_fin.steps (n := 1) (s' := (1, [some (.ref 540), none, none, none], [.ref 540], aa_H (tm_at g p z))) rfl ?_
  refine zz_fin.call rfl rfl (Nat.le_of_ble_eq_true rfl) (tm_here h (by omega)) ?_
  rintro v h ⟨rfl, rfl⟩
  refine zz_fin.steps (n := 1) (s' := (6, [some (.ref 540), none, none, none], [.int 100, .int (sp_hb b n p)], aa_H (tm_at g p z))) rfl ?_
  refine zz_fin.ic rfl (fun c1 => ?_) (fun c1 => ?_)
  · have c1 : ¬ sp_hb b n p = 100 := of_decide_eq_true c1
    refine zz_fin.steps (n := 1) (s' := (14, [some (.ref 540), none, none, none], [.ref 540], aa_H (tm_at g p z))) rfl ?_
    refine zz_fin.call rfl rfl (Nat.le_of_ble_eq_true rfl) (tm_here h (by omega)) ?_
    rintro v h ⟨rfl, rfl⟩
    refine zz_fin.steps (n := 1) (s' := (19, [some (.ref 540), none, none, none], [.int 110, .int (sp_hb b n p)], aa_H (tm_at g p z))) rfl ?_
    refine zz_fin.ic rfl (fun c2 => ?_) (fun c2 => ?_)
    · have c2 : ¬ sp_hb b n p = 110 := of_decide_eq_true c2
      have ef : pb_head b n p N = .inl p := if_pos (.inl (fun e => e.elim c1 c2))
      refine zz_fin.steps (n := 4) (s' := (30, [some (.ref 540), some (.int (-1)), none, none], [.int (-1), .int (-1)], aa_H (tm_at g p z))) rfl ?_
      refine zz_fin.ic rfl (fun cz => ?_) (fun cz => absurd (by decide) cz)
      refine zz_fin.steps (n := 3) (s' := (47, [some (.ref 540), some (.int (-1)), none, none], [.int (Int32.ofNat p), .ref 540], aa_H (tm_at g p z))) rfl ?_
      refine zz_fin.call rfl rfl (Nat.le_of_ble_eq_true rfl) (tm_fails _) ?_
      rintro v h' ⟨rfl, rfl⟩
      exact zz_fin.at (n := 1) rfl (.inl ⟨p, pb_bell_inl ef, rfl, _, rfl, mb_bfr.rf.bad (tm_bad_of g p z p)⟩)
    · have c2 : sp_hb b n p = 110 := Decidable.byContradiction fun z => c2 (decide_eq_true z)
      have hl : sp_hb b n p = 100 ∨ sp_hb b n p = 110 := .inr c2
      refine zz_fin.steps (n := 5) (s' := (30, [some (.ref 540), some (.int 1), none, none], [.int (-1), .int 1], aa_H (tm_at g p z))) rfl ?_
      refine zz_fin.ic rfl (fun cz => absurd cz (by decide)) (fun cz => ?_)
      refine zz_fin.steps (n := 3) (s' := (39, [some (.ref 540), some (.int 1), none, none], [.int 8, .int ((tm_at g p z) 540 10)], aa_H (tm_at g p z))) rfl ?_
      rw [k10]
      refine zz_fin.ic rfl (fun c3 => ?_) (fun c3 => ?_)
      · have c3 : Int32.ofNat N ≠ 8 := of_decide_eq_true c3
        have hN8 : N < 8 := Decidable.byContradiction fun z => c3 (by rw [show N = 8 by omega]; rfl)
        have hpn : p < n := pd_in fun e => by rw [e] at hl; exact absurd hl (by decide)
        exact mb_b51 h hN8 hT hc hpn h10 h11 h12 hl (by rw [c2]; rfl)
      · have c3 : Int32.ofNat N = 8 := Decidable.byContradiction fun z => c3 (decide_eq_true z)
        have c3 : N = 8 := by have e := zz_ofN (n := N) (by omega); rw [c3, show (8 : Int32).toInt = 8 from rfl] at e; omega
        have ef : pb_head b n p N = .inl p := if_pos (.inr c3)
        refine zz_fin.steps (n := 3) (s' := (47, [some (.ref 540), some (.int 1), none, none], [.int (Int32.ofNat p), .ref 540], aa_H (tm_at g p z))) rfl ?_
        refine zz_fin.call rfl rfl (Nat.le_of_ble_eq_true rfl) (tm_fails _) ?_
        rintro v h' ⟨rfl, rfl⟩
        exact zz_fin.at (n := 1) rfl (.inl ⟨p, pb_bell_inl ef, rfl, _, rfl, mb_bfr.rf.bad (tm_bad_of g p z p)⟩)
  · have c1 : sp_hb b n p = 100 := Decidable.byContradiction fun z => c1 (decide_eq_true z)
    have hl : sp_hb b n p = 100 ∨ sp_hb b n p = 110 := .inl c1
    refine zz_fin.steps (n := 5) (s' := (30, [some (.ref 540), some (.int 0), none, none], [.int (-1), .int 0], aa_H (tm_at g p z))) rfl ?_
    refine zz_fin.ic rfl (fun cz => absurd cz (by decide)) (fun cz => ?_)
    refine zz_fin.steps (n := 3) (s' := (39, [some (.ref 540), some (.int 0), none, none], [.int 8, .int ((tm_at g p z) 540 10)], aa_H (tm_at g p z))) rfl ?_
    rw [k10]
    refine zz_fin.ic rfl (fun c3 => ?_) (fun c3 => ?_)
    · have c3 : Int32.ofNat N ≠ 8 := of_decide_eq_true c3
      have hN8 : N < 8 := Decidable.byContradiction fun z => c3 (by rw [show N = 8 by omega]; rfl)
      have hpn : p < n := pd_in fun e => by rw [e] at hl; exact absurd hl (by decide)
      exact mb_b51 h hN8 hT hc hpn h10 h11 h12 hl (by rw [c1]; rfl)
    · have c3 : Int32.ofNat N = 8 := Decidable.byContradiction fun z => c3 (decide_eq_true z)
      have c3 : N = 8 := by have e := zz_ofN (n := N) (by omega); rw [c3, show (8 : Int32).toInt = 8 from rfl] at e; omega
      have ef : pb_head b n p N = .inl p := if_pos (.inr c3)
      refine zz_fin.steps (n := 3) (s' := (47, [some (.ref 540), some (.int 0), none, none], [.int (Int32.ofNat p), .ref 540], aa_H (tm_at g p z))) rfl ?_
      refine zz_fin.call rfl rfl (Nat.le_of_ble_eq_true rfl) (tm_fails _) ?_
      rintro v h' ⟨rfl, rfl⟩
      exact zz_fin.at (n := 1) rfl (.inl ⟨p, pb_bell_inl ef, rfl, _, rfl, mb_bfr.rf.bad (tm_bad_of g p z p)⟩)
