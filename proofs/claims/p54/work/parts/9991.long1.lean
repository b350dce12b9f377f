/-! THE LAW ASKS OF MANY DAYS (298): its rows, the days one by one (printed by wip/p54/w12.py) -/
/-- a row of nine counts -/
def y_9 (Z : Nat → Int) : List Int32 := (List.range 9).map fun q => Int32.ofInt (Z q)
theorem y_9_len {Z : Nat → Int} : (y_9 Z).length = 9 := by
  unfold y_9
  rw [List.length_map, List.length_range]
theorem y_9_at {Z : Nat → Int} {v : Nat} (hv : v < 9) : (y_9 Z)[v]? = some (Int32.ofInt (Z v)) := by
  unfold y_9
  rw [List.getElem?_map, List.getElem?_range hv]
  rfl
theorem y_9_set {Z : Nat → Int} {L : List (Int × Int)} {i v : Nat} (hv : v < 9) (e : y_s2 L i = (v : Int)) : (y_9 Z).set v (Int32.ofInt (Z v + 1)) = y_9 fun q => Z q + bz_n L q i := by
  refine List.ext_getElem? fun j => ?_
  by_cases hj : j < 9
  · rw [y_9_at hj]
    by_cases c : v = j
    · subst c
      rw [List.getElem?_set_self (by rw [y_9_len]; omega)]
      unfold bz_n
      rw [if_pos e]
    · rw [List.getElem?_set_ne c, y_9_at hj]
      unfold bz_n
      rw [if_neg (by rw [e]; omega), Int.add_zero]
  · rw [List.getElem?_eq_none (by rw [List.length_set, y_9_len]; omega), List.getElem?_eq_none (by rw [y_9_len]; omega)]
theorem fd_out {σ : Type} {F : Nat → σ → σ} : ∀ (n d : Nat) (s : σ), (∀ e, d ≤ e → ∀ s, F e s = s) → fd_i F d n s = s
  | 0, d, s, h => rfl
  | n + 1, d, s, h => by
    show fd_i F (d + 1) n (F d s) = s
    rw [h d (Nat.le_refl d), fd_out n (d + 1) s fun e he => h e (by omega)]
theorem sm_out {f : Nat → Int} : ∀ (n d : Nat), (∀ e, d ≤ e → f e = 0) → sm_i f d n = 0
  | 0, d, h => rfl
  | n + 1, d, h => by
    show f d + sm_i f (d + 1) n = 0
    rw [h d (Nat.le_refl d), sm_out n (d + 1) fun e he => h e (by omega)]
    rfl
theorem fd_i_c {σ : Type} {F : Nat → σ → σ} {d n : Nat} {s : σ} : fd_i F d (n + 1) s = fd_i F (d + 1) n (F d s) := rfl
section YD12
variable {X : yy_X} {own : yOwn} {w t L : Nat} {xs : Nat → Int32} {lst : List (yBell × List fl_T)} {g0 g : aa_G} {h h0 : zz_H} {day fr m hr nx : Int} {φ : Option Value → zz_H → Prop}
theorem yc_hour2 {q : Nat} {u l : Int} (F : yCf own w lst g0) (C : yCx own w lst g0 h g) (o : yRw h w q [Int32.ofInt u, Int32.ofInt (u + l)]) (hb : (0 ≤ u ∧ u ≤ 86399) ∧ 1 ≤ l ∧ l ≤ 172798 ∧ u + l ≤ 172798) {x : Int} (hx : 0 ≤ x ∧ x ≤ 12) : yy_fin X 287 (0, zz_in [.ref w, .ref q, .int (Int32.ofInt x)] (zz_nl 287), [], h) (fun r h' => r = some (.int (Int32.ofInt (u + s_h x l))) ∧ h' = h) := by
  have e := yk_h (q := (g0 541 1).toInt) (x := x) (l := l) F.2.2.2.2.1.1 hb.2.1 hx
  rw [← e]
  exact yc_hour F C o (by omega) (by omega) hx
theorem yl_la (F : yCf own w lst g0) (ht : (t : Int) < (g0 541 0).toInt) (hd : 0 ≤ day ∧ day ≤ 35999) (hX : X.1 = some (L, xs)) (hL : L ≤ 100000) (hfr : 0 ≤ fr ∧ fr ≤ 900000) (M : yMo own w h.1.1) (C : yCx own w lst g0 h g) (hB : h.1.1 + 20 < yy_B) (kk : ∀ h' b10 b11 b16 m hr nx, (1 ≤ m ∧ m ≤ 25) → (0 ≤ hr ∧ hr ≤ 11) → (hr + 1 ≤ nx ∧ nx ≤ 12) → yCx own w lst g0 h' g → yx (yAk w) 3 15 h h' → b10 < b11 → b11 < b16 → yRm h h' w b10 [Int32.ofInt (-2), Int32.ofInt (-2), Int32.ofInt (-2)] → yRm h h' w b11 [Int32.ofInt 0, Int32.ofInt 0, Int32.ofInt 0] → yRm h h' w b16 (y_9 fun _ => 0) → yy_fin X 298 (96, [some (.ref 1), some (.ref w), some (.ref 0), some (.int (Int32.ofInt fr)), some (.int (Int32.ofInt (t : Int))), some (.int (Int32.ofInt day)), some (.int (Int32.ofInt m)), some (.int (Int32.ofInt hr)), some (.int (Int32.ofInt nx)), some (.int (Int32.ofInt 0)), some (.ref b10), some (.ref b11), some (.int (Int32.ofInt 0)), some (.int (Int32.ofInt (-1000000))), some (.int (Int32.ofInt (-2))), some (.int (Int32.ofInt 0)), some (.ref b16), some (.int (Int32.ofInt day)), none, none, none, none, none, none, none, none, none, none], [], h') φ) : yy_fin X 298 (0, zz_in [.ref 1, .ref w, .ref 0, .int (Int32.ofInt fr), .int (Int32.ofInt (t : Int)), .int (Int32.ofInt day)] (zz_nl 298), [], h) φ := by
  have Y : yx (yAk w) 0 0 h h := yx.rf
  have n4 := F.2.2.2.1
  have hq := F.2.2.2.2.1
  have hY := Y.1
  have hg := C.2.1.2
  have l8 := F.2.2.1.2.1
  refine yy_fin.steps (n := 3) (s' := (3, [some (.ref 1), some (.ref w), some (.ref 0), some (.int (Int32.ofInt fr)), some (.int (Int32.ofInt (t : Int))), some (.int (Int32.ofInt day)), none, none, none, none, none, none, none, none, none, none, none, none, none, none, none, none, none, none, none, none, none, none], [.int (Int32.ofInt fr), .ref 0, .int (Int32.ofInt 1)], h)) rfl ?_
  refine yy_fin.calls (as := [.ref 0, .int (Int32.ofInt fr)]) rfl (by decide) rfl rfl (Nat.le_of_ble_eq_true rfl) (Nat.le_of_ble_eq_true rfl) (yl_pick hX hL (k := fr) (by omega)) ?_
  rintro v h9 ⟨x1, rfl, ax1, bx1, e9⟩
  obtain rfl := e9.symm
  refine yy_fin.steps (n := 1) (s' := (8, [some (.ref 1), some (.ref w), some (.ref 0), some (.int (Int32.ofInt fr)), some (.int (Int32.ofInt (t : Int))), some (.int (Int32.ofInt day)), none, none, none, none, none, none, none, none, none, none, none, none, none, none, none, none, none, none, none, none, none, none], [.int (Int32.ofInt 25), .int (Int32.ofInt x1), .int (Int32.ofInt 1)], h)) rfl ?_
  refine yy_fin.rm rfl (by decide) ?_
  rw [yi_rem (a := x1) (b := 25) (by omega) (by omega)]
  obtain ⟨y1, ey1⟩ : ∃ z, z = x1 % 25 := ⟨_, rfl⟩
  rw [← ey1]
  refine yy_fin.steps (n := 1) (s' := (10, [some (.ref 1), some (.ref w), some (.ref 0), some (.int (Int32.ofInt fr)), some (.int (Int32.ofInt (t : Int))), some (.int (Int32.ofInt day)), none, none, none, none, none, none, none, none, none, none, none, none, none, none, none, none, none, none, none, none, none, none], [.int ((Int32.ofInt 1) + (Int32.ofInt y1))], h)) rfl ?_
  rw [yi_add 1 y1]
  obtain ⟨m, em⟩ : ∃ z, z = 1 + y1 := ⟨_, rfl⟩
  rw [← em]
  refine yy_fin.steps (n := 5) (s' := (16, [some (.ref 1), some (.ref w), some (.ref 0), some (.int (Int32.ofInt fr)), some (.int (Int32.ofInt (t : Int))), some (.int (Int32.ofInt day)), some (.int (Int32.ofInt m)), none, none, none, none, none, none, none, none, none, none, none, none, none, none, none, none, none, none, none, none, none], [.int ((Int32.ofInt fr) + (Int32.ofInt 1)), .ref 0], h)) rfl ?_
  rw [yi_add fr 1]
  refine yy_fin.calls (as := [.ref 0, .int (Int32.ofInt (fr + 1))]) rfl (by decide) rfl rfl (Nat.le_of_ble_eq_true rfl) (Nat.le_of_ble_eq_true rfl) (yl_pick hX hL (k := fr + 1) (by omega)) ?_
  rintro v h9 ⟨x2, rfl, ax2, bx2, e9⟩
  obtain rfl := e9.symm
  refine yy_fin.steps (n := 1) (s' := (21, [some (.ref 1), some (.ref w), some (.ref 0), some (.int (Int32.ofInt fr)), some (.int (Int32.ofInt (t : Int))), some (.int (Int32.ofInt day)), some (.int (Int32.ofInt m)), none, none, none, none, none, none, none, none, none, none, none, none, none, none, none, none, none, none, none, none, none], [.int (Int32.ofInt 12), .int (Int32.ofInt x2)], h)) rfl ?_
  refine yy_fin.rm rfl (by decide) ?_
  rw [yi_rem (a := x2) (b := 12) (by omega) (by omega)]
  obtain ⟨hr, ehr⟩ : ∃ z, z = x2 % 12 := ⟨_, rfl⟩
  rw [← ehr]
  refine yy_fin.steps (n := 8) (s' := (32, [some (.ref 1), some (.ref w), some (.ref 0), some (.int (Int32.ofInt fr)), some (.int (Int32.ofInt (t : Int))), some (.int (Int32.ofInt day)), some (.int (Int32.ofInt m)), some (.int (Int32.ofInt hr)), none, none, none, none, none, none, none, none, none, none, none, none, none, none, none, none, none, none, none, none], [.int ((Int32.ofInt fr) + (Int32.ofInt 2)), .ref 0, .int ((Int32.ofInt hr) + (Int32.ofInt 1))], h)) rfl ?_
  rw [yi_add fr 2]
  rw [yi_add hr 1]
  refine yy_fin.calls (as := [.ref 0, .int (Int32.ofInt (fr + 2))]) rfl (by decide) rfl rfl (Nat.le_of_ble_eq_true rfl) (Nat.le_of_ble_eq_true rfl) (yl_pick hX hL (k := fr + 2) (by omega)) ?_
  rintro v h9 ⟨x3, rfl, ax3, bx3, e9⟩
  obtain rfl := e9.symm
  refine yy_fin.steps (n := 3) (s' := (40, [some (.ref 1), some (.ref w), some (.ref 0), some (.int (Int32.ofInt fr)), some (.int (Int32.ofInt (t : Int))), some (.int (Int32.ofInt day)), some (.int (Int32.ofInt m)), some (.int (Int32.ofInt hr)), none, none, none, none, none, none, none, none, none, none, none, none, none, none, none, none, none, none, none, none], [.int ((Int32.ofInt 12) - (Int32.ofInt hr)), .int (Int32.ofInt x3), .int (Int32.ofInt (hr + 1))], h)) rfl ?_
  rw [yi_sub 12 hr]
  refine yy_fin.rm rfl (fun z => by have z := (yi_eq (a := 12 - hr) (b := 0) (by omega) (by omega)).mp z; omega) ?_
  rw [yi_rem (a := x3) (b := 12 - hr) (by omega) (by omega)]
  obtain ⟨y3, ey3⟩ : ∃ z, z = x3 % (12 - hr) := ⟨_, rfl⟩
  rw [← ey3]
  have hy3 : 0 ≤ y3 ∧ y3 < 12 - hr := by rw [ey3]; exact ⟨Int.emod_nonneg _ (by omega), Int.emod_lt_of_pos _ (by omega)⟩
  refine yy_fin.steps (n := 1) (s' := (42, [some (.ref 1), some (.ref w), some (.ref 0), some (.int (Int32.ofInt fr)), some (.int (Int32.ofInt (t : Int))), some (.int (Int32.ofInt day)), some (.int (Int32.ofInt m)), some (.int (Int32.ofInt hr)), none, none, none, none, none, none, none, none, none, none, none, none, none, none, none, none, none, none, none, none], [.int ((Int32.ofInt (hr + 1)) + (Int32.ofInt y3))], h)) rfl ?_
  rw [yi_add (hr + 1) y3]
  obtain ⟨nx, enx⟩ : ∃ z, z = (hr + 1) + y3 := ⟨_, rfl⟩
  rw [← enx]
  refine yy_fin.steps (n := 4) (s' := (48, [some (.ref 1), some (.ref w), some (.ref 0), some (.int (Int32.ofInt fr)), some (.int (Int32.ofInt (t : Int))), some (.int (Int32.ofInt day)), some (.int (Int32.ofInt m)), some (.int (Int32.ofInt hr)), some (.int (Int32.ofInt nx)), some (.int (Int32.ofInt 0)), none, none, none, none, none, none, none, none, none, none, none, none, none, none, none, none, none, none], [.int (Int32.ofInt 3)], h)) rfl ?_
  refine yy_fin.ni (n := 3) rfl (by decide) (by decide) (by decide) (by omega) C.2.2.2.2 fun h101 x101 e101 i101 z101 => ?_
  have O10 : yRm h h101 w (h.1.1 + 1) [Int32.ofInt 0, Int32.ofInt 0, Int32.ofInt 0] := yRm.nw C Y i101 z101
  replace C := C.f x101
  replace x101 := x101.ak (w := w)
  have hx101 := x101.1
  replace Y := Y.tr x101 (fun _ _ e => e)
  replace hY := Y.1
  refine yy_fin.steps (n := 3) (s' := (54, [some (.ref 1), some (.ref w), some (.ref 0), some (.int (Int32.ofInt fr)), some (.int (Int32.ofInt (t : Int))), some (.int (Int32.ofInt day)), some (.int (Int32.ofInt m)), some (.int (Int32.ofInt hr)), some (.int (Int32.ofInt nx)), some (.int (Int32.ofInt 0)), none, none, none, none, none, none, none, none, none, none, none, none, none, none, none, none, none, none], [.int (Int32.ofInt (-2)), .int (Int32.ofInt 0), .ref (h.1.1 + 1), .ref (h.1.1 + 1)], h101)) rfl ?_
  refine yy_fin.sp rfl O10.2 rfl (by decide) (show 0 < 3 by omega) fun h102 x102 q102 => ?_
  have hx102 := x102.1
  replace C := C.m M O10 x102
  replace Y := Y.m O10 x102
  replace hY := Y.1
  replace O10 : yRm h h102 w (h.1.1 + 1) [(Int32.ofInt (-2)), (Int32.ofInt 0), (Int32.ofInt 0)] := O10.s q102
  refine yy_fin.steps (n := 3) (s' := (59, [some (.ref 1), some (.ref w), some (.ref 0), some (.int (Int32.ofInt fr)), some (.int (Int32.ofInt (t : Int))), some (.int (Int32.ofInt day)), some (.int (Int32.ofInt m)), some (.int (Int32.ofInt hr)), some (.int (Int32.ofInt nx)), some (.int (Int32.ofInt 0)), none, none, none, none, none, none, none, none, none, none, none, none, none, none, none, none, none, none], [.int (Int32.ofInt (-2)), .int (Int32.ofInt 1), .ref (h.1.1 + 1), .ref (h.1.1 + 1)], h102)) rfl ?_
  refine yy_fin.sp rfl O10.2 rfl (by decide) (show 1 < 3 by omega) fun h103 x103 q103 => ?_
  have hx103 := x103.1
  replace C := C.m M O10 x103
  replace Y := Y.m O10 x103
  replace hY := Y.1
  replace O10 : yRm h h103 w (h.1.1 + 1) [(Int32.ofInt (-2)), (Int32.ofInt (-2)), (Int32.ofInt 0)] := O10.s q103
  refine yy_fin.steps (n := 3) (s' := (64, [some (.ref 1), some (.ref w), some (.ref 0), some (.int (Int32.ofInt fr)), some (.int (Int32.ofInt (t : Int))), some (.int (Int32.ofInt day)), some (.int (Int32.ofInt m)), some (.int (Int32.ofInt hr)), some (.int (Int32.ofInt nx)), some (.int (Int32.ofInt 0)), none, none, none, none, none, none, none, none, none, none, none, none, none, none, none, none, none, none], [.int (Int32.ofInt (-2)), .int (Int32.ofInt 2), .ref (h.1.1 + 1), .ref (h.1.1 + 1)], h103)) rfl ?_
  refine yy_fin.sp rfl O10.2 rfl (by decide) (show 2 < 3 by omega) fun h104 x104 q104 => ?_
  have hx104 := x104.1
  replace C := C.m M O10 x104
  replace Y := Y.m O10 x104
  replace hY := Y.1
  replace O10 : yRm h h104 w (h.1.1 + 1) [(Int32.ofInt (-2)), (Int32.ofInt (-2)), (Int32.ofInt (-2))] := O10.s q104
  refine yy_fin.steps (n := 2) (s' := (68, [some (.ref 1), some (.ref w), some (.ref 0), some (.int (Int32.ofInt fr)), some (.int (Int32.ofInt (t : Int))), some (.int (Int32.ofInt day)), some (.int (Int32.ofInt m)), some (.int (Int32.ofInt hr)), some (.int (Int32.ofInt nx)), some (.int (Int32.ofInt 0)), some (.ref (h.1.1 + 1)), none, none, none, none, none, none, none, none, none, none, none, none, none, none, none, none, none], [.int (Int32.ofInt 3)], h104)) rfl ?_
  have leO10_106 := O10.le
  refine yy_fin.ni (n := 3) rfl (by decide) (by decide) (by decide) (by omega) C.2.2.2.2 fun h105 x105 e105 i105 z105 => ?_
  have O11 : yRm h h105 w (h104.1.1 + 1) [Int32.ofInt 0, Int32.ofInt 0, Int32.ofInt 0] := yRm.nw C Y i105 z105
  replace C := C.f x105
  replace x105 := x105.ak (w := w)
  replace O10 := O10.k x105
  have hx105 := x105.1
  replace Y := Y.tr x105 (fun _ _ e => e)
  replace hY := Y.1
  refine yy_fin.steps (n := 10) (s' := (88, [some (.ref 1), some (.ref w), some (.ref 0), some (.int (Int32.ofInt fr)), some (.int (Int32.ofInt (t : Int))), some (.int (Int32.ofInt day)), some (.int (Int32.ofInt m)), some (.int (Int32.ofInt hr)), some (.int (Int32.ofInt nx)), some (.int (Int32.ofInt 0)), some (.ref (h.1.1 + 1)), some (.ref (h104.1.1 + 1)), some (.int (Int32.ofInt 0)), some (.int (Int32.ofInt (-1000000))), some (.int (Int32.ofInt (-2))), some (.int (Int32.ofInt 0)), none, none, none, none, none, none, none, none, none, none, none, none], [.int (Int32.ofInt 9)], h105)) rfl ?_
  have leO10_108 := O10.le
  have leO11_109 := O11.le
  refine yy_fin.ni (n := 9) rfl (by decide) (by decide) (by decide) (by omega) C.2.2.2.2 fun h107 x107 e107 i107 z107 => ?_
  have O16 : yRm h h107 w (h105.1.1 + 1) (y_9 fun _ => 0) := yRm.nw C Y i107 z107
  replace C := C.f x107
  replace x107 := x107.ak (w := w)
  replace O10 := O10.k x107
  replace O11 := O11.k x107
  have hx107 := x107.1
  replace Y := Y.tr x107 (fun _ _ e => e)
  replace hY := Y.1
  refine yy_fin.steps (n := 3) (s' := (96, [some (.ref 1), some (.ref w), some (.ref 0), some (.int (Int32.ofInt fr)), some (.int (Int32.ofInt (t : Int))), some (.int (Int32.ofInt day)), some (.int (Int32.ofInt m)), some (.int (Int32.ofInt hr)), some (.int (Int32.ofInt nx)), some (.int (Int32.ofInt 0)), some (.ref (h.1.1 + 1)), some (.ref (h104.1.1 + 1)), some (.int (Int32.ofInt 0)), some (.int (Int32.ofInt (-1000000))), some (.int (Int32.ofInt (-2))), some (.int (Int32.ofInt 0)), some (.ref (h105.1.1 + 1)), some (.int (Int32.ofInt day)), none, none, none, none, none, none, none, none, none, none], [], h107)) rfl ?_
  exact kk _ _ _ _ m hr nx (by omega) (by omega) (by omega) C (Y.le (by omega) (by omega)) (by omega) (by omega) O10 O11 O16
theorem yl_lb (F : yCf own w lst g0) (ht : (t : Int) < (g0 541 0).toInt) (hd : 0 ≤ day ∧ day ≤ 35999) (M : yMo own w h0.1.1) (hm : 1 ≤ m ∧ m ≤ 25) (hhr : 0 ≤ hr ∧ hr ≤ 11) (hnx : hr + 1 ≤ nx ∧ nx ≤ 12) {b10 b11 b16 q19 n18 n19 a e d : Nat} {l10 l11 : List Int32} {k18 : Option Nat} {wk gs gt go T : Int} {ZZ : Nat → Int} (h9 : (b10 < b11 ∧ b11 < b16) ∧ b16 ≤ n18 ∧ b16 ≤ n19) (kk : ∀ h' x22, yCx own w lst g0 h' g → yx (yAk w) a e h0 h' → yRm h0 h' w b10 l10 → yRm h0 h' w b11 l11 → yRm h0 h' w b16 (y_9 ZZ) → yHz own n18 h' w k18 (hv_t (g0 541) t (d : Int) 0) → yy_fin X 298 (190, [some (.ref 1), some (.ref w), some (.ref 0), some (.int (Int32.ofInt fr)), some (.int (Int32.ofInt (t : Int))), some (.int (Int32.ofInt day)), some (.int (Int32.ofInt m)), some (.int (Int32.ofInt hr)), some (.int (Int32.ofInt nx)), some (.int (Int32.ofInt wk)), some (.ref b10), some (.ref b11), some (.int (Int32.ofInt gs)), some (.int (Int32.ofInt gt)), some (.int (Int32.ofInt go)), some (.int (Int32.ofInt T)), some (.ref b16), some (.int (Int32.ofInt (d : Int))), some (zz_val k18), some (.ref q19), some (.int (Int32.ofInt ((yRq (g0 541) t lst (d : Int)).length : Int))), some (.int (Int32.ofInt ((yRq (g0 541) t lst (d : Int)).length : Int))), x22, none, none, none, none, none], [], h') φ) : ∀ (n i : Nat) (h : zz_H) (st : Int) (Z : Nat → Int) (x22 : Option Value), i + n = (yRq (g0 541) t lst (d : Int)).length → st + sm_i (fun j => y_stk lst (y_s2 (yRq (g0 541) t lst (d : Int)) j)) i n = T → (∀ q, Z q + sm_i (bz_n (yRq (g0 541) t lst (d : Int)) q) i n = ZZ q) → yCx own w lst g0 h g → yx (yAk w) a e h0 h → yRm h0 h w b10 l10 → yRm h0 h w b11 l11 → yRm h0 h w b16 (y_9 Z) → yHz own n18 h w k18 (hv_t (g0 541) t (d : Int) 0) → yRrz n19 h w q19 (yRq (g0 541) t lst (d : Int)) → yy_fin X 298 (142, [some (.ref 1), some (.ref w), some (.ref 0), some (.int (Int32.ofInt fr)), some (.int (Int32.ofInt (t : Int))), some (.int (Int32.ofInt day)), some (.int (Int32.ofInt m)), some (.int (Int32.ofInt hr)), some (.int (Int32.ofInt nx)), some (.int (Int32.ofInt wk)), some (.ref b10), some (.ref b11), some (.int (Int32.ofInt gs)), some (.int (Int32.ofInt gt)), some (.int (Int32.ofInt go)), some (.int (Int32.ofInt st)), some (.ref b16), some (.int (Int32.ofInt (d : Int))), some (zz_val k18), some (.ref q19), some (.int (Int32.ofInt ((yRq (g0 541) t lst (d : Int)).length : Int))), some (.int (Int32.ofInt (i : Int))), x22, none, none, none, none, none], [], h) φ
  | 0, i, h, st, Z, x22, hi, hT, hZ, C, Y, O10, O11, O16, H18, H19 => by
    have n4 := F.2.2.2.1
    have hq := F.2.2.2.2.1
    have hY := Y.1
    have hg := C.2.1.2
    have l8 := F.2.2.1.2.1
    have l16 := yRq_len (t := t) (d := (d : Int)) F.2.2.1
    have hb := yRq_b (d := (d : Int)) F.2.2.2 ht F.2.2.1
    have eT : st = T := by rw [← hT]; exact (Int.add_zero st).symm
    have eZ : Z = ZZ := funext fun q => by rw [← hZ q]; exact (Int.add_zero (Z q)).symm
    subst eT eZ
    rw [show (i : Int) = ((yRq (g0 541) t lst (d : Int)).length : Int) by omega]
    refine yy_fin.steps (n := 2) (s' := (146, [some (.ref 1), some (.ref w), some (.ref 0), some (.int (Int32.ofInt fr)), some (.int (Int32.ofInt (t : Int))), some (.int (Int32.ofInt day)), some (.int (Int32.ofInt m)), some (.int (Int32.ofInt hr)), some (.int (Int32.ofInt nx)), some (.int (Int32.ofInt wk)), some (.ref b10), some (.ref b11), some (.int (Int32.ofInt gs)), some (.int (Int32.ofInt gt)), some (.int (Int32.ofInt go)), some (.int (Int32.ofInt st)), some (.ref b16), some (.int (Int32.ofInt (d : Int))), some (zz_val k18), some (.ref q19), some (.int (Int32.ofInt ((yRq (g0 541) t lst (d : Int)).length : Int))), some (.int (Int32.ofInt ((yRq (g0 541) t lst (d : Int)).length : Int))), x22, none, none, none, none, none], [.int (Int32.ofInt ((yRq (g0 541) t lst (d : Int)).length : Int)), .int (Int32.ofInt ((yRq (g0 541) t lst (d : Int)).length : Int))], h)) rfl ?_
    refine yy_fin.ic rfl (fun cq => ?_) (fun cq => absurd ((yi_c_ge (a := ((yRq (g0 541) t lst (d : Int)).length : Int)) (b := ((yRq (g0 541) t lst (d : Int)).length : Int)) (by omega) (by omega)).mpr (by omega)) cq)
    have cq := (yi_c_ge (a := ((yRq (g0 541) t lst (d : Int)).length : Int)) (b := ((yRq (g0 541) t lst (d : Int)).length : Int)) (by omega) (by omega)).mp cq
    exact kk _ _ C Y O10 O11 O16 H18
  | n + 1, i, h, st, Z, x22, hi, hT, hZ, C, Y, O10, O11, O16, H18, H19 => by
    have n4 := F.2.2.2.1
    have hq := F.2.2.2.2.1
    have hY := Y.1
    have hg := C.2.1.2
    have l8 := F.2.2.1.2.1
    have l16 := yRq_len (t := t) (d := (d : Int)) F.2.2.1
    have hb := yRq_b (d := (d : Int)) F.2.2.2 ht F.2.2.1
    obtain ⟨z, ez⟩ : ∃ z, (yRq (g0 541) t lst (d : Int))[i]? = some z := ⟨_, List.getElem?_eq_getElem (by omega)⟩
    obtain ⟨z1, z2⟩ := y_s_at ez
    have zb := hb z (List.mem_of_getElem? ez)
    have ks := (y_stk_at F.2.2.1 zb.2).2.1
    obtain ⟨⟨r1, r2, r3⟩, rs19, R19, l19, a19⟩ := id H19
    obtain ⟨kz, ekz, nz, Rz⟩ := a19 i z ez
    obtain ⟨ob, pb, bb, tb, bs, oB, rB, lB, aB⟩ := C.bells F
    obtain ⟨qz, fz, eqz, oz, fz3, sz⟩ := aB z.2 zb.2.1 zb.2.2
    obtain ⟨v, ev⟩ : ∃ v : Nat, z.2 = v := ⟨z.2.toNat, by omega⟩
    have ev2 : y_s2 (yRq (g0 541) t lst (d : Int)) i = (v : Int) := z2.trans ev
    have hv8 : v < 8 := by omega
    refine yy_fin.steps (n := 2) (s' := (146, [some (.ref 1), some (.ref w), some (.ref 0), some (.int (Int32.ofInt fr)), some (.int (Int32.ofInt (t : Int))), some (.int (Int32.ofInt day)), some (.int (Int32.ofInt m)), some (.int (Int32.ofInt hr)), some (.int (Int32.ofInt nx)), some (.int (Int32.ofInt wk)), some (.ref b10), some (.ref b11), some (.int (Int32.ofInt gs)), some (.int (Int32.ofInt gt)), some (.int (Int32.ofInt go)), some (.int (Int32.ofInt st)), some (.ref b16), some (.int (Int32.ofInt (d : Int))), some (zz_val k18), some (.ref q19), some (.int (Int32.ofInt ((yRq (g0 541) t lst (d : Int)).length : Int))), some (.int (Int32.ofInt (i : Int))), x22, none, none, none, none, none], [.int (Int32.ofInt ((yRq (g0 541) t lst (d : Int)).length : Int)), .int (Int32.ofInt (i : Int))], h)) rfl ?_
    refine yy_fin.ic rfl (fun cq => absurd ((yi_c_ge (a := (i : Int)) (b := ((yRq (g0 541) t lst (d : Int)).length : Int)) (by omega) (by omega)).mp cq) (by omega)) (fun cq => ?_)
    have cq := mt (yi_c_ge (a := (i : Int)) (b := ((yRq (g0 541) t lst (d : Int)).length : Int)) (by omega) (by omega)).mpr cq
    refine yy_fin.steps (n := 2) (s' := (153, [some (.ref 1), some (.ref w), some (.ref 0), some (.int (Int32.ofInt fr)), some (.int (Int32.ofInt (t : Int))), some (.int (Int32.ofInt day)), some (.int (Int32.ofInt m)), some (.int (Int32.ofInt hr)), some (.int (Int32.ofInt nx)), some (.int (Int32.ofInt wk)), some (.ref b10), some (.ref b11), some (.int (Int32.ofInt gs)), some (.int (Int32.ofInt gt)), some (.int (Int32.ofInt go)), some (.int (Int32.ofInt st)), some (.ref b16), some (.int (Int32.ofInt (d : Int))), some (zz_val k18), some (.ref q19), some (.int (Int32.ofInt ((yRq (g0 541) t lst (d : Int)).length : Int))), some (.int (Int32.ofInt (i : Int))), x22, none, none, none, none, none], [.int (Int32.ofInt (i : Int)), .ref q19], h)) rfl ?_
    refine yy_fin.ar rfl R19 (by decide) (yi_inb (a := (i : Int)) (by omega) (by omega) (by omega)) ((yi_cl (a := (i : Int)) (by omega)).trans (Int.toNat_natCast i)) ekz ?_
    refine yy_fin.steps (n := 3) (s' := (159, [some (.ref 1), some (.ref w), some (.ref 0), some (.int (Int32.ofInt fr)), some (.int (Int32.ofInt (t : Int))), some (.int (Int32.ofInt day)), some (.int (Int32.ofInt m)), some (.int (Int32.ofInt hr)), some (.int (Int32.ofInt nx)), some (.int (Int32.ofInt wk)), some (.ref b10), some (.ref b11), some (.int (Int32.ofInt gs)), some (.int (Int32.ofInt gt)), some (.int (Int32.ofInt go)), some (.int (Int32.ofInt st)), some (.ref b16), some (.int (Int32.ofInt (d : Int))), some (zz_val k18), some (.ref q19), some (.int (Int32.ofInt ((yRq (g0 541) t lst (d : Int)).length : Int))), some (.int (Int32.ofInt (i : Int))), some (.ref kz), none, none, none, none, none], [.ref w, .int (Int32.ofInt st)], h)) rfl ?_
    refine yy_fin.fr rfl oB rfl ?_
    refine yy_fin.steps (n := 2) (s' := (165, [some (.ref 1), some (.ref w), some (.ref 0), some (.int (Int32.ofInt fr)), some (.int (Int32.ofInt (t : Int))), some (.int (Int32.ofInt day)), some (.int (Int32.ofInt m)), some (.int (Int32.ofInt hr)), some (.int (Int32.ofInt nx)), some (.int (Int32.ofInt wk)), some (.ref b10), some (.ref b11), some (.int (Int32.ofInt gs)), some (.int (Int32.ofInt gt)), some (.int (Int32.ofInt go)), some (.int (Int32.ofInt st)), some (.ref b16), some (.int (Int32.ofInt (d : Int))), some (zz_val k18), some (.ref q19), some (.int (Int32.ofInt ((yRq (g0 541) t lst (d : Int)).length : Int))), some (.int (Int32.ofInt (i : Int))), some (.ref kz), none, none, none, none, none], [.int (Int32.ofInt 1), .ref kz, .ref bb, .int (Int32.ofInt st)], h)) rfl ?_
    refine yy_fin.lp (j := 1) rfl Rz.2 rfl (by decide) rfl ?_
    refine yy_fin.ar rfl rB (by decide) (yi_inb (a := z.2) (by omega) (by omega) (by omega)) (yi_cl (a := z.2) (by omega)) eqz ?_
    refine yy_fin.fi rfl oz fz3 sz ?_
    refine yy_fin.steps (n := 5) (s' := (178, [some (.ref 1), some (.ref w), some (.ref 0), some (.int (Int32.ofInt fr)), some (.int (Int32.ofInt (t : Int))), some (.int (Int32.ofInt day)), some (.int (Int32.ofInt m)), some (.int (Int32.ofInt hr)), some (.int (Int32.ofInt nx)), some (.int (Int32.ofInt wk)), some (.ref b10), some (.ref b11), some (.int (Int32.ofInt gs)), some (.int (Int32.ofInt gt)), some (.int (Int32.ofInt go)), some (.int ((Int32.ofInt st) + (Int32.ofInt (y_stk lst z.2)))), some (.ref b16), some (.int (Int32.ofInt (d : Int))), some (zz_val k18), some (.ref q19), some (.int (Int32.ofInt ((yRq (g0 541) t lst (d : Int)).length : Int))), some (.int (Int32.ofInt (i : Int))), some (.ref kz), none, none, none, none, none], [.int (Int32.ofInt 1), .ref kz, .ref b16], h)) rfl ?_
    rw [yi_add st (y_stk lst z.2)]
    refine yy_fin.lp (j := 1) rfl Rz.2 rfl (by decide) rfl ?_
    refine yy_fin.steps (n := 1) (s' := (180, [some (.ref 1), some (.ref w), some (.ref 0), some (.int (Int32.ofInt fr)), some (.int (Int32.ofInt (t : Int))), some (.int (Int32.ofInt day)), some (.int (Int32.ofInt m)), some (.int (Int32.ofInt hr)), some (.int (Int32.ofInt nx)), some (.int (Int32.ofInt wk)), some (.ref b10), some (.ref b11), some (.int (Int32.ofInt gs)), some (.int (Int32.ofInt gt)), some (.int (Int32.ofInt go)), some (.int (Int32.ofInt (st + (y_stk lst z.2)))), some (.ref b16), some (.int (Int32.ofInt (d : Int))), some (zz_val k18), some (.ref q19), some (.int (Int32.ofInt ((yRq (g0 541) t lst (d : Int)).length : Int))), some (.int (Int32.ofInt (i : Int))), some (.ref kz), none, none, none, none, none], [.int (Int32.ofInt z.2), .ref b16, .int (Int32.ofInt z.2), .ref b16], h)) rfl ?_
    refine yy_fin.lp rfl O16.2 (by rw [y_9_len]; exact yi_inb (a := z.2) (by omega) (by omega) (by omega)) ((yi_cl (a := z.2) (by omega)).trans (show z.2.toNat = v by omega)) (y_9_at (by omega)) ?_
    refine yy_fin.steps (n := 2) (s' := (183, [some (.ref 1), some (.ref w), some (.ref 0), some (.int (Int32.ofInt fr)), some (.int (Int32.ofInt (t : Int))), some (.int (Int32.ofInt day)), some (.int (Int32.ofInt m)), some (.int (Int32.ofInt hr)), some (.int (Int32.ofInt nx)), some (.int (Int32.ofInt wk)), some (.ref b10), some (.ref b11), some (.int (Int32.ofInt gs)), some (.int (Int32.ofInt gt)), some (.int (Int32.ofInt go)), some (.int (Int32.ofInt (st + (y_stk lst z.2)))), some (.ref b16), some (.int (Int32.ofInt (d : Int))), some (zz_val k18), some (.ref q19), some (.int (Int32.ofInt ((yRq (g0 541) t lst (d : Int)).length : Int))), some (.int (Int32.ofInt (i : Int))), some (.ref kz), none, none, none, none, none], [.int ((Int32.ofInt (Z v)) + (Int32.ofInt 1)), .int (Int32.ofInt z.2), .ref b16], h)) rfl ?_
    rw [yi_add (Z v) 1]
    refine yy_fin.sp rfl O16.2 (by rw [y_9_len]; exact yi_inb (a := z.2) (by omega) (by omega) (by omega)) ((yi_cl (a := z.2) (by omega)).trans (show z.2.toNat = v by omega)) (by rw [y_9_len]; omega) fun h101 x101 q101 => ?_
    have hx101 := x101.1
    replace C := C.m M O16 x101
    replace Y := Y.m O16 x101
    replace hY := Y.1
    replace O10 := O10.o (by omega) x101
    replace O11 := O11.o (by omega) x101
    replace Rz := Rz.o (by omega) x101
    replace H18 := H18.m M O16 (by omega) x101
    replace H19 := H19.o (by omega) x101
    replace O16 : yRm h0 h101 w b16 (y_9 fun q => Z q + bz_n (yRq (g0 541) t lst (d : Int)) q i) := (by have q9 := O16.s q101; rw [y_9_set (by omega) ev2] at q9; exact q9)
    refine yy_fin.steps (n := 2) (s' := (142, [some (.ref 1), some (.ref w), some (.ref 0), some (.int (Int32.ofInt fr)), some (.int (Int32.ofInt (t : Int))), some (.int (Int32.ofInt day)), some (.int (Int32.ofInt m)), some (.int (Int32.ofInt hr)), some (.int (Int32.ofInt nx)), some (.int (Int32.ofInt wk)), some (.ref b10), some (.ref b11), some (.int (Int32.ofInt gs)), some (.int (Int32.ofInt gt)), some (.int (Int32.ofInt go)), some (.int (Int32.ofInt (st + (y_stk lst z.2)))), some (.ref b16), some (.int (Int32.ofInt (d : Int))), some (zz_val k18), some (.ref q19), some (.int (Int32.ofInt ((yRq (g0 541) t lst (d : Int)).length : Int))), some (.int ((Int32.ofInt (i : Int)) + (Int32.ofInt 1))), some (.ref kz), none, none, none, none, none], [], h101)) rfl ?_
    rw [yi_add (i : Int) 1]
    rw [show (i : Int) + 1 = ((i + 1 : Nat) : Int) by omega]
    refine yl_lb F ht hd M hm hhr hnx h9 kk n (i + 1) _ _ _ _ (by omega) ?_ (fun q => ?_) C Y O10 O11 O16 H18 H19
    · rw [← hT, ← z2]
      exact Int.add_assoc ..
    · rw [← hZ q]
      exact Int.add_assoc ..
end YD12
