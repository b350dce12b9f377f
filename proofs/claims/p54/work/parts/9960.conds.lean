/-! W: a condition, read off its letters; told by the tokens (fl_T) that it is written out of (printed by wip/p54/w3.py) -/
def y_th (t : fl_T) : List Int32 := if t.2.1 = 0 then y_dig t.2.2.toInt.toNat else [t.2.1]
def y_rn : List fl_T → List Int32
  | [] => []
  | t :: r => t.1 :: (y_th t ++ y_rn r)
def y_hd : List Int32 → Int32
  | [] => 32
  | x :: _ => x
def y_sg : List fl_T → Int32
  | [] => 32
  | t :: _ => t.1
theorem y_hd_rn (r : List fl_T) : y_hd (y_rn r) = y_sg r := by cases r <;> rfl
def y_tok (t : fl_T) : Prop := (t.2.1 = 0 ∧ 0 ≤ t.2.2.toInt ∧ t.2.2.toInt < 100000) ∨ ((t.2.1 = 119 ∨ t.2.1 = 121 ∨ t.2.1 = 108 ∨ t.2.1 = 116 ∨ t.2.1 = 122) ∧ t.2.2 = 0)
def y_sig (s : Int32) : Prop := s = 42 ∨ s = 47 ∨ s = 43 ∨ s = 45 ∨ s = 60 ∨ s = 62 ∨ s = 61 ∨ s = 38 ∨ s = 124
def y_tks (r : List fl_T) : Prop := ∀ t ∈ r, y_tok t ∧ y_sig t.1
theorem y_tksC {t : fl_T} {r : List fl_T} (h : y_tks (t :: r)) : (y_tok t ∧ y_sig t.1) ∧ y_tks r := ⟨h t (List.mem_cons_self ..), fun q hq => h q (List.mem_cons_of_mem _ hq)⟩
def y_fig (x : Int32) : Prop := 48 ≤ x.toInt ∧ x.toInt ≤ 57
theorem y_sg_nf {r : List fl_T} (h : y_tks r) : ¬ y_fig (y_sg r) := by
  cases r with
  | nil =>
    show ¬ (48 ≤ (32 : Int32).toInt ∧ (32 : Int32).toInt ≤ 57)
    decide
  | cons t r =>
    have h1 : y_sig t.1 := (y_tksC h).1.2
    show ¬ y_fig t.1
    unfold y_sig at h1
    unfold y_fig
    rcases h1 with e | e | e | e | e | e | e | e | e <;> (rw [e]; decide)
/-- what figures say -/
def y_fold : Int32 → List Int32 → Int32
  | v, [] => v
  | v, d :: r => y_fold (10 * v + d - 48) r
theorem y_fold_1 (v : Int) (m : Nat) : (10 : Int32) * Int32.ofInt v + y_d m - 48 = Int32.ofInt (10 * v + (m % 10 : Nat)) := by
  unfold y_d
  rw [yi_n]
  show Int32.ofInt 10 * Int32.ofInt v + Int32.ofInt ((48 + m % 10 : Nat) : Int) - Int32.ofInt 48 = _
  rw [yi_mul, yi_add, yi_sub]
  exact congrArg Int32.ofInt (by omega)
theorem y_fold_dig {n : Nat} (h : n < 100000) : y_fold 0 (y_dig n) = Int32.ofNat n := by
  rw [yi_n]
  show y_fold (Int32.ofInt 0) (y_dig n) = _
  unfold y_dig
  repeat' split
  all_goals
    simp only [y_fold, y_fold_1]
    exact congrArg Int32.ofInt (by omega)
theorem y_dig_fig (n : Nat) : ∀ d ∈ y_dig n, y_fig d := by
  have hd : ∀ m, y_fig (y_d m) := fun m => by
    unfold y_fig y_d
    rw [y_nI (by omega)]
    omega
  have c : ∀ {a : Int32} {l : List Int32}, y_fig a → (∀ d ∈ l, y_fig d) → ∀ d ∈ a :: l, y_fig d := fun ha hl d hm => (List.mem_cons.mp hm).elim (fun e => e ▸ ha) (hl d)
  have z : ∀ d ∈ ([] : List Int32), y_fig d := fun d hm => absurd hm List.not_mem_nil
  unfold y_dig
  repeat' split
  · exact c (hd _) z
  · exact c (hd _) (c (hd _) z)
  · exact c (hd _) (c (hd _) (c (hd _) z))
  · exact c (hd _) (c (hd _) (c (hd _) (c (hd _) z)))
  · exact c (hd _) (c (hd _) (c (hd _) (c (hd _) (c (hd _) z))))
/-- W while it reads: text k (bytes l in row v) from place a on -/
def yCs (h : zz_H) (w o p b k v : Nat) (l : List Int32) (tn dy lg pr : Int32) (a : Nat) : Prop := yO h w 12 [some (some o), some (some p), some (some b), none, some (some k), none, none, none, none] ∧ h.2.2 w 5 = Int32.ofInt (a : Int) ∧ h.2.2 w 6 = tn ∧ h.2.2 w 7 = dy ∧ h.2.2 w 8 = lg ∧ h.2.2 w 3 = pr ∧ yT h k v l ∧ a ≤ l.length
theorem yT.neO {h : zz_H} {s v k c : Nat} {l : List Int32} {g : List (Option (Option Nat))} (o : yT h s v l) (p : yO h k c g) (hc : c ≠ 14) : s ≠ k ∧ v ≠ k := by
  obtain ⟨o1, -, -, o4⟩ := o
  have e0 := p.2.1
  refine ⟨?_, ?_⟩
  · rcases o4 with ⟨q, -⟩ | ⟨q, -⟩
    · exact q.ne p (Ne.symm hc)
    · omega
  · rcases o1 with ⟨q, -⟩ | ⟨q, -⟩
    · exact q.neO p
    · omega
theorem js_charAtZ {X : yy_X} {h : zz_H} {k v j : Nat} {l : List Int32} {c : Int32} (o : yT h k v l) (hB : h.1.1 < yy_B) (ej : l[j]? = some c) : yy_fin X 330 (0, zz_in [.ref k, .int (Int32.ofInt (j : Int))] (zz_nl 330), [], h) (fun r h' => r = some (.int c) ∧ h' = h) := by
  have h1 := js_charAt (X := X) o hB ej
  rw [yi_n] at h1
  exact h1
theorem js_lenZ {X : yy_X} {h : zz_H} {k v : Nat} {l : List Int32} (o : yT h k v l) (hB : h.1.1 < yy_B) : yy_fin X 327 (0, zz_in [.ref k] (zz_nl 327), [], h) (fun r h' => r = some (.int (Int32.ofInt (l.length : Int))) ∧ h' = h) := by
  have h1 := js_len (X := X) o hB
  rw [yi_n] at h1
  exact h1
theorem y_at_hd {l : List Int32} {a : Nat} {x : Int32} {r : List Int32} (e : l.drop a = x :: r) : l[a]? = some x ∧ l.drop (a + 1) = r ∧ a < l.length := by
  have h1 : (l.drop a)[0]? = some x := by rw [e]; rfl
  rw [List.getElem?_drop, Nat.add_zero] at h1
  refine ⟨h1, ?_, (List.getElem?_eq_some_iff.mp h1).1⟩
  rw [← List.drop_drop, e]
  rfl
theorem y_at_nil {l : List Int32} {a : Nat} (e : l.drop a = []) : l.length ≤ a := List.drop_eq_nil_iff.mp e
section YW3
variable {X : yy_X} {h : zz_H} {w o p b k v a : Nat} {l : List Int32} {tn dy lg pr : Int32}
theorem yw_here (C : yCs h w o p b k v l tn dy lg pr a) (hB : h.1.1 < yy_B) : yy_fin X 296 (0, zz_in [.ref w] (zz_nl 296), [], h) (fun r h' => r = some (.int (y_hd (l.drop a))) ∧ h' = h) := by
  obtain ⟨oW, e5, e6, e7, e8, e3, oT, ha⟩ := id C
  have hl := oT.2.2.1
  refine yy_fin.steps (n := 1) (s' := (1, [some (.ref w)], [.ref w], h)) rfl ?_
  refine yy_fin.fi rfl oW rfl e5 ?_
  refine yy_fin.steps (n := 1) (s' := (5, [some (.ref w)], [.ref w, .int (Int32.ofInt (a : Int))], h)) rfl ?_
  refine yy_fin.fr rfl oW rfl ?_
  refine yy_fin.ct (as := []) rfl (by decide) rfl rfl oT hB (Nat.le_of_ble_eq_true rfl) (Nat.le_of_ble_eq_true rfl) (js_lenZ oT hB) ?_
  rintro v h9 ⟨rfl, e9⟩
  obtain rfl := e9.symm
  refine yy_fin.ic rfl (fun c1 => ?_) (fun c1 => ?_)
  · have c1 := (yi_c_ge (a := (a : Int)) (b := (l.length : Int)) (by omega) (by omega)).mp c1
    refine yy_fin.steps (n := 1) (s' := (30, [some (.ref w)], [.int (Int32.ofInt 32)], h)) rfl ?_
    rw [show y_hd (l.drop a) = 32 by rw [List.drop_eq_nil_iff.mpr (show l.length ≤ a by omega)]; rfl]
    exact yy_fin.retc rfl rfl (by decide) ⟨rfl, rfl⟩
  · have c1 := mt (yi_c_ge (a := (a : Int)) (b := (l.length : Int)) (by omega) (by omega)).mpr c1
    refine yy_fin.steps (n := 1) (s' := (15, [some (.ref w)], [.ref w], h)) rfl ?_
    refine yy_fin.fr rfl oW rfl ?_
    refine yy_fin.steps (n := 1) (s' := (19, [some (.ref w)], [.ref w, .ref k], h)) rfl ?_
    refine yy_fin.fi rfl oW rfl e5 ?_
    obtain ⟨x, ex⟩ : ∃ x, l[a]? = some x := ⟨_, List.getElem?_eq_getElem (by omega)⟩
    have er : y_hd (l.drop a) = x := by rw [List.drop_eq_getElem_cons (show a < l.length by omega)]; rw [List.getElem?_eq_getElem (show a < l.length by omega)] at ex; exact Option.some.inj ex
    refine yy_fin.ct (as := [.int (Int32.ofInt (a : Int))]) rfl (by decide) rfl rfl oT hB (Nat.le_of_ble_eq_true rfl) (Nat.le_of_ble_eq_true rfl) (js_charAtZ oT hB ex) ?_
    rintro v h9 ⟨rfl, e9⟩
    obtain rfl := e9.symm
    refine yy_fin.steps (n := 1) (s' := (30, [some (.ref w)], [.int x], h)) rfl ?_
    rw [er]
    have hc := oT.2.1 x (List.mem_of_getElem? ex)
    exact yy_fin.retc rfl rfl ⟨Int32.le_iff_toInt_le.mpr (by rw [show (0 : Int32).toInt = 0 from rfl]; omega), Int32.le_iff_toInt_le.mpr (by rw [show (65535 : Int32).toInt = 65535 from rfl]; omega)⟩ ⟨rfl, rfl⟩
theorem y_lit48 : (Int32.ofInt 48).toInt = 48 := rfl
theorem y_lit57 : (Int32.ofInt 57).toInt = 57 := rfl
theorem y_f1 {x : Int32} (h : y_fig x) : ¬ x < Int32.ofInt 48 := fun z => by have z := Int32.lt_iff_toInt_lt.mp z; rw [y_lit48] at z; have := h.1; omega
theorem y_f2 {x : Int32} (h : y_fig x) : ¬ Int32.ofInt 57 < x := fun z => by have z := Int32.lt_iff_toInt_lt.mp z; rw [y_lit57] at z; have := h.2; omega
theorem y_f3 {x : Int32} (h : ¬ y_fig x) : x < Int32.ofInt 48 ∨ (¬ x < Int32.ofInt 48 ∧ Int32.ofInt 57 < x) := by
  rw [Int32.lt_iff_toInt_lt, Int32.lt_iff_toInt_lt, y_lit48, y_lit57]
  unfold y_fig at h
  omega
theorem yw_figs : ∀ (ds : List Int32) (h : zz_H) (a : Nat) (x : Int32) (rest : List Int32), yCs h w o p b k v l tn dy lg pr a → h.1.1 < yy_B → (∀ d ∈ ds, y_fig d) → l.drop a = ds ++ rest → ¬ y_fig (y_hd rest) → yy_fin X 295 (20, [some (.ref w), some (.int x), none], [], h) (fun r h' => r = some (.int (y_fold x ds)) ∧ yx (fun q => q = w) 0 0 h h' ∧ yCs h' w o p b k v l tn dy lg pr (a + ds.length))
  | [], h, a, x, rest, C, hB, hd, e, hn => by
    obtain ⟨oW, e5, e6, e7, e8, e3, oT, ha⟩ := id C
    have er : y_hd (l.drop a) = y_hd rest := by rw [e]; rfl
    refine yy_fin.steps (n := 1) (s' := (21, [some (.ref w), some (.int x), none], [.ref w], h)) rfl ?_
    refine yy_fin.cv (as := []) rfl rfl rfl oW (Nat.le_of_ble_eq_true rfl) (Nat.le_of_ble_eq_true rfl) (yw_here C hB) ?_
    rintro v h9 ⟨rfl, e9⟩
    obtain rfl := e9.symm
    rw [er]
    refine yy_fin.steps (n := 1) (s' := (26, [some (.ref w), some (.int x), none], [.int (Int32.ofInt 48), .int (y_hd rest)], h)) rfl ?_
    rcases y_f3 hn with f1 | ⟨f1, f2⟩
    · refine yy_fin.ic rfl (fun _ => ?_) (fun c => absurd (decide_eq_true f1) c)
      refine yy_fin.steps (n := 1) (s' := (69, [some (.ref w), some (.int x), none], [.int x], h)) rfl ?_
      exact yy_fin.at (n := 1) rfl ⟨rfl, yx.rf, C⟩
    · refine yy_fin.ic rfl (fun c => absurd (of_decide_eq_true c) f1) (fun _ => ?_)
      refine yy_fin.steps (n := 1) (s' := (30, [some (.ref w), some (.int x), none], [.ref w], h)) rfl ?_
      refine yy_fin.cv (as := []) rfl rfl rfl oW (Nat.le_of_ble_eq_true rfl) (Nat.le_of_ble_eq_true rfl) (yw_here C hB) ?_
      rintro v h9 ⟨rfl, e9⟩
      obtain rfl := e9.symm
      rw [er]
      refine yy_fin.steps (n := 1) (s' := (35, [some (.ref w), some (.int x), none], [.int (Int32.ofInt 57), .int (y_hd rest)], h)) rfl ?_
      refine yy_fin.ic rfl (fun _ => ?_) (fun c => absurd (decide_eq_true f2) c)
      refine yy_fin.steps (n := 1) (s' := (69, [some (.ref w), some (.int x), none], [.int x], h)) rfl ?_
      exact yy_fin.at (n := 1) rfl ⟨rfl, yx.rf, C⟩
  | d :: ds, h, a, x, rest, C, hB, hd, e, hn => by
    obtain ⟨oW, e5, e6, e7, e8, e3, oT, ha⟩ := id C
    have er : y_hd (l.drop a) = d := by rw [e]; rfl
    have hf := hd d (List.mem_cons_self ..)
    obtain ⟨ea, ea2, ea3⟩ := y_at_hd e
    refine yy_fin.steps (n := 1) (s' := (21, [some (.ref w), some (.int x), none], [.ref w], h)) rfl ?_
    refine yy_fin.cv (as := []) rfl rfl rfl oW (Nat.le_of_ble_eq_true rfl) (Nat.le_of_ble_eq_true rfl) (yw_here C hB) ?_
    rintro v h9 ⟨rfl, e9⟩
    obtain rfl := e9.symm
    rw [er]
    refine yy_fin.steps (n := 1) (s' := (26, [some (.ref w), some (.int x), none], [.int (Int32.ofInt 48), .int d], h)) rfl ?_
    refine yy_fin.ic rfl (fun c => absurd (of_decide_eq_true c) (y_f1 hf)) (fun _ => ?_)
    refine yy_fin.steps (n := 1) (s' := (30, [some (.ref w), some (.int x), none], [.ref w], h)) rfl ?_
    refine yy_fin.cv (as := []) rfl rfl rfl oW (Nat.le_of_ble_eq_true rfl) (Nat.le_of_ble_eq_true rfl) (yw_here C hB) ?_
    rintro v h9 ⟨rfl, e9⟩
    obtain rfl := e9.symm
    rw [er]
    refine yy_fin.steps (n := 1) (s' := (35, [some (.ref w), some (.int x), none], [.int (Int32.ofInt 57), .int d], h)) rfl ?_
    refine yy_fin.ic rfl (fun c => absurd (of_decide_eq_true c) (y_f2 hf)) (fun _ => ?_)
    refine yy_fin.steps (n := 4) (s' := (43, [some (.ref w), some (.int x), none], [.ref w, .int ((Int32.ofInt 10) * x)], h)) rfl ?_
    refine yy_fin.fr rfl oW rfl ?_
    refine yy_fin.steps (n := 2) (s' := (48, [some (.ref w), some (.int x), none], [.ref w, .ref w, .ref k, .int ((Int32.ofInt 10) * x)], h)) rfl ?_
    refine yy_fin.fi rfl oW rfl e5 ?_
    refine yy_fin.steps (n := 3) (s' := (54, [some (.ref w), some (.int x), none], [.int ((Int32.ofInt (a : Int)) + (Int32.ofInt 1)), .ref w, .int (Int32.ofInt (a : Int)), .ref k, .int ((Int32.ofInt 10) * x)], h)) rfl ?_
    rw [yi_add (a : Int) 1]
    refine yy_fin.wi rfl oW rfl (Or.inl rfl) fun h1 x1 oW1 n1 i1 => ?_
    have oT1 := oT.z x1 (fun _ => (oT.neO oW (by decide)).1) (fun _ => (oT.neO oW (by decide)).2)
    have C1 : yCs h1 w o p b k v l tn dy lg pr (a + 1) := ⟨oW1, n1, (i1 6 (by decide)).trans e6, (i1 7 (by decide)).trans e7, (i1 8 (by decide)).trans e8, (i1 3 (by decide)).trans e3, oT1, by omega⟩
    have hB1 : h1.1.1 < yy_B := by have := x1.1; omega
    refine yy_fin.ct (as := [.int (Int32.ofInt (a : Int))]) rfl (by decide) rfl rfl oT1 hB1 (Nat.le_of_ble_eq_true rfl) (Nat.le_of_ble_eq_true rfl) (js_charAtZ oT1 hB1 ea) ?_
    rintro v h9 ⟨rfl, e9⟩
    obtain rfl := e9.symm
    refine yy_fin.steps (n := 4) (s' := (65, [some (.ref w), some (.int (10 * x + d - 48)), none], [], h1)) rfl ?_
    refine yy_fin.steps (n := 1) (s' := (20, [some (.ref w), some (.int (10 * x + d - 48)), none], [], h1)) rfl ?_
    exact (yw_figs ds h1 (a + 1) (10 * x + d - 48) rest C1 hB1 (fun q hq => hd q (List.mem_cons_of_mem _ hq)) ea2 hn).mono fun r h' e => ⟨e.1, (x1.tr e.2.1 (fun _ _ e => e)).le (Nat.le_refl _) (Nat.le_refl _), by rw [List.length_cons, show a + (ds.length + 1) = a + 1 + ds.length by omega]; exact e.2.2⟩
theorem y_drop_app {l x y : List Int32} {a : Nat} (e : l.drop a = x ++ y) : l.drop (a + x.length) = y := by
  rw [← List.drop_drop, e, List.drop_left]
theorem y_fig_dig {n : Nat} : ∃ d ds, y_dig n = d :: ds := by
  unfold y_dig
  repeat' split
  all_goals exact ⟨_, _, rfl⟩
theorem yw_thing (C : yCs h w o p b k v l tn dy lg pr a) (hB : h.1.1 < yy_B) (hz : zz_Zr h) (hB2 : h.1.1 + 1 < yy_B) {t : fl_T} {r0 : List fl_T} (ht : y_tok t) (hr : y_tks r0) (e : l.drop a = y_th t ++ y_rn r0) : yy_fin X 295 (0, zz_in [.ref w] (zz_nl 295), [], h) (fun r h' => r = some (.int (ev_t (dy - dy / 7 * 7, (dy - dy / 360 * 360, (lg, (tn, dy)))) t.2)) ∧ yx (fun q => q = w) 1 5 h h' ∧ ∃ a2, yCs h' w o p b k v l tn dy lg pr a2 ∧ l.drop a2 = y_rn r0) := by
  obtain ⟨oW, e5, e6, e7, e8, e3, oT, ha⟩ := id C
  have eD := y_drop_app e
  rcases ht with ⟨k0, v1, v2⟩ | ⟨kk, v0⟩
  · have et : y_th t = y_dig t.2.2.toInt.toNat := by unfold y_th; rw [if_pos k0]
    obtain ⟨d, ds, ed⟩ := y_fig_dig (n := t.2.2.toInt.toNat)
    have hfd := y_dig_fig t.2.2.toInt.toNat
    have hf : y_fig d := hfd d (by rw [ed]; exact List.mem_cons_self ..)
    have er : y_hd (l.drop a) = d := by rw [e, et, ed]; rfl
    have ev : ev_t (dy - dy / 7 * 7, (dy - dy / 360 * 360, (lg, (tn, dy)))) t.2 = t.2.2 := by unfold ev_t; rw [k0]; rfl
    have en : y_fold 0 (y_dig t.2.2.toInt.toNat) = t.2.2 := by
      rw [y_fold_dig (by omega)]
      exact Int32.toInt_inj.mp (by rw [y_nI (by omega)]; omega)
    refine yy_fin.steps (n := 3) (s' := (3, [some (.ref w), some (.int (Int32.ofInt 0)), none], [.ref w], h)) rfl ?_
    refine yy_fin.cv (as := []) rfl rfl rfl oW (Nat.le_of_ble_eq_true rfl) (Nat.le_of_ble_eq_true rfl) (yw_here C hB) ?_
    rintro v h9 ⟨rfl, e9⟩
    obtain rfl := e9.symm
    rw [er]
    refine yy_fin.steps (n := 1) (s' := (8, [some (.ref w), some (.int (Int32.ofInt 0)), none], [.int (Int32.ofInt 48), .int d], h)) rfl ?_
    refine yy_fin.ic rfl (fun c => absurd (of_decide_eq_true c) (y_f1 hf)) (fun _ => ?_)
    refine yy_fin.steps (n := 1) (s' := (12, [some (.ref w), some (.int (Int32.ofInt 0)), none], [.ref w], h)) rfl ?_
    refine yy_fin.cv (as := []) rfl rfl rfl oW (Nat.le_of_ble_eq_true rfl) (Nat.le_of_ble_eq_true rfl) (yw_here C hB) ?_
    rintro v h9 ⟨rfl, e9⟩
    obtain rfl := e9.symm
    rw [er]
    refine yy_fin.steps (n := 1) (s' := (17, [some (.ref w), some (.int (Int32.ofInt 0)), none], [.int (Int32.ofInt 57), .int d], h)) rfl ?_
    refine yy_fin.ic rfl (fun c => absurd (of_decide_eq_true c) (y_f2 hf)) (fun _ => ?_)
    refine (yw_figs (y_dig t.2.2.toInt.toNat) h a 0 (y_rn r0) C hB hfd (by rw [e, et]) (by rw [y_hd_rn]; exact y_sg_nf hr)).mono fun r h' z => ?_
    rw [en] at z
    rw [ev]
    rw [et] at eD
    exact ⟨z.1, z.2.1.le (Nat.zero_le _) (Nat.zero_le _), _, z.2.2, eD⟩
  · have et : y_th t = [t.2.1] := by
      unfold y_th
      rw [if_neg]
      rcases kk with e | e | e | e | e <;> (rw [e]; decide)
    have er : y_hd (l.drop a) = t.2.1 := by rw [e, et]; rfl
    have hf : Int32.ofInt 57 < t.2.1 ∧ ¬ t.2.1 < Int32.ofInt 48 := by rcases kk with e | e | e | e | e <;> (rw [e]; decide)
    obtain ⟨ea, ea2, ea3⟩ := y_at_hd (show l.drop a = t.2.1 :: y_rn r0 by rw [e, et]; rfl)
    obtain ⟨j, hj, ej, ef, ex⟩ : ∃ j : Nat, j < 5 ∧ (yy_by 6)[j]? = some t.2.1 ∧ (∀ i, i < j → (yy_by 6)[i]? ≠ some t.2.1) ∧ [dy - dy / 7 * 7, dy - dy / 360 * 360, lg, tn, dy][j]? = some (ev_t (dy - dy / 7 * 7, (dy - dy / 360 * 360, (lg, (tn, dy)))) t.2) := by
      unfold ev_t
      rcases kk with e | e | e | e | e <;> rw [e]
      · exact ⟨0, by decide, by decide +kernel, fun i hi => absurd hi (Nat.not_lt_zero i), rfl⟩
      · exact ⟨1, by decide, by decide +kernel, by decide +kernel, rfl⟩
      · exact ⟨2, by decide, by decide +kernel, by decide +kernel, rfl⟩
      · exact ⟨3, by decide, by decide +kernel, by decide +kernel, rfl⟩
      · exact ⟨4, by decide, by decide +kernel, by decide +kernel, rfl⟩
    refine yy_fin.steps (n := 3) (s' := (3, [some (.ref w), some (.int (Int32.ofInt 0)), none], [.ref w], h)) rfl ?_
    refine yy_fin.cv (as := []) rfl rfl rfl oW (Nat.le_of_ble_eq_true rfl) (Nat.le_of_ble_eq_true rfl) (yw_here C hB) ?_
    rintro v h9 ⟨rfl, e9⟩
    obtain rfl := e9.symm
    rw [er]
    refine yy_fin.steps (n := 1) (s' := (8, [some (.ref w), some (.int (Int32.ofInt 0)), none], [.int (Int32.ofInt 48), .int t.2.1], h)) rfl ?_
    refine yy_fin.ic rfl (fun c => absurd (of_decide_eq_true c) hf.2) (fun _ => ?_)
    refine yy_fin.steps (n := 1) (s' := (12, [some (.ref w), some (.int (Int32.ofInt 0)), none], [.ref w], h)) rfl ?_
    refine yy_fin.cv (as := []) rfl rfl rfl oW (Nat.le_of_ble_eq_true rfl) (Nat.le_of_ble_eq_true rfl) (yw_here C hB) ?_
    rintro v h9 ⟨rfl, e9⟩
    obtain rfl := e9.symm
    rw [er]
    refine yy_fin.steps (n := 1) (s' := (17, [some (.ref w), some (.int (Int32.ofInt 0)), none], [.int (Int32.ofInt 57), .int t.2.1], h)) rfl ?_
    refine yy_fin.ic rfl (fun _ => ?_) (fun c => absurd (decide_eq_true hf.1) c)
    refine yy_fin.steps (n := 1) (s' := (71, [some (.ref w), some (.int (Int32.ofInt 0)), none], [.int (Int32.ofInt 5)], h)) rfl ?_
    refine yy_fin.ni (n := 5) rfl (by decide) (by decide) (by decide) hB2 hz fun h1 x1 e1 i1 z1 => ?_
    have q1 : yQ h1 (h.1.1 + 1) 5 [] := ⟨i1, fun j v e => nomatch e⟩
    have hwn : w ≠ h.1.1 + 1 := by have := oW.le; omega
    have oW1 := oW.x x1 id
    have f6 := (oW.i x1 id 6).trans e6
    have f7 := (oW.i x1 id 7).trans e7
    have f8 := (oW.i x1 id 8).trans e8
    have f5 := (oW.i x1 id 5).trans e5
    have f3 := (oW.i x1 id 3).trans e3
    have oT1 := oT.x x1
    have y1 := x1
    refine yy_fin.steps (n := 3) (s' := (76, [some (.ref w), some (.int (Int32.ofInt 0)), none], [.ref w, .int (Int32.ofInt 0), .ref (h.1.1 + 1), .ref (h.1.1 + 1)], h1)) rfl ?_
    refine yy_fin.fi rfl oW1 rfl f7 ?_
    refine yy_fin.steps (n := 1) (s' := (81, [some (.ref w), some (.int (Int32.ofInt 0)), none], [.int (Int32.ofInt 7), .int dy, .int (Int32.ofInt 0), .ref (h.1.1 + 1), .ref (h.1.1 + 1)], h1)) rfl ?_
    refine yy_fin.rm rfl (by decide) ?_
    refine yy_fin.sq rfl q1 (by decide) rfl fun h2 x2 q2 => ?_
    have oW2 := oW1.x x2 hwn
    have oT2 := oT1.z x2 (fun hk e => by have := oT.le1 (show k < yy_B by omega); omega) (fun hv e => by have := oT.1.lt hB (show v < yy_B by omega); omega)
    have f3_2 := (oW1.i x2 hwn 3).trans f3
    have f5_2 := (oW1.i x2 hwn 5).trans f5
    have f6_2 := (oW1.i x2 hwn 6).trans f6
    have f7_2 := (oW1.i x2 hwn 7).trans f7
    have f8_2 := (oW1.i x2 hwn 8).trans f8
    have y2 : yx yF 1 5 h h2 := (y1.tr x2 (fun q hq e => by omega)).le (Nat.le_refl _) (Nat.le_refl _)
    refine yy_fin.steps (n := 3) (s' := (86, [some (.ref w), some (.int (Int32.ofInt 0)), none], [.ref w, .int (Int32.ofInt 1), .ref (h.1.1 + 1), .ref (h.1.1 + 1)], h2)) rfl ?_
    refine yy_fin.fi rfl oW2 rfl f7_2 ?_
    refine yy_fin.steps (n := 1) (s' := (92, [some (.ref w), some (.int (Int32.ofInt 0)), none], [.int (Int32.ofInt 360), .int dy, .int (Int32.ofInt 1), .ref (h.1.1 + 1), .ref (h.1.1 + 1)], h2)) rfl ?_
    refine yy_fin.rm rfl (by decide) ?_
    refine yy_fin.sq rfl q2 (by decide) rfl fun h3 x3 q3 => ?_
    have oW3 := oW2.x x3 hwn
    have oT3 := oT2.z x3 (fun hk e => by have := oT.le1 (show k < yy_B by omega); omega) (fun hv e => by have := oT.1.lt hB (show v < yy_B by omega); omega)
    have f3_3 := (oW2.i x3 hwn 3).trans f3_2
    have f5_3 := (oW2.i x3 hwn 5).trans f5_2
    have f6_3 := (oW2.i x3 hwn 6).trans f6_2
    have f7_3 := (oW2.i x3 hwn 7).trans f7_2
    have f8_3 := (oW2.i x3 hwn 8).trans f8_2
    have y3 : yx yF 1 5 h h3 := (y2.tr x3 (fun q hq e => by omega)).le (Nat.le_refl _) (Nat.le_refl _)
    refine yy_fin.steps (n := 3) (s' := (97, [some (.ref w), some (.int (Int32.ofInt 0)), none], [.ref w, .int (Int32.ofInt 2), .ref (h.1.1 + 1), .ref (h.1.1 + 1)], h3)) rfl ?_
    refine yy_fin.fi rfl oW3 rfl f8_3 ?_
    refine yy_fin.sq rfl q3 (by decide) rfl fun h4 x4 q4 => ?_
    have oW4 := oW3.x x4 hwn
    have oT4 := oT3.z x4 (fun hk e => by have := oT.le1 (show k < yy_B by omega); omega) (fun hv e => by have := oT.1.lt hB (show v < yy_B by omega); omega)
    have f3_4 := (oW3.i x4 hwn 3).trans f3_3
    have f5_4 := (oW3.i x4 hwn 5).trans f5_3
    have f6_4 := (oW3.i x4 hwn 6).trans f6_3
    have f7_4 := (oW3.i x4 hwn 7).trans f7_3
    have f8_4 := (oW3.i x4 hwn 8).trans f8_3
    have y4 : yx yF 1 5 h h4 := (y3.tr x4 (fun q hq e => by omega)).le (Nat.le_refl _) (Nat.le_refl _)
    refine yy_fin.steps (n := 3) (s' := (104, [some (.ref w), some (.int (Int32.ofInt 0)), none], [.ref w, .int (Int32.ofInt 3), .ref (h.1.1 + 1), .ref (h.1.1 + 1)], h4)) rfl ?_
    refine yy_fin.fi rfl oW4 rfl f6_4 ?_
    refine yy_fin.sq rfl q4 (by decide) rfl fun h5 x5 q5 => ?_
    have oW5 := oW4.x x5 hwn
    have oT5 := oT4.z x5 (fun hk e => by have := oT.le1 (show k < yy_B by omega); omega) (fun hv e => by have := oT.1.lt hB (show v < yy_B by omega); omega)
    have f3_5 := (oW4.i x5 hwn 3).trans f3_4
    have f5_5 := (oW4.i x5 hwn 5).trans f5_4
    have f6_5 := (oW4.i x5 hwn 6).trans f6_4
    have f7_5 := (oW4.i x5 hwn 7).trans f7_4
    have f8_5 := (oW4.i x5 hwn 8).trans f8_4
    have y5 : yx yF 1 5 h h5 := (y4.tr x5 (fun q hq e => by omega)).le (Nat.le_refl _) (Nat.le_refl _)
    refine yy_fin.steps (n := 3) (s' := (111, [some (.ref w), some (.int (Int32.ofInt 0)), none], [.ref w, .int (Int32.ofInt 4), .ref (h.1.1 + 1), .ref (h.1.1 + 1)], h5)) rfl ?_
    refine yy_fin.fi rfl oW5 rfl f7_5 ?_
    refine yy_fin.sq rfl q5 (by decide) rfl fun h6 x6 q6 => ?_
    have oW6 := oW5.x x6 hwn
    have oT6 := oT5.z x6 (fun hk e => by have := oT.le1 (show k < yy_B by omega); omega) (fun hv e => by have := oT.1.lt hB (show v < yy_B by omega); omega)
    have f3_6 := (oW5.i x6 hwn 3).trans f3_5
    have f5_6 := (oW5.i x6 hwn 5).trans f5_5
    have f6_6 := (oW5.i x6 hwn 6).trans f6_5
    have f7_6 := (oW5.i x6 hwn 7).trans f7_5
    have f8_6 := (oW5.i x6 hwn 8).trans f8_5
    have y6 : yx yF 1 5 h h6 := (y5.tr x6 (fun q hq e => by omega)).le (Nat.le_refl _) (Nat.le_refl _)
    refine yy_fin.steps (n := 2) (s' := (117, [some (.ref w), some (.int (Int32.ofInt 0)), some (.ref (h.1.1 + 1))], [.ref (h.1.1 + 1)], h6)) rfl ?_
    have hB6 : h6.1.1 < yy_B := by have := y6.1; omega
    refine yy_fin.steps (n := 2) (s' := (120, [some (.ref w), some (.int (Int32.ofInt 0)), some (.ref (h.1.1 + 1))], [.ref w, .ref 1000006, .ref (h.1.1 + 1)], h6)) rfl ?_
    refine yy_fin.fr rfl oW6 rfl ?_
    refine yy_fin.steps (n := 2) (s' := (125, [some (.ref w), some (.int (Int32.ofInt 0)), some (.ref (h.1.1 + 1))], [.ref w, .ref w, .ref k, .ref 1000006, .ref (h.1.1 + 1)], h6)) rfl ?_
    refine yy_fin.fi rfl oW6 rfl f5_6 ?_
    refine yy_fin.steps (n := 3) (s' := (131, [some (.ref w), some (.int (Int32.ofInt 0)), some (.ref (h.1.1 + 1))], [.int ((Int32.ofInt (a : Int)) + (Int32.ofInt 1)), .ref w, .int (Int32.ofInt (a : Int)), .ref k, .ref 1000006, .ref (h.1.1 + 1)], h6)) rfl ?_
    rw [yi_add (a : Int) 1]
    refine yy_fin.wi rfl oW6 rfl (Or.inl rfl) fun h7 x7 oW7 n7 i7 => ?_
    have oT7 := oT6.z x7 (fun _ => (oT6.neO oW6 (by decide)).1) (fun _ => (oT6.neO oW6 (by decide)).2)
    have C7 : yCs h7 w o p b k v l tn dy lg pr (a + 1) := ⟨oW7, n7, (i7 6 (by decide)).trans f6_6, (i7 7 (by decide)).trans f7_6, (i7 8 (by decide)).trans f8_6, (i7 3 (by decide)).trans f3_6, oT7, by omega⟩
    have hB7 : h7.1.1 < yy_B := by have := x7.1; omega
    refine yy_fin.ct (as := [.int (Int32.ofInt (a : Int))]) rfl (by decide) rfl rfl oT7 hB7 (Nat.le_of_ble_eq_true rfl) (Nat.le_of_ble_eq_true rfl) (js_charAtZ oT7 hB7 ea) ?_
    rintro v h9 ⟨rfl, e9⟩
    obtain rfl := e9.symm
    have ot : yT h7 1000006 1000106 (yy_by 6) := ⟨Or.inr ⟨Nat.le_of_ble_eq_true rfl, rfl⟩, (show ∀ x ∈ yy_by 6, 0 ≤ x.toInt ∧ x.toInt ≤ 127 by decide +kernel), by decide +kernel, Or.inr ⟨Nat.le_of_ble_eq_true rfl, Nat.le_of_ble_eq_true rfl, rfl⟩⟩
    refine yy_fin.ct (as := [.int t.2.1]) rfl (by decide) rfl rfl ot hB7 (Nat.le_of_ble_eq_true rfl) (Nat.le_of_ble_eq_true rfl) (js_ix ot hB7 ej ef) ?_
    rintro v h9 ⟨rfl, e9⟩
    obtain rfl := e9.symm
    have q7 := q6.x x7 (fun e => hwn e.symm)
    refine yy_fin.lp rfl q7 (y_inb hj (by decide)) (y_cl (by omega)) ex ?_
    rw [et] at eD
    exact yy_fin.at (n := 1) rfl ⟨rfl, (((y6.wk (B := fun q => q = w) (fun _ _ e => e.elim) (Nat.le_refl _) (Nat.le_refl _)).tr x7 (fun _ _ e => e))).le (Nat.le_refl _) (Nat.le_refl _), _, C7, eD⟩
def y_dP (r : List fl_T) : List fl_T := r.dropWhile fun t => pd_o1 t.1
def y_dS (r : List fl_T) : List fl_T := r.dropWhile fun t => fl_h t.1
theorem y_dP_le (r : List fl_T) : (y_dP r).length ≤ r.length := (List.dropWhile_suffix _).length_le
theorem y_dS_le (r : List fl_T) : (y_dS r).length ≤ r.length := (List.dropWhile_suffix _).length_le
theorem y_dP_tks {r : List fl_T} (h : y_tks r) : y_tks (y_dP r) := fun t ht => h t ((List.dropWhile_suffix _).subset ht)
theorem y_dS_tks {r : List fl_T} (h : y_tks r) : y_tks (y_dS r) := fun t ht => h t ((List.dropWhile_suffix _).subset ht)
theorem y_dP_c {t : fl_T} {r : List fl_T} : y_dP (t :: r) = if pd_o1 t.1 = true then y_dP r else t :: r := by
  unfold y_dP
  rw [List.dropWhile_cons]
theorem y_dS_c {t : fl_T} {r : List fl_T} : y_dS (t :: r) = if fl_h t.1 = true then y_dS r else t :: r := by
  unfold y_dS
  rw [List.dropWhile_cons]
theorem y_dS_P : ∀ r : List fl_T, y_dS (y_dP r) = y_dS r
  | [] => rfl
  | t :: r => by
    rw [y_dP_c]
    by_cases c : pd_o1 t.1 = true
    · rw [if_pos c, y_dS_P r, y_dS_c, if_pos (by unfold fl_h; rw [c]; rfl)]
    · rw [if_neg c]
theorem ev_S_P (E : ev_E) (a : Int32) : ∀ r : List fl_T, ev_S E a (y_dP r) = ev_S E a r
  | [] => rfl
  | t :: r => by
    rw [y_dP_c]
    by_cases c : pd_o1 t.1 = true
    · rw [if_pos c, ev_S_P E a r]
      conv => rhs; unfold ev_S
      rw [if_pos c]
    · rw [if_neg c]
theorem y_dP_hd : ∀ r : List fl_T, y_dP r = [] ∨ ∃ t q, y_dP r = t :: q ∧ ¬ pd_o1 t.1 = true
  | [] => Or.inl rfl
  | t :: r => by
    rw [y_dP_c]
    by_cases c : pd_o1 t.1 = true
    · rw [if_pos c]
      exact y_dP_hd r
    · rw [if_neg c]
      exact Or.inr ⟨t, r, rfl, c⟩
theorem y_o1 {s : Int32} : pd_o1 s = true ↔ s = 42 ∨ s = 47 := by
  unfold pd_o1
  rw [Bool.or_eq_true, decide_eq_true_eq, decide_eq_true_eq]
theorem y_o2 {s : Int32} : pd_o2 s = true ↔ s = 43 ∨ s = 45 := by
  unfold pd_o2
  rw [Bool.or_eq_true, decide_eq_true_eq, decide_eq_true_eq]
theorem y_fh {s : Int32} : fl_h s = true ↔ (s = 42 ∨ s = 47) ∨ s = 43 ∨ s = 45 := by
  unfold fl_h
  rw [Bool.or_eq_true, y_o1, y_o2]
theorem yw_prodL : ∀ (r0 : List fl_T) (h : zz_H) (a : Nat) (x : Int32) (a2 a3 : Option Value), yCs h w o p b k v l tn dy lg pr a → h.1.1 + r0.length + 1 < yy_B → zz_Zr h → y_tks r0 → l.drop a = y_rn r0 → yy_fin X 294 (5, [some (.ref w), some (.int x), a2, a3], [], h) (fun r h' => r = some (.int (ev_P (dy - dy / 7 * 7, (dy - dy / 360 * 360, (lg, (tn, dy)))) x r0)) ∧ yx (fun q => q = w) (r0.length - (y_dP r0).length) (5 * (r0.length - (y_dP r0).length)) h h' ∧ ∃ a2, yCs h' w o p b k v l tn dy lg pr a2 ∧ l.drop a2 = y_rn (y_dP r0))
  | [], h, a, x, a2, a3, C, hB0, hz, hr, e => by
    obtain ⟨oW, e5, e6, e7, e8, e3, oT, ha⟩ := id C
    have hB : h.1.1 < yy_B := by omega
    have er : y_hd (l.drop a) = 32 := by rw [e]; rfl
    refine yy_fin.steps (n := 1) (s' := (6, [some (.ref w), some (.int x), a2, a3], [.ref w], h)) rfl ?_
    refine yy_fin.cv (as := []) rfl rfl rfl oW (Nat.le_of_ble_eq_true rfl) (Nat.le_of_ble_eq_true rfl) (yw_here C hB) ?_
    rintro v h9 ⟨rfl, e9⟩
    obtain rfl := e9.symm
    rw [er]
    refine yy_fin.steps (n := 1) (s' := (11, [some (.ref w), some (.int x), a2, a3], [.int (Int32.ofInt 42), .int 32], h)) rfl ?_
    refine yy_fin.ic rfl (fun c => absurd c (by decide)) (fun _ => ?_)
    refine yy_fin.steps (n := 1) (s' := (15, [some (.ref w), some (.int x), a2, a3], [.ref w], h)) rfl ?_
    refine yy_fin.cv (as := []) rfl rfl rfl oW (Nat.le_of_ble_eq_true rfl) (Nat.le_of_ble_eq_true rfl) (yw_here C hB) ?_
    rintro v h9 ⟨rfl, e9⟩
    obtain rfl := e9.symm
    rw [er]
    refine yy_fin.steps (n := 1) (s' := (20, [some (.ref w), some (.int x), a2, a3], [.int (Int32.ofInt 47), .int 32], h)) rfl ?_
    refine yy_fin.ic rfl (fun _ => ?_) (fun c => absurd (by decide) c)
    refine yy_fin.steps (n := 1) (s' := (75, [some (.ref w), some (.int x), a2, a3], [.int x], h)) rfl ?_
    exact yy_fin.at (n := 1) rfl ⟨rfl, yx.rf.le (Nat.zero_le _) (Nat.zero_le _), a, C, e⟩
  | t :: r, h, a, x, a2, a3, C, hB0, hz, hr, e => by
    obtain ⟨oW, e5, e6, e7, e8, e3, oT, ha⟩ := id C
    have hB : h.1.1 < yy_B := by omega
    rw [List.length_cons] at hB0 ⊢
    obtain ⟨⟨ht, hs⟩, hr1⟩ := y_tksC hr
    obtain ⟨ea, ea2, ea3⟩ := y_at_hd e
    have er : y_hd (l.drop a) = t.1 := by rw [e]; rfl
    have hdl := y_dP_le r
    rw [y_dP_c]
    unfold ev_P
    by_cases c1 : pd_o1 t.1 = true
    rotate_left
    · rw [if_neg c1, if_neg c1]
      have n1 : t.1 ≠ 42 := fun z => c1 (y_o1.mpr (Or.inl z))
      have n2 : t.1 ≠ 47 := fun z => c1 (y_o1.mpr (Or.inr z))
      refine yy_fin.steps (n := 1) (s' := (6, [some (.ref w), some (.int x), a2, a3], [.ref w], h)) rfl ?_
      refine yy_fin.cv (as := []) rfl rfl rfl oW (Nat.le_of_ble_eq_true rfl) (Nat.le_of_ble_eq_true rfl) (yw_here C hB) ?_
      rintro v h9 ⟨rfl, e9⟩
      obtain rfl := e9.symm
      rw [er]
      refine yy_fin.steps (n := 1) (s' := (11, [some (.ref w), some (.int x), a2, a3], [.int (Int32.ofInt 42), .int t.1], h)) rfl ?_
      refine yy_fin.ic rfl (fun c => absurd (of_decide_eq_true c) n1) (fun _ => ?_)
      refine yy_fin.steps (n := 1) (s' := (15, [some (.ref w), some (.int x), a2, a3], [.ref w], h)) rfl ?_
      refine yy_fin.cv (as := []) rfl rfl rfl oW (Nat.le_of_ble_eq_true rfl) (Nat.le_of_ble_eq_true rfl) (yw_here C hB) ?_
      rintro v h9 ⟨rfl, e9⟩
      obtain rfl := e9.symm
      rw [er]
      refine yy_fin.steps (n := 1) (s' := (20, [some (.ref w), some (.int x), a2, a3], [.int (Int32.ofInt 47), .int t.1], h)) rfl ?_
      refine yy_fin.ic rfl (fun _ => ?_) (fun c => absurd (decide_eq_true n2) c)
      refine yy_fin.steps (n := 1) (s' := (75, [some (.ref w), some (.int x), a2, a3], [.int x], h)) rfl ?_
      exact yy_fin.at (n := 1) rfl ⟨rfl, yx.rf.le (Nat.zero_le _) (Nat.zero_le _), a, C, e⟩
    rw [if_pos c1, if_pos c1]
    by_cases c2 : t.1 = 42
    · rw [if_pos c2]
      refine yy_fin.steps (n := 1) (s' := (6, [some (.ref w), some (.int x), a2, a3], [.ref w], h)) rfl ?_
      refine yy_fin.cv (as := []) rfl rfl rfl oW (Nat.le_of_ble_eq_true rfl) (Nat.le_of_ble_eq_true rfl) (yw_here C hB) ?_
      rintro v h9 ⟨rfl, e9⟩
      obtain rfl := e9.symm
      rw [er]
      refine yy_fin.steps (n := 1) (s' := (11, [some (.ref w), some (.int x), a2, a3], [.int (Int32.ofInt 42), .int t.1], h)) rfl ?_
      refine yy_fin.ic rfl (fun _ => ?_) (fun c => absurd (decide_eq_true c2) c)
      refine yy_fin.steps (n := 1) (s' := (24, [some (.ref w), some (.int x), a2, a3], [.ref w], h)) rfl ?_
      refine yy_fin.fr rfl oW rfl ?_
      refine yy_fin.steps (n := 2) (s' := (29, [some (.ref w), some (.int x), a2, a3], [.ref w, .ref w, .ref k], h)) rfl ?_
      refine yy_fin.fi rfl oW rfl e5 ?_
      refine yy_fin.steps (n := 3) (s' := (35, [some (.ref w), some (.int x), a2, a3], [.int ((Int32.ofInt (a : Int)) + (Int32.ofInt 1)), .ref w, .int (Int32.ofInt (a : Int)), .ref k], h)) rfl ?_
      rw [yi_add (a : Int) 1]
      refine yy_fin.wi rfl oW rfl (Or.inl rfl) fun h1 x1 oW1 n1 i1 => ?_
      have oT1 := oT.z x1 (fun _ => (oT.neO oW (by decide)).1) (fun _ => (oT.neO oW (by decide)).2)
      have C1 : yCs h1 w o p b k v l tn dy lg pr (a + 1) := ⟨oW1, n1, (i1 6 (by decide)).trans e6, (i1 7 (by decide)).trans e7, (i1 8 (by decide)).trans e8, (i1 3 (by decide)).trans e3, oT1, by omega⟩
      have hB1 : h1.1.1 < yy_B := by have := x1.1; omega
      refine yy_fin.ct (as := [.int (Int32.ofInt (a : Int))]) rfl (by decide) rfl rfl oT1 hB1 (Nat.le_of_ble_eq_true rfl) (Nat.le_of_ble_eq_true rfl) (js_charAtZ oT1 hB1 ea) ?_
      rintro v h9 ⟨rfl, e9⟩
      obtain rfl := e9.symm
      refine yy_fin.steps (n := 2) (s' := (43, [some (.ref w), some (.int x), some (.int t.1), a3], [.ref w], h1)) rfl ?_
      have hz1 := x1.zr hz
      have hB1b : h1.1.1 + 1 < yy_B := by have := x1.1; omega
      refine yy_fin.cv (as := []) rfl rfl rfl oW1 (Nat.le_of_ble_eq_true rfl) (Nat.le_of_ble_eq_true rfl) (yw_thing C1 hB1 hz1 hB1b ht hr1 ea2) ?_
      rintro v9 h2 ⟨rfl, x2, a9, C2, e2⟩
      refine yy_fin.steps (n := 3) (s' := (50, [some (.ref w), some (.int x), some (.int t.1), some (.int (ev_t (dy - dy / 7 * 7, (dy - dy / 360 * 360, (lg, (tn, dy)))) t.2))], [.int (Int32.ofInt 42), .int t.1], h2)) rfl ?_
      refine yy_fin.ic rfl (fun c => absurd c2 (of_decide_eq_true c)) (fun _ => ?_)
      refine yy_fin.steps (n := 6) (s' := (5, [some (.ref w), some (.int (x * (ev_t (dy - dy / 7 * 7, (dy - dy / 360 * 360, (lg, (tn, dy)))) t.2))), some (.int t.1), some (.int (ev_t (dy - dy / 7 * 7, (dy - dy / 360 * 360, (lg, (tn, dy)))) t.2))], [], h2)) rfl ?_
      exact (yw_prodL r h2 a9 _ _ _ C2 (by have := x1.1; have := x2.1; omega) (x2.zr hz1) hr1 e2).mono fun r9 h9 e9 => ⟨e9.1, ((x1.tr x2 (fun _ _ e => e)).tr e9.2.1 (fun _ _ e => e)).le (by omega) (by omega), e9.2.2⟩
    have c3 : t.1 = 47 := (y_o1.mp c1).resolve_left c2
    rw [if_neg c2]
    refine yy_fin.steps (n := 1) (s' := (6, [some (.ref w), some (.int x), a2, a3], [.ref w], h)) rfl ?_
    refine yy_fin.cv (as := []) rfl rfl rfl oW (Nat.le_of_ble_eq_true rfl) (Nat.le_of_ble_eq_true rfl) (yw_here C hB) ?_
    rintro v h9 ⟨rfl, e9⟩
    obtain rfl := e9.symm
    rw [er]
    refine yy_fin.steps (n := 1) (s' := (11, [some (.ref w), some (.int x), a2, a3], [.int (Int32.ofInt 42), .int t.1], h)) rfl ?_
    refine yy_fin.ic rfl (fun c => absurd (of_decide_eq_true c) c2) (fun _ => ?_)
    refine yy_fin.steps (n := 1) (s' := (15, [some (.ref w), some (.int x), a2, a3], [.ref w], h)) rfl ?_
    refine yy_fin.cv (as := []) rfl rfl rfl oW (Nat.le_of_ble_eq_true rfl) (Nat.le_of_ble_eq_true rfl) (yw_here C hB) ?_
    rintro v h9 ⟨rfl, e9⟩
    obtain rfl := e9.symm
    rw [er]
    refine yy_fin.steps (n := 1) (s' := (20, [some (.ref w), some (.int x), a2, a3], [.int (Int32.ofInt 47), .int t.1], h)) rfl ?_
    refine yy_fin.ic rfl (fun c => absurd c3 (of_decide_eq_true c)) (fun _ => ?_)
    refine yy_fin.steps (n := 1) (s' := (24, [some (.ref w), some (.int x), a2, a3], [.ref w], h)) rfl ?_
    refine yy_fin.fr rfl oW rfl ?_
    refine yy_fin.steps (n := 2) (s' := (29, [some (.ref w), some (.int x), a2, a3], [.ref w, .ref w, .ref k], h)) rfl ?_
    refine yy_fin.fi rfl oW rfl e5 ?_
    refine yy_fin.steps (n := 3) (s' := (35, [some (.ref w), some (.int x), a2, a3], [.int ((Int32.ofInt (a : Int)) + (Int32.ofInt 1)), .ref w, .int (Int32.ofInt (a : Int)), .ref k], h)) rfl ?_
    rw [yi_add (a : Int) 1]
    refine yy_fin.wi rfl oW rfl (Or.inl rfl) fun h1 x1 oW1 n1 i1 => ?_
    have oT1 := oT.z x1 (fun _ => (oT.neO oW (by decide)).1) (fun _ => (oT.neO oW (by decide)).2)
    have C1 : yCs h1 w o p b k v l tn dy lg pr (a + 1) := ⟨oW1, n1, (i1 6 (by decide)).trans e6, (i1 7 (by decide)).trans e7, (i1 8 (by decide)).trans e8, (i1 3 (by decide)).trans e3, oT1, by omega⟩
    have hB1 : h1.1.1 < yy_B := by have := x1.1; omega
    refine yy_fin.ct (as := [.int (Int32.ofInt (a : Int))]) rfl (by decide) rfl rfl oT1 hB1 (Nat.le_of_ble_eq_true rfl) (Nat.le_of_ble_eq_true rfl) (js_charAtZ oT1 hB1 ea) ?_
    rintro v h9 ⟨rfl, e9⟩
    obtain rfl := e9.symm
    refine yy_fin.steps (n := 2) (s' := (43, [some (.ref w), some (.int x), some (.int t.1), a3], [.ref w], h1)) rfl ?_
    have hz1 := x1.zr hz
    have hB1b : h1.1.1 + 1 < yy_B := by have := x1.1; omega
    refine yy_fin.cv (as := []) rfl rfl rfl oW1 (Nat.le_of_ble_eq_true rfl) (Nat.le_of_ble_eq_true rfl) (yw_thing C1 hB1 hz1 hB1b ht hr1 ea2) ?_
    rintro v9 h2 ⟨rfl, x2, a9, C2, e2⟩
    refine yy_fin.steps (n := 3) (s' := (50, [some (.ref w), some (.int x), some (.int t.1), some (.int (ev_t (dy - dy / 7 * 7, (dy - dy / 360 * 360, (lg, (tn, dy)))) t.2))], [.int (Int32.ofInt 42), .int t.1], h2)) rfl ?_
    refine yy_fin.ic rfl (fun _ => ?_) (fun c => absurd (decide_eq_true c2) c)
    refine yy_fin.steps (n := 1) (s' := (60, [some (.ref w), some (.int x), some (.int t.1), some (.int (ev_t (dy - dy / 7 * 7, (dy - dy / 360 * 360, (lg, (tn, dy)))) t.2))], [.int (ev_t (dy - dy / 7 * 7, (dy - dy / 360 * 360, (lg, (tn, dy)))) t.2)], h2)) rfl ?_
    by_cases c4 : ev_t (dy - dy / 7 * 7, (dy - dy / 360 * 360, (lg, (tn, dy)))) t.2 = 0
    · refine yy_fin.if rfl (fun c => absurd c4 (of_decide_eq_true c)) (fun _ => ?_)
      rw [if_pos c4]
      refine yy_fin.steps (n := 4) (s' := (5, [some (.ref w), some (.int (Int32.ofInt 0)), some (.int t.1), some (.int (ev_t (dy - dy / 7 * 7, (dy - dy / 360 * 360, (lg, (tn, dy)))) t.2))], [], h2)) rfl ?_
      exact (yw_prodL r h2 a9 _ _ _ C2 (by have := x1.1; have := x2.1; omega) (x2.zr hz1) hr1 e2).mono fun r9 h9 e9 => ⟨e9.1, ((x1.tr x2 (fun _ _ e => e)).tr e9.2.1 (fun _ _ e => e)).le (by omega) (by omega), e9.2.2⟩
    · refine yy_fin.if rfl (fun _ => ?_) (fun c => absurd (decide_eq_true c4) c)
      rw [if_neg c4]
      refine yy_fin.steps (n := 2) (s' := (69, [some (.ref w), some (.int x), some (.int t.1), some (.int (ev_t (dy - dy / 7 * 7, (dy - dy / 360 * 360, (lg, (tn, dy)))) t.2))], [.int (ev_t (dy - dy / 7 * 7, (dy - dy / 360 * 360, (lg, (tn, dy)))) t.2), .int x], h2)) rfl ?_
      refine yy_fin.dv rfl c4 ?_
      refine yy_fin.steps (n := 2) (s' := (5, [some (.ref w), some (.int (x / ev_t (dy - dy / 7 * 7, (dy - dy / 360 * 360, (lg, (tn, dy)))) t.2)), some (.int t.1), some (.int (ev_t (dy - dy / 7 * 7, (dy - dy / 360 * 360, (lg, (tn, dy)))) t.2))], [], h2)) rfl ?_
      exact (yw_prodL r h2 a9 _ _ _ C2 (by have := x1.1; have := x2.1; omega) (x2.zr hz1) hr1 e2).mono fun r9 h9 e9 => ⟨e9.1, ((x1.tr x2 (fun _ _ e => e)).tr e9.2.1 (fun _ _ e => e)).le (by omega) (by omega), e9.2.2⟩
theorem yw_prod (C : yCs h w o p b k v l tn dy lg pr a) {t : fl_T} {r0 : List fl_T} (hB0 : h.1.1 + r0.length + 2 < yy_B) (hz : zz_Zr h) (ht : y_tok t) (hr : y_tks r0) (e : l.drop a = y_th t ++ y_rn r0) : yy_fin X 294 (0, zz_in [.ref w] (zz_nl 294), [], h) (fun r h' => r = some (.int (ev_P (dy - dy / 7 * 7, (dy - dy / 360 * 360, (lg, (tn, dy)))) (ev_t (dy - dy / 7 * 7, (dy - dy / 360 * 360, (lg, (tn, dy)))) t.2) r0)) ∧ yx (fun q => q = w) (r0.length + 1 - (y_dP r0).length) (5 * (r0.length + 1 - (y_dP r0).length)) h h' ∧ ∃ a2, yCs h' w o p b k v l tn dy lg pr a2 ∧ l.drop a2 = y_rn (y_dP r0)) := by
  obtain ⟨oW, e5, e6, e7, e8, e3, oT, ha⟩ := id C
  have hB : h.1.1 < yy_B := by omega
  have hdl := y_dP_le r0
  refine yy_fin.steps (n := 1) (s' := (1, [some (.ref w), none, none, none], [.ref w], h)) rfl ?_
  refine yy_fin.cv (as := []) rfl rfl rfl oW (Nat.le_of_ble_eq_true rfl) (Nat.le_of_ble_eq_true rfl) (yw_thing C hB hz (by omega) ht hr e) ?_
  rintro v9 h1 ⟨rfl, x1, a9, C1, e1⟩
  refine yy_fin.steps (n := 1) (s' := (5, [some (.ref w), some (.int (ev_t (dy - dy / 7 * 7, (dy - dy / 360 * 360, (lg, (tn, dy)))) t.2)), none, none], [], h1)) rfl ?_
  exact (yw_prodL r0 h1 a9 _ _ _ C1 (by have := x1.1; omega) (x1.zr hz) hr e1).mono fun r9 h9 e9 => ⟨e9.1, (x1.tr e9.2.1 (fun _ _ e => e)).le (by omega) (by omega), e9.2.2⟩
theorem yw_sumL : ∀ (n : Nat) (r0 : List fl_T) (h : zz_H) (a : Nat) (x : Int32), r0.length ≤ n → (r0 = [] ∨ ∃ t q, r0 = t :: q ∧ ¬ pd_o1 t.1 = true) → yCs h w o p b k v l tn dy lg pr a → h.1.1 + r0.length + 2 < yy_B → zz_Zr h → y_tks r0 → l.drop a = y_rn r0 → yy_fin X 293 (5, [some (.ref w), some (.int x)], [], h) (fun r h' => r = some (.int (ev_S (dy - dy / 7 * 7, (dy - dy / 360 * 360, (lg, (tn, dy)))) x r0)) ∧ yx (fun q => q = w) (r0.length - (y_dS r0).length) (5 * (r0.length - (y_dS r0).length)) h h' ∧ ∃ a2, yCs h' w o p b k v l tn dy lg pr a2 ∧ l.drop a2 = y_rn (y_dS r0))
  | 0, r0, h, a, x, hn, hh, C, hB0, hz, hr, e => by
    obtain ⟨oW, e5, e6, e7, e8, e3, oT, ha⟩ := id C
    have hB : h.1.1 < yy_B := by omega
    obtain rfl : r0 = [] := List.eq_nil_of_length_eq_zero (by omega)
    have er : y_hd (l.drop a) = 32 := by rw [e]; rfl
    refine yy_fin.steps (n := 1) (s' := (6, [some (.ref w), some (.int x)], [.ref w], h)) rfl ?_
    refine yy_fin.cv (as := []) rfl rfl rfl oW (Nat.le_of_ble_eq_true rfl) (Nat.le_of_ble_eq_true rfl) (yw_here C hB) ?_
    rintro v h9 ⟨rfl, e9⟩
    obtain rfl := e9.symm
    rw [er]
    refine yy_fin.steps (n := 1) (s' := (11, [some (.ref w), some (.int x)], [.int (Int32.ofInt 43), .int 32], h)) rfl ?_
    refine yy_fin.ic rfl (fun c => absurd c (by decide)) (fun _ => ?_)
    refine yy_fin.steps (n := 1) (s' := (15, [some (.ref w), some (.int x)], [.ref w], h)) rfl ?_
    refine yy_fin.cv (as := []) rfl rfl rfl oW (Nat.le_of_ble_eq_true rfl) (Nat.le_of_ble_eq_true rfl) (yw_here C hB) ?_
    rintro v h9 ⟨rfl, e9⟩
    obtain rfl := e9.symm
    rw [er]
    refine yy_fin.steps (n := 1) (s' := (20, [some (.ref w), some (.int x)], [.int (Int32.ofInt 45), .int 32], h)) rfl ?_
    refine yy_fin.ic rfl (fun _ => ?_) (fun c => absurd (by decide) c)
    refine yy_fin.steps (n := 1) (s' := (66, [some (.ref w), some (.int x)], [.int x], h)) rfl ?_
    exact yy_fin.at (n := 1) rfl ⟨rfl, yx.rf.le (Nat.zero_le _) (Nat.zero_le _), a, C, e⟩
  | n + 1, [], h, a, x, hn, hh, C, hB0, hz, hr, e => by
    obtain ⟨oW, e5, e6, e7, e8, e3, oT, ha⟩ := id C
    have hB : h.1.1 < yy_B := by omega
    have er : y_hd (l.drop a) = 32 := by rw [e]; rfl
    refine yy_fin.steps (n := 1) (s' := (6, [some (.ref w), some (.int x)], [.ref w], h)) rfl ?_
    refine yy_fin.cv (as := []) rfl rfl rfl oW (Nat.le_of_ble_eq_true rfl) (Nat.le_of_ble_eq_true rfl) (yw_here C hB) ?_
    rintro v h9 ⟨rfl, e9⟩
    obtain rfl := e9.symm
    rw [er]
    refine yy_fin.steps (n := 1) (s' := (11, [some (.ref w), some (.int x)], [.int (Int32.ofInt 43), .int 32], h)) rfl ?_
    refine yy_fin.ic rfl (fun c => absurd c (by decide)) (fun _ => ?_)
    refine yy_fin.steps (n := 1) (s' := (15, [some (.ref w), some (.int x)], [.ref w], h)) rfl ?_
    refine yy_fin.cv (as := []) rfl rfl rfl oW (Nat.le_of_ble_eq_true rfl) (Nat.le_of_ble_eq_true rfl) (yw_here C hB) ?_
    rintro v h9 ⟨rfl, e9⟩
    obtain rfl := e9.symm
    rw [er]
    refine yy_fin.steps (n := 1) (s' := (20, [some (.ref w), some (.int x)], [.int (Int32.ofInt 45), .int 32], h)) rfl ?_
    refine yy_fin.ic rfl (fun _ => ?_) (fun c => absurd (by decide) c)
    refine yy_fin.steps (n := 1) (s' := (66, [some (.ref w), some (.int x)], [.int x], h)) rfl ?_
    exact yy_fin.at (n := 1) rfl ⟨rfl, yx.rf.le (Nat.zero_le _) (Nat.zero_le _), a, C, e⟩
  | n + 1, t :: r, h, a, x, hn, hh, C, hB0, hz, hr, e => by
    obtain ⟨oW, e5, e6, e7, e8, e3, oT, ha⟩ := id C
    have hB : h.1.1 < yy_B := by omega
    rw [List.length_cons] at hB0 hn ⊢
    obtain ⟨⟨ht, hs⟩, hr1⟩ := y_tksC hr
    obtain ⟨ea, ea2, ea3⟩ := y_at_hd e
    have er : y_hd (l.drop a) = t.1 := by rw [e]; rfl
    have c1 : ¬ pd_o1 t.1 = true := by
      rcases hh with z | ⟨t9, q9, z, z2⟩
      · cases z
      · cases z
        exact z2
    have hdl := y_dP_le r
    have hd2 := y_dS_le (y_dP r)
    rw [y_dS_P] at hd2
    rw [y_dS_c]
    unfold ev_S
    rw [if_neg c1]
    by_cases c2 : pd_o2 t.1 = true
    rotate_left
    · rw [if_neg c2, if_neg (fun z => (y_fh.mp z).elim (fun z => c1 (y_o1.mpr z)) (fun z => c2 (y_o2.mpr z)))]
      have n1 : t.1 ≠ 43 := fun z => c2 (y_o2.mpr (Or.inl z))
      have n2 : t.1 ≠ 45 := fun z => c2 (y_o2.mpr (Or.inr z))
      refine yy_fin.steps (n := 1) (s' := (6, [some (.ref w), some (.int x)], [.ref w], h)) rfl ?_
      refine yy_fin.cv (as := []) rfl rfl rfl oW (Nat.le_of_ble_eq_true rfl) (Nat.le_of_ble_eq_true rfl) (yw_here C hB) ?_
      rintro v h9 ⟨rfl, e9⟩
      obtain rfl := e9.symm
      rw [er]
      refine yy_fin.steps (n := 1) (s' := (11, [some (.ref w), some (.int x)], [.int (Int32.ofInt 43), .int t.1], h)) rfl ?_
      refine yy_fin.ic rfl (fun c => absurd (of_decide_eq_true c) n1) (fun _ => ?_)
      refine yy_fin.steps (n := 1) (s' := (15, [some (.ref w), some (.int x)], [.ref w], h)) rfl ?_
      refine yy_fin.cv (as := []) rfl rfl rfl oW (Nat.le_of_ble_eq_true rfl) (Nat.le_of_ble_eq_true rfl) (yw_here C hB) ?_
      rintro v h9 ⟨rfl, e9⟩
      obtain rfl := e9.symm
      rw [er]
      refine yy_fin.steps (n := 1) (s' := (20, [some (.ref w), some (.int x)], [.int (Int32.ofInt 45), .int t.1], h)) rfl ?_
      refine yy_fin.ic rfl (fun _ => ?_) (fun c => absurd (decide_eq_true n2) c)
      refine yy_fin.steps (n := 1) (s' := (66, [some (.ref w), some (.int x)], [.int x], h)) rfl ?_
      exact yy_fin.at (n := 1) rfl ⟨rfl, yx.rf.le (Nat.zero_le _) (Nat.zero_le _), a, C, e⟩
    rw [if_pos c2, if_pos (show fl_h t.1 = true from y_fh.mpr (Or.inr (y_o2.mp c2)))]
    by_cases c3 : t.1 = 43
    · rw [if_neg (show t.1 ≠ 45 by rw [c3]; decide)]
      refine yy_fin.steps (n := 1) (s' := (6, [some (.ref w), some (.int x)], [.ref w], h)) rfl ?_
      refine yy_fin.cv (as := []) rfl rfl rfl oW (Nat.le_of_ble_eq_true rfl) (Nat.le_of_ble_eq_true rfl) (yw_here C hB) ?_
      rintro v h9 ⟨rfl, e9⟩
      obtain rfl := e9.symm
      rw [er]
      refine yy_fin.steps (n := 1) (s' := (11, [some (.ref w), some (.int x)], [.int (Int32.ofInt 43), .int t.1], h)) rfl ?_
      refine yy_fin.ic rfl (fun _ => ?_) (fun c => absurd (decide_eq_true c3) c)
      refine yy_fin.steps (n := 1) (s' := (24, [some (.ref w), some (.int x)], [.ref w], h)) rfl ?_
      refine yy_fin.fr rfl oW rfl ?_
      refine yy_fin.steps (n := 2) (s' := (29, [some (.ref w), some (.int x)], [.ref w, .ref w, .ref k], h)) rfl ?_
      refine yy_fin.fi rfl oW rfl e5 ?_
      refine yy_fin.steps (n := 3) (s' := (35, [some (.ref w), some (.int x)], [.int ((Int32.ofInt (a : Int)) + (Int32.ofInt 1)), .ref w, .int (Int32.ofInt (a : Int)), .ref k], h)) rfl ?_
      rw [yi_add (a : Int) 1]
      refine yy_fin.wi rfl oW rfl (Or.inl rfl) fun h1 x1 oW1 n1 i1 => ?_
      have oT1 := oT.z x1 (fun _ => (oT.neO oW (by decide)).1) (fun _ => (oT.neO oW (by decide)).2)
      have C1 : yCs h1 w o p b k v l tn dy lg pr (a + 1) := ⟨oW1, n1, (i1 6 (by decide)).trans e6, (i1 7 (by decide)).trans e7, (i1 8 (by decide)).trans e8, (i1 3 (by decide)).trans e3, oT1, by omega⟩
      have hB1 : h1.1.1 < yy_B := by have := x1.1; omega
      refine yy_fin.ct (as := [.int (Int32.ofInt (a : Int))]) rfl (by decide) rfl rfl oT1 hB1 (Nat.le_of_ble_eq_true rfl) (Nat.le_of_ble_eq_true rfl) (js_charAtZ oT1 hB1 ea) ?_
      rintro v h9 ⟨rfl, e9⟩
      obtain rfl := e9.symm
      refine yy_fin.steps (n := 1) (s' := (43, [some (.ref w), some (.int x)], [.int (Int32.ofInt 43), .int t.1], h1)) rfl ?_
      refine yy_fin.ic rfl (fun c => absurd c3 (of_decide_eq_true c)) (fun _ => ?_)
      refine yy_fin.steps (n := 2) (s' := (48, [some (.ref w), some (.int x)], [.ref w, .int x], h1)) rfl ?_
      have hz1 := x1.zr hz
      refine yy_fin.cv (as := []) rfl rfl rfl oW1 (Nat.le_of_ble_eq_true rfl) (Nat.le_of_ble_eq_true rfl) (yw_prod C1 (by have := x1.1; omega) hz1 ht hr1 ea2) ?_
      rintro v9 h2 ⟨rfl, x2, a9, C2, e2⟩
      refine yy_fin.steps (n := 4) (s' := (5, [some (.ref w), some (.int (x + (ev_P (dy - dy / 7 * 7, (dy - dy / 360 * 360, (lg, (tn, dy)))) (ev_t (dy - dy / 7 * 7, (dy - dy / 360 * 360, (lg, (tn, dy)))) t.2) r)))], [], h2)) rfl ?_
      have IH := yw_sumL n (y_dP r) h2 a9 (x + (ev_P (dy - dy / 7 * 7, (dy - dy / 360 * 360, (lg, (tn, dy)))) (ev_t (dy - dy / 7 * 7, (dy - dy / 360 * 360, (lg, (tn, dy)))) t.2) r)) (by omega) (y_dP_hd r) C2 (by have := x1.1; have := x2.1; omega) (x2.zr hz1) (y_dP_tks hr1) e2
      rw [ev_S_P, y_dS_P] at IH
      exact IH.mono fun r9 h9 e9 => ⟨e9.1, ((x1.tr x2 (fun _ _ e => e)).tr e9.2.1 (fun _ _ e => e)).le (by omega) (by omega), e9.2.2⟩
    have c4 : t.1 = 45 := (y_o2.mp c2).resolve_left c3
    rw [if_pos c4]
    refine yy_fin.steps (n := 1) (s' := (6, [some (.ref w), some (.int x)], [.ref w], h)) rfl ?_
    refine yy_fin.cv (as := []) rfl rfl rfl oW (Nat.le_of_ble_eq_true rfl) (Nat.le_of_ble_eq_true rfl) (yw_here C hB) ?_
    rintro v h9 ⟨rfl, e9⟩
    obtain rfl := e9.symm
    rw [er]
    refine yy_fin.steps (n := 1) (s' := (11, [some (.ref w), some (.int x)], [.int (Int32.ofInt 43), .int t.1], h)) rfl ?_
    refine yy_fin.ic rfl (fun c => absurd (of_decide_eq_true c) c3) (fun _ => ?_)
    refine yy_fin.steps (n := 1) (s' := (15, [some (.ref w), some (.int x)], [.ref w], h)) rfl ?_
    refine yy_fin.cv (as := []) rfl rfl rfl oW (Nat.le_of_ble_eq_true rfl) (Nat.le_of_ble_eq_true rfl) (yw_here C hB) ?_
    rintro v h9 ⟨rfl, e9⟩
    obtain rfl := e9.symm
    rw [er]
    refine yy_fin.steps (n := 1) (s' := (20, [some (.ref w), some (.int x)], [.int (Int32.ofInt 45), .int t.1], h)) rfl ?_
    refine yy_fin.ic rfl (fun c => absurd c4 (of_decide_eq_true c)) (fun _ => ?_)
    refine yy_fin.steps (n := 1) (s' := (24, [some (.ref w), some (.int x)], [.ref w], h)) rfl ?_
    refine yy_fin.fr rfl oW rfl ?_
    refine yy_fin.steps (n := 2) (s' := (29, [some (.ref w), some (.int x)], [.ref w, .ref w, .ref k], h)) rfl ?_
    refine yy_fin.fi rfl oW rfl e5 ?_
    refine yy_fin.steps (n := 3) (s' := (35, [some (.ref w), some (.int x)], [.int ((Int32.ofInt (a : Int)) + (Int32.ofInt 1)), .ref w, .int (Int32.ofInt (a : Int)), .ref k], h)) rfl ?_
    rw [yi_add (a : Int) 1]
    refine yy_fin.wi rfl oW rfl (Or.inl rfl) fun h1 x1 oW1 n1 i1 => ?_
    have oT1 := oT.z x1 (fun _ => (oT.neO oW (by decide)).1) (fun _ => (oT.neO oW (by decide)).2)
    have C1 : yCs h1 w o p b k v l tn dy lg pr (a + 1) := ⟨oW1, n1, (i1 6 (by decide)).trans e6, (i1 7 (by decide)).trans e7, (i1 8 (by decide)).trans e8, (i1 3 (by decide)).trans e3, oT1, by omega⟩
    have hB1 : h1.1.1 < yy_B := by have := x1.1; omega
    refine yy_fin.ct (as := [.int (Int32.ofInt (a : Int))]) rfl (by decide) rfl rfl oT1 hB1 (Nat.le_of_ble_eq_true rfl) (Nat.le_of_ble_eq_true rfl) (js_charAtZ oT1 hB1 ea) ?_
    rintro v h9 ⟨rfl, e9⟩
    obtain rfl := e9.symm
    refine yy_fin.steps (n := 1) (s' := (43, [some (.ref w), some (.int x)], [.int (Int32.ofInt 43), .int t.1], h1)) rfl ?_
    refine yy_fin.ic rfl (fun _ => ?_) (fun c => absurd (decide_eq_true c3) c)
    refine yy_fin.steps (n := 2) (s' := (57, [some (.ref w), some (.int x)], [.ref w, .int x], h1)) rfl ?_
    have hz1 := x1.zr hz
    refine yy_fin.cv (as := []) rfl rfl rfl oW1 (Nat.le_of_ble_eq_true rfl) (Nat.le_of_ble_eq_true rfl) (yw_prod C1 (by have := x1.1; omega) hz1 ht hr1 ea2) ?_
    rintro v9 h2 ⟨rfl, x2, a9, C2, e2⟩
    refine yy_fin.steps (n := 3) (s' := (5, [some (.ref w), some (.int (x - (ev_P (dy - dy / 7 * 7, (dy - dy / 360 * 360, (lg, (tn, dy)))) (ev_t (dy - dy / 7 * 7, (dy - dy / 360 * 360, (lg, (tn, dy)))) t.2) r)))], [], h2)) rfl ?_
    have IH := yw_sumL n (y_dP r) h2 a9 (x - (ev_P (dy - dy / 7 * 7, (dy - dy / 360 * 360, (lg, (tn, dy)))) (ev_t (dy - dy / 7 * 7, (dy - dy / 360 * 360, (lg, (tn, dy)))) t.2) r)) (by omega) (y_dP_hd r) C2 (by have := x1.1; have := x2.1; omega) (x2.zr hz1) (y_dP_tks hr1) e2
    rw [ev_S_P, y_dS_P] at IH
    exact IH.mono fun r9 h9 e9 => ⟨e9.1, ((x1.tr x2 (fun _ _ e => e)).tr e9.2.1 (fun _ _ e => e)).le (by omega) (by omega), e9.2.2⟩
theorem yw_sum (C : yCs h w o p b k v l tn dy lg pr a) {t : fl_T} {r0 : List fl_T} (hB0 : h.1.1 + 2 * r0.length + 4 < yy_B) (hz : zz_Zr h) (ht : y_tok t) (hr : y_tks r0) (e : l.drop a = y_th t ++ y_rn r0) : yy_fin X 293 (0, zz_in [.ref w] (zz_nl 293), [], h) (fun r h' => r = some (.int (ev_sum (dy - dy / 7 * 7, (dy - dy / 360 * 360, (lg, (tn, dy)))) (t :: r0))) ∧ yx (fun q => q = w) (r0.length + 1 - (y_dS r0).length) (5 * (r0.length + 1 - (y_dS r0).length)) h h' ∧ ∃ a2, yCs h' w o p b k v l tn dy lg pr a2 ∧ l.drop a2 = y_rn (y_dS r0)) := by
  obtain ⟨oW, e5, e6, e7, e8, e3, oT, ha⟩ := id C
  have hB : h.1.1 < yy_B := by omega
  have hdl := y_dP_le r0
  have hd2 := y_dS_le (y_dP r0)
  rw [y_dS_P] at hd2
  show yy_fin X 293 (0, zz_in [.ref w] (zz_nl 293), [], h) (fun r h' => r = some (.int (ev_S (dy - dy / 7 * 7, (dy - dy / 360 * 360, (lg, (tn, dy)))) (ev_P (dy - dy / 7 * 7, (dy - dy / 360 * 360, (lg, (tn, dy)))) (ev_t (dy - dy / 7 * 7, (dy - dy / 360 * 360, (lg, (tn, dy)))) t.2) r0) r0)) ∧ yx (fun q => q = w) (r0.length + 1 - (y_dS r0).length) (5 * (r0.length + 1 - (y_dS r0).length)) h h' ∧ ∃ a2, yCs h' w o p b k v l tn dy lg pr a2 ∧ l.drop a2 = y_rn (y_dS r0))
  refine yy_fin.steps (n := 1) (s' := (1, [some (.ref w), none], [.ref w], h)) rfl ?_
  refine yy_fin.cv (as := []) rfl rfl rfl oW (Nat.le_of_ble_eq_true rfl) (Nat.le_of_ble_eq_true rfl) (yw_prod C (by omega) hz ht hr e) ?_
  rintro v9 h1 ⟨rfl, x1, a9, C1, e1⟩
  refine yy_fin.steps (n := 1) (s' := (5, [some (.ref w), some (.int (ev_P (dy - dy / 7 * 7, (dy - dy / 360 * 360, (lg, (tn, dy)))) (ev_t (dy - dy / 7 * 7, (dy - dy / 360 * 360, (lg, (tn, dy)))) t.2) r0))], [], h1)) rfl ?_
  have IH := yw_sumL (X := X) r0.length (y_dP r0) h1 a9 (ev_P (dy - dy / 7 * 7, (dy - dy / 360 * 360, (lg, (tn, dy)))) (ev_t (dy - dy / 7 * 7, (dy - dy / 360 * 360, (lg, (tn, dy)))) t.2) r0) (y_dP_le r0) (y_dP_hd r0) C1 (by have := x1.1; have := y_dP_le r0; omega) (x1.zr hz) (y_dP_tks hr) e1
  rw [ev_S_P, y_dS_P] at IH
  exact IH.mono fun r9 h9 e9 => ⟨e9.1, (x1.tr e9.2.1 (fun _ _ e => e)).le (by have := y_dP_le r0; omega) (by have := y_dP_le r0; omega), e9.2.2⟩
/-- one test -/
def y_t1 (t : fl_T) (r : List fl_T) (tc : fl_T) (rc : List fl_T) : Prop := y_dS r = tc :: rc ∧ pd_ot tc.1 = true
def y_V (E : ev_E) (t : fl_T) (r : List fl_T) (tc : fl_T) (rc : List fl_T) : Bool := ev_cmp (ev_sum E (t :: r)) tc.1 (ev_sum E (tc :: rc))
theorem yw_test (C : yCs h w o p b k v l tn dy lg pr a) {t tc : fl_T} {r0 rc : List fl_T} (hB0 : h.1.1 + 4 * r0.length + 8 < yy_B) (hz : zz_Zr h) (ht : y_tok t) (hr : y_tks r0) (e : l.drop a = y_th t ++ y_rn r0) (ec : y_dS r0 = tc :: rc) (ho : pd_ot tc.1 = true) : yy_fin X 292 (0, zz_in [.ref w] (zz_nl 292), [], h) (fun r h' => r = some (.int (if (y_V (dy - dy / 7 * 7, (dy - dy / 360 * 360, (lg, (tn, dy)))) t r0 tc rc) = true then 1 else 0)) ∧ yx (fun q => q = w) (r0.length + 1 - (y_dS rc).length) (5 * (r0.length + 1 - (y_dS rc).length)) h h' ∧ ∃ a2, yCs h' w o p b k v l tn dy lg pr a2 ∧ l.drop a2 = y_rn (y_dS rc)) := by
  obtain ⟨oW, e5, e6, e7, e8, e3, oT, ha⟩ := id C
  have hB : h.1.1 < yy_B := by omega
  unfold y_V
  have hl1 := y_dS_le r0
  rw [ec, List.length_cons] at hl1
  have hl2 := y_dS_le rc
  have hrc := y_dS_tks hr
  rw [ec] at hrc
  obtain ⟨⟨htc, hsc⟩, hr1⟩ := y_tksC hrc
  refine yy_fin.steps (n := 1) (s' := (1, [some (.ref w), none, none, none], [.ref w], h)) rfl ?_
  refine yy_fin.cv (as := []) rfl rfl rfl oW (Nat.le_of_ble_eq_true rfl) (Nat.le_of_ble_eq_true rfl) (yw_sum C (by omega) hz ht hr e) ?_
  rintro v9 h1 ⟨rfl, x1, a9, C1, e1⟩
  rw [ec] at e1
  rw [ec, List.length_cons] at x1
  obtain ⟨oW1, f5, f6, f7, f8, f3, oT1, ha1⟩ := id C1
  obtain ⟨ea, ea2, ea3⟩ := y_at_hd e1
  have hB1 : h1.1.1 < yy_B := by have := x1.1; omega
  refine yy_fin.steps (n := 2) (s' := (6, [some (.ref w), some (.int (ev_sum (dy - dy / 7 * 7, (dy - dy / 360 * 360, (lg, (tn, dy)))) (t :: r0))), none, none], [.ref w], h1)) rfl ?_
  refine yy_fin.fr rfl oW1 rfl ?_
  refine yy_fin.steps (n := 2) (s' := (11, [some (.ref w), some (.int (ev_sum (dy - dy / 7 * 7, (dy - dy / 360 * 360, (lg, (tn, dy)))) (t :: r0))), none, none], [.ref w, .ref w, .ref k], h1)) rfl ?_
  refine yy_fin.fi rfl oW1 rfl f5 ?_
  refine yy_fin.steps (n := 3) (s' := (17, [some (.ref w), some (.int (ev_sum (dy - dy / 7 * 7, (dy - dy / 360 * 360, (lg, (tn, dy)))) (t :: r0))), none, none], [.int ((Int32.ofInt (a9 : Int)) + (Int32.ofInt 1)), .ref w, .int (Int32.ofInt (a9 : Int)), .ref k], h1)) rfl ?_
  rw [yi_add (a9 : Int) 1]
  refine yy_fin.wi rfl oW1 rfl (Or.inl rfl) fun h2 x2 oW2 n2 i2 => ?_
  have oT2 := oT1.z x2 (fun _ => (oT1.neO oW1 (by decide)).1) (fun _ => (oT1.neO oW1 (by decide)).2)
  have C2 : yCs h2 w o p b k v l tn dy lg pr (a9 + 1) := ⟨oW2, n2, (i2 6 (by decide)).trans f6, (i2 7 (by decide)).trans f7, (i2 8 (by decide)).trans f8, (i2 3 (by decide)).trans f3, oT2, by omega⟩
  have hB2 : h2.1.1 < yy_B := by have := x1.1; have := x2.1; omega
  refine yy_fin.ct (as := [.int (Int32.ofInt (a9 : Int))]) rfl (by decide) rfl rfl oT2 hB2 (Nat.le_of_ble_eq_true rfl) (Nat.le_of_ble_eq_true rfl) (js_charAtZ oT2 hB2 ea) ?_
  rintro v h9 ⟨rfl, e9⟩
  obtain rfl := e9.symm
  refine yy_fin.steps (n := 2) (s' := (25, [some (.ref w), some (.int (ev_sum (dy - dy / 7 * 7, (dy - dy / 360 * 360, (lg, (tn, dy)))) (t :: r0))), some (.int tc.1), none], [.ref w], h2)) rfl ?_
  refine yy_fin.cv (as := []) rfl rfl rfl oW2 (Nat.le_of_ble_eq_true rfl) (Nat.le_of_ble_eq_true rfl) (yw_sum C2 (by have := x1.1; have := x2.1; omega) (x2.zr (x1.zr hz)) htc hr1 ea2) ?_
  rintro v9 h3 ⟨rfl, x3, a8, C3, e3⟩
  generalize ev_sum (dy - dy / 7 * 7, (dy - dy / 360 * 360, (lg, (tn, dy)))) (t :: r0) = s1 at *
  generalize ev_sum (dy - dy / 7 * 7, (dy - dy / 360 * 360, (lg, (tn, dy)))) (tc :: rc) = s2 at *
  refine yy_fin.steps (n := 3) (s' := (32, [some (.ref w), some (.int s1), some (.int tc.1), some (.int s2)], [.int (Int32.ofInt 60), .int tc.1], h3)) rfl ?_
  have ho3 : tc.1 = 60 ∨ tc.1 = 62 ∨ tc.1 = 61 := by unfold pd_ot at ho; rw [Bool.or_eq_true, Bool.or_eq_true, decide_eq_true_eq, decide_eq_true_eq, decide_eq_true_eq] at ho; exact ho
  unfold ev_cmp
  rcases ho3 with c1 | c1 | c1
  · rw [c1]
    rw [if_pos (rfl : (60 : Int32) = 60)]
    refine yy_fin.ic rfl (fun c => absurd c (by decide)) (fun _ => ?_)
    refine yy_fin.steps (n := 2) (s' := (37, [some (.ref w), some (.int s1), some (.int 60), some (.int s2)], [.int s2, .int s1], h3)) rfl ?_
    by_cases c2 : s1 < s2
    · refine yy_fin.ic rfl (fun c => absurd (of_decide_eq_true c) (Int32.not_le.mpr c2)) (fun _ => ?_)
      rw [if_pos (decide_eq_true c2 : decide (s1 < s2) = true)]
      refine yy_fin.steps (n := 2) (s' := (77, [some (.ref w), some (.int s1), some (.int 60), some (.int s2)], [.int (Int32.ofInt 1)], h3)) rfl ?_
      exact yy_fin.ret2 rfl rfl (Or.inr rfl) ⟨rfl, ((x1.tr x2 (fun _ _ e => e)).tr x3 (fun _ _ e => e)).le (by omega) (by omega), a8, C3, e3⟩
    · refine yy_fin.ic rfl (fun _ => ?_) (fun c => absurd (decide_eq_true (Int32.not_lt.mp c2)) c)
      rw [if_neg (show ¬ decide (s1 < s2) = true from fun z => c2 (of_decide_eq_true z))]
      refine yy_fin.steps (n := 2) (s' := (77, [some (.ref w), some (.int s1), some (.int 60), some (.int s2)], [.int (Int32.ofInt 0)], h3)) rfl ?_
      exact yy_fin.ret2 rfl rfl (Or.inl rfl) ⟨rfl, ((x1.tr x2 (fun _ _ e => e)).tr x3 (fun _ _ e => e)).le (by omega) (by omega), a8, C3, e3⟩
  · rw [c1]
    rw [if_neg (show ¬ (62 : Int32) = 60 by decide), if_pos (rfl : (62 : Int32) = 62)]
    refine yy_fin.ic rfl (fun _ => ?_) (fun c => absurd (by decide) c)
    refine yy_fin.steps (n := 2) (s' := (51, [some (.ref w), some (.int s1), some (.int 62), some (.int s2)], [.int (Int32.ofInt 62), .int 62], h3)) rfl ?_
    refine yy_fin.ic rfl (fun c => absurd c (by decide)) (fun _ => ?_)
    refine yy_fin.steps (n := 2) (s' := (56, [some (.ref w), some (.int s1), some (.int 62), some (.int s2)], [.int s2, .int s1], h3)) rfl ?_
    by_cases c2 : s2 < s1
    · refine yy_fin.ic rfl (fun c => absurd (of_decide_eq_true c) (Int32.not_le.mpr c2)) (fun _ => ?_)
      rw [if_pos (decide_eq_true c2 : decide (s2 < s1) = true)]
      refine yy_fin.steps (n := 2) (s' := (77, [some (.ref w), some (.int s1), some (.int 62), some (.int s2)], [.int (Int32.ofInt 1)], h3)) rfl ?_
      exact yy_fin.ret2 rfl rfl (Or.inr rfl) ⟨rfl, ((x1.tr x2 (fun _ _ e => e)).tr x3 (fun _ _ e => e)).le (by omega) (by omega), a8, C3, e3⟩
    · refine yy_fin.ic rfl (fun _ => ?_) (fun c => absurd (decide_eq_true (Int32.not_lt.mp c2)) c)
      rw [if_neg (show ¬ decide (s2 < s1) = true from fun z => c2 (of_decide_eq_true z))]
      refine yy_fin.steps (n := 2) (s' := (77, [some (.ref w), some (.int s1), some (.int 62), some (.int s2)], [.int (Int32.ofInt 0)], h3)) rfl ?_
      exact yy_fin.ret2 rfl rfl (Or.inl rfl) ⟨rfl, ((x1.tr x2 (fun _ _ e => e)).tr x3 (fun _ _ e => e)).le (by omega) (by omega), a8, C3, e3⟩
  · rw [c1]
    rw [if_neg (show ¬ (61 : Int32) = 60 by decide), if_neg (show ¬ (61 : Int32) = 62 by decide)]
    refine yy_fin.ic rfl (fun _ => ?_) (fun c => absurd (by decide) c)
    refine yy_fin.steps (n := 2) (s' := (51, [some (.ref w), some (.int s1), some (.int 61), some (.int s2)], [.int (Int32.ofInt 62), .int 61], h3)) rfl ?_
    refine yy_fin.ic rfl (fun _ => ?_) (fun c => absurd (by decide) c)
    refine yy_fin.steps (n := 2) (s' := (69, [some (.ref w), some (.int s1), some (.int 61), some (.int s2)], [.int s2, .int s1], h3)) rfl ?_
    by_cases c2 : s1 = s2
    · refine yy_fin.ic rfl (fun c => absurd (of_decide_eq_true c) (fun z => z c2)) (fun _ => ?_)
      rw [if_pos (decide_eq_true c2 : decide (s1 = s2) = true)]
      refine yy_fin.steps (n := 2) (s' := (77, [some (.ref w), some (.int s1), some (.int 61), some (.int s2)], [.int (Int32.ofInt 1)], h3)) rfl ?_
      exact yy_fin.ret2 rfl rfl (Or.inr rfl) ⟨rfl, ((x1.tr x2 (fun _ _ e => e)).tr x3 (fun _ _ e => e)).le (by omega) (by omega), a8, C3, e3⟩
    · refine yy_fin.ic rfl (fun _ => ?_) (fun c => absurd (decide_eq_true c2) c)
      rw [if_neg (show ¬ decide (s1 = s2) = true from fun z => c2 (of_decide_eq_true z))]
      refine yy_fin.steps (n := 1) (s' := (77, [some (.ref w), some (.int s1), some (.int 61), some (.int s2)], [.int (Int32.ofInt 0)], h3)) rfl ?_
      exact yy_fin.ret2 rfl rfl (Or.inl rfl) ⟨rfl, ((x1.tr x2 (fun _ _ e => e)).tr x3 (fun _ _ e => e)).le (by omega) (by omega), a8, C3, e3⟩
theorem y_b01 (B : Bool) : (if B = true then (1 : Int32) else 0) = 0 ∨ (if B = true then (1 : Int32) else 0) = 1 := by cases B <;> decide
theorem y_band (A B : Bool) : (if A = true then (1 : Int32) else 0) &&& (if B = true then 1 else 0) = if (A && B) = true then 1 else 0 := by cases A <;> cases B <;> decide
theorem y_bor (A B : Bool) : (if A = true then (1 : Int32) else 0) ||| (if B = true then 1 else 0) = if (A || B) = true then 1 else 0 := by cases A <;> cases B <;> decide
theorem yw_bothA (C : yCs h w o p b k v l tn dy lg pr a) {t tc : fl_T} {r0 rc : List fl_T} (hB0 : h.1.1 + 4 * r0.length + 8 < yy_B) (hz : zz_Zr h) (ht : y_tok t) (hr : y_tks r0) (e : l.drop a = y_th t ++ y_rn r0) (e1 : y_t1 t r0 tc rc) (hn : y_sg (y_dS rc) ≠ 38) : yy_fin X 291 (0, zz_in [.ref w] (zz_nl 291), [], h) (fun r h' => r = some (.int (if (y_V (dy - dy / 7 * 7, (dy - dy / 360 * 360, (lg, (tn, dy)))) t r0 tc rc) = true then 1 else 0)) ∧ yx (fun q => q = w) (r0.length + 1 - (y_dS rc).length) (5 * (r0.length + 1 - (y_dS rc).length)) h h' ∧ ∃ a2, yCs h' w o p b k v l tn dy lg pr a2 ∧ l.drop a2 = y_rn (y_dS rc)) := by
  obtain ⟨oW, e5, e6, e7, e8, e3, oT, ha⟩ := id C
  refine yy_fin.steps (n := 1) (s' := (1, [some (.ref w), none], [.ref w], h)) rfl ?_
  refine yy_fin.cv (as := []) rfl rfl rfl oW (Nat.le_of_ble_eq_true rfl) (Nat.le_of_ble_eq_true rfl) (yw_test C hB0 hz ht hr e e1.1 e1.2) ?_
  rintro v9 h1 ⟨rfl, x1, a1, C1, d1⟩
  obtain ⟨B1, eB1⟩ : ∃ q, q = y_V (dy - dy / 7 * 7, (dy - dy / 360 * 360, (lg, (tn, dy)))) t r0 tc rc := ⟨_, rfl⟩
  rw [← eB1]
  refine yy_fin.steps (n := 2) (s' := (6, [some (.ref w), some (.int (if (B1) = true then 1 else 0))], [.ref w], h1)) rfl ?_
  have hB1 : h1.1.1 < yy_B := by have := x1.1; omega
  obtain ⟨oW1, -⟩ := id C1
  refine yy_fin.cv (as := []) rfl rfl rfl oW1 (Nat.le_of_ble_eq_true rfl) (Nat.le_of_ble_eq_true rfl) (yw_here C1 hB1) ?_
  rintro v h9 ⟨rfl, e9⟩
  obtain rfl := e9.symm
  rw [show y_hd (l.drop a1) = y_sg (y_dS rc) by rw [d1]; exact y_hd_rn _]
  refine yy_fin.steps (n := 1) (s' := (11, [some (.ref w), some (.int (if (B1) = true then 1 else 0))], [.int (Int32.ofInt 38), .int (y_sg (y_dS rc))], h1)) rfl ?_
  refine yy_fin.ic rfl (fun _ => ?_) (fun c => absurd (decide_eq_true hn) c)
  refine yy_fin.steps (n := 1) (s' := (35, [some (.ref w), some (.int (if (B1) = true then 1 else 0))], [.int (if (B1) = true then 1 else 0)], h1)) rfl ?_
  exact yy_fin.ret2 rfl rfl (y_b01 B1) ⟨rfl, x1, a1, C1, d1⟩
theorem yw_bothB (C : yCs h w o p b k v l tn dy lg pr a) {t tc : fl_T} {r0 rc : List fl_T} (hB0 : h.1.1 + 8 * r0.length + 16 < yy_B) (hz : zz_Zr h) (ht : y_tok t) (hr : y_tks r0) (e : l.drop a = y_th t ++ y_rn r0) (e1 : y_t1 t r0 tc rc) {t2 td : fl_T} {r2 rd : List fl_T} (g1 : y_dS rc = t2 :: r2) (g2 : t2.1 = 38) (g3 : y_t1 t2 r2 td rd) (hn : y_sg (y_dS rd) ≠ 38) : yy_fin X 291 (0, zz_in [.ref w] (zz_nl 291), [], h) (fun r h' => r = some (.int (if (y_V (dy - dy / 7 * 7, (dy - dy / 360 * 360, (lg, (tn, dy)))) t r0 tc rc && y_V (dy - dy / 7 * 7, (dy - dy / 360 * 360, (lg, (tn, dy)))) t2 r2 td rd) = true then 1 else 0)) ∧ yx (fun q => q = w) (r0.length + 1 - (y_dS rd).length) (5 * (r0.length + 1 - (y_dS rd).length)) h h' ∧ ∃ a2, yCs h' w o p b k v l tn dy lg pr a2 ∧ l.drop a2 = y_rn (y_dS rd)) := by
  obtain ⟨oW, e5, e6, e7, e8, e3, oT, ha⟩ := id C
  have hl1 := y_dS_le r0
  rw [e1.1, List.length_cons] at hl1
  have hl2 := y_dS_le rc
  rw [g1, List.length_cons] at hl2
  have hl3 := y_dS_le r2
  rw [g3.1, List.length_cons] at hl3
  have hl4 := y_dS_le rd
  have k1 := y_dS_tks hr
  rw [e1.1] at k1
  have k2 := y_dS_tks (y_tksC k1).2
  rw [g1] at k2
  obtain ⟨⟨ht2, hs2⟩, hr2⟩ := y_tksC k2
  refine yy_fin.steps (n := 1) (s' := (1, [some (.ref w), none], [.ref w], h)) rfl ?_
  refine yy_fin.cv (as := []) rfl rfl rfl oW (Nat.le_of_ble_eq_true rfl) (Nat.le_of_ble_eq_true rfl) (yw_test C (by omega) hz ht hr e e1.1 e1.2) ?_
  rintro v9 h1 ⟨rfl, x1, a1, C1, d1⟩
  obtain ⟨B1, eB1⟩ : ∃ q, q = y_V (dy - dy / 7 * 7, (dy - dy / 360 * 360, (lg, (tn, dy)))) t r0 tc rc := ⟨_, rfl⟩
  rw [← eB1]
  refine yy_fin.steps (n := 2) (s' := (6, [some (.ref w), some (.int (if (B1) = true then 1 else 0))], [.ref w], h1)) rfl ?_
  rw [g1] at d1
  rw [g1, List.length_cons] at x1
  obtain ⟨ea, ea2, ea3⟩ := y_at_hd d1
  have hB1 : h1.1.1 < yy_B := by have := x1.1; omega
  obtain ⟨oW1, f5, f6, f7, f8, f3, oT1, ha1⟩ := id C1
  refine yy_fin.cv (as := []) rfl rfl rfl oW1 (Nat.le_of_ble_eq_true rfl) (Nat.le_of_ble_eq_true rfl) (yw_here C1 hB1) ?_
  rintro v h9 ⟨rfl, e9⟩
  obtain rfl := e9.symm
  rw [show y_hd (l.drop a1) = t2.1 by rw [d1]; exact y_hd_rn _]
  refine yy_fin.steps (n := 1) (s' := (11, [some (.ref w), some (.int (if (B1) = true then 1 else 0))], [.int (Int32.ofInt 38), .int t2.1], h1)) rfl ?_
  refine yy_fin.ic rfl (fun c => absurd g2 (of_decide_eq_true c)) (fun _ => ?_)
  refine yy_fin.steps (n := 2) (s' := (16, [some (.ref w), some (.int (if (B1) = true then 1 else 0))], [.ref w, .ref w], h1)) rfl ?_
  refine yy_fin.fi rfl oW1 rfl f5 ?_
  refine yy_fin.steps (n := 2) (s' := (21, [some (.ref w), some (.int (if (B1) = true then 1 else 0))], [.int ((Int32.ofInt (a1 : Int)) + (Int32.ofInt 1)), .ref w], h1)) rfl ?_
  rw [yi_add (a1 : Int) 1]
  refine yy_fin.wi rfl oW1 rfl (Or.inl rfl) fun h2 x2 oW2 n2 i2 => ?_
  have oT2 := oT1.z x2 (fun _ => (oT1.neO oW1 (by decide)).1) (fun _ => (oT1.neO oW1 (by decide)).2)
  have C2 : yCs h2 w o p b k v l tn dy lg pr (a1 + 1) := ⟨oW2, n2, (i2 6 (by decide)).trans f6, (i2 7 (by decide)).trans f7, (i2 8 (by decide)).trans f8, (i2 3 (by decide)).trans f3, oT2, by omega⟩
  have hB2 : h2.1.1 < yy_B := by have := x2.1; omega
  refine yy_fin.steps (n := 2) (s' := (26, [some (.ref w), some (.int (if (B1) = true then 1 else 0))], [.ref w, .int (if (B1) = true then 1 else 0)], h2)) rfl ?_
  refine yy_fin.cv (as := []) rfl rfl rfl oW2 (Nat.le_of_ble_eq_true rfl) (Nat.le_of_ble_eq_true rfl) (yw_test C2 (by have := x1.1; have := x2.1; omega) (x2.zr (x1.zr hz)) ht2 hr2 ea2 g3.1 g3.2) ?_
  rintro v9 h3 ⟨rfl, x3, a3, C3, d3⟩
  obtain ⟨B2, eB2⟩ : ∃ q, q = y_V (dy - dy / 7 * 7, (dy - dy / 360 * 360, (lg, (tn, dy)))) t2 r2 td rd := ⟨_, rfl⟩
  rw [← eB2]
  refine yy_fin.steps (n := 1) (s' := (30, [some (.ref w), some (.int (if (B1) = true then 1 else 0))], [.int ((if (B1) = true then 1 else 0) &&& (if (B2) = true then 1 else 0))], h3)) rfl ?_
  rw [y_band]
  refine yy_fin.steps (n := 3) (s' := (6, [some (.ref w), some (.int (if (B1 && B2) = true then 1 else 0))], [.ref w], h3)) rfl ?_
  have hB3 : h3.1.1 < yy_B := by have := x1.1; have := x2.1; have := x3.1; omega
  obtain ⟨oW3, -⟩ := id C3
  refine yy_fin.cv (as := []) rfl rfl rfl oW3 (Nat.le_of_ble_eq_true rfl) (Nat.le_of_ble_eq_true rfl) (yw_here C3 hB3) ?_
  rintro v h9 ⟨rfl, e9⟩
  obtain rfl := e9.symm
  rw [show y_hd (l.drop a3) = y_sg (y_dS rd) by rw [d3]; exact y_hd_rn _]
  refine yy_fin.steps (n := 1) (s' := (11, [some (.ref w), some (.int (if (B1 && B2) = true then 1 else 0))], [.int (Int32.ofInt 38), .int (y_sg (y_dS rd))], h3)) rfl ?_
  refine yy_fin.ic rfl (fun _ => ?_) (fun c => absurd (decide_eq_true hn) c)
  refine yy_fin.steps (n := 1) (s' := (35, [some (.ref w), some (.int (if (B1 && B2) = true then 1 else 0))], [.int (if (B1 && B2) = true then 1 else 0)], h3)) rfl ?_
  exact yy_fin.ret2 rfl rfl (y_b01 _) ⟨rfl, ((x1.tr x2 (fun _ _ e => e)).tr x3 (fun _ _ e => e)).le (by omega) (by omega), a3, C3, d3⟩
theorem yw_condA (C : yCs h w o p b k v l tn dy lg pr a) {t tc : fl_T} {r0 rc : List fl_T} (hB0 : h.1.1 + 16 * r0.length + 32 < yy_B) (hz : zz_Zr h) (ht : y_tok t) (hr : y_tks r0) (e : l.drop a = y_th t ++ y_rn r0) (e1 : y_t1 t r0 tc rc) (g0 : y_dS rc = []) : yy_fin X 290 (0, zz_in [.ref w] (zz_nl 290), [], h) (fun r h' => r = some (.int (if (y_V (dy - dy / 7 * 7, (dy - dy / 360 * 360, (lg, (tn, dy)))) t r0 tc rc) = true then 1 else 0)) ∧ yx (fun q => q = w) (r0.length + 1) (5 * (r0.length + 1)) h h' ∧ ∃ a2, yCs h' w o p b k v l tn dy lg pr a2) := by
  obtain ⟨oW, e5, e6, e7, e8, e3, oT, ha⟩ := id C
  refine yy_fin.steps (n := 1) (s' := (1, [some (.ref w), none], [.ref w], h)) rfl ?_
  refine yy_fin.cv (as := []) rfl rfl rfl oW (Nat.le_of_ble_eq_true rfl) (Nat.le_of_ble_eq_true rfl) (yw_bothA C (by omega) hz ht hr e e1 (by rw [g0]; decide)) ?_
  rintro v9 h1 ⟨rfl, x1, a1, C1, d1⟩
  obtain ⟨B1, eB1⟩ : ∃ q, q = y_V (dy - dy / 7 * 7, (dy - dy / 360 * 360, (lg, (tn, dy)))) t r0 tc rc := ⟨_, rfl⟩
  rw [← eB1]
  refine yy_fin.steps (n := 2) (s' := (6, [some (.ref w), some (.int (if (B1) = true then 1 else 0))], [.ref w], h1)) rfl ?_
  have hB1 : h1.1.1 < yy_B := by have := x1.1; omega
  obtain ⟨oW1, -⟩ := id C1
  rw [g0] at d1
  refine yy_fin.cv (as := []) rfl rfl rfl oW1 (Nat.le_of_ble_eq_true rfl) (Nat.le_of_ble_eq_true rfl) (yw_here C1 hB1) ?_
  rintro v h9 ⟨rfl, e9⟩
  obtain rfl := e9.symm
  rw [show y_hd (l.drop a1) = 32 by rw [d1]; rfl]
  refine yy_fin.steps (n := 1) (s' := (11, [some (.ref w), some (.int (if (B1) = true then 1 else 0))], [.int (Int32.ofInt 124), .int 32], h1)) rfl ?_
  refine yy_fin.ic rfl (fun _ => ?_) (fun c => absurd (by decide) c)
  refine yy_fin.steps (n := 1) (s' := (35, [some (.ref w), some (.int (if (B1) = true then 1 else 0))], [.int (if (B1) = true then 1 else 0)], h1)) rfl ?_
  exact yy_fin.ret2 rfl rfl (y_b01 _) ⟨rfl, x1.le (by omega) (by omega), a1, C1⟩
theorem yw_condB (C : yCs h w o p b k v l tn dy lg pr a) {t tc : fl_T} {r0 rc : List fl_T} (hB0 : h.1.1 + 16 * r0.length + 32 < yy_B) (hz : zz_Zr h) (ht : y_tok t) (hr : y_tks r0) (e : l.drop a = y_th t ++ y_rn r0) (e1 : y_t1 t r0 tc rc) {t2 td : fl_T} {r2 rd : List fl_T} (g1 : y_dS rc = t2 :: r2) (g2 : t2.1 = 38) (g3 : y_t1 t2 r2 td rd) (g4 : y_dS rd = []) : yy_fin X 290 (0, zz_in [.ref w] (zz_nl 290), [], h) (fun r h' => r = some (.int (if (y_V (dy - dy / 7 * 7, (dy - dy / 360 * 360, (lg, (tn, dy)))) t r0 tc rc && y_V (dy - dy / 7 * 7, (dy - dy / 360 * 360, (lg, (tn, dy)))) t2 r2 td rd) = true then 1 else 0)) ∧ yx (fun q => q = w) (r0.length + 1) (5 * (r0.length + 1)) h h' ∧ ∃ a2, yCs h' w o p b k v l tn dy lg pr a2) := by
  obtain ⟨oW, e5, e6, e7, e8, e3, oT, ha⟩ := id C
  refine yy_fin.steps (n := 1) (s' := (1, [some (.ref w), none], [.ref w], h)) rfl ?_
  refine yy_fin.cv (as := []) rfl rfl rfl oW (Nat.le_of_ble_eq_true rfl) (Nat.le_of_ble_eq_true rfl) (yw_bothB C (by omega) hz ht hr e e1 g1 g2 g3 (by rw [g4]; decide)) ?_
  rintro v9 h1 ⟨rfl, x1, a1, C1, d1⟩
  obtain ⟨B1, eB1⟩ : ∃ q, q = (y_V (dy - dy / 7 * 7, (dy - dy / 360 * 360, (lg, (tn, dy)))) t r0 tc rc && y_V (dy - dy / 7 * 7, (dy - dy / 360 * 360, (lg, (tn, dy)))) t2 r2 td rd) := ⟨_, rfl⟩
  rw [← eB1]
  refine yy_fin.steps (n := 2) (s' := (6, [some (.ref w), some (.int (if (B1) = true then 1 else 0))], [.ref w], h1)) rfl ?_
  have hB1 : h1.1.1 < yy_B := by have := x1.1; omega
  obtain ⟨oW1, -⟩ := id C1
  rw [g4] at d1
  refine yy_fin.cv (as := []) rfl rfl rfl oW1 (Nat.le_of_ble_eq_true rfl) (Nat.le_of_ble_eq_true rfl) (yw_here C1 hB1) ?_
  rintro v h9 ⟨rfl, e9⟩
  obtain rfl := e9.symm
  rw [show y_hd (l.drop a1) = 32 by rw [d1]; rfl]
  refine yy_fin.steps (n := 1) (s' := (11, [some (.ref w), some (.int (if (B1) = true then 1 else 0))], [.int (Int32.ofInt 124), .int 32], h1)) rfl ?_
  refine yy_fin.ic rfl (fun _ => ?_) (fun c => absurd (by decide) c)
  refine yy_fin.steps (n := 1) (s' := (35, [some (.ref w), some (.int (if (B1) = true then 1 else 0))], [.int (if (B1) = true then 1 else 0)], h1)) rfl ?_
  exact yy_fin.ret2 rfl rfl (y_b01 _) ⟨rfl, x1.le (by omega) (by omega), a1, C1⟩
theorem yw_condC (C : yCs h w o p b k v l tn dy lg pr a) {t tc : fl_T} {r0 rc : List fl_T} (hB0 : h.1.1 + 16 * r0.length + 32 < yy_B) (hz : zz_Zr h) (ht : y_tok t) (hr : y_tks r0) (e : l.drop a = y_th t ++ y_rn r0) (e1 : y_t1 t r0 tc rc) {t2 td : fl_T} {r2 rd : List fl_T} (g1 : y_dS rc = t2 :: r2) (g2 : t2.1 = 124) (g3 : y_t1 t2 r2 td rd) (g4 : y_dS rd = []) : yy_fin X 290 (0, zz_in [.ref w] (zz_nl 290), [], h) (fun r h' => r = some (.int (if (y_V (dy - dy / 7 * 7, (dy - dy / 360 * 360, (lg, (tn, dy)))) t r0 tc rc || y_V (dy - dy / 7 * 7, (dy - dy / 360 * 360, (lg, (tn, dy)))) t2 r2 td rd) = true then 1 else 0)) ∧ yx (fun q => q = w) (r0.length + 1) (5 * (r0.length + 1)) h h' ∧ ∃ a2, yCs h' w o p b k v l tn dy lg pr a2) := by
  obtain ⟨oW, e5, e6, e7, e8, e3, oT, ha⟩ := id C
  have hl1 := y_dS_le r0
  rw [e1.1, List.length_cons] at hl1
  have hl2 := y_dS_le rc
  rw [g1, List.length_cons] at hl2
  have hl3 := y_dS_le r2
  rw [g3.1, List.length_cons] at hl3
  have hl4 := y_dS_le rd
  have k1 := y_dS_tks hr
  rw [e1.1] at k1
  have k2 := y_dS_tks (y_tksC k1).2
  rw [g1] at k2
  obtain ⟨⟨ht2, hs2⟩, hr2⟩ := y_tksC k2
  refine yy_fin.steps (n := 1) (s' := (1, [some (.ref w), none], [.ref w], h)) rfl ?_
  refine yy_fin.cv (as := []) rfl rfl rfl oW (Nat.le_of_ble_eq_true rfl) (Nat.le_of_ble_eq_true rfl) (yw_bothA C (by omega) hz ht hr e e1 (by rw [g1]; show t2.1 ≠ 38; rw [g2]; decide)) ?_
  rintro v9 h1 ⟨rfl, x1, a1, C1, d1⟩
  obtain ⟨B1, eB1⟩ : ∃ q, q = y_V (dy - dy / 7 * 7, (dy - dy / 360 * 360, (lg, (tn, dy)))) t r0 tc rc := ⟨_, rfl⟩
  rw [← eB1]
  refine yy_fin.steps (n := 2) (s' := (6, [some (.ref w), some (.int (if (B1) = true then 1 else 0))], [.ref w], h1)) rfl ?_
  rw [g1] at d1
  rw [g1, List.length_cons] at x1
  obtain ⟨ea, ea2, ea3⟩ := y_at_hd d1
  have hB1 : h1.1.1 < yy_B := by have := x1.1; omega
  obtain ⟨oW1, f5, f6, f7, f8, f3, oT1, ha1⟩ := id C1
  refine yy_fin.cv (as := []) rfl rfl rfl oW1 (Nat.le_of_ble_eq_true rfl) (Nat.le_of_ble_eq_true rfl) (yw_here C1 hB1) ?_
  rintro v h9 ⟨rfl, e9⟩
  obtain rfl := e9.symm
  rw [show y_hd (l.drop a1) = t2.1 by rw [d1]; exact y_hd_rn _]
  refine yy_fin.steps (n := 1) (s' := (11, [some (.ref w), some (.int (if (B1) = true then 1 else 0))], [.int (Int32.ofInt 124), .int t2.1], h1)) rfl ?_
  refine yy_fin.ic rfl (fun c => absurd g2 (of_decide_eq_true c)) (fun _ => ?_)
  refine yy_fin.steps (n := 2) (s' := (16, [some (.ref w), some (.int (if (B1) = true then 1 else 0))], [.ref w, .ref w], h1)) rfl ?_
  refine yy_fin.fi rfl oW1 rfl f5 ?_
  refine yy_fin.steps (n := 2) (s' := (21, [some (.ref w), some (.int (if (B1) = true then 1 else 0))], [.int ((Int32.ofInt (a1 : Int)) + (Int32.ofInt 1)), .ref w], h1)) rfl ?_
  rw [yi_add (a1 : Int) 1]
  refine yy_fin.wi rfl oW1 rfl (Or.inl rfl) fun h2 x2 oW2 n2 i2 => ?_
  have oT2 := oT1.z x2 (fun _ => (oT1.neO oW1 (by decide)).1) (fun _ => (oT1.neO oW1 (by decide)).2)
  have C2 : yCs h2 w o p b k v l tn dy lg pr (a1 + 1) := ⟨oW2, n2, (i2 6 (by decide)).trans f6, (i2 7 (by decide)).trans f7, (i2 8 (by decide)).trans f8, (i2 3 (by decide)).trans f3, oT2, by omega⟩
  have hB2 : h2.1.1 < yy_B := by have := x2.1; omega
  refine yy_fin.steps (n := 2) (s' := (26, [some (.ref w), some (.int (if (B1) = true then 1 else 0))], [.ref w, .int (if (B1) = true then 1 else 0)], h2)) rfl ?_
  refine yy_fin.cv (as := []) rfl rfl rfl oW2 (Nat.le_of_ble_eq_true rfl) (Nat.le_of_ble_eq_true rfl) (yw_bothA C2 (by have := x1.1; have := x2.1; omega) (x2.zr (x1.zr hz)) ht2 hr2 ea2 g3 (by rw [g4]; decide)) ?_
  rintro v9 h3 ⟨rfl, x3, a3, C3, d3⟩
  obtain ⟨B2, eB2⟩ : ∃ q, q = y_V (dy - dy / 7 * 7, (dy - dy / 360 * 360, (lg, (tn, dy)))) t2 r2 td rd := ⟨_, rfl⟩
  rw [← eB2]
  refine yy_fin.steps (n := 1) (s' := (30, [some (.ref w), some (.int (if (B1) = true then 1 else 0))], [.int ((if (B1) = true then 1 else 0) ||| (if (B2) = true then 1 else 0))], h3)) rfl ?_
  rw [y_bor]
  refine yy_fin.steps (n := 3) (s' := (6, [some (.ref w), some (.int (if (B1 || B2) = true then 1 else 0))], [.ref w], h3)) rfl ?_
  have hB3 : h3.1.1 < yy_B := by have := x1.1; have := x2.1; have := x3.1; omega
  obtain ⟨oW3, -⟩ := id C3
  rw [g4] at d3
  refine yy_fin.cv (as := []) rfl rfl rfl oW3 (Nat.le_of_ble_eq_true rfl) (Nat.le_of_ble_eq_true rfl) (yw_here C3 hB3) ?_
  rintro v h9 ⟨rfl, e9⟩
  obtain rfl := e9.symm
  rw [show y_hd (l.drop a3) = 32 by rw [d3]; rfl]
  refine yy_fin.steps (n := 1) (s' := (11, [some (.ref w), some (.int (if (B1 || B2) = true then 1 else 0))], [.int (Int32.ofInt 124), .int 32], h3)) rfl ?_
  refine yy_fin.ic rfl (fun _ => ?_) (fun c => absurd (by decide) c)
  refine yy_fin.steps (n := 1) (s' := (35, [some (.ref w), some (.int (if (B1 || B2) = true then 1 else 0))], [.int (if (B1 || B2) = true then 1 else 0)], h3)) rfl ?_
  exact yy_fin.ret2 rfl rfl (y_b01 _) ⟨rfl, ((x1.tr x2 (fun _ _ e => e)).tr x3 (fun _ _ e => e)).le (by omega) (by omega), a3, C3⟩
end YW3
