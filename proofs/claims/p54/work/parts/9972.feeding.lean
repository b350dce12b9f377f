/-! A CALL ON THE CLASS, and its like on the model in mind; the law's tape (275) (printed by wip/p54/w8.py) -/
/-- what a method says: its answer, its heap -/
def yMt (m : Nat) (as : List Value) (g : aa_G) (E : Int32 × aa_G) (ws : aa_W) : Prop := zz_fin none m (0, zz_in as (zz_nl m), [], aa_H g) (fun v h => v = some (.int E.1) ∧ h = aa_H E.2 ∧ aa_inv E.2 ∧ aa_Phi E.2 ∧ aa_fr ws g E.2)
theorem yLI.go {mc mm : Nat} {as : List Value} {eq : Bool} {g : aa_G} {E : Int32 × aa_G} {M : aa_G → Int32 × aa_G} {wc wm : aa_W} (q : lq_ok eq mc mm as g) (ha : ∀ x ∈ as, yj_v x) (c : yMt mc (.ref 1 :: as) g E wc) (m : ∀ g1, aa_inv g1 → aa_Phi g1 → yMt mm (.ref 540 :: as) g1 (M g1) wm) (hm : lk_m wm = true) :
    (eq = true → (M E.2).1 = E.1) ∧ yLI (M E.2).2 ∧ aa_inv E.2 ∧ aa_Phi E.2 ∧ aa_fr wc g E.2 ∧ aa_fr wm E.2 (M E.2).2 ∧ (∀ k, k < 540 → (M E.2).2 k = E.2 k) ∧
      ∀ {X : yy_X} {h : zz_H}, yG h g → yy_fin X mc (0, zz_in (.ref 1 :: as) (zz_nl mc), [], h) (fun v h' => v = some (.int E.1) ∧ yG h' (M E.2).2 ∧ yx yLow 0 0 h h') := by
  obtain ⟨n, p, v, h0, w, ⟨x, g1, rfl, rfl, qm⟩, e1, e2, i1, f1, r1⟩ := zz_fin.both q c
  cases e1
  cases ep_H e2
  obtain ⟨n2, p2, v2, h2, w2, ⟨y, g2, rfl, ey, rfl, i2, f2, r2, -⟩, e3, e4, -, -, r3⟩ := zz_fin.both qm (m E.2 i1 f1)
  cases e3
  have e4 := ep_H e4
  have hk : ∀ k, k < 540 → (M E.2).2 k = E.2 k := fun k hk => funext fun j => lk_me hm r3 hk j
  refine ⟨ey, ⟨e4 ▸ i2, e4 ▸ f2, e4 ▸ r2⟩, i1, f1, r1, r3, hk, fun {X h} G => ?_⟩
  have ha2 : ∀ z ∈ Value.ref 1 :: as, yj_v z := fun z hz => by
    rcases List.mem_cons.mp hz with e | e
    · rw [e]
      exact Nat.le_of_ble_eq_true rfl
    · exact ha z e
  have f : zz_fin none mc (0, zz_in (.ref 1 :: as) (zz_nl mc), [], aa_H g) (fun v h => ∃ g', h = aa_H g' ∧ (v = some (.int E.1) ∧ g' = E.2)) := ⟨n, p, _, _, w, E.2, rfl, rfl, rfl⟩
  refine (G.run ha2 f).mono fun v h' z => ?_
  obtain ⟨g', ⟨rfl, rfl⟩, G2, x2⟩ := z
  exact ⟨rfl, G2.g fun k hk2 => hk k (Nat.lt_succ_of_le hk2), x2⟩
/-- the model's cells but its tape -/
def yKm (g g' : aa_G) : Prop := ∀ k j, 540 ≤ k → k ≠ 543 → ¬ (k = 540 ∧ j = 4) → g' k j = g k j
theorem yKm.rf {g : aa_G} : yKm g g := fun _ _ _ _ _ => rfl
theorem yKm.tr {g g1 g2 : aa_G} (a : yKm g g1) (b : yKm g1 g2) : yKm g g2 := fun k j h1 h2 h3 => (b k j h1 h2 h3).trans (a k j h1 h2 h3)
/-- the class's writes reach nothing of the model -/
def yk_c (ws : aa_W) : Bool := ((List.range 14).all fun k => ws.all fun w => !(Nat.beq w.1 (aa_gc (540 + k))))
theorem zz_fin.bv {X : zz_X} {m : Nat} {s : zz_S} {E : Int32 × aa_G} {φ : Prop} {P : aa_G → Prop} (a : zz_fin X m s (fun v h => v = some (.int E.1) ∧ h = aa_H E.2 ∧ φ)) (b : zz_fin X m s (fun _ h => ∃ g, h = aa_H g ∧ P g)) : P E.2 := by
  obtain ⟨_, _, _, _, _, ⟨-, e, -⟩, ⟨g', e1, q⟩⟩ := zz_fin.both a b
  rw [e] at e1
  rw [ep_H e1]
  exact q
theorem yLI.inv {g : aa_G} (L : yLI g) : aa_inv g := L.1
theorem yLI.phi {g : aa_G} (L : yLI g) : aa_Phi g := L.2.1
theorem yLI.rel {g : aa_G} (L : yLI g) : lr_R g := L.2.2
section YT8
variable {X : yy_X} {h h0 : zz_H} {g : aa_G} {k v q : Nat} {l : List Int32} {b : Nat → Int32}
/-- end: the tape has its first n bytes alone -/
theorem yl_end (L : yLI g) {c n : Nat} (hc : g 454 0 = Int32.ofNat c) (hn : n ≤ c) (hc5 : c ≤ 500) : ∃ g', yLI g' ∧ yKm g g' ∧ g' 454 0 = Int32.ofNat n ∧ (∀ i, g' 455 i = g 455 i) ∧ ∀ {X : yy_X} {h : zz_H}, yG h g → yy_fin X 13 (0, zz_in [.ref 1, .int (Int32.ofInt (n : Int))] (zz_nl 13), [], h) (fun v h' => v = some (.int (Int32.ofInt (n : Int))) ∧ yG h' g' ∧ yx yLow 0 0 h h') := by
  have q := lq_13 (a0 := Int32.ofInt (n : Int)) L.inv L.phi L.rel
  obtain ⟨-, r2, i1, p1, r3, r4, r5, r6⟩ := yLI.go (M := fun g1 => fn_160 g1 (Int32.ofInt (n : Int))) q (fun x hx => by rw [List.mem_singleton.mp hx]; exact trivial) (ko_fw (ko_13 L.inv L.phi) fun _ _ _ r => dn_13 r) (fun g1 i1 p1 => ko_fw (ko_160 i1 p1) fun _ _ _ r => dn_160 r) (by decide +kernel)
  have h14 : ∀ c : Nat, n ≤ c → c ≤ 500 → fn_14 (Int32.ofInt (n : Int)) 0 (Int32.ofNat c) ≠ 0 := fun c h1 h2 => by
    unfold fn_14
    rw [if_neg (fun z => by have z := Int32.lt_iff_toInt_lt.mp z; rw [yi_T (by omega), show (0 : Int32).toInt = 0 from rfl] at z; omega), if_neg (fun z => by have z := Int32.lt_iff_toInt_lt.mp z; rw [yi_n, yi_T (by omega), yi_T (by omega)] at z; omega)]
    decide
  have e1 : fn_13 g (Int32.ofInt (n : Int)) = (Int32.ofInt (n : Int), zz_w g 454 0 (Int32.ofInt (n : Int))) := by
    unfold fn_13
    rw [hc]
    exact if_pos (h14 c hn hc5)
  rw [e1] at r2 r5 r6
  dsimp only at r2 r5 r6
  have e2 : ∀ k j, ¬ (k = 540 ∧ j = 4) → (fn_160 (zz_w g 454 0 (Int32.ofInt (n : Int))) (Int32.ofInt (n : Int))).2 k j = zz_w g 454 0 (Int32.ofInt (n : Int)) k j := fun k j hk => by
    unfold fn_160
    split
    · exact aa_w_ne _ _ hk
    · rfl
  refine ⟨_, r2, fun k j k1 k2 k3 => (e2 k j k3).trans (aa_w_ne _ _ (by omega)), ?_, fun i => ?_, r6⟩
  · rw [r5 454 (by omega), aa_w_at, yi_n]
  · rw [r5 455 (by omega)]
    exact aa_w_ne _ _ (by omega)
/-- feed: twenty bytes more, p of them the text's -/
theorem yl_feed (L : yLI g) {c p : Nat} (hc : c + 20 ≤ 500) (hb : ∀ i, yb_B (b i)) (h0 : ∀ i, p ≤ i → i < 20 → b (c + i) = 0) (t : yTp g b c) : ∃ x g', yLI g' ∧ yKm g g' ∧ yTp g' b (c + 20) ∧ ∀ {X : yy_X} {h : zz_H}, yG h g → yy_fin X 11 (0, zz_in [.ref 1, .int (yb_row (fun q => b (c + q)) p 0), .int (yb_row (fun q => b (c + q)) p 1), .int (yb_row (fun q => b (c + q)) p 2), .int (yb_row (fun q => b (c + q)) p 3), .int (yb_row (fun q => b (c + q)) p 4)] (zz_nl 11), [], h) (fun v h' => v = some (.int x) ∧ yG h' g' ∧ yx yLow 0 0 h h') := by
  have q := lq_11 (a0 := yb_row (fun q => b (c + q)) p 0) (a1 := yb_row (fun q => b (c + q)) p 1) (a2 := yb_row (fun q => b (c + q)) p 2) (a3 := yb_row (fun q => b (c + q)) p 3) (a4 := yb_row (fun q => b (c + q)) p 4) L.inv L.phi L.rel
  obtain ⟨-, r2, i1, p1, r3, r4, r5, r6⟩ := yLI.go (M := fun g1 => fn_158 g1 (yb_row (fun q => b (c + q)) p 0) (yb_row (fun q => b (c + q)) p 1) (yb_row (fun q => b (c + q)) p 2) (yb_row (fun q => b (c + q)) p 3) (yb_row (fun q => b (c + q)) p 4)) q (fun x hx => by
    simp only [List.mem_cons, List.not_mem_nil, or_false] at hx
    rcases hx with rfl | rfl | rfl | rfl | rfl <;> exact trivial) (ko_fw (ko_11 L.inv L.phi) fun _ _ _ r => dn_11 r) (fun g1 i1 p1 => ko_fw (ko_158 i1 p1) fun _ _ _ r => dn_158 r) (by decide +kernel)
  have k1 := zz_fin.bv (ko_fw (ko_11 (a0 := yb_row (fun q => b (c + q)) p 0) (a1 := yb_row (fun q => b (c + q)) p 1) (a2 := yb_row (fun q => b (c + q)) p 2) (a3 := yb_row (fun q => b (c + q)) p 3) (a4 := yb_row (fun q => b (c + q)) p 4) L.inv L.phi) fun _ _ _ r => dn_11 r) (fd_feedc (a0 := yb_row (fun q => b (c + q)) p 0) (a1 := yb_row (fun q => b (c + q)) p 1) (a2 := yb_row (fun q => b (c + q)) p 2) (a3 := yb_row (fun q => b (c + q)) p 3) (a4 := yb_row (fun q => b (c + q)) p 4) (by omega) t.1)
  have s1 := k1.resolve_left fun z => absurd z.1 (by omega)
  obtain ⟨n, hn, t0, t1⟩ := lr_tape L.inv L.rel
  have hnc : n = c := by
    have e := congrArg Int32.toInt (t0.symm.trans t.1)
    rw [yi_n, yi_n, yi_T (by omega), yi_T (by omega)] at e
    omega
  rw [hnc] at t1
  have t2 := (s1.2.2.2 540 4 (by omega) (by omega)).trans t1
  have k2 := zz_fin.bv (ko_fw (ko_158 (a0 := yb_row (fun q => b (c + q)) p 0) (a1 := yb_row (fun q => b (c + q)) p 1) (a2 := yb_row (fun q => b (c + q)) p 2) (a3 := yb_row (fun q => b (c + q)) p 3) (a4 := yb_row (fun q => b (c + q)) p 4) i1 p1) fun _ _ _ r => dn_158 r) (fd_feedm (a0 := yb_row (fun q => b (c + q)) p 0) (a1 := yb_row (fun q => b (c + q)) p 1) (a2 := yb_row (fun q => b (c + q)) p 2) (a3 := yb_row (fun q => b (c + q)) p 3) (a4 := yb_row (fun q => b (c + q)) p 4) (by omega) t2)
  have s2 := k2.resolve_left fun z => absurd z.1 (by omega)
  refine ⟨_, _, r2, fun k j k1 k2 k3 => (s2.2.2.2 k j (by omega) (by omega)).trans (s1.2.2.2 k j (by omega) (by omega)), ?_, r6⟩
  have T := yTp.feed hb h0 t s1.2
  refine ⟨by rw [r5 454 (by omega)]; exact T.1, fun i hi => by rw [r5 455 (by omega)]; exact T.2 i hi⟩
theorem yb_by2 {p : Nat} (h : p < 20) : Int32.ofInt (24 - 8 * ((p : Int) % 4)) = fd_sh (p % 4) := by
  have k : ∀ p : Fin 20, Int32.ofInt (24 - 8 * (((p.1 : Nat) : Int) % 4)) = fd_sh (p.1 % 4) := by decide
  exact k ⟨p, h⟩
theorem yb_B.A {x : Int32} (h : 0 ≤ x.toInt ∧ x.toInt ≤ 127) : yb_B x := by
  rw [show x = Int32.ofNat x.toInt.toNat by rw [yi_n, show ((x.toInt.toNat : Nat) : Int) = x.toInt by omega, yi_of]]
  exact yb_B.ofNat (by omega)
/-- a text's bytes, none behind it -/
def yby (l : List Int32) (i : Nat) : Int32 := l.getD i 0
theorem yby_B (h : yA l) (i : Nat) : yb_B (yby l i) := by
  unfold yby
  rcases Nat.lt_or_ge i l.length with c | c
  · rw [List.getD_eq_getElem?_getD, List.getElem?_eq_getElem c]
    exact yb_B.A (h _ (List.getElem_mem c))
  · rw [List.getD_eq_getElem?_getD, List.getElem?_eq_none c]
    exact yb_B.A ⟨by decide, by decide⟩
theorem yby_0 {i : Nat} (c : l.length ≤ i) : yby l i = 0 := by
  unfold yby
  rw [List.getD_eq_getElem?_getD, List.getElem?_eq_none c]
  rfl
theorem yby_at {i : Nat} {x : Int32} (e : l[i]? = some x) : yby l i = x := by
  unfold yby
  rw [List.getD_eq_getElem?_getD, e]
  rfl
theorem yT.nw (o : yT h k v l) (hB : h.1.1 + 1 < yy_B) : h.1.1 + 1 ≠ k ∧ h.1.1 + 1 ≠ v := by
  refine ⟨fun e => ?_, fun e => ?_⟩
  · rcases o.2.2.2 with ⟨q, -⟩ | ⟨q, -⟩
    · have := q.le
      omega
    · omega
  · rcases o.1 with ⟨q, -⟩ | ⟨q, -⟩
    · have := q.le
      omega
    · omega
/-- the row of five, p bytes of it -/
def yFv (h : zz_H) (q : Nat) (b : Nat → Int32) (c p : Nat) : Prop := yI h q 5 ∧ ∀ j, j < 5 → h.2.2 q j = yb_row (fun z => b (c + z)) p j
theorem yG.o (G : yG h g) : ∃ fs, yO h 1 9 fs := ⟨_, Nat.one_ne_zero, by have e0 : yy_B = 1000000 := rfl; omega, by
  have h1 : (1 : Nat) ≤ 539 := by decide
  have e : h.2.1 1 = if (1 : Nat) ≤ 539 then zz_ly 1 else h.2.1 1 := congrArg (fun q : zz_H => q.2.1 1) G.1
  rw [if_pos h1] at e
  unfold zz_obj zz_lay
  rw [if_pos (show 1 ≤ h.1.1 by have := G.2; omega), e]
  rfl⟩
theorem yx.low {A : Nat → Prop} {a d : Nat} {h h' : zz_H} (x : yx A a d h h') (hA : ∀ q, q ≤ h.1.1 → A q → q ≤ 539) : yx yLow a d h h' := x.wk hA (Nat.le_refl _) (Nat.le_refl _)
theorem yG.f {a d : Nat} {h' : zz_H} (G : yG h g) (x : yx yF a d h h') : yG h' g := G.x x fun _ _ z => z.elim
theorem yl_tpI (hl : l.length ≤ 480) {c : Nat} (hc : c < l.length) (hqk : q ≠ k ∧ q ≠ v) {φ : Option Value → zz_H → Prop} (kk : ∀ h' a4, yx (fun z => z = q) 0 0 h0 h' → yFv h' q (yby l) c (min 20 (l.length - c)) → yy_fin X 275 (75, [some (.ref 1), some (.ref k), some (.int (Int32.ofInt (c : Int))), some (.ref q), a4], [], h') φ) : ∀ (d p : Nat) (h : zz_H), p + d = min 20 (l.length - c) → yT h k v l → h.1.1 < yy_B → yx (fun z => z = q) 0 0 h0 h → yFv h q (yby l) c p → yy_fin X 275 (23, [some (.ref 1), some (.ref k), some (.int (Int32.ofInt (c : Int))), some (.ref q), some (.int (Int32.ofInt (p : Int)))], [], h) φ
  | 0, p, h, hd, ot, hB, x, F => by
    refine yy_fin.steps (n := 2) (s' := (27, [some (.ref 1), some (.ref k), some (.int (Int32.ofInt (c : Int))), some (.ref q), some (.int (Int32.ofInt (p : Int)))], [.int (Int32.ofInt 20), .int (Int32.ofInt (p : Int))], h)) rfl ?_
    refine yy_fin.ic rfl (fun c1 => ?_) (fun c1 => ?_)
    · have c1 := (yi_c_ge (a := (p : Int)) (b := 20) (by omega) (by omega)).mp c1
      rw [show p = min 20 (l.length - c) by omega] at F
      exact kk h _ x F
    · have c1 := mt (yi_c_ge (a := (p : Int)) (b := 20) (by omega) (by omega)).mpr c1
      refine yy_fin.steps (n := 4) (s' := (35, [some (.ref 1), some (.ref k), some (.int (Int32.ofInt (c : Int))), some (.ref q), some (.int (Int32.ofInt (p : Int)))], [.ref k, .int ((Int32.ofInt (c : Int)) + (Int32.ofInt (p : Int)))], h)) rfl ?_
      rw [yi_add (c : Int) (p : Int)]
      refine yy_fin.ct (as := []) rfl (by decide) rfl rfl ot hB (Nat.le_of_ble_eq_true rfl) (Nat.le_of_ble_eq_true rfl) (js_lenZ ot hB) ?_
      rintro v h9 ⟨rfl, e9⟩
      obtain rfl := e9.symm
      refine yy_fin.ic rfl (fun cq => ?_) (fun cq => absurd ((yi_c_ge (a := (c : Int) + (p : Int)) (b := (l.length : Int)) (by omega) (by omega)).mpr (by omega)) cq)
      have cq := (yi_c_ge (a := (c : Int) + (p : Int)) (b := (l.length : Int)) (by omega) (by omega)).mp cq
      rw [show p = min 20 (l.length - c) by omega] at F
      exact kk h _ x F
  | d + 1, p, h, hd, ot, hB, x, F => by
    obtain ⟨y, ey⟩ : ∃ y, l[((c : Int) + (p : Int)).toNat]? = some y := ⟨_, List.getElem?_eq_getElem (by omega)⟩
    have eb : yby l (c + p) = y := yby_at (by rw [← ey]; congr 1)
    obtain ⟨F1, F2⟩ := id F
    refine yy_fin.steps (n := 2) (s' := (27, [some (.ref 1), some (.ref k), some (.int (Int32.ofInt (c : Int))), some (.ref q), some (.int (Int32.ofInt (p : Int)))], [.int (Int32.ofInt 20), .int (Int32.ofInt (p : Int))], h)) rfl ?_
    refine yy_fin.ic rfl (fun cq => absurd ((yi_c_ge (a := (p : Int)) (b := 20) (by omega) (by omega)).mp cq) (by omega)) (fun cq => ?_)
    have cq := mt (yi_c_ge (a := (p : Int)) (b := 20) (by omega) (by omega)).mpr cq
    refine yy_fin.steps (n := 4) (s' := (35, [some (.ref 1), some (.ref k), some (.int (Int32.ofInt (c : Int))), some (.ref q), some (.int (Int32.ofInt (p : Int)))], [.ref k, .int ((Int32.ofInt (c : Int)) + (Int32.ofInt (p : Int)))], h)) rfl ?_
    rw [yi_add (c : Int) (p : Int)]
    refine yy_fin.ct (as := []) rfl (by decide) rfl rfl ot hB (Nat.le_of_ble_eq_true rfl) (Nat.le_of_ble_eq_true rfl) (js_lenZ ot hB) ?_
    rintro v h9 ⟨rfl, e9⟩
    obtain rfl := e9.symm
    refine yy_fin.ic rfl (fun cq => absurd ((yi_c_ge (a := (c : Int) + (p : Int)) (b := (l.length : Int)) (by omega) (by omega)).mp cq) (by omega)) (fun cq => ?_)
    have cq := mt (yi_c_ge (a := (c : Int) + (p : Int)) (b := (l.length : Int)) (by omega) (by omega)).mpr cq
    refine yy_fin.steps (n := 3) (s' := (45, [some (.ref 1), some (.ref k), some (.int (Int32.ofInt (c : Int))), some (.ref q), some (.int (Int32.ofInt (p : Int)))], [.int (Int32.ofInt 4), .int (Int32.ofInt (p : Int)), .ref q], h)) rfl ?_
    refine yy_fin.dv rfl (by decide) ?_
    rw [yi_div (a := (p : Int)) (b := 4) (by omega) (by omega)]
    refine yy_fin.steps (n := 1) (s' := (47, [some (.ref 1), some (.ref k), some (.int (Int32.ofInt (c : Int))), some (.ref q), some (.int (Int32.ofInt (p : Int)))], [.int (Int32.ofInt ((p : Int) / 4)), .ref q, .int (Int32.ofInt ((p : Int) / 4)), .ref q], h)) rfl ?_
    refine yy_fin.li rfl F1 (yi_inb (a := (p : Int) / 4) (by omega) (by omega) (by omega)) ((yi_cl (a := (p : Int) / 4) (by omega)).trans (show ((p : Int) / 4).toNat = p / 4 by omega)) (F2 (p / 4) (by omega)) ?_
    refine yy_fin.steps (n := 4) (s' := (53, [some (.ref 1), some (.ref k), some (.int (Int32.ofInt (c : Int))), some (.ref q), some (.int (Int32.ofInt (p : Int)))], [.int ((Int32.ofInt (c : Int)) + (Int32.ofInt (p : Int))), .ref k, .int (yb_row (fun z => yby l (c + z)) p (p / 4)), .int (Int32.ofInt ((p : Int) / 4)), .ref q], h)) rfl ?_
    rw [yi_add (c : Int) (p : Int)]
    refine yy_fin.ct (as := [.int (Int32.ofInt ((c : Int) + (p : Int)))]) rfl (by decide) rfl rfl ot hB (Nat.le_of_ble_eq_true rfl) (Nat.le_of_ble_eq_true rfl) ((js_charAtI ot hB (i := (c : Int) + (p : Int)) (by omega) ey)) ?_
    rintro v h9 ⟨rfl, e9⟩
    obtain rfl := e9.symm
    refine yy_fin.steps (n := 4) (s' := (63, [some (.ref 1), some (.ref k), some (.int (Int32.ofInt (c : Int))), some (.ref q), some (.int (Int32.ofInt (p : Int)))], [.int (Int32.ofInt 4), .int (Int32.ofInt (p : Int)), .int (Int32.ofInt 8), .int (Int32.ofInt 24), .int y, .int (yb_row (fun z => yby l (c + z)) p (p / 4)), .int (Int32.ofInt ((p : Int) / 4)), .ref q], h)) rfl ?_
    refine yy_fin.rm rfl (by decide) ?_
    rw [yi_rem (a := (p : Int)) (b := 4) (by omega) (by omega)]
    refine yy_fin.steps (n := 4) (s' := (68, [some (.ref 1), some (.ref k), some (.int (Int32.ofInt (c : Int))), some (.ref q), some (.int (Int32.ofInt (p : Int)))], [.int ((yb_row (fun z => yby l (c + z)) p (p / 4)) ||| (y <<< (((Int32.ofInt 24) - ((Int32.ofInt 8) * (Int32.ofInt ((p : Int) % 4)))) &&& 31))), .int (Int32.ofInt ((p : Int) / 4)), .ref q], h)) rfl ?_
    rw [yi_mul 8 ((p : Int) % 4), yi_sub 24 (8 * ((p : Int) % 4)), yb_by2 (show p < 20 by omega), ← eb, ← yb_row.succ (fun z => yby l (c + z)) p]
    refine yy_fin.si rfl F1 (yi_inb (a := (p : Int) / 4) (by omega) (by omega) (by omega)) ((yi_cl (a := (p : Int) / 4) (by omega)).trans (show ((p : Int) / 4).toNat = p / 4 by omega)) fun h2 x2 i2 n2 f2 => ?_
    refine yy_fin.steps (n := 2) (s' := (23, [some (.ref 1), some (.ref k), some (.int (Int32.ofInt (c : Int))), some (.ref q), some (.int ((Int32.ofInt (p : Int)) + (Int32.ofInt 1)))], [], h2)) rfl ?_
    rw [yi_add (p : Int) 1]
    refine yl_tpI hl hc hqk kk d (p + 1) h2 (by omega) (ot.z x2 (fun _ z => hqk.1 z.symm) (fun _ z => hqk.2 z.symm)) (by have := x2.1; omega) ((x.tr x2 (fun _ _ e => e)).le (Nat.le_refl _) (Nat.le_refl _)) ⟨i2, fun j hj => ?_⟩
    by_cases ej : j = p / 4
    · rw [ej]
      exact n2
    · rw [f2 j ej, yb_row.other _ ej]
      exact F2 j hj
theorem yl_tpO {g0 : aa_G} (hA : yA l) (hl : l.length ≤ 480) (hk : 539 < k ∧ 539 < v) : ∀ (d c : Nat) (h : zz_H) (g : aa_G) (a3 a4 : Option Value), l.length ≤ c + 20 * d → c + 20 * d < l.length + 20 → yT h k v l → h.1.1 + 20 * d + 10 < yy_B → zz_Zr h → yLI g → yKm g0 g → yG h g → yTp g (yby l) c → yx yLow c c h0 h → yy_fin X 275 (8, [some (.ref 1), some (.ref k), some (.int (Int32.ofInt (c : Int))), a3, a4], [], h) (fun r h' => r = none ∧ ∃ g', yLI g' ∧ yKm g0 g' ∧ yG h' g' ∧ yTp g' (yby l) l.length ∧ yx yLow (l.length + 20) (l.length + 20) h0 h')
  | 0, c, h, g, a3, a4, h1, h2, ot, hB, hz, L, K, G, T, x => by
    obtain ⟨fs, oo⟩ := G.o
    obtain ⟨g3, L3, K3, e3, f3, r3⟩ := yl_end L (n := l.length) T.1 (by omega) (by omega)
    refine yy_fin.steps (n := 2) (s' := (10, [some (.ref 1), some (.ref k), some (.int (Int32.ofInt (c : Int))), a3, a4], [.ref k, .int (Int32.ofInt (c : Int))], h)) rfl ?_
    refine yy_fin.ct (as := []) rfl (by decide) rfl rfl ot (by omega) (Nat.le_of_ble_eq_true rfl) (Nat.le_of_ble_eq_true rfl) (js_lenZ ot (by omega)) ?_
    rintro v h9 ⟨rfl, e9⟩
    obtain rfl := e9.symm
    refine yy_fin.ic rfl (fun cq => ?_) (fun cq => absurd ((yi_c_ge (a := (c : Int)) (b := (l.length : Int)) (by omega) (by omega)).mpr (by omega)) cq)
    have cq := (yi_c_ge (a := (c : Int)) (b := (l.length : Int)) (by omega) (by omega)).mp cq
    refine yy_fin.steps (n := 2) (s' := (103, [some (.ref 1), some (.ref k), some (.int (Int32.ofInt (c : Int))), a3, a4], [.ref k, .ref 1], h)) rfl ?_
    refine yy_fin.ct (as := []) rfl (by decide) rfl rfl ot (by omega) (Nat.le_of_ble_eq_true rfl) (Nat.le_of_ble_eq_true rfl) (js_lenZ ot (by omega)) ?_
    rintro v h9 ⟨rfl, e9⟩
    obtain rfl := e9.symm
    refine yy_fin.cv (as := [.int (Int32.ofInt (l.length : Int))]) rfl rfl rfl oo (Nat.le_of_ble_eq_true rfl) (Nat.le_of_ble_eq_true rfl) ((r3 G)) ?_
    rintro v h4 ⟨rfl, G4, x4⟩
    refine yy_fin.steps (n := 1) (s' := (110, [some (.ref 1), some (.ref k), some (.int (Int32.ofInt (c : Int))), a3, a4], [], h4)) rfl ?_
    exact yy_fin.at (n := 1) rfl ⟨rfl, g3, L3, K.tr K3, G4, ⟨e3, fun i hi => (f3 i).trans (T.2 i (by omega))⟩, (x.tr x4 (fun _ _ e => e)).le (by omega) (by omega)⟩
  | d + 1, c, h, g, a3, a4, h1, h2, ot, hB, hz, L, K, G, T, x => by
    obtain ⟨fs, oo⟩ := G.o
    refine yy_fin.steps (n := 2) (s' := (10, [some (.ref 1), some (.ref k), some (.int (Int32.ofInt (c : Int))), a3, a4], [.ref k, .int (Int32.ofInt (c : Int))], h)) rfl ?_
    refine yy_fin.ct (as := []) rfl (by decide) rfl rfl ot (by omega) (Nat.le_of_ble_eq_true rfl) (Nat.le_of_ble_eq_true rfl) (js_lenZ ot (by omega)) ?_
    rintro v h9 ⟨rfl, e9⟩
    obtain rfl := e9.symm
    refine yy_fin.ic rfl (fun cq => absurd ((yi_c_ge (a := (c : Int)) (b := (l.length : Int)) (by omega) (by omega)).mp cq) (by omega)) (fun cq => ?_)
    have cq := mt (yi_c_ge (a := (c : Int)) (b := (l.length : Int)) (by omega) (by omega)).mpr cq
    refine yy_fin.steps (n := 1) (s' := (17, [some (.ref 1), some (.ref k), some (.int (Int32.ofInt (c : Int))), a3, a4], [.int (Int32.ofInt 5)], h)) rfl ?_
    refine yy_fin.ni (n := 5) rfl (by decide) (by decide) (by decide) (by omega) hz fun h3 x3 e3 i3 z3 => ?_
    have hq := ot.nw (show h.1.1 + 1 < yy_B by omega)
    refine yy_fin.steps (n := 3) (s' := (23, [some (.ref 1), some (.ref k), some (.int (Int32.ofInt (c : Int))), some (.ref (h.1.1 + 1)), some (.int (Int32.ofInt 0))], [], h3)) rfl ?_
    have F3 : yFv h3 (h.1.1 + 1) (yby l) c 0 := ⟨i3, fun j hj => (z3 j).trans (yb_row.zero _ j).symm⟩
    refine yl_tpI (k := k) (v := v) (h0 := h3) hl (by omega) hq (fun h4 a4 x4 F4 => ?_) (min 20 (l.length - c)) 0 h3 (by omega) (ot.x x3) (by omega) yx.rf F3
    have y4 : yx yF 1 5 h h4 := (x3.tr x4 (fun z hz e => by omega)).le (Nat.le_refl _) (Nat.le_refl _)
    have hB4 := y4.1
    have G4 := G.f y4
    obtain ⟨fs4, o4⟩ := G4.o
    obtain ⟨x5, g5, L5, K5, T5, r5⟩ := yl_feed L (p := min 20 (l.length - c)) (by omega) (yby_B hA) (fun i h1 h2 => yby_0 (by omega)) T
    refine yy_fin.steps (n := 3) (s' := (78, [some (.ref 1), some (.ref k), some (.int (Int32.ofInt (c : Int))), some (.ref (h.1.1 + 1)), a4], [.int (Int32.ofInt 0), .ref (h.1.1 + 1), .ref 1], h4)) rfl ?_
    refine yy_fin.li (j := 0) rfl F4.1 (by decide) (by decide) (F4.2 0 (by omega)) ?_
    refine yy_fin.steps (n := 2) (s' := (81, [some (.ref 1), some (.ref k), some (.int (Int32.ofInt (c : Int))), some (.ref (h.1.1 + 1)), a4], [.int (Int32.ofInt 1), .ref (h.1.1 + 1), .int (yb_row (fun z => yby l (c + z)) (min 20 (l.length - c)) 0), .ref 1], h4)) rfl ?_
    refine yy_fin.li (j := 1) rfl F4.1 (by decide) (by decide) (F4.2 1 (by omega)) ?_
    refine yy_fin.steps (n := 2) (s' := (84, [some (.ref 1), some (.ref k), some (.int (Int32.ofInt (c : Int))), some (.ref (h.1.1 + 1)), a4], [.int (Int32.ofInt 2), .ref (h.1.1 + 1), .int (yb_row (fun z => yby l (c + z)) (min 20 (l.length - c)) 1), .int (yb_row (fun z => yby l (c + z)) (min 20 (l.length - c)) 0), .ref 1], h4)) rfl ?_
    refine yy_fin.li (j := 2) rfl F4.1 (by decide) (by decide) (F4.2 2 (by omega)) ?_
    refine yy_fin.steps (n := 2) (s' := (87, [some (.ref 1), some (.ref k), some (.int (Int32.ofInt (c : Int))), some (.ref (h.1.1 + 1)), a4], [.int (Int32.ofInt 3), .ref (h.1.1 + 1), .int (yb_row (fun z => yby l (c + z)) (min 20 (l.length - c)) 2), .int (yb_row (fun z => yby l (c + z)) (min 20 (l.length - c)) 1), .int (yb_row (fun z => yby l (c + z)) (min 20 (l.length - c)) 0), .ref 1], h4)) rfl ?_
    refine yy_fin.li (j := 3) rfl F4.1 (by decide) (by decide) (F4.2 3 (by omega)) ?_
    refine yy_fin.steps (n := 2) (s' := (90, [some (.ref 1), some (.ref k), some (.int (Int32.ofInt (c : Int))), some (.ref (h.1.1 + 1)), a4], [.int (Int32.ofInt 4), .ref (h.1.1 + 1), .int (yb_row (fun z => yby l (c + z)) (min 20 (l.length - c)) 3), .int (yb_row (fun z => yby l (c + z)) (min 20 (l.length - c)) 2), .int (yb_row (fun z => yby l (c + z)) (min 20 (l.length - c)) 1), .int (yb_row (fun z => yby l (c + z)) (min 20 (l.length - c)) 0), .ref 1], h4)) rfl ?_
    refine yy_fin.li (j := 4) rfl F4.1 (by decide) (by decide) (F4.2 4 (by omega)) ?_
    refine yy_fin.cv (as := [.int (yb_row (fun z => yby l (c + z)) (min 20 (l.length - c)) 0), .int (yb_row (fun z => yby l (c + z)) (min 20 (l.length - c)) 1), .int (yb_row (fun z => yby l (c + z)) (min 20 (l.length - c)) 2), .int (yb_row (fun z => yby l (c + z)) (min 20 (l.length - c)) 3), .int (yb_row (fun z => yby l (c + z)) (min 20 (l.length - c)) 4)]) rfl rfl rfl o4 (Nat.le_of_ble_eq_true rfl) (Nat.le_of_ble_eq_true rfl) ((r5 G4)) ?_
    rintro v h6 ⟨rfl, G6, x6⟩
    refine yy_fin.steps (n := 3) (s' := (8, [some (.ref 1), some (.ref k), some (.int ((Int32.ofInt (c : Int)) + (Int32.ofInt 20))), some (.ref (h.1.1 + 1)), a4], [], h6)) rfl ?_
    rw [yi_add (c : Int) 20]
    have IH := yl_tpO (g0 := g0) hA hl hk d (c + 20) h6 g5 (some (.ref (h.1.1 + 1))) a4 (by omega) (by omega) ((ot.x y4).z x6 (fun _ z => by have z : k ≤ 539 := z; omega) (fun _ z => by have z : v ≤ 539 := z; omega)) (by have := x6.1; omega) (x6.zr (y4.zr hz)) L5 (K.tr K5) G6 T5 (((x.tr (y4.low fun _ _ e => e.elim) (fun _ _ e => e)).tr x6 (fun _ _ e => e)).le (by omega) (by omega))
    rw [show ((c + 20 : Nat) : Int) = (c : Int) + 20 by omega] at IH
    exact IH
theorem yl_tape (ot : yT h k v l) (hl : l.length ≤ 480) (hk : 539 < k ∧ 539 < v) (hB : h.1.1 + l.length + 40 < yy_B) (hz : zz_Zr h) (L : yLI g) (G : yG h g) : yy_fin X 275 (0, zz_in [.ref 1, .ref k] (zz_nl 275), [], h) (fun r h' => r = none ∧ ∃ g', yLI g' ∧ yKm g g' ∧ yG h' g' ∧ yTp g' (yby l) l.length ∧ yx yLow (l.length + 20) (l.length + 20) h h') := by
  obtain ⟨fs, oo⟩ := G.o
  obtain ⟨n, hn, t0, t1⟩ := lr_tape L.inv L.rel
  obtain ⟨g3, L3, K3, e3, f3, r3⟩ := yl_end L (n := 0) t0 (Nat.zero_le _) hn
  refine yy_fin.steps (n := 2) (s' := (2, [some (.ref 1), some (.ref k), none, none, none], [.int (Int32.ofInt 0), .ref 1], h)) rfl ?_
  refine yy_fin.cv (as := [.int (Int32.ofInt 0)]) rfl rfl rfl oo (Nat.le_of_ble_eq_true rfl) (Nat.le_of_ble_eq_true rfl) ((r3 G)) ?_
  rintro v h4 ⟨rfl, G4, x4⟩
  refine yy_fin.steps (n := 3) (s' := (8, [some (.ref 1), some (.ref k), some (.int (Int32.ofInt 0)), none, none], [], h4)) rfl ?_
  exact yl_tpO (g0 := g) ot.2.1 hl hk ((l.length + 19) / 20) 0 h4 g3 _ _ (by omega) (by omega) (ot.z x4 (fun _ z => by have z : k ≤ 539 := z; omega) (fun _ z => by have z : v ≤ 539 := z; omega)) (by have := x4.1; omega) (x4.zr hz) L3 K3 G4 ⟨e3, fun i hi => absurd hi (Nat.not_lt_zero i)⟩ x4
end YT8
