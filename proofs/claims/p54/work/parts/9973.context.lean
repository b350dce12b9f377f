/-! ASKING: the class, the law's world w, the model in mind; what a question leaves as it was -/
theorem yWo.split {own : yOwn} {h : zz_H} {w : Nat} {S : yWd} (W : yWo own h w S) : ∃ o p b, yWr own h w o p b S.2.1 ∧ yOf own h w o S.1 ∧ yTs own h w p S.1 ∧ yBs own h b S.2.2 := by
  obtain ⟨ow, o, p, b, tx, o1, o2, o3, o4, o5⟩ := W
  exact ⟨o, p, b, ⟨ow, tx, o1, o2⟩, o3, o4, o5⟩
theorem yWo.join {own : yOwn} {h : zz_H} {w o p b : Nat} {S : yWd} (r : yWr own h w o p b S.2.1) (f : yOf own h w o S.1) (t : yTs own h w p S.1) (bb : yBs own h b S.2.2) : yWo own h w S := by
  obtain ⟨ow, tx, o1, o2⟩ := r
  exact ⟨ow, o, p, b, tx, o1, o2, f, t, bb⟩
/-- where w's own fields alone change -/
theorem yWo.xw {own : yOwn} {h h' : zz_H} {w o p b a d : Nat} {S : yWd} (hw0 : w ≠ 0) (r : yWr own h w o p b S.2.1) (f : yOf own h w o S.1) (t : yTs own h w p S.1) (bb : yBs own h b S.2.2) (x : yx (fun q => q = w) a d h h') (r' : yWr own h' w o p b S.2.1) : yWo own h' w S := by
  obtain ⟨ow, tx, o1, o2⟩ := r
  refine yWo.join r' ⟨f.1, f.2.x x fun e => ?_⟩ ⟨t.1, ?_⟩ (bb.x x fun k _ e => by rw [e, ow]; exact hw0)
  · have e : o = w := e
    have f2 := f.2
    rw [e] at f2
    exact absurd (zz_obj_ok o1.2.2).2 (by rw [(zz_arr_ok f2.1.2.2).2]; exact fun z => nomatch z)
  · obtain ⟨t1, rs, t2, t3, t4⟩ := t
    refine ⟨rs, t2.x x (fun e => by have e : p = w := e; rw [e, ow] at t1; exact hw0 t1), t3, fun i T ei => ?_⟩
    obtain ⟨q, q1, q2, q3⟩ := t4 i T ei
    exact ⟨q, q1, q2, q3.xo o1 x⟩
/-- what asking may write -/
def yAk (w q : Nat) : Prop := q ≤ 539 ∨ q = w
/-- a row of the law's that no question writes -/
def yRw (h : zz_H) (w k : Nat) (l : List Int32) : Prop := (539 < k ∧ k ≠ w) ∧ yP h k l
theorem yRw.k {h h' : zz_H} {w k a d : Nat} {l : List Int32} (o : yRw h w k l) (x : yx (yAk w) a d h h') : yRw h' w k l := ⟨o.1, o.2.x x fun z => z.elim (fun z => by have := o.1.1; omega) o.1.2⟩
theorem yx.ak {h h' : zz_H} {w a d : Nat} (x : yx yF a d h h') : yx (yAk w) a d h h' := x.wk (fun _ _ z => z.elim) (Nat.le_refl _) (Nat.le_refl _)
theorem yx.akw {h h' : zz_H} {w a d : Nat} (x : yx (fun q => q = w) a d h h') : yx (yAk w) a d h h' := x.wk (fun _ _ z => Or.inr z) (Nat.le_refl _) (Nat.le_refl _)
theorem yx.akl {h h' : zz_H} {w a d : Nat} (x : yx yLow a d h h') : yx (yAk w) a d h h' := x.wk (fun _ _ z => Or.inl z) (Nat.le_refl _) (Nat.le_refl _)
/-- what questions leave of the model -/
def yKq (g g' : aa_G) : Prop := (∀ k, k = 541 ∨ k = 542 ∨ k = 543 → g' k = g k) ∧ ∀ j, j = 1 ∨ j = 4 ∨ j = 6 ∨ j = 35 → g' 540 j = g 540 j
theorem yKq.rf {g : aa_G} : yKq g g := ⟨fun _ _ => rfl, fun _ _ => rfl⟩
theorem yKq.tr {g g1 g2 : aa_G} (a : yKq g g1) (b : yKq g1 g2) : yKq g g2 := ⟨fun k hk => (b.1 k hk).trans (a.1 k hk), fun j hj => (b.2 j hj).trans (a.2 j hj)⟩
def yk_m (ws : aa_W) : Bool := ([541, 542, 543].all fun k => ws.all fun w => !(Nat.beq w.1 (aa_gc k))) && [1, 4, 6, 35].all fun (j : Nat) => ws.all fun w => !(Nat.beq w.1 (aa_gc 540)) || !(decide (w.2.1 ≤ (j : Int)) && decide ((j : Int) ≤ w.2.2))
theorem yk_mK {ws : aa_W} (h : yk_m ws = true) {g g' : aa_G} (hf : aa_fr ws g g') : yKq g g' := by
  obtain ⟨h1, h2⟩ := (Bool.and_eq_true _ _ ▸ h : _ ∧ _)
  refine ⟨fun k hk => funext fun j => ko_ne hf (List.all_eq_true.mp h1 k (by rcases hk with rfl | rfl | rfl <;> decide)) j, fun j hj => ko_at hf (List.all_eq_true.mp h2 j (by rcases hj with rfl | rfl | rfl | rfl <;> decide))⟩
/-- bounds of what is asked -/
def yWb (a : Nat → Int32) : Prop := (0 ≤ (a 0).toInt ∧ (a 0).toInt ≤ 4) ∧ (1 ≤ (a 1).toInt ∧ (a 1).toInt ≤ 3600) ∧ ∀ t : Nat, (t : Int) < (a 0).toInt → (-43200 ≤ (a (50 * t + 3)).toInt ∧ (a (50 * t + 3)).toInt ≤ 43200) ∧ tw_ok (av_t a t) (av_c a t)
/-- the same throughout -/
def yCf (own : yOwn) (w : Nat) (lst : List (yBell × List fl_T)) (g0 : aa_G) : Prop := 539 < w ∧ (∀ k, k ≤ 539 → own k ≠ 0 ∧ own k ≠ w) ∧ yBr (g0 541) lst ∧ yWb (g0 541)
def yCx (own : yOwn) (w : Nat) (lst : List (yBell × List fl_T)) (g0 : aa_G) (h : zz_H) (g : aa_G) : Prop := yLI g ∧ yG h g ∧ yKq g0 g ∧ yWo own h w (yTs_of (g0 541), (g0 541 1).toInt, lst.map Prod.fst) ∧ zz_Zr h
section YC
variable {own : yOwn} {w t k : Nat} {lst : List (yBell × List fl_T)} {g0 g : aa_G} {h h' : zz_H} {a d : Nat} {b l : Int}
theorem yCx.f (C : yCx own w lst g0 h g) (x : yx yF a d h h') : yCx own w lst g0 h' g := ⟨C.1, C.2.1.f x, C.2.2.1, C.2.2.2.1.f x, x.zr C.2.2.2.2⟩
theorem yCx.wd (C : yCx own w lst g0 h g) : wd_g g := (lr_wd C.1.1 C.1.2.1 C.1.2.2).1
theorem yCx.e (C : yCx own w lst g0 h g) : g 541 = g0 541 := C.2.2.1.1 541 (Or.inl rfl)
theorem yWb_of (W : wd_g g) : yWb (g 541) := ⟨W.1, W.2.1, fun t ht => ⟨(W.2.2.2.2.2 t ht).2.2.1, (W.2.2.2.2.2 t ht).2.2.2.2.1⟩⟩
theorem yCx.o (C : yCx own w lst g0 h g) : ∃ fs, yO h 1 9 fs := C.2.1.o
theorem yCx.hb {t : Nat} (F : yCf own w lst g0) (ht : (t : Int) < (g0 541 0).toInt) {d f : Int} (e : hv_t (g0 541) t d f = some (b, l)) : 0 ≤ b ∧ b ≤ 86399 ∧ 1 ≤ l ∧ (f ≠ 1 → b + l ≤ 86399) ∧ (f = 1 → 1 ≤ b ∧ 86400 ≤ b + l ∧ b + l ≤ 172798) := tw_H_b (F.2.2.2.2.2 t ht).2 e
/-- a question to the class, and its like to the model in mind -/
theorem yCx.ask {mc mm : Nat} {as : List Value} {E : Int32 × aa_G} {M : aa_G → Int32 × aa_G} {wc wm : aa_W} (F : yCf own w lst g0) (C : yCx own w lst g0 h g) (q : lq_ok true mc mm as g) (ha : ∀ x ∈ as, yj_v x) (c : yMt mc (.ref 1 :: as) g E wc) (m : ∀ g1, aa_inv g1 → aa_Phi g1 → yMt mm (.ref 540 :: as) g1 (M g1) wm) (hc : lk_c wc = true) (hm : lk_m wm = true) (hk : yk_m wm = true) (ha2 : lk_a wc = true) :
    (M E.2).1 = E.1 ∧ E.2 541 = g0 541 ∧ wd_g E.2 ∧ ∀ {X : yy_X}, yy_fin X mc (0, zz_in (.ref 1 :: as) (zz_nl mc), [], h) (fun v h' => v = some (.int E.1) ∧ yCx own w lst g0 h' (M E.2).2 ∧ yx (yAk w) 0 0 h h') := by
  obtain ⟨r1, r2, i1, p1, f1, f2, r5, r6⟩ := yLI.go q ha c m hm
  have q1 := (lk_mid hc C.1.1 C.1.2.2 f1).1
  have q2 : rr_g (qb_s lr_B) E.2 E.2 := lk_ar (qb_cp lr_cp) ha2 i1 q1 f1
  have e1 : ∀ k, k ∈ [540, 541, 542, 543, 546, 553] → E.2 k = g k := fun k hk => funext fun j => lk_ce hc f1 hk j
  have K : yKq g E.2 := ⟨fun k hk => e1 k (by rcases hk with rfl | rfl | rfl <;> decide), fun j _ => by rw [e1 540 (by decide)]⟩
  refine ⟨r1 rfl, (e1 541 (by decide)).trans C.e, wd_mk i1 p1 q2.1.1 q2.2.2.2.2.2.2.2.1, fun {X} => (r6 C.2.1).mono fun v h' z => ?_⟩
  obtain ⟨rfl, G', x⟩ := z
  exact ⟨rfl, ⟨r2, G', (C.2.2.1.tr K).tr (yk_mK hk f2), C.2.2.2.1.x x fun k _ z => F.2.1 k z, x.zr C.2.2.2.2⟩, x.akl⟩
end YC
section YCW
variable {X : yy_X} {own : yOwn} {w t : Nat} {lst : List (yBell × List fl_T)} {g0 g : aa_G} {h h' : zz_H} {b l : Int}
theorem yCx.tb (C : yCx own w lst g0 h g) (F : yCf own w lst g0) (ht : (t : Int) < (g0 541 0).toInt) : yTb own h w t (av_t (g0 541) t) (av_c (g0 541) t) := C.2.2.2.1.tb (T := yT_of (g0 541) t) (by have := F.2.2.2.1; show (yTs_of (g0 541)).length ≤ 4; rw [yTs_len]; omega) (yTs_at (by omega))
theorem yCx.wp (C : yCx own w lst g0 h g) : yWp h w (g0 541 1).toInt := C.2.2.2.1.wp
/-- a row that W gives: nobody writes it -/
theorem yRw.of {k : Nat} (F : yCf own w lst g0) (C : yCx own w lst g0 h g) (hk : own k = 0 ∨ h.1.1 < k) {r : List Int32} (o : yP h' k r) : yRw h' w k r := by
  refine ⟨⟨?_, ?_⟩, o⟩
  · rcases hk with z | z
    · exact Nat.not_le.mp fun q => (F.2.1 k q).1 z
    · have := C.2.1.2
      omega
  · intro e
    obtain ⟨ow, o, p, b, tx, o1, -⟩ := C.2.2.2.1
    have := o1.le
    rcases hk with z | z
    · rw [e, ow] at z
      have := F.1
      omega
    · omega
theorem yc_half (F : yCf own w lst g0) (C : yCx own w lst g0 h g) (ht : (t : Int) < (g0 541 0).toInt) {day half : Int} (hd : -1000000 ≤ day ∧ day ≤ 1000000) (hf : half = 0 ∨ half = 1) (hB : h.1.1 + 3 < yy_B) : yy_fin X 280 (0, zz_in [.ref w, .int (Int32.ofInt (t : Int)), .int (Int32.ofInt day), .int (Int32.ofInt half)] (zz_nl 280), [], h) (fun r h' => yCx own w lst g0 h' g ∧ yx (yAk w) 3 6 h h' ∧ match hv_t (g0 541) t day half with | none => r = some .null | some (b, l) => ∃ k, r = some (.ref k) ∧ yRw h' w k [Int32.ofInt b, Int32.ofInt (b + l)]) := by
  refine (yw_half (C.tb F ht) (F.2.2.2.2.2 t ht).2 hd hf hB C.2.2.2.2).mono fun r h' z => ⟨C.f z.1, z.1.ak, ?_⟩
  have z2 := z.2
  unfold hv_t
  cases e : tw_H (av_t (g0 541) t) (av_c (g0 541) t) day half with
  | none =>
    rw [e] at z2
    exact z2
  | some p =>
    obtain ⟨b, l⟩ := p
    rw [e] at z2
    obtain ⟨k, r1, r2, r3⟩ := z2
    exact ⟨k, r1, yRw.of F C r2 r3⟩
theorem yc_table (F : yCf own w lst g0) (C : yCx own w lst g0 h g) (ht : (t : Int) < (g0 541 0).toInt) {day : Int} (hd : 0 ≤ day ∧ day ≤ 100000) (hB : h.1.1 + 1 < yy_B) : yy_fin X 281 (0, zz_in [.ref w, .int (Int32.ofInt (t : Int)), .int (Int32.ofInt day)] (zz_nl 281), [], h) (fun r h' => yCx own w lst g0 h' g ∧ yx (yAk w) 1 2 h h' ∧ ∃ k, r = some (.ref k) ∧ yRw h' w k (if pv_t (g0 541) t (day % 360) = -1 then [Int32.ofInt (tw_D (av_t (g0 541) t) (day % 360) (av_c (g0 541) t) 2), Int32.ofInt (tw_D (av_t (g0 541) t) (day % 360) (av_c (g0 541) t) 3)] else [Int32.ofInt (pv_t (g0 541) t (day % 360))])) := by
  refine (yw_table (C.tb F ht) (F.2.2.2.2.2 t ht).2 hd hB C.2.2.2.2).mono fun r h' z => ?_
  obtain ⟨k, r1, x, r2, r3⟩ := z
  exact ⟨C.f x, x.ak, k, r1, yRw.of F C r2 r3⟩
theorem yc_bel (F : yCf own w lst g0) (C : yCx own w lst g0 h g) (ht : (t : Int) < (g0 541 0).toInt) {day s : Int} (hd : 0 ≤ day ∧ day ≤ 35999) (hs : 0 ≤ s ∧ s ≤ 86399) (hB : h.1.1 + 13 < yy_B) : yy_fin X 284 (0, zz_in [.ref w, .int (Int32.ofInt (t : Int)), .int (Int32.ofInt day), .int (Int32.ofInt s)] (zz_nl 284), [], h) (fun r h' => yCx own w lst g0 h' g ∧ yx (yAk w) 13 27 h h' ∧ match wt_T (g0 541) t day s with | none => r = some .null | some (d, f, b, _) => ∃ k, r = some (.ref k) ∧ yRw h' w k [Int32.ofInt d, Int32.ofInt f, Int32.ofInt (s + 86400 * (day - d) - b)]) := by
  refine (yw_bel (C.tb F ht) (F.2.2.2.2.2 t ht).2 hd hs hB C.2.2.2.2).mono fun r h' z => ⟨C.f z.1, z.1.ak, ?_⟩
  have z2 := z.2
  have ew : wt_T (g0 541) t day s = wt_P (av_t (g0 541) t) (av_c (g0 541) t) day s := rfl
  rw [ew]
  cases e : wt_P (av_t (g0 541) t) (av_c (g0 541) t) day s with
  | none =>
    rw [e] at z2
    exact z2
  | some p =>
    obtain ⟨d, f, b, l⟩ := p
    rw [e] at z2
    obtain ⟨k, r1, r2, r3⟩ := z2
    exact ⟨k, r1, yRw.of F C (Or.inr r2) r3⟩
theorem yc_place {k : Nat} (F : yCf own w lst g0) (C : yCx own w lst g0 h g) (o : yRw h w k [Int32.ofInt b, Int32.ofInt (b + l)]) (hb : 0 ≤ b ∧ b ≤ 1000000) (hl : 1 ≤ l ∧ l ≤ 172798) {s : Int} (hs : b ≤ s ∧ s ≤ b + l) : yy_fin X 285 (0, zz_in [.ref w, .ref k, .int (Int32.ofInt s)] (zz_nl 285), [], h) (fun r h' => r = some (.int (Int32.ofInt ((s - b) * 12 * (g0 541 1).toInt / l))) ∧ h' = h) := yw_place C.wp F.2.2.2.2.1 o.2 hb hl hs
theorem yc_back {k : Nat} (F : yCf own w lst g0) (C : yCx own w lst g0 h g) (o : yRw h w k [Int32.ofInt b, Int32.ofInt (b + l)]) (hb : 0 ≤ b ∧ b ≤ 1000000) (hl : 1 ≤ l ∧ l ≤ 172798) {n : Int} (hn : 0 ≤ n ∧ n ≤ 100000) : yy_fin X 286 (0, zz_in [.ref w, .ref k, .int (Int32.ofInt n)] (zz_nl 286), [], h) (fun r h' => r = some (.int (Int32.ofInt (b + yk (g0 541 1).toInt n l))) ∧ h' = h) := yw_back C.wp F.2.2.2.2.1 o.2 hb hl hn
theorem yc_hour {k : Nat} (F : yCf own w lst g0) (C : yCx own w lst g0 h g) (o : yRw h w k [Int32.ofInt b, Int32.ofInt (b + l)]) (hb : 0 ≤ b ∧ b ≤ 1000000) (hl : 1 ≤ l ∧ l ≤ 172798) {hr : Int} (hh : 0 ≤ hr ∧ hr ≤ 12) : yy_fin X 287 (0, zz_in [.ref w, .ref k, .int (Int32.ofInt hr)] (zz_nl 287), [], h) (fun r h' => r = some (.int (Int32.ofInt (b + yk (g0 541 1).toInt (hr * (g0 541 1).toInt) l))) ∧ h' = h) := yw_hour C.wp F.2.2.2.2.1 o.2 hb hl hh
theorem yc_light (F : yCf own w lst g0) (C : yCx own w lst g0 h g) (ht : (t : Int) < (g0 541 0).toInt) {day : Int} (hd : -1000000 ≤ day ∧ day ≤ 1000000) (hB : h.1.1 + 3 < yy_B) : yy_fin X 299 (0, zz_in [.ref w, .int (Int32.ofInt (t : Int)), .int (Int32.ofInt day)] (zz_nl 299), [], h) (fun r h' => r = some (.int (Int32.ofInt (match hv_t (g0 541) t day 0 with | none => -1 | some (_, l) => l))) ∧ yCx own w lst g0 h' g ∧ yx (yAk w) 3 6 h h') :=
  (yw_light (C.tb F ht) (F.2.2.2.2.2 t ht).2 hd hB C.2.2.2.2).mono fun _ _ z => ⟨z.2, C.f z.1, z.1.ak⟩
theorem yCx.os (F : yCf own w lst g0) (C : yCx own w lst g0 h g) : ∃ o fs, yO h w 12 fs ∧ fs[0]? = some (some (some o)) ∧ yP h o ((yTs_of (g0 541)).map fun T => Int32.ofInt T.1) ∧ ((yTs_of (g0 541)).map fun T => Int32.ofInt T.1).length ≤ 4 ∧ ∀ t : Nat, (t : Int) < (g0 541 0).toInt → ((yTs_of (g0 541)).map fun T => Int32.ofInt T.1)[t]? = some (Int32.ofInt (g0 541 (50 * t + 3)).toInt) := by
  obtain ⟨-, o, p, b, tx, o1, -, o3, -⟩ := C.2.2.2.1
  refine ⟨o, _, o1, rfl, o3.2, by rw [List.length_map, yTs_len]; have := F.2.2.2.1; omega, fun t ht => ?_⟩
  rw [List.getElem?_map, yTs_at (by omega)]
  rfl
theorem yc_over {t2 : Nat} (F : yCf own w lst g0) (C : yCx own w lst g0 h g) (ht : (t : Int) < (g0 541 0).toInt) (ht2 : (t2 : Int) < (g0 541 0).toInt) {day s : Int} (hd : 0 ≤ day ∧ day ≤ 100000) (hs : 0 ≤ s ∧ s ≤ 1000000) (hB : h.1.1 + 1 < yy_B) : yy_fin X 297 (0, zz_in [.ref w, .int (Int32.ofInt (t : Int)), .int (Int32.ofInt day), .long (Int64.ofInt s), .int (Int32.ofInt (t2 : Int))] (zz_nl 297), [], h) (fun r h' => yCx own w lst g0 h' g ∧ yx (yAk w) 1 2 h h' ∧ ∃ k, r = some (.ref k) ∧ yRw h' w k [Int32.ofInt ((day * 86400 + s - (g0 541 (50 * t + 3)).toInt + (g0 541 (50 * t2 + 3)).toInt + 86400000) / 86400 - 1000), Int32.ofInt ((day * 86400 + s - (g0 541 (50 * t + 3)).toInt + (g0 541 (50 * t2 + 3)).toInt + 86400000) % 86400)]) := by
  obtain ⟨o, fs, o1, o2, o3, o4, o5⟩ := C.os F
  have b1 := (F.2.2.2.2.2 t ht).1
  have b2 := (F.2.2.2.2.2 t2 ht2).1
  refine (yw_over o1 o2 o3 o4 (o5 t ht) (o5 t2 ht2) b1 b2 hd hs hB C.2.2.2.2).mono fun r h' z => ?_
  obtain ⟨k, r1, x, r2, r3⟩ := z
  exact ⟨C.f x, x.ak, k, r1, yRw.of F C (Or.inr r2) r3⟩
/-- the rings of a day, in order -/
def yRq (a : Nat → Int32) (t : Nat) (lst : List (yBell × List fl_T)) (d : Int) : List (Int × Int) := y_srt (y_gat (a 1).toInt (av_t a t) (av_c a t) (t : Int) d 0 lst)
def yRr (h : zz_H) (w rr : Nat) (L : List (Int × Int)) : Prop := (539 < rr ∧ rr ≠ w) ∧ ∃ rs, yR h rr 5 rs ∧ rs.length = L.length ∧ ∀ (i : Nat) (z : Int × Int), L[i]? = some z → ∃ k, rs[i]? = some (some k) ∧ yRw h w k [Int32.ofInt z.1, Int32.ofInt z.2]
theorem yRr.k {rr a d : Nat} {L : List (Int × Int)} (o : yRr h w rr L) (x : yx (yAk w) a d h h') : yRr h' w rr L := by
  obtain ⟨n, rs, r1, r2, r3⟩ := o
  refine ⟨n, rs, r1.x x fun z => z.elim (fun z => by have := n.1; omega) n.2, r2, fun i z e => ?_⟩
  obtain ⟨k, k1, k2⟩ := r3 i z e
  exact ⟨k, k1, k2.k x⟩
theorem yBr.ls {k : Nat} (B : yBr (g0 541) lst) (Z : yBs own h k (lst.map Prod.fst)) : yLs own h k lst := by
  refine ⟨Z, fun e he => ?_⟩
  obtain ⟨i, hi, rfl⟩ := List.getElem_of_mem he
  have m := B.2.2 i _ (List.getElem?_eq_getElem hi)
  have m5 := m.2.2.2.2.1
  exact ⟨m.2.1, m.2.2.1, m.2.2.2.1, m5.1, by omega⟩
theorem yTs.tc {p w2 : Nat} {ls : List yTw} {T : yTw} (Z : yTs own h w2 p ls) (hw : w2 ≠ 0) (h4 : ls.length ≤ 4) (e : ls[t]? = some T) : yTc own h p t T.2.1 T.2.2 := by
  obtain ⟨z0, rs, z1, z2, z3⟩ := Z
  obtain ⟨q, q1, q2, rq, q3, q4, q5⟩ := z3 t T e
  have ht := (List.getElem?_eq_some_iff.mp e).1
  refine ⟨q, rs, rq, ⟨z0, z1⟩, q1, by omega, by omega, ⟨by rw [q2]; exact hw, q3⟩, q4, fun y h1 h2 => ?_⟩
  obtain ⟨a1, a2⟩ := q5 y.toNat (by omega)
  rw [show ((y.toNat : Nat) : Int) = y by omega] at a1 a2
  exact ⟨a1, a2⟩
theorem yc_rings (F : yCf own w lst g0) (C : yCx own w lst g0 h g) (ht : (t : Int) < (g0 541 0).toInt) {d : Int} (hd : 0 ≤ d ∧ d ≤ 35999) (hB : h.1.1 + 3000 < yy_B) : yy_fin X 288 (0, zz_in [.ref w, .int (Int32.ofInt (t : Int)), .int (Int32.ofInt d)] (zz_nl 288), [], h) (fun r h' => yCx own w lst g0 h' g ∧ yx (yAk w) 258 1136 h h' ∧ ∃ rr, r = some (.ref rr) ∧ yRr h' w rr (yRq (g0 541) t lst d)) := by
  obtain ⟨o, p, b, r1, r2, r3, r4⟩ := C.2.2.2.1.split
  have hw0 : w ≠ 0 := by have := F.1; omega
  have n4 := F.2.2.2.1
  have l8 := F.2.2.1.2.1
  refine (yw_rings F.2.2.2.2.1 hw0 (F.2.2.2.2.2 t ht).2 (by omega) hd r1 (r3.tc (T := yT_of (g0 541) t) hw0 (by show (yTs_of (g0 541)).length ≤ 4; rw [yTs_len]; omega) (yTs_at (by omega))) (F.2.2.1.ls r4) l8 hB C.2.2.2.2).mono fun r h' z => ?_
  obtain ⟨rr, e, hrr, x, r1', rs, s1, s2, s3⟩ := z
  have x' := x.le (a2 := 258) (d2 := 1136) (by omega) (by omega)
  have hl := C.2.1.2
  have hwl : w ≤ h.1.1 := by
    obtain ⟨-, tx, o1, -⟩ := r1
    exact o1.le
  have hL : (yRq (g0 541) t lst d).length = (y_gat (g0 541 1).toInt (av_t (g0 541) t) (av_c (g0 541) t) (t : Int) d 0 lst).length := (y_srt_all _ _ rfl).2.1
  refine ⟨⟨C.1, C.2.1.x x fun k hk e => ?_, C.2.2.1, yWo.xw (S := (yTs_of (g0 541), (g0 541 1).toInt, lst.map Prod.fst)) hw0 r1 r2 r3 r4 x r1', x.zr C.2.2.2.2⟩, x'.akw, rr, e, ⟨by omega, by omega⟩, rs, s1, by rw [hL]; exact s2, fun i z ez => ?_⟩
  · have e : k = w := e
    have := F.1
    omega
  · obtain ⟨k, k1, k2, k3⟩ := s3 i z ez
    exact ⟨k, k1, ⟨by omega, by omega⟩, k3⟩
end YCW
section YCH
variable {own : yOwn} {w t : Nat} {lst : List (yBell × List fl_T)} {g0 g : aa_G} {h h' : zz_H} {a d : Nat}
theorem yCx.ow (C : yCx own w lst g0 h g) : ∃ fs, yO h w 12 fs := by
  obtain ⟨-, o, p, b, tx, o1, -⟩ := C.2.2.2.1
  exact ⟨_, o1⟩
theorem yCx.wle (C : yCx own w lst g0 h g) : w ≤ h.1.1 := by
  obtain ⟨fs, o⟩ := C.ow
  exact o.le
theorem yCx.zr (C : yCx own w lst g0 h g) : zz_Zr h := C.2.2.2.2
/-- a half as W gives it, or null -/
def yHr (h : zz_H) (w : Nat) (k : Option Nat) (o : Option (Int × Int)) : Prop := (k = none ∧ o = none) ∨ ∃ q u l, k = some q ∧ o = some (u, l) ∧ yRw h w q [Int32.ofInt u, Int32.ofInt (u + l)]
theorem yHr.k {q : Option Nat} {o : Option (Int × Int)} (H : yHr h w q o) (x : yx (yAk w) a d h h') : yHr h' w q o := by
  rcases H with H | ⟨q, u, l, e1, e2, R⟩
  · exact Or.inl H
  · exact Or.inr ⟨q, u, l, e1, e2, R.k x⟩
def y_el (o : Option (Int × Int)) (d : Int) (f : Int → Int → Int) : Int := match o with
  | none => d
  | some (u, l) => f u l
end YCH
