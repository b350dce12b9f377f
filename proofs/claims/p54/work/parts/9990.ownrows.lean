/-! ROWS OF THE LAW'S OWN THAT A DEED WRITES WHILE IT ASKS -/
/-- cells behind n are nobody's -/
def yMo (own : yOwn) (w n : Nat) : Prop := ∀ k, n < k → k < yy_B → own k ≠ 0 ∧ own k ≠ w
/-- a row that came behind h0, that this deed alone writes -/
def yRm (h0 h : zz_H) (w k : Nat) (l : List Int32) : Prop := (h0.1.1 < k ∧ 539 < k ∧ k ≠ w) ∧ yP h k l
/-- a row that W gave: shared, or behind n -/
def yRz (own : yOwn) (n : Nat) (h : zz_H) (w k : Nat) (l : List Int32) : Prop := yRw h w k l ∧ (own k = 0 ∨ n < k)
def yHz (own : yOwn) (n : Nat) (h : zz_H) (w : Nat) (k : Option Nat) (o : Option (Int × Int)) : Prop := (k = none ∧ o = none) ∨ ∃ q u l, k = some q ∧ o = some (u, l) ∧ yRz own n h w q [Int32.ofInt u, Int32.ofInt (u + l)]
def yRrz (n : Nat) (h : zz_H) (w rr : Nat) (L : List (Int × Int)) : Prop := (539 < rr ∧ rr ≠ w ∧ n < rr) ∧ ∃ rs, yR h rr 5 rs ∧ rs.length = L.length ∧ ∀ (i : Nat) (z : Int × Int), L[i]? = some z → ∃ k, rs[i]? = some (some k) ∧ n < k ∧ yRw h w k [Int32.ofInt z.1, Int32.ofInt z.2]
theorem y_rm {p a k m c B : Nat} (h : p + a + c < B) (hk : k + m ≤ c) : p + (a + k) + m < B := by omega
section Y90
variable {X : yy_X} {own : yOwn} {w c j n t : Nat} {lst : List (yBell × List fl_T)} {g0 g : aa_G} {h0 h h' : zz_H} {a d a2 d2 : Nat} {l l2 : List Int32} {hh : Option (Int × Int)} {q : Option Nat} {L : List (Int × Int)}
theorem yRm.k (o : yRm h0 h w c l) (x : yx (yAk w) a d h h') : yRm h0 h' w c l := ⟨o.1, o.2.x x fun z => z.elim (fun z => by have := o.1.2.1; omega) o.1.2.2⟩
theorem yRm.o (o : yRm h0 h w c l) (hj : c ≠ j) (x : yx (fun q => q = j) a d h h') : yRm h0 h' w c l := ⟨o.1, o.2.x x hj⟩
theorem yRm.s {v : Int32} (o : yRm h0 h w c l) (q : yQ h' c l.length (l.set j v)) : yRm h0 h' w c (l.set j v) := ⟨o.1, by
  unfold yP
  rw [List.length_set]
  exact q⟩
theorem yRm.B (o : yRm h0 h w c l) : c < yy_B := o.2.1.2.1
theorem yRm.le (o : yRm h0 h w c l) : c ≤ h.1.1 := yP.le o.2
theorem yRm.nw (C : yCx own w lst g0 h g) (Y : yx (yAk w) a d h0 h) (i : yI h' (h.1.1 + 1) n) (z : ∀ j, h'.2.2 (h.1.1 + 1) j = 0) : yRm h0 h' w (h.1.1 + 1) (List.replicate n 0) := by
  have h1 := Y.up
  have h2 := C.2.1.2
  have h3 := C.wle
  refine ⟨⟨by omega, by omega, by omega⟩, ?_⟩
  unfold yP
  rw [List.length_replicate]
  refine ⟨i, fun j v e => ?_⟩
  rw [z]
  have e := List.mem_of_getElem? e
  exact (List.eq_of_mem_replicate e).symm
theorem yRw.o (o : yRw h w c l) (hj : c ≠ j) (x : yx (fun q => q = j) a d h h') : yRw h' w c l := ⟨o.1, o.2.x x hj⟩
theorem yRz.k (o : yRz own n h w c l) (x : yx (yAk w) a d h h') : yRz own n h' w c l := ⟨o.1.k x, o.2⟩
theorem yRz.ne (o : yRz own n h w c l) (M : yMo own w h0.1.1) (m : yRm h0 h w j l2) (hn : j ≤ n) : c ≠ j := fun e => by
  have h1 := M j m.1.1 m.B
  rcases o.2 with z | z
  · rw [e] at z
    exact h1.1 z
  · omega
theorem yRz.m (o : yRz own n h w c l) (M : yMo own w h0.1.1) (m : yRm h0 h w j l2) (hn : j ≤ n) (x : yx (fun q => q = j) a d h h') : yRz own n h' w c l := ⟨o.1.o (o.ne M m hn) x, o.2⟩
theorem yHz.k (H : yHz own n h w q hh) (x : yx (yAk w) a d h h') : yHz own n h' w q hh := by
  rcases H with H | ⟨q, u, l, e1, e2, R⟩
  · exact Or.inl H
  · exact Or.inr ⟨q, u, l, e1, e2, R.k x⟩
theorem yHz.m (H : yHz own n h w q hh) (M : yMo own w h0.1.1) (m : yRm h0 h w j l2) (hn : j ≤ n) (x : yx (fun q => q = j) a d h h') : yHz own n h' w q hh := by
  rcases H with H | ⟨q, u, l, e1, e2, R⟩
  · exact Or.inl H
  · exact Or.inr ⟨q, u, l, e1, e2, R.m M m hn x⟩
theorem yRrz.k {rr : Nat} (o : yRrz n h w rr L) (x : yx (yAk w) a d h h') : yRrz n h' w rr L := by
  obtain ⟨m, rs, r1, r2, r3⟩ := o
  refine ⟨m, rs, r1.x x fun z => z.elim (fun z => by have := m.1; omega) m.2.1, r2, fun i z e => ?_⟩
  obtain ⟨c, k1, k2, k3⟩ := r3 i z e
  exact ⟨c, k1, k2, k3.k x⟩
theorem yRrz.o {rr : Nat} (o : yRrz n h w rr L) (hn : j ≤ n) (x : yx (fun q => q = j) a d h h') : yRrz n h' w rr L := by
  obtain ⟨m, rs, r1, r2, r3⟩ := o
  refine ⟨m, rs, r1.x x (fun e => by have e : rr = j := e; have := m.2.2; omega), r2, fun i z e => ?_⟩
  obtain ⟨c, k1, k2, k3⟩ := r3 i z e
  exact ⟨c, k1, k2, k3.o (by omega) x⟩
theorem yCx.m (C : yCx own w lst g0 h g) (M : yMo own w h0.1.1) (o : yRm h0 h w c l) (x : yx (fun q => q = c) a d h h') : yCx own w lst g0 h' g := ⟨C.1, C.2.1.x x (fun q hq e => by have e : q = c := e; have := o.1.2.1; omega), C.2.2.1, C.2.2.2.1.x x (fun q _ e => by
  have e : q = c := e
  rw [e]
  exact M c o.1.1 o.B), x.zr C.2.2.2.2⟩
theorem yx.m (Y : yx (yAk w) a d h0 h) (o : yRm h0 h w c l) (x : yx (fun q => q = c) 0 0 h h') : yx (yAk w) a d h0 h' := (Y.tr x fun q hq e => by have e : q = c := e; have := o.1.1; omega).le (Nat.le_refl _) (Nat.le_refl _)
theorem yWo.mn {own2 : yOwn} {S : yWd} (e0 : ∀ c, own2 c = 0 → own c = 0) (ew : ∀ c, own2 c = w → own c = w) (W : yWo own2 h w S) : yWo own h w S := by
  obtain ⟨o0, o, p, b, tx, o1, o2, ⟨f1, f2⟩, ⟨t1, rs, t2, t3, t4⟩, ⟨b1, bs, b2, b3, b4⟩⟩ := W
  refine ⟨ew _ o0, o, p, b, tx, o1, o2, ⟨ew _ f1, f2⟩, ⟨e0 _ t1, rs, t2, t3, fun t T e => ?_⟩, ⟨e0 _ b1, bs, b2, b3, fun i B e => ?_⟩⟩
  · obtain ⟨q, q1, q2, rq, q3, q4, q5⟩ := t4 t T e
    refine ⟨q, q1, ew _ q2, rq, q3, q4, fun y hy => ⟨fun i hi ei => ?_, (q5 y hy).2⟩⟩
    obtain ⟨c, c1, c2, c3⟩ := (q5 y hy).1 i hi ei
    exact ⟨c, c1, e0 _ c2, c3⟩
  · obtain ⟨q, q1, z, c, c1, c2, c3, c4, c5, v, v1, v2, v3⟩ := b4 i B e
    exact ⟨q, q1, e0 _ z, c, c1, c2, c3, c4, c5, v, v1, e0 _ v2, e0 _ v3⟩
/-- the same world, cells to come nobody's; and back -/
theorem yCx.mo (C : yCx own w lst g0 h g) (F : yCf own w lst g0) : ∃ own2, yCf own2 w lst g0 ∧ yCx own2 w lst g0 h g ∧ yMo own2 w h.1.1 ∧ ∀ h' g', yCx own2 w lst g0 h' g' → yCx own w lst g0 h' g' := by
  have h1 := C.2.1.2
  have h2 := F.1
  refine ⟨fun q => if q ≤ h.1.1 ∨ yy_B ≤ q then own q else 1, ⟨F.1, fun c hk => ?_, F.2.2⟩, ⟨C.1, C.2.1, C.2.2.1, C.2.2.2.1.nw fun q hq => if_pos hq, C.2.2.2.2⟩, fun c k1 k2 => ?_, fun h' g' C => ⟨C.1, C.2.1, C.2.2.1, C.2.2.2.1.mn (fun c e => ?_) (fun c e => ?_), C.2.2.2.2⟩⟩
  · dsimp only
    rw [if_pos (Or.inl (by omega))]
    exact F.2.1 c hk
  · dsimp only
    rw [if_neg (by omega)]
    exact ⟨by omega, by omega⟩
  · split at e
    · exact e
    · omega
  · split at e
    · exact e
    · omega
theorem yc_half2 (F : yCf own w lst g0) (C : yCx own w lst g0 h g) (ht : (t : Int) < (g0 541 0).toInt) {day half : Int} (hd : -1000000 ≤ day ∧ day ≤ 1000000) (hf : half = 0 ∨ half = 1) (hB : h.1.1 + 3 < yy_B) : yy_fin X 280 (0, zz_in [.ref w, .int (Int32.ofInt (t : Int)), .int (Int32.ofInt day), .int (Int32.ofInt half)] (zz_nl 280), [], h) (fun r h' => yCx own w lst g0 h' g ∧ yx (yAk w) 3 6 h h' ∧ ∃ q, r = some (zz_val q) ∧ yHz own h.1.1 h' w q (hv_t (g0 541) t day half)) := by
  refine (yw_half (C.tb F ht) (F.2.2.2.2.2 t ht).2 hd hf hB C.2.2.2.2).mono fun r h' z => ⟨C.f z.1, z.1.ak, ?_⟩
  have z2 := z.2
  unfold hv_t
  cases e : tw_H (av_t (g0 541) t) (av_c (g0 541) t) day half with
  | none =>
    rw [e] at z2
    exact ⟨none, z2, Or.inl ⟨rfl, rfl⟩⟩
  | some p =>
    obtain ⟨b, l⟩ := p
    rw [e] at z2
    obtain ⟨c, r1, r2, r3⟩ := z2
    exact ⟨some c, r1, Or.inr ⟨c, b, l, rfl, rfl, yRw.of F C r2 r3, r2⟩⟩
theorem yc_rings2 (F : yCf own w lst g0) (C : yCx own w lst g0 h g) (ht : (t : Int) < (g0 541 0).toInt) {d : Int} (hd : 0 ≤ d ∧ d ≤ 35999) (hB : h.1.1 + 3000 < yy_B) : yy_fin X 288 (0, zz_in [.ref w, .int (Int32.ofInt (t : Int)), .int (Int32.ofInt d)] (zz_nl 288), [], h) (fun r h' => yCx own w lst g0 h' g ∧ yx (yAk w) 258 1136 h h' ∧ ∃ rr, r = some (.ref rr) ∧ yRrz h.1.1 h' w rr (yRq (g0 541) t lst d)) := by
  obtain ⟨o, p, b, r1, r2, r3, r4⟩ := C.2.2.2.1.split
  have hw0 : w ≠ 0 := by have := F.1; omega
  have n4 := F.2.2.2.1
  have l8 := F.2.2.1.2.1
  refine (yw_rings F.2.2.2.2.1 hw0 (F.2.2.2.2.2 t ht).2 (by omega) hd r1 (r3.tc (T := yT_of (g0 541) t) hw0 (by show (yTs_of (g0 541)).length ≤ 4; rw [yTs_len]; omega) (yTs_at (by omega))) (F.2.2.1.ls r4) l8 hB C.2.2.2.2).mono fun r h' z => ?_
  obtain ⟨rr, e, hrr, x, r1', rs, s1, s2, s3⟩ := z
  have x' := x.le (a2 := 258) (d2 := 1136) (by omega) (by omega)
  have hl := C.2.1.2
  have hwl : w ≤ h.1.1 := by
    obtain ⟨-, tx, o1, -⟩ := r1
    exact o1.le
  have hL : (yRq (g0 541) t lst d).length = (y_gat (g0 541 1).toInt (av_t (g0 541) t) (av_c (g0 541) t) (t : Int) d 0 lst).length := (y_srt_all _ _ rfl).2.1
  refine ⟨⟨C.1, C.2.1.x x fun c hk e => ?_, C.2.2.1, yWo.xw (S := (yTs_of (g0 541), (g0 541 1).toInt, lst.map Prod.fst)) hw0 r1 r2 r3 r4 x r1', x.zr C.2.2.2.2⟩, x'.akw, rr, e, ⟨by omega, by omega, by omega⟩, rs, s1, by rw [hL]; exact s2, fun i z ez => ?_⟩
  · have e : c = w := e
    have := F.1
    omega
  · obtain ⟨c, k1, k2, k3⟩ := s3 i z ez
    exact ⟨c, k1, by omega, ⟨by omega, by omega⟩, k3⟩
end Y90
