/-! THE LAW'S WORLD (W): what it holds, and who may write what: own k is 0 for what nobody writes, else the world that k belongs to -/
abbrev yOwn : Type := Nat → Nat
/-- a point as the law keeps it: dawn and dusk, or polar alone -/
def tw_row (T : Nat → Nat → Int) (i : Nat) : List Int32 := if T 4 i = -1 then [Int32.ofInt (T 2 i), Int32.ofInt (T 3 i)] else [Int32.ofInt (T 4 i)]
abbrev yTw : Type := Int × (Nat → Nat → Int) × Nat
/-- half, hour, part, strokes, cond -/
abbrev yBell : Type := Int × Int × Int × Int × List Int32
/-- towns, PARTS, bells -/
abbrev yWd : Type := List yTw × Int × List yBell
/-- a town's points -/
def yPT (own : yOwn) (h : zz_H) (q : Nat) (T : Nat → Nat → Int) (c : Nat) : Prop := ∃ rs, yR h q 5 rs ∧ rs.length = 360 ∧ ∀ y : Nat, y < 360 → (∀ i, i < c → T 1 i = y → ∃ k, rs[y]? = some (some k) ∧ own k = 0 ∧ yP h k (tw_row T i)) ∧ ((∀ i, i < c → T 1 i ≠ y) → rs[y]? = some none)
/-- a text that nobody writes -/
def yTo (own : yOwn) (h : zz_H) (k : Nat) (l : List Int32) : Prop := ∃ v, yT h k v l ∧ own k = 0 ∧ own v = 0
def yBl (own : yOwn) (h : zz_H) (k : Nat) (B : yBell) : Prop := own k = 0 ∧ ∃ c, yO h k 11 [none, none, none, none, some (some c)] ∧ h.2.2 k 0 = Int32.ofInt B.1 ∧ h.2.2 k 1 = Int32.ofInt B.2.1 ∧ h.2.2 k 2 = Int32.ofInt B.2.2.1 ∧ h.2.2 k 3 = Int32.ofInt B.2.2.2.1 ∧ yTo own h c B.2.2.2.2
/-- a row of bells -/
def yBs (own : yOwn) (h : zz_H) (b : Nat) (l : List yBell) : Prop := own b = 0 ∧ ∃ bs, yR h b 7 bs ∧ bs.length = l.length ∧ ∀ (k : Nat) (B : yBell), l[k]? = some B → ∃ q, bs[k]? = some (some q) ∧ yBl own h q B
/-- the towns' tables, in a row -/
def yTs (own : yOwn) (h : zz_H) (w p : Nat) (l : List yTw) : Prop := own p = 0 ∧ ∃ rs, yR h p 6 rs ∧ rs.length = l.length ∧ ∀ (t : Nat) (T : yTw), l[t]? = some T → ∃ q, rs[t]? = some (some q) ∧ own q = w ∧ yPT own h q T.2.1 T.2.2
def yOf (own : yOwn) (h : zz_H) (w o : Nat) (l : List yTw) : Prop := own o = w ∧ yP h o (l.map fun T => Int32.ofInt T.1)
def yWo (own : yOwn) (h : zz_H) (w : Nat) (S : yWd) : Prop := own w = w ∧ ∃ o p b tx, yO h w 12 [some (some o), some (some p), some (some b), none, some tx, none, none, none, none] ∧ h.2.2 w 3 = Int32.ofInt S.2.1 ∧ yOf own h w o S.1 ∧ yTs own h w p S.1 ∧ yBs own h b S.2.2
/-- what a world may be asked with -/
def yGo (S : yWd) : Prop := S.1.length ≤ 4 ∧ (1 ≤ S.2.1 ∧ S.2.1 ≤ 3600) ∧ (∀ T ∈ S.1, (-43200 ≤ T.1 ∧ T.1 ≤ 43200) ∧ tw_ok T.2.1 T.2.2)
section YWF
variable {own own2 : yOwn} {A : Nat → Prop} {a d k w o p b q c : Nat} {h h' : zz_H} {T : Nat → Nat → Int} {l : List Int32} {S : yWd}
/-- cells that a run may write: only of those who are written, not world w's -/
def yNo (own : yOwn) (h : zz_H) (A : Nat → Prop) (w : Nat) : Prop := ∀ k, k ≤ h.1.1 → A k → own k ≠ 0 ∧ own k ≠ w
theorem yNo.z (n : yNo own h A w) (hk : k ≤ h.1.1) (e : own k = 0) : ¬ A k := fun z => (n k hk z).1 e
theorem yNo.v (n : yNo own h A w) (hk : k ≤ h.1.1) (e : own k = w) : ¬ A k := fun z => (n k hk z).2 e
theorem yNo.f : yNo own h yF w := fun _ _ z => z.elim
def yN0 (own : yOwn) (h : zz_H) (A : Nat → Prop) : Prop := ∀ k, k ≤ h.1.1 → A k → own k ≠ 0
theorem yNo.n (n : yNo own h A w) : yN0 own h A := fun k hk z => (n k hk z).1
theorem yT.le1 {v : Nat} (o : yT h k v l) (hk : k < yy_B) : k ≤ h.1.1 := by
  rcases o.2.2.2 with ⟨q, -⟩ | ⟨q, -⟩
  · exact q.le
  · omega
theorem yTo.x (o : yTo own h k l) (x : yx A a d h h') (n : yN0 own h A) : yTo own h' k l := by
  obtain ⟨v, o1, o2, o3⟩ := o
  exact ⟨v, o1.z x (fun hk z => n k hk z o2) (fun hv z => n v hv z o3), o2, o3⟩
theorem yBl.x {B : yBell} (o : yBl own h k B) (x : yx A a d h h') (n : yN0 own h A) : yBl own h' k B := by
  obtain ⟨o1, c, o2, a0, a1, a2, a3, t⟩ := o
  have hA : ¬ A k := fun z => n k o2.le z o1
  exact ⟨o1, c, o2.x x hA, (o2.i x hA 0).trans a0, (o2.i x hA 1).trans a1, (o2.i x hA 2).trans a2, (o2.i x hA 3).trans a3, t.x x n⟩
theorem yBs.x {l : List yBell} (o : yBs own h b l) (x : yx A a d h h') (n : yN0 own h A) : yBs own h' b l := by
  obtain ⟨o1, bs, o2, o3, o4⟩ := o
  refine ⟨o1, bs, o2.x x (fun z => n b o2.le z o1), o3, fun k B e => ?_⟩
  obtain ⟨q, e1, e2⟩ := o4 k B e
  exact ⟨q, e1, e2.x x n⟩
theorem yPT.x (o : yPT own h q T c) (x : yx A a d h h') (hq : ¬ A q) (n : yN0 own h A) : yPT own h' q T c := by
  obtain ⟨rs, o1, o2, o3⟩ := o
  refine ⟨rs, o1.x x hq, o2, fun y hy => ⟨fun i hi e => ?_, (o3 y hy).2⟩⟩
  obtain ⟨k, e1, e2, e3⟩ := (o3 y hy).1 i hi e
  exact ⟨k, e1, e2, e3.x x (fun z => n k e3.le z e2)⟩
theorem yPT.le (o : yPT own h q T c) : q ≤ h.1.1 := by
  obtain ⟨rs, o1, -⟩ := o
  exact o1.le
theorem yTs.x {l : List yTw} (o : yTs own h w p l) (x : yx A a d h h') (n : yNo own h A w) : yTs own h' w p l := by
  obtain ⟨o1, rs, o2, o3, o4⟩ := o
  refine ⟨o1, rs, o2.x x (n.z o2.le o1), o3, fun t T e => ?_⟩
  obtain ⟨q, e1, e2, e3⟩ := o4 t T e
  exact ⟨q, e1, e2, e3.x x (n.v e3.le e2) n.n⟩
theorem yOf.x {l : List yTw} (of : yOf own h w o l) (x : yx A a d h h') (n : yNo own h A w) : yOf own h' w o l := ⟨of.1, of.2.x x (n.v of.2.le of.1)⟩
theorem yWo.x (o : yWo own h w S) (x : yx A a d h h') (n : yNo own h A w) : yWo own h' w S := by
  obtain ⟨ow, o, p, b, tx, o1, o2, o3, o4, o5⟩ := o
  have hw := n.v o1.le ow
  exact ⟨ow, o, p, b, tx, o1.x x hw, (o1.i x hw 3).trans o2, o3.x x n, o4.x x n, o5.x x n.n⟩
theorem yWo.f (o : yWo own h w S) (x : yx yF a d h h') : yWo own h' w S := o.x x yNo.f
/-- cells of the future may be given to whom one likes -/
theorem yTo.nw (o : yTo own h k l) (e : ∀ j, j ≤ h.1.1 ∨ yy_B ≤ j → own2 j = own j) : yTo own2 h k l := by
  obtain ⟨v, o1, o2, o3⟩ := o
  have hk : k ≤ h.1.1 ∨ yy_B ≤ k := by
    rcases o1.2.2.2 with ⟨q, -⟩ | ⟨q, -⟩
    · exact Or.inl q.le
    · exact Or.inr q
  have hv : v ≤ h.1.1 ∨ yy_B ≤ v := by
    rcases o1.1 with ⟨q, -⟩ | ⟨q, -⟩
    · exact Or.inl q.le
    · exact Or.inr q
  exact ⟨v, o1, (e k hk).trans o2, (e v hv).trans o3⟩
theorem yBl.nw {B : yBell} (o : yBl own h k B) (e : ∀ j, j ≤ h.1.1 ∨ yy_B ≤ j → own2 j = own j) : yBl own2 h k B := by
  obtain ⟨o1, c, o2, a0, a1, a2, a3, t⟩ := o
  exact ⟨(e k (Or.inl o2.le)).trans o1, c, o2, a0, a1, a2, a3, t.nw e⟩
theorem yBs.nw {l : List yBell} (o : yBs own h b l) (e : ∀ j, j ≤ h.1.1 ∨ yy_B ≤ j → own2 j = own j) : yBs own2 h b l := by
  obtain ⟨o1, bs, o2, o3, o4⟩ := o
  refine ⟨(e b (Or.inl o2.le)).trans o1, bs, o2, o3, fun k B ek => ?_⟩
  obtain ⟨q, e1, e2⟩ := o4 k B ek
  exact ⟨q, e1, e2.nw e⟩
theorem yPT.nw (o : yPT own h q T c) (e : ∀ j, j ≤ h.1.1 ∨ yy_B ≤ j → own2 j = own j) : yPT own2 h q T c := by
  obtain ⟨rs, o1, o2, o3⟩ := o
  refine ⟨rs, o1, o2, fun y hy => ⟨fun i hi ei => ?_, (o3 y hy).2⟩⟩
  obtain ⟨k, e1, e2, e3⟩ := (o3 y hy).1 i hi ei
  exact ⟨k, e1, (e k (Or.inl e3.le)).trans e2, e3⟩
theorem yWo.nw (o : yWo own h w S) (e : ∀ j, j ≤ h.1.1 ∨ yy_B ≤ j → own2 j = own j) : yWo own2 h w S := by
  obtain ⟨ow, o, p, b, tx, o1, o2, o3, o4, o5⟩ := o
  refine ⟨(e w (Or.inl o1.le)).trans ow, o, p, b, tx, o1, o2, ⟨(e o (Or.inl o3.2.le)).trans o3.1, o3.2⟩, ?_, o5.nw e⟩
  obtain ⟨p1, rs, p2, p3, p4⟩ := o4
  refine ⟨(e p (Or.inl p2.le)).trans p1, rs, p2, p3, fun t T et => ?_⟩
  obtain ⟨q, e1, e2, e3⟩ := p4 t T et
  exact ⟨q, e1, (e q (Or.inl e3.le)).trans e2, e3.nw e⟩
end YWF
/-! points by their days -/
theorem yw_tk {T : Nat → Nat → Int} {c : Nat} (ok : tw_ok T c) (v : Int) : (∀ i, i < c → T 1 i = v → tw_k T v c = tw_k T (v - 1) c + 1) ∧ ((∀ i, i < c → T 1 i ≠ v) → tw_k T v c = tw_k T (v - 1) c) := by
  have l1 := tw_k_le T v c
  have l2 := tw_k_le T (v - 1) c
  have m1 : tw_k T (v - 1) c ≤ tw_k T v c := by
    rcases Nat.lt_or_ge (tw_k T v c) (tw_k T (v - 1) c) with z | z
    · have a1 := (tw_k_iff (v := v - 1) ok (i := tw_k T v c) (by omega)).mpr z
      have a2 := mt (tw_k_iff (v := v) ok (i := tw_k T v c) (by omega)).mp
      have a3 := a2 (by omega)
      omega
    · exact z
  refine ⟨fun i hi e => ?_, fun hn => ?_⟩
  · have i1 := (tw_k_iff (v := v) ok hi).mp (by omega)
    have i2 : ¬ i < tw_k T (v - 1) c := fun z => by
      have := (tw_k_iff (v := v - 1) ok hi).mpr z
      omega
    rcases Nat.lt_or_ge (tw_k T (v - 1) c + 1) (tw_k T v c) with z | z
    · have b1 := (tw_k_iff (v := v) ok (i := tw_k T (v - 1) c + 1) (by omega)).mpr z
      have b2 : ¬ T 1 (tw_k T (v - 1) c) ≤ v - 1 := fun q => by
        have := (tw_k_iff (v := v - 1) ok (i := tw_k T (v - 1) c) (by omega)).mp q
        omega
      have b3 := ok.2.2.1 (tw_k T (v - 1) c) (by omega)
      omega
    · omega
  · rcases Nat.lt_or_ge (tw_k T (v - 1) c) (tw_k T v c) with z | z
    · have b1 := (tw_k_iff (v := v) ok (i := tw_k T (v - 1) c) (by omega)).mpr z
      have b2 : ¬ T 1 (tw_k T (v - 1) c) ≤ v - 1 := fun q => by
        have := (tw_k_iff (v := v - 1) ok (i := tw_k T (v - 1) c) (by omega)).mp q
        omega
      exact absurd (show T 1 (tw_k T (v - 1) c) = v by omega) (hn _ (by omega))
    · omega
theorem yw_t0 {T : Nat → Nat → Int} {c : Nat} (ok : tw_ok T c) : tw_k T (-1) c = 0 := by
  rcases Nat.eq_zero_or_pos (tw_k T (-1) c) with z | z
  · exact z
  · have l1 := tw_k_le T (-1) c
    have := (tw_k_iff (v := -1) ok (i := 0) (by omega)).mpr z
    have := ok.2.1 0 (by omega)
    omega
theorem yw_tc {T : Nat → Nat → Int} {c : Nat} (ok : tw_ok T c) : tw_k T 359 c = c := by
  have l1 := tw_k_le T 359 c
  rcases Nat.lt_or_ge (tw_k T 359 c) c with z | z
  · have a := ok.2.1 _ z
    have := (tw_k_iff (v := 359) ok z).mp (by omega)
    omega
  · omega
/-- going back from a day, no point lies nearer than A -/
theorem yw_A {T : Nat → Nat → Int} {c : Nat} (ok : tw_ok T c) (hc : 0 < c) {v a : Int} (hv : 0 ≤ v ∧ v ≤ 359) (ha0 : 0 ≤ a) (ha : a < (v - T 1 (tw_A T v c)) % 360) (i : Nat) (hi : i < c) : T 1 i ≠ (v - a) % 360 := fun e => by
  have bi := ok.2.1 i hi
  have bA := ok.2.1 _ (tw_A_lt (w := T) (v := v) hc)
  have mono : ∀ x y, x ≤ y → y < c → T 1 x ≤ T 1 y := fun x y h1 h2 => by
    have := tw_mono ok.2.2.1 (y - x) x (by omega)
    rw [show x + (y - x) = y by omega] at this
    omega
  have ki := tw_k_iff (v := v) ok hi
  have lk := tw_k_le T v c
  unfold tw_A at ha bA
  by_cases k0 : tw_k T v c = 0
  · rw [if_pos k0] at ha bA
    have hgt : ¬ T 1 i ≤ v := fun z => by have := ki.mp z; omega
    have := mono i (c - 1) (by omega) (by omega)
    omega
  · rw [if_neg k0] at ha bA
    have hA : T 1 (tw_k T v c - 1) ≤ v := (tw_k_iff (v := v) ok (i := tw_k T v c - 1) (by omega)).mpr (by omega)
    by_cases c1 : T 1 i ≤ v
    · have := mono i (tw_k T v c - 1) (by have := ki.mp c1; omega) (by omega)
      omega
    · omega
theorem yw_B {T : Nat → Nat → Int} {c : Nat} (ok : tw_ok T c) (hc : 0 < c) {v b : Int} (hv : 0 ≤ v ∧ v ≤ 359) (hb0 : 0 ≤ b) (hb : b < (T 1 (tw_B T v c) - v) % 360) (i : Nat) (hi : i < c) : T 1 i ≠ (v + b) % 360 := fun e => by
  have bi := ok.2.1 i hi
  have bB := ok.2.1 _ (tw_B_lt (w := T) (v := v) hc)
  have mono : ∀ x y, x ≤ y → y < c → T 1 x ≤ T 1 y := fun x y h1 h2 => by
    have := tw_mono ok.2.2.1 (y - x) x (by omega)
    rw [show x + (y - x) = y by omega] at this
    omega
  have ki := tw_q_iff (v := v) ok hi
  rw [tw_B_m ok hc] at hb bB
  by_cases k0 : tw_q T v c < c
  · rw [if_pos k0] at hb bB
    have hB : v ≤ T 1 (tw_q T v c) := (tw_q_iff (v := v) ok k0).mpr (Nat.le_refl _)
    by_cases c1 : v ≤ T 1 i
    · have := mono (tw_q T v c) i (ki.mp c1) hi
      omega
    · omega
  · rw [if_neg k0] at hb bB
    have hlt : ¬ v ≤ T 1 i := fun z => by have := ki.mp z; omega
    have := mono 0 i (by omega) hi
    omega
