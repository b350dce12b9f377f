/-! THE SMALL MACHINE: what the walked instructions do, over numbered cells.
cell 0 is the script, cell k + 1 the k-th that came since the start; a heap is ((cells, slots), (shapes, ints)) -/
abbrev zz_L : Type := (Nat × Nat) ⊕ ((Nat × List (Option Nat)) ⊕ (Nat × List (Option (Option Nat))))
abbrev zz_H : Type := (Nat × Nat) × ((Nat → zz_L) × (Nat → Nat → Int32))
abbrev zz_I : Type := Instr × (Nat × Nat × Nat × Nat) × Value × List (Int × Nat)
abbrev zz_V : Type := List (Option Value)
abbrev zz_S : Type := Nat × zz_V × List Value × zz_H
abbrev zz_R : Type := Nat × Option Value × zz_H
abbrev zz_O : Type := zz_S ⊕ (zz_R ⊕ (Nat × List Value × List Value))
abbrev zz_X : Type := Option (Nat × (Nat → Int32))
/-- a program: its instructions by method and place, what kind of value each method returns (0 none, 1 int, 2 boolean, 3 reference), how many locals it has -/
abbrev zz_P : Type := (Nat → Nat → Option zz_I) × (Nat → Nat) × (Nat → Nat)
def zz_up {α : Type} (f : Nat → α) (k : Nat) (v : α) : Nat → α := fun j => cond (Nat.beq j k) v (f j)
def zz_w (g : Nat → Nat → Int32) (k j : Nat) (v : Int32) : Nat → Nat → Int32 := fun a => cond (Nat.beq a k) (fun b => cond (Nat.beq b j) v (g k b)) (g a)
def zz_fs : List Nat → List (Option (Option Nat)) := fun l => l.map fun u => if u = 2 then some none else none
def zz_ld (lv : zz_V) (k : Nat) : Option Value := match lv[k]? with
  | some (some v) => some v
  | _ => none
/-- a long whose second half goes is gone -/
def zz_pre (lv : zz_V) : Nat → zz_V
  | 0 => lv
  | i + 1 => match lv[i]? with
    | some (some v) => if v.category = 2 then lv.set i none else lv
    | _ => lv
def zz_st1 (lv : zz_V) (i : Nat) (v : Value) : zz_V := (zz_pre lv i).set i (some v)
def zz_st2 (lv : zz_V) (i : Nat) (v : Value) : zz_V := ((zz_pre lv i).set i (some v)).set (i + 1) none
def zz_sw : List (Int × Nat) → Nat → Int → Nat
  | [], d, _ => d
  | (k, t) :: r, d, a => if a = k then t else zz_sw r d a
def zz_go (pc : Nat) (lv : zz_V) (st : List Value) (h : zz_H) : Option zz_O := some (.inl (pc, lv, st, h))
def zz_int (lv : zz_V) (k pc : Nat) (st : List Value) (h : zz_H) : Option zz_O := match zz_ld lv k with
  | some (.int a) => zz_go pc lv (.int a :: st) h
  | _ => none
def zz_lng (lv : zz_V) (k pc : Nat) (st : List Value) (h : zz_H) : Option zz_O := match zz_ld lv k with
  | some (.long a) => zz_go pc lv (.long a :: st) h
  | _ => none
def zz_rfl (lv : zz_V) (k pc : Nat) (st : List Value) (h : zz_H) : Option zz_O := match zz_ld lv k with
  | some (.ref a) => zz_go pc lv (.ref a :: st) h
  | some .null => zz_go pc lv (.null :: st) h
  | _ => none
def zz_is (lv : zz_V) (k pc : Nat) (st : List Value) (h : zz_H) : Option zz_O := match st with
  | .int a :: r => if k < lv.length then zz_go pc (zz_st1 lv k (.int a)) r h else none
  | _ => none
def zz_ls (lv : zz_V) (k pc : Nat) (st : List Value) (h : zz_H) : Option zz_O := match st with
  | .long a :: r => if k + 1 < lv.length then zz_go pc (zz_st2 lv k (.long a)) r h else none
  | _ => none
def zz_as (lv : zz_V) (k pc : Nat) (st : List Value) (h : zz_H) : Option zz_O := match st with
  | .ref a :: r => if k < lv.length then zz_go pc (zz_st1 lv k (.ref a)) r h else none
  | .null :: r => if k < lv.length then zz_go pc (zz_st1 lv k .null) r h else none
  | _ => none
def zz_i2 (f : Int32 → Int32 → Int32) (pc : Nat) (lv : zz_V) (st : List Value) (h : zz_H) : Option zz_O := match st with
  | .int b :: .int a :: r => zz_go (pc + 1) lv (.int (f a b) :: r) h
  | _ => none
def zz_l2 (f : Int64 → Int64 → Int64) (pc : Nat) (lv : zz_V) (st : List Value) (h : zz_H) : Option zz_O := match st with
  | .long b :: .long a :: r => zz_go (pc + 1) lv (.long (f a b) :: r) h
  | _ => none
def zz_if (P : Int32 → Bool) (pc tgt : Nat) (lv : zz_V) (st : List Value) (h : zz_H) : Option zz_O := match st with
  | .int a :: r => if P a = true then zz_go tgt lv r h else zz_go (pc + 3) lv r h
  | _ => none
def zz_ic (P : Int32 → Int32 → Bool) (pc tgt : Nat) (lv : zz_V) (st : List Value) (h : zz_H) : Option zz_O := match st with
  | .int b :: .int a :: r => if P a b = true then zz_go tgt lv r h else zz_go (pc + 3) lv r h
  | _ => none
def zz_cond : Jvm.ClassFile.Cond → Int32 → Bool
  | .eq, a => decide (a = 0)
  | .ne, a => decide (a ≠ 0)
  | .lt, a => decide (a < 0)
  | .ge, a => decide (0 ≤ a)
  | .gt, a => decide (0 < a)
  | .le, a => decide (a ≤ 0)
def zz_cmp : Jvm.ClassFile.Cond → Int32 → Int32 → Bool
  | .eq, a, b => decide (a = b)
  | .ne, a, b => decide (a ≠ b)
  | .lt, a, b => decide (a < b)
  | .ge, a, b => decide (b ≤ a)
  | .gt, a, b => decide (b < a)
  | .le, a, b => decide (a ≤ b)
def zz_lay (h : zz_H) (k : Nat) : Option zz_L := if k ≤ h.1.1 then some (h.2.1 k) else none
def zz_obj (h : zz_H) (k ci : Nat) : Option (List (Option (Option Nat))) := match zz_lay h k with
  | some (.inr (.inr (c, fs))) => if c = ci then some fs else none
  | _ => none
def zz_arr (h : zz_H) (k t : Nat) : Option Nat := match zz_lay h k with
  | some (.inl (u, n)) => if u = t then some n else none
  | _ => none
def zz_rar (h : zz_H) (k : Nat) : Option (Nat × List (Option Nat)) := match zz_lay h k with
  | some (.inr (.inl q)) => some q
  | _ => none
def zz_val : Option Nat → Value
  | none => .null
  | some k => .ref k
def zz_inb (i : Int32) (n : Nat) : Bool := decide (¬ (i < 0 ∨ n ≤ i.toNatClampNeg))
def zz_get (x y pc : Nat) (lv : zz_V) (st : List Value) (h : zz_H) : Option zz_O := match st with
  | .ref k :: r => match k with
    | 0 => none
    | k + 1 => match zz_obj h (k + 1) x with
      | some fs => match fs[y]? with
        | some none => zz_go (pc + 3) lv (.int (h.2.2 (k + 1) y) :: r) h
        | some (some q) => zz_go (pc + 3) lv (zz_val q :: r) h
        | none => none
      | none => none
  | _ => none
def zz_put (x y u pc : Nat) (lv : zz_V) (st : List Value) (h : zz_H) : Option zz_O := match st with
  | .int a :: .ref k :: r => match k with
    | 0 => none
    | k + 1 => match zz_obj h (k + 1) x with
      | some fs => match fs[y]? with
        | some none => if u = 0 ∨ (u = 1 ∧ (a = 0 ∨ a = 1)) then zz_go (pc + 3) lv r (h.1, (h.2.1, zz_w h.2.2 (k + 1) y a)) else none
        | _ => none
      | none => none
  | .ref q :: .ref k :: r => match k with
    | 0 => none
    | k + 1 => match zz_obj h (k + 1) x with
      | some fs => match fs[y]? with
        | some (some _) => if u = 2 then zz_go (pc + 3) lv r (h.1, (zz_up h.2.1 (k + 1) (.inr (.inr (x, fs.set y (some (some q))))), h.2.2)) else none
        | _ => none
      | none => none
  | _ => none
def zz_ial (X : zz_X) (pc : Nat) (lv : zz_V) (st : List Value) (h : zz_H) : Option zz_O := match st with
  | .int i :: .ref k :: r => match k with
    | 0 => match X with
      | some (L, xs) => if zz_inb i L = true then zz_go (pc + 1) lv (.int (xs i.toNatClampNeg) :: r) h else none
      | none => none
    | k + 1 => match zz_arr h (k + 1) 0 with
      | some n => if zz_inb i n = true then zz_go (pc + 1) lv (.int (h.2.2 (k + 1) i.toNatClampNeg) :: r) h else none
      | none => none
  | _ => none
def zz_bal (pc : Nat) (lv : zz_V) (st : List Value) (h : zz_H) : Option zz_O := match st with
  | .int i :: .ref k :: r => match k with
    | 0 => none
    | k + 1 => match zz_arr h (k + 1) 1, zz_arr h (k + 1) 2 with
      | some n, _ => if zz_inb i n = true then zz_go (pc + 1) lv (.int (h.2.2 (k + 1) i.toNatClampNeg) :: r) h else none
      | none, some n => if zz_inb i n = true then zz_go (pc + 1) lv (.int (h.2.2 (k + 1) i.toNatClampNeg) :: r) h else none
      | none, none => none
  | _ => none
def zz_ias (pc : Nat) (lv : zz_V) (st : List Value) (h : zz_H) : Option zz_O := match st with
  | .int v :: .int i :: .ref k :: r => match k with
    | 0 => none
    | k + 1 => match zz_arr h (k + 1) 0 with
      | some n => if zz_inb i n = true then zz_go (pc + 1) lv r (h.1, (h.2.1, zz_w h.2.2 (k + 1) i.toNatClampNeg v)) else none
      | none => none
  | _ => none
def zz_bas (pc : Nat) (lv : zz_V) (st : List Value) (h : zz_H) : Option zz_O := match st with
  | .int v :: .int i :: .ref k :: r => match k with
    | 0 => none
    | k + 1 => match zz_arr h (k + 1) 1, zz_arr h (k + 1) 2 with
      | some n, _ => if zz_inb i n = true then zz_go (pc + 1) lv r (h.1, (h.2.1, zz_w h.2.2 (k + 1) i.toNatClampNeg (vp_nar .boolean v))) else none
      | none, some n => if zz_inb i n = true then zz_go (pc + 1) lv r (h.1, (h.2.1, zz_w h.2.2 (k + 1) i.toNatClampNeg (vp_nar .byte v))) else none
      | none, none => none
  | _ => none
def zz_aal (pc : Nat) (lv : zz_V) (st : List Value) (h : zz_H) : Option zz_O := match st with
  | .int i :: .ref k :: r => match k with
    | 0 => none
    | k + 1 => match zz_rar h (k + 1) with
      | some (t, rs) => if zz_inb i rs.length = true ∧ (t = 3 ∨ t = 4) then (match rs[i.toNatClampNeg]? with
        | some q => zz_go (pc + 1) lv (zz_val q :: r) h
        | none => none) else none
      | none => none
  | _ => none
/-- the kind of object that an array of references of this kind takes -/
def zz_of (t : Nat) : Nat := if t = 3 then 7 else 5
def zz_aas (pc : Nat) (lv : zz_V) (st : List Value) (h : zz_H) : Option zz_O := match st with
  | .ref q :: .int i :: .ref k :: r => match k, q with
    | k + 1, q + 1 => match zz_rar h (k + 1) with
      | some (t, rs) => if zz_inb i rs.length = true ∧ (t = 3 ∨ t = 4) ∧ (zz_obj h (q + 1) (zz_of t)).isSome = true then zz_go (pc + 1) lv r (h.1, (zz_up h.2.1 (k + 1) (.inr (.inl (t, rs.set i.toNatClampNeg (some (q + 1))))), h.2.2)) else none
      | none => none
    | _, _ => none
  | _ => none
def zz_len (X : zz_X) (pc : Nat) (lv : zz_V) (st : List Value) (h : zz_H) : Option zz_O := match st with
  | .ref k :: r => match k with
    | 0 => match X with
      | some (L, _) => zz_go (pc + 1) lv (.int (Int32.ofNat L) :: r) h
      | none => none
    | k + 1 => match zz_lay h (k + 1) with
      | some (.inl (t, n)) => if t < 5 then zz_go (pc + 1) lv (.int (Int32.ofNat n) :: r) h else none
      | _ => none
  | _ => none
def zz_more (h : zz_H) (n : Nat) (q : zz_L) : zz_H := ((h.1.1 + 1, h.1.2 + n), (zz_up h.2.1 (h.1.1 + 1) q, h.2.2))
def zz_new (x : Nat) (us : List Nat) (pc : Nat) (lv : zz_V) (st : List Value) (h : zz_H) : Option zz_O :=
  zz_go (pc + 3) lv (.ref (h.1.1 + 1) :: st) (zz_more h us.length (.inr (.inr (x, zz_fs us))))
def zz_nar (t pc : Nat) (lv : zz_V) (st : List Value) (h : zz_H) : Option zz_O := match st with
  | .int n :: r => if n < 0 ∨ 100000 < n.toNatClampNeg then none else zz_go (pc + 2) lv (.ref (h.1.1 + 1) :: r) (zz_more h n.toNatClampNeg (.inl (t, n.toNatClampNeg)))
  | _ => none
def zz_anr (t pc : Nat) (lv : zz_V) (st : List Value) (h : zz_H) : Option zz_O := match st with
  | .int n :: r => if n < 0 ∨ 100000 < n.toNatClampNeg then none else zz_go (pc + 3) lv (.ref (h.1.1 + 1) :: r) (zz_more h n.toNatClampNeg (.inr (.inl (t, List.replicate n.toNatClampNeg none))))
  | _ => none
/-- System.arraycopy of two arrays of ints -/
def zz_cpy (pc : Nat) (lv : zz_V) (st : List Value) (h : zz_H) : Option zz_O := match st with
  | .int n :: .int dp :: .ref a :: .int sp :: .ref b :: r => match a, b with
    | a + 1, b + 1 => match zz_arr h (a + 1) 0, zz_arr h (b + 1) 0 with
      | some na, some nb => if ¬ sp < 0 ∧ ¬ dp < 0 ∧ ¬ n < 0 ∧ sp.toNatClampNeg + n.toNatClampNeg ≤ nb ∧ dp.toNatClampNeg + n.toNatClampNeg ≤ na ∧ (r.map fun v => v.category).sum ≤ 8
          then zz_go (pc + 3) lv r (h.1, (h.2.1, zz_up h.2.2 (a + 1) (va_cpy (h.2.2 (b + 1)) (h.2.2 (a + 1)) sp.toNatClampNeg dp.toNatClampNeg n.toNatClampNeg))) else none
      | _, _ => none
    | _, _ => none
  | _ => none
/-- Math.min, Math.max, Math.abs -/
def zz_mm (f : Int32 → Int32 → Int32) (pc : Nat) (lv : zz_V) (st : List Value) (h : zz_H) : Option zz_O := match st with
  | .int d :: .int a :: r => if (r.map fun v => v.category).sum ≤ 8 then zz_go (pc + 3) lv (.int (f a d) :: r) h else none
  | _ => none
def zz_ma (pc : Nat) (lv : zz_V) (st : List Value) (h : zz_H) : Option zz_O := match st with
  | .int a :: r => if (r.map fun v => v.category).sum ≤ 8 then zz_go (pc + 3) lv (.int (if 0 ≤ a then a else 0 - a) :: r) h else none
  | _ => none
def zz_call (m : Nat) (as rest : List Value) : Option zz_O := if (rest.map fun v => v.category).sum ≤ 8 then some (.inr (.inr (m, as, rest))) else none
def zz_cs (m n : Nat) (st : List Value) : Option zz_O := if n ≤ st.length then zz_call m (st.take n).reverse (st.drop n) else none
def zz_cv (m n ci : Nat) (st : List Value) (h : zz_H) : Option zz_O := match st.drop n with
  | .ref k :: r => match k with
    | 0 => none
    | k + 1 => if n ≤ st.length ∧ (zz_obj h (k + 1) ci).isSome = true then zz_call m (.ref (k + 1) :: (st.take n).reverse) r else none
  | _ => none
def zz_step (X : zz_X) (us : Nat → List Nat) (rt : Nat) (e : zz_I) (pc : Nat) (lv : zz_V) (st : List Value) (h : zz_H) : Option zz_O :=
  match e with
  | (i, (x, y, u, _), v, sw) => match i with
    | .iconst n => zz_go (pc + 1) lv (.int (Int32.ofInt n) :: st) h
    | .bipush n => zz_go (pc + 2) lv (.int (Int8.ofInt n).toInt32 :: st) h
    | .sipush n => zz_go (pc + 3) lv (.int (Int16.ofInt n).toInt32 :: st) h
    | .lconst n => zz_go (pc + 1) lv (.long (Int64.ofNat (n : Nat)) :: st) h
    | .aconst_null => zz_go (pc + 1) lv (.null :: st) h
    | .ldc _ => match v with
      | .int a => zz_go (pc + 2) lv (.int a :: st) h
      | _ => none
    | .ldc_w _ => match v with
      | .int a => zz_go (pc + 3) lv (.int a :: st) h
      | _ => none
    | .ldc2_w _ => match v with
      | .long a => zz_go (pc + 3) lv (.long a :: st) h
      | _ => none
    | .iload k => zz_int lv k (pc + 2) st h
    | .iload_n k => zz_int lv (k : Nat) (pc + 1) st h
    | .lload k => zz_lng lv k (pc + 2) st h
    | .lload_n k => zz_lng lv (k : Nat) (pc + 1) st h
    | .aload k => zz_rfl lv k (pc + 2) st h
    | .aload_n k => zz_rfl lv (k : Nat) (pc + 1) st h
    | .istore k => zz_is lv k (pc + 2) st h
    | .istore_n k => zz_is lv (k : Nat) (pc + 1) st h
    | .lstore k => zz_ls lv k (pc + 2) st h
    | .lstore_n k => zz_ls lv (k : Nat) (pc + 1) st h
    | .astore k => zz_as lv k (pc + 2) st h
    | .astore_n k => zz_as lv (k : Nat) (pc + 1) st h
    | .iinc k n => match zz_ld lv k with
      | some (.int a) => if k < lv.length then zz_go (pc + 3) (zz_st1 lv k (.int (a + Int32.ofInt n))) st h else none
      | _ => none
    | .iadd => zz_i2 (fun a b => a + b) pc lv st h
    | .isub => zz_i2 (fun a b => a - b) pc lv st h
    | .imul => zz_i2 (fun a b => a * b) pc lv st h
    | .iand => zz_i2 (fun a b => a &&& b) pc lv st h
    | .ior => zz_i2 (fun a b => a ||| b) pc lv st h
    | .ixor => zz_i2 (fun a b => a ^^^ b) pc lv st h
    | .iushr => zz_i2 (fun a b => (a.toUInt32 >>> (b.toUInt32 &&& Int32.toUInt32 31)).toInt32) pc lv st h
    | .ishr => zz_i2 (fun a b => a >>> (b &&& 31)) pc lv st h
    | .idiv => match st with
      | .int b :: .int a :: r => if b = 0 then none else zz_go (pc + 1) lv (.int (a / b) :: r) h
      | _ => none
    | .irem => match st with
      | .int b :: .int a :: r => if b = 0 then none else zz_go (pc + 1) lv (.int (a - a / b * b) :: r) h
      | _ => none
    | .ineg => match st with
      | .int a :: r => zz_go (pc + 1) lv (.int (-a) :: r) h
      | _ => none
    | .ladd => zz_l2 (fun a b => a + b) pc lv st h
    | .lsub => zz_l2 (fun a b => a - b) pc lv st h
    | .lmul => zz_l2 (fun a b => a * b) pc lv st h
    | .ldiv => match st with
      | .long b :: .long a :: r => if b = 0 then none else zz_go (pc + 1) lv (.long (a / b) :: r) h
      | _ => none
    | .lcmp => match st with
      | .long b :: .long a :: r => zz_go (pc + 1) lv (.int (lg_cmp a b) :: r) h
      | _ => none
    | .i2l => match st with
      | .int a :: r => zz_go (pc + 1) lv (.long a.toInt64 :: r) h
      | _ => none
    | .l2i => match st with
      | .long a :: r => zz_go (pc + 1) lv (.int a.toInt32 :: r) h
      | _ => none
    | .i2b => match st with
      | .int a :: r => zz_go (pc + 1) lv (.int a.toInt8.toInt32 :: r) h
      | _ => none
    | .goto _ => zz_go x lv st h
    | .ifCond c _ => zz_if (zz_cond c) pc x lv st h
    | .if_icmp c _ => zz_ic (zz_cmp c) pc x lv st h
    | .ifnull _ => match st with
      | .null :: r => zz_go x lv r h
      | .ref _ :: r => zz_go (pc + 3) lv r h
      | _ => none
    | .ifnonnull _ => match st with
      | .null :: r => zz_go (pc + 3) lv r h
      | .ref _ :: r => zz_go x lv r h
      | _ => none
    | .tableswitch _ _ _ _ => match st with
      | .int a :: r => zz_go (zz_sw sw x a.toInt) lv r h
      | _ => none
    | .lookupswitch _ _ => match st with
      | .int a :: r => zz_go (zz_sw sw x a.toInt) lv r h
      | _ => none
    | .dup => match st with
      | w :: r => if w.category = 1 then zz_go (pc + 1) lv (w :: w :: r) h else none
      | _ => none
    | .dup2 => match st with
      | a :: b :: r => if a.category = 1 ∧ b.category = 1 then zz_go (pc + 1) lv (a :: b :: a :: b :: r) h else none
      | _ => none
    | .pop => match st with
      | w :: r => if w.category = 1 then zz_go (pc + 1) lv r h else none
      | _ => none
    | .dup_x1 => match st with
      | a :: b :: r => if a.category = 1 ∧ b.category = 1 then zz_go (pc + 1) lv (a :: b :: a :: r) h else none
      | _ => none
    | .getfield _ => zz_get x y pc lv st h
    | .putfield _ => zz_put x y u pc lv st h
    | .iaload => zz_ial X pc lv st h
    | .baload => zz_bal pc lv st h
    | .iastore => zz_ias pc lv st h
    | .bastore => zz_bas pc lv st h
    | .aaload => zz_aal pc lv st h
    | .aastore => zz_aas pc lv st h
    | .arraylength => zz_len X pc lv st h
    | .new _ => zz_new x (us x) pc lv st h
    | .newarray _ => zz_nar x pc lv st h
    | .anewarray _ => zz_anr x pc lv st h
    | .invokestatic _ => if x < 100000 then zz_cs x y st else if x = 100001 then zz_cpy pc lv st h else if x = 100002 then zz_mm (fun a d => if d < a then d else a) pc lv st h else if x = 100003 then zz_mm (fun a d => if a < d then d else a) pc lv st h else if x = 100004 then zz_ma pc lv st h else none
    | .invokevirtual _ => zz_cv x y u st h
    | .invokespecial _ => if x = 100000 then (match st with
        | .ref _ :: r => if (r.map fun v => v.category).sum ≤ 8 then zz_go (pc + 3) lv r h else none
        | _ => none) else zz_cv x y u st h
    | .ireturn => match st with
      | [.int a] => if rt = 1 ∨ (rt = 2 ∧ (a = 0 ∨ a = 1)) then some (.inr (.inl (pc, some (.int a), h))) else none
      | _ => none
    | .areturn => match st with
      | [.ref a] => if rt = 3 then some (.inr (.inl (pc, some (.ref a), h))) else none
      | [.null] => if rt = 3 then some (.inr (.inl (pc, some .null, h))) else none
      | _ => none
    | .return_ => match st with
      | [] => if rt = 0 then some (.inr (.inl (pc, none, h))) else none
      | _ => none
    | _ => none
def zz_in (as : List Value) (n : Nat) : zz_V :=
  let l := as.flatMap fun v => if v.category = 2 then [some v, none] else [some v]
  l ++ List.replicate (n - l.length) none
/-- so many steps of a method: where it stands then, or how it ended; a call takes as many at the most -/
def zz_walk (P : zz_P) (us : Nat → List Nat) (X : zz_X) : Nat → Nat → zz_S → Option (zz_S ⊕ zz_R)
  | 0, _, s => some (.inl s)
  | n + 1, m, (pc, lv, st, h) => match P.1 m pc with
    | none => none
    | some e => match zz_step X us (P.2.1 m) e pc lv st h with
      | none => none
      | some (.inl s) => zz_walk P us X n m s
      | some (.inr (.inl r)) => some (.inr r)
      | some (.inr (.inr (m', as, rest))) => if (zz_in as 0).length ≤ P.2.2 m' then (match zz_walk P us X n m' (0, zz_in as (P.2.2 m'), [], h) with
        | some (.inr (_, v, h')) => zz_walk P us X n m (pc + 3, lv, v.toList ++ rest, h')
        | _ => none) else none
