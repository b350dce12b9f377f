/-! THE SECOND MACHINE: what the law's own objects and texts ask beside the small one. Cells from yy_B on are old ones: texts and their bytes, two tables of digits, that stand from the start and that nobody writes.
Arrays of references: 3, 4 the class's; 5 of rows of ints, 6 of such, 7 of bells, 8 of worlds. Kinds of objects: 0 to 9 the class's, 11 a bell, 12 a world, 13 a text that is being built, 14 a text. -/
abbrev yy_B : Nat := 1000000
abbrev yy_X : Type := zz_X × Bool
/-- the bytes of the old rows: of the k-th text (100 + k), the digits (200, 201) -/
abbrev yy_D : Type := Nat × (Nat → Option (List Int32))
def yy_old (k : Nat) : Bool := Nat.ble yy_B k
def yy_kd (h : zz_H) (t q : Nat) : Bool := match t with
  | 5 => (zz_arr h q 0).isSome
  | 6 => match zz_rar h q with
    | some (5, _) => true
    | _ => false
  | 7 => (zz_obj h q 11).isSome
  | 8 => (zz_obj h q 12).isSome
  | _ => false
def yy_get (O : yy_D) (x y pc : Nat) (lv : zz_V) (st : List Value) (h : zz_H) : Option zz_O := match st with
  | .ref k :: r => if yy_old k = true ∧ k - yy_B < O.1 ∧ x = 14 then (match y with
      | 0 => zz_go (pc + 3) lv (.ref (k + 100) :: r) h
      | 1 => zz_go (pc + 3) lv (.int 0 :: r) h
      | _ => none) else none
  | _ => none
def yy_len (O : yy_D) (pc : Nat) (lv : zz_V) (st : List Value) (h : zz_H) : Option zz_O := match st with
  | .ref k :: r => match k with
    | 0 => none
    | k + 1 => if yy_old (k + 1) = true then (match O.2 (k + 1 - yy_B) with
        | some l => zz_go (pc + 1) lv (.int (Int32.ofNat l.length) :: r) h
        | none => none)
      else match zz_rar h (k + 1) with
        | some (t, rs) => if t < 9 then zz_go (pc + 1) lv (.int (Int32.ofNat rs.length) :: r) h else none
        | none => none
  | _ => none
def yy_bal (O : yy_D) (pc : Nat) (lv : zz_V) (st : List Value) (h : zz_H) : Option zz_O := match st with
  | .int i :: .ref k :: r => if yy_old k = true then (match O.2 (k - yy_B) with
      | some l => if zz_inb i l.length = true then zz_go (pc + 1) lv (.int (l.getD i.toNatClampNeg 0) :: r) h else none
      | none => none) else none
  | _ => none
def yy_aal (pc : Nat) (lv : zz_V) (st : List Value) (h : zz_H) : Option zz_O := match st with
  | .int i :: .ref k :: r => match k with
    | 0 => none
    | k + 1 => match zz_rar h (k + 1) with
      | some (t, rs) => if zz_inb i rs.length = true ∧ 5 ≤ t ∧ t ≤ 8 then (match rs[i.toNatClampNeg]? with
        | some q => zz_go (pc + 1) lv (zz_val q :: r) h
        | none => none) else none
      | none => none
  | _ => none
def yy_aas (pc : Nat) (lv : zz_V) (st : List Value) (h : zz_H) : Option zz_O := match st with
  | .ref q :: .int i :: .ref k :: r => match k, q with
    | k + 1, q + 1 => match zz_rar h (k + 1) with
      | some (t, rs) => if zz_inb i rs.length = true ∧ 5 ≤ t ∧ t ≤ 8 ∧ yy_kd h t (q + 1) = true then zz_go (pc + 1) lv r (h.1, (zz_up h.2.1 (k + 1) (.inr (.inl (t, rs.set i.toNatClampNeg (some (q + 1))))), h.2.2)) else none
      | none => none
    | _, _ => none
  | .null :: .int i :: .ref k :: r => match k with
    | 0 => none
    | k + 1 => match zz_rar h (k + 1) with
      | some (t, rs) => if zz_inb i rs.length = true ∧ t = 5 then zz_go (pc + 1) lv r (h.1, (zz_up h.2.1 (k + 1) (.inr (.inl (t, rs.set i.toNatClampNeg none))), h.2.2)) else none
      | none => none
  | _ => none
/-- a byte -/
def yy_fb (x : Int32) : Bool := decide (-128 ≤ x ∧ x ≤ 127)
/-- a copy of a row: of ints (0), of bytes (2), of rows of ints (5) -/
def yy_cln (t pc : Nat) (lv : zz_V) (st : List Value) (h : zz_H) : Option zz_O := match st with
  | .ref k :: r => match k with
    | 0 => none
    | k + 1 => if (r.map fun v => v.category).sum ≤ 8 then (match zz_lay h (k + 1) with
      | some (.inl (u, n)) => if u = t ∧ (t = 0 ∨ (t = 2 ∧ (List.range n).all (fun j => yy_fb (h.2.2 (k + 1) j)) = true)) then zz_go (pc + 3) lv (.ref (h.1.1 + 1) :: r) ((h.1.1 + 1, h.1.2 + n), (zz_up h.2.1 (h.1.1 + 1) (.inl (t, n)), zz_up h.2.2 (h.1.1 + 1) (h.2.2 (k + 1)))) else none
      | some (.inr (.inl (u, rs))) => if u = t ∧ t = 5 then zz_go (pc + 3) lv (.ref (h.1.1 + 1) :: r) ((h.1.1 + 1, h.1.2 + rs.length), (zz_up h.2.1 (h.1.1 + 1) (.inr (.inl (t, rs))), h.2.2)) else none
      | _ => none) else none
  | _ => none
/-- the cast of a row to what it is -/
def yy_cst (t pc : Nat) (lv : zz_V) (st : List Value) (h : zz_H) : Option zz_O := match st with
  | .ref k :: r => match k with
    | 0 => none
    | k + 1 => match zz_lay h (k + 1) with
      | some (.inl (u, _)) => if u = t ∧ (t = 0 ∨ t = 2) then zz_go (pc + 3) lv (.ref (k + 1) :: r) h else none
      | some (.inr (.inl (u, _))) => if u = t ∧ t = 5 then zz_go (pc + 3) lv (.ref (k + 1) :: r) h else none
      | _ => none
  | _ => none
/-- System.arraycopy of bytes, into a new row; out of a new one, or an old one -/
def yy_src (O : yy_D) (h : zz_H) (k : Nat) : Option (Nat × (Nat → Int32)) :=
  if yy_old k = true then (match O.2 (k - yy_B) with
    | some l => some (l.length, fun j => l.getD j 0)
    | none => none)
  else match zz_arr h k 2 with
    | some n => if k = 0 then none else some (n, h.2.2 k)
    | none => none
def yy_cpy (O : yy_D) (pc : Nat) (lv : zz_V) (st : List Value) (h : zz_H) : Option zz_O := match st with
  | .int n :: .int dp :: .ref a :: .int sp :: .ref b :: r => match a with
    | 0 => none
    | a + 1 => match zz_arr h (a + 1) 2, yy_src O h b with
      | some na, some (nb, f) => if ¬ sp < 0 ∧ ¬ dp < 0 ∧ ¬ n < 0 ∧ sp.toNatClampNeg + n.toNatClampNeg ≤ nb ∧ dp.toNatClampNeg + n.toNatClampNeg ≤ na ∧ (r.map fun v => v.category).sum ≤ 8 ∧ (List.range n.toNatClampNeg).all (fun i => yy_fb (f (sp.toNatClampNeg + i))) = true
          then zz_go (pc + 3) lv r (h.1, (h.2.1, zz_up h.2.2 (a + 1) (va_cpy f (h.2.2 (a + 1)) sp.toNatClampNeg dp.toNatClampNeg n.toNatClampNeg))) else none
      | _, _ => none
  | _ => none
/-- a call on an old text -/
def yy_cv (O : yy_D) (m n ci : Nat) (st : List Value) : Option zz_O := match st.drop n with
  | .ref k :: r => if n ≤ st.length ∧ yy_old k = true ∧ k - yy_B < O.1 ∧ ci = 14 then zz_call m (.ref k :: (st.take n).reverse) r else none
  | _ => none
def yy_more (O : yy_D) (X : yy_X) (rt : Nat) (e : zz_I) (pc : Nat) (lv : zz_V) (st : List Value) (h : zz_H) : Option zz_O :=
  match e with
  | (i, (x, y, u, _), v, _) => match i with
    | .ldc _ => match v with
      | .ref k => zz_go (pc + 2) lv (.ref k :: st) h
      | _ => none
    | .ldc_w _ => match v with
      | .ref k => zz_go (pc + 3) lv (.ref k :: st) h
      | _ => none
    | .getstatic _ => match v with
      | .int a => zz_go (pc + 3) lv (.int a :: st) h
      | .ref k => zz_go (pc + 3) lv (.ref k :: st) h
      | .null => match X.2 with
        | true => zz_go (pc + 3) lv (.ref (yy_B + 300) :: st) h
        | false => zz_go (pc + 3) lv (.null :: st) h
      | _ => none
    | .getfield _ => yy_get O x y pc lv st h
    | .arraylength => yy_len O pc lv st h
    | .baload => yy_bal O pc lv st h
    | .aaload => yy_aal pc lv st h
    | .aastore => yy_aas pc lv st h
    | .checkcast _ => yy_cst x pc lv st h
    | .ishl => zz_i2 (fun a b => a <<< (b &&& 31)) pc lv st h
    | .i2c => match st with
      | .int a :: r => zz_go (pc + 1) lv (.int (a.toUInt32 % 65536).toInt32 :: r) h
      | _ => none
    | .lrem => match st with
      | .long b :: .long a :: r => if b = 0 then none else zz_go (pc + 1) lv (.long (a - a / b * b) :: r) h
      | _ => none
    | .invokestatic _ => if x = 100001 then yy_cpy O pc lv st h else none
    | .invokevirtual _ => if 100005 ≤ x then yy_cln (x - 100005) pc lv st h else yy_cv O x y u st
    | .ireturn => match st with
      | [.int a] => if (rt = 4 ∧ (0 ≤ a ∧ a ≤ 65535)) ∨ (rt = 5 ∧ (a = 0 ∨ a = 1)) then some (.inr (.inl (pc, some (.int a), h))) else none
      | _ => none
    | _ => none
def yy_step (O : yy_D) (X : yy_X) (us : Nat → List Nat) (rt : Nat) (e : zz_I) (pc : Nat) (lv : zz_V) (st : List Value) (h : zz_H) : Option zz_O :=
  match zz_step X.1 us rt e pc lv st h with
  | some o => some o
  | none => yy_more O X rt e pc lv st h
/-- so many steps of a method -/
def yy_walk (O : yy_D) (P : zz_P) (us : Nat → List Nat) (X : yy_X) : Nat → Nat → zz_S → Option (zz_S ⊕ zz_R)
  | 0, _, s => some (.inl s)
  | n + 1, m, (pc, lv, st, h) => match P.1 m pc with
    | none => none
    | some e => match yy_step O X us (P.2.1 m) e pc lv st h with
      | none => none
      | some (.inl s) => yy_walk O P us X n m s
      | some (.inr (.inl r)) => some (.inr r)
      | some (.inr (.inr (m', as, rest))) => if (zz_in as 0).length ≤ P.2.2 m' then (match yy_walk O P us X n m' (0, zz_in as (P.2.2 m'), [], h) with
        | some (.inr (_, v, h')) => yy_walk O P us X n m (pc + 3, lv, v.toList ++ rest, h')
        | _ => none) else none
