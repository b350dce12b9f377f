/-! what each opcode gives, read off the bytes behind a place: the check of the instructions goes by it -/
theorem fd_u1 {code : ByteArray} {q : Nat} {a : UInt8} {r : List UInt8} (h : code.data.toList.drop q = a :: r) : (Jvm.ClassFile.Reader.u1 : Jvm.ClassFile.Decoder Nat) code q = .ok (a.toNat, q + 1) ∧ code.data.toList.drop (q + 1) = r := by
  have hl : q < code.data.toList.length := by
    rcases Nat.lt_or_ge q code.data.toList.length with g | g
    · exact g
    · rw [List.drop_eq_nil_of_le g] at h
      cases h
  have h2 := List.drop_eq_getElem_cons hl
  rw [h2] at h
  have h3 := (List.cons.inj h).1
  have hs : q < code.size := by
    show q < code.data.size
    rw [← Array.length_toList]
    exact hl
  refine ⟨?_, (List.cons.inj h).2⟩
  have h4 : code[q]'hs = a := h3
  unfold Jvm.ClassFile.Reader.u1
  show (dite (q < code.size) (fun h => (do set (q + 1); pure (code[q]'h).toNat : Jvm.ClassFile.Decoder Nat)) (fun _ => throw (Jvm.ClassFile.HasTruncated.truncated q))) code q = _
  rw [dif_pos hs, h4]
  rfl
theorem fd_bind {α β : Type} (m : Jvm.ClassFile.Decoder α) (f : α → Jvm.ClassFile.Decoder β) {code : ByteArray} {q q' : Nat} {v : α} (h : m code q = .ok (v, q')) : (m >>= f) code q = f v code q' := by
  show Except.bind (m code q) _ = _
  rw [h]
  rfl
theorem fd_map {α β : Type} (m : Jvm.ClassFile.Decoder α) (f : α → β) {code : ByteArray} {q q' : Nat} {v : α} (h : m code q = .ok (v, q')) : (f <$> m) code q = .ok (f v, q') := by
  show Except.bind (m code q) _ = _
  rw [h]
  rfl
theorem fd_u2 {code : ByteArray} {q : Nat} {a b : UInt8} {r : List UInt8} (h : code.data.toList.drop q = a :: b :: r) : (Jvm.ClassFile.Reader.u2 : Jvm.ClassFile.Decoder Nat) code q = .ok (a.toNat * 256 + b.toNat, q + 2) := by
  obtain ⟨h1, h2⟩ := fd_u1 h
  obtain ⟨h3, -⟩ := fd_u1 h2
  unfold Jvm.ClassFile.Reader.u2
  rw [fd_bind _ _ h1, fd_bind _ _ h3]
  rfl
theorem fd_dec {code : ByteArray} {q n : Nat} {i : Instr} (h : Jvm.ClassFile.Decoder.instr q code q = .ok (i, n)) : decode code q = .ok (i, n - q) := by
  unfold decode
  show Except.bind (Jvm.ClassFile.Decoder.instr q code q) _ = _
  rw [h]
  rfl
def fd_b (k : Nat) : List UInt8 → Bool
  | a :: _ => Nat.beq a.toNat k
  | _ => false
def fd_u (k n : Nat) : List UInt8 → Bool
  | a :: b :: _ => Nat.beq a.toNat k && Nat.beq b.toNat n
  | _ => false
def fd_s (k : Nat) (n : Int) : List UInt8 → Bool
  | a :: b :: _ => Nat.beq a.toNat k && decide (Jvm.ClassFile.Reader.signed 8 b.toNat = n)
  | _ => false
def fd_U (k n : Nat) : List UInt8 → Bool
  | a :: b :: c :: _ => Nat.beq a.toNat k && Nat.beq (b.toNat * 256 + c.toNat) n
  | _ => false
def fd_S (k : Nat) (n : Int) : List UInt8 → Bool
  | a :: b :: c :: _ => Nat.beq a.toNat k && decide (Jvm.ClassFile.Reader.signed 16 (b.toNat * 256 + c.toNat) = n)
  | _ => false
def fd_I (n : Nat) (v : Int) : List UInt8 → Bool
  | a :: b :: c :: _ => Nat.beq a.toNat 132 && (Nat.beq b.toNat n && decide (Jvm.ClassFile.Reader.signed 8 c.toNat = v))
  | _ => false
abbrev fd_1 (k : Nat) (code : ByteArray) (q : Nat) : Prop := (Jvm.ClassFile.Reader.u1 : Jvm.ClassFile.Decoder Nat) code q = .ok (k, q + 1)
theorem fd_rb {code : ByteArray} {q k : Nat} {l : List UInt8} {i : Instr} (hF : fd_1 k code q → Jvm.ClassFile.Decoder.instr q code q = .ok (i, q + 1)) (hl : code.data.toList.drop q = l) (h : fd_b k l = true) : decode code q = .ok (i, 1) := by
  match l, hl, h with
  | a :: r, hl, h =>
    have e : a.toNat = k := Nat.eq_of_beq_eq_true h
    have h1 := (fd_u1 hl).1
    rw [e] at h1
    rw [fd_dec (hF h1), show q + 1 - q = 1 by omega]
theorem fd_ru {code : ByteArray} {q k n : Nat} {l : List UInt8} {i : Instr} (hF : fd_1 k code q → fd_1 n code (q + 1) → Jvm.ClassFile.Decoder.instr q code q = .ok (i, q + 1 + 1)) (hl : code.data.toList.drop q = l) (h : fd_u k n l = true) : decode code q = .ok (i, 2) := by
  match l, hl, h with
  | a :: b :: r, hl, h =>
    have h : (Nat.beq a.toNat k && Nat.beq b.toNat n) = true := h
    rw [Bool.and_eq_true] at h
    have e : a.toNat = k := Nat.eq_of_beq_eq_true h.1
    have e2 : b.toNat = n := Nat.eq_of_beq_eq_true h.2
    obtain ⟨h1, g⟩ := fd_u1 hl
    obtain ⟨h2, -⟩ := fd_u1 g
    rw [e] at h1
    rw [e2] at h2
    rw [fd_dec (hF h1 h2), show q + 1 + 1 - q = 2 by omega]
theorem fd_rs {code : ByteArray} {q k : Nat} {n : Int} {l : List UInt8} {i : Instr} (hF : fd_1 k code q → (Jvm.ClassFile.Reader.s1 : Jvm.ClassFile.Decoder Int) code (q + 1) = .ok (n, q + 1 + 1) → Jvm.ClassFile.Decoder.instr q code q = .ok (i, q + 1 + 1)) (hl : code.data.toList.drop q = l) (h : fd_s k n l = true) : decode code q = .ok (i, 2) := by
  match l, hl, h with
  | a :: b :: r, hl, h =>
    have h : (Nat.beq a.toNat k && decide (Jvm.ClassFile.Reader.signed 8 b.toNat = n)) = true := h
    rw [Bool.and_eq_true, decide_eq_true_eq] at h
    have e : a.toNat = k := Nat.eq_of_beq_eq_true h.1
    obtain ⟨h1, g⟩ := fd_u1 hl
    obtain ⟨h2, -⟩ := fd_u1 g
    rw [e] at h1
    have h3 := fd_map (Jvm.ClassFile.Reader.u1 : Jvm.ClassFile.Decoder Nat) (Jvm.ClassFile.Reader.signed 8) h2
    rw [h.2] at h3
    rw [fd_dec (hF h1 h3), show q + 1 + 1 - q = 2 by omega]
theorem fd_rU {code : ByteArray} {q k n : Nat} {l : List UInt8} {i : Instr} (hF : fd_1 k code q → (Jvm.ClassFile.Reader.u2 : Jvm.ClassFile.Decoder Nat) code (q + 1) = .ok (n, q + 1 + 2) → Jvm.ClassFile.Decoder.instr q code q = .ok (i, q + 1 + 2)) (hl : code.data.toList.drop q = l) (h : fd_U k n l = true) : decode code q = .ok (i, 3) := by
  match l, hl, h with
  | a :: b :: c :: r, hl, h =>
    have h : (Nat.beq a.toNat k && Nat.beq (b.toNat * 256 + c.toNat) n) = true := h
    rw [Bool.and_eq_true] at h
    have e : a.toNat = k := Nat.eq_of_beq_eq_true h.1
    have e2 : b.toNat * 256 + c.toNat = n := Nat.eq_of_beq_eq_true h.2
    obtain ⟨h1, g⟩ := fd_u1 hl
    have h2 := fd_u2 g
    rw [e] at h1
    rw [e2] at h2
    rw [fd_dec (hF h1 h2), show q + 1 + 2 - q = 3 by omega]
theorem fd_rS {code : ByteArray} {q k : Nat} {n : Int} {l : List UInt8} {i : Instr} (hF : fd_1 k code q → (Jvm.ClassFile.Reader.s2 : Jvm.ClassFile.Decoder Int) code (q + 1) = .ok (n, q + 1 + 2) → Jvm.ClassFile.Decoder.instr q code q = .ok (i, q + 1 + 2)) (hl : code.data.toList.drop q = l) (h : fd_S k n l = true) : decode code q = .ok (i, 3) := by
  match l, hl, h with
  | a :: b :: c :: r, hl, h =>
    have h : (Nat.beq a.toNat k && decide (Jvm.ClassFile.Reader.signed 16 (b.toNat * 256 + c.toNat) = n)) = true := h
    rw [Bool.and_eq_true, decide_eq_true_eq] at h
    have e : a.toNat = k := Nat.eq_of_beq_eq_true h.1
    obtain ⟨h1, g⟩ := fd_u1 hl
    have h2 := fd_u2 g
    rw [e] at h1
    have h3 := fd_map (Jvm.ClassFile.Reader.u2 : Jvm.ClassFile.Decoder Nat) (Jvm.ClassFile.Reader.signed 16) h2
    rw [h.2] at h3
    rw [fd_dec (hF h1 h3), show q + 1 + 2 - q = 3 by omega]
set_option maxRecDepth 20000 in
theorem fd_rI {code : ByteArray} {q n : Nat} {v : Int} {l : List UInt8} (hl : code.data.toList.drop q = l) (h : fd_I n v l = true) : decode code q = .ok (.iinc n v, 3) := by
  match l, hl, h with
  | a :: b :: c :: r, hl, h =>
    have h : (Nat.beq a.toNat 132 && (Nat.beq b.toNat n && decide (Jvm.ClassFile.Reader.signed 8 c.toNat = v))) = true := h
    rw [Bool.and_eq_true, Bool.and_eq_true, decide_eq_true_eq] at h
    have e : a.toNat = 132 := Nat.eq_of_beq_eq_true h.1
    have e2 : b.toNat = n := Nat.eq_of_beq_eq_true h.2.1
    obtain ⟨h1, g⟩ := fd_u1 hl
    obtain ⟨h2, g2⟩ := fd_u1 g
    obtain ⟨h3, -⟩ := fd_u1 g2
    rw [e] at h1
    rw [e2] at h2
    have h4 := fd_map (Jvm.ClassFile.Reader.u1 : Jvm.ClassFile.Decoder Nat) (Jvm.ClassFile.Reader.signed 8) h3
    rw [h.2.2] at h4
    have h5 : Jvm.ClassFile.Decoder.instr q code q = .ok (.iinc n v, q + 1 + 1 + 1) := by
      unfold Jvm.ClassFile.Decoder.instr
      rw [fd_bind _ _ h1]
      exact (fd_bind (Jvm.ClassFile.Reader.u1 : Jvm.ClassFile.Decoder Nat) (fun x => Jvm.ClassFile.Reader.s1 >>= fun y => pure (Instr.iinc x y)) h2).trans ((fd_bind (Jvm.ClassFile.Reader.s1 : Jvm.ClassFile.Decoder Int) (fun y => pure (Instr.iinc n y)) h4).trans rfl)
    rw [fd_dec h5, show q + 1 + 1 + 1 - q = 3 by omega]
def fd_k : Jvm.ClassFile.Cond → Nat
  | .eq => 0
  | .ne => 1
  | .lt => 2
  | .ge => 3
  | .gt => 4
  | .le => 5
def fd_a : ArrayType → Nat
  | .boolean => 4
  | .char => 5
  | .byte => 8
  | .int => 10
  | .long => 11
  | _ => 0
def fd_ic (n : Int) : Nat := (n + 3).toNat
set_option maxRecDepth 20000 in
theorem fd_iload_n {code : ByteArray} {q : Nat} (n : Fin 4) (h1 : fd_1 (26 + n.val) code q) : Jvm.ClassFile.Decoder.instr q code q = .ok (.iload_n n, q + 1) := by
  match n, h1 with
  | 0, h1 => exact by unfold Jvm.ClassFile.Decoder.instr; rw [fd_bind _ _ h1]; rfl
  | 1, h1 => exact by unfold Jvm.ClassFile.Decoder.instr; rw [fd_bind _ _ h1]; rfl
  | 2, h1 => exact by unfold Jvm.ClassFile.Decoder.instr; rw [fd_bind _ _ h1]; rfl
  | 3, h1 => exact by unfold Jvm.ClassFile.Decoder.instr; rw [fd_bind _ _ h1]; rfl
set_option maxRecDepth 20000 in
theorem fd_lload_n {code : ByteArray} {q : Nat} (n : Fin 4) (h1 : fd_1 (30 + n.val) code q) : Jvm.ClassFile.Decoder.instr q code q = .ok (.lload_n n, q + 1) := by
  match n, h1 with
  | 0, h1 => exact by unfold Jvm.ClassFile.Decoder.instr; rw [fd_bind _ _ h1]; rfl
  | 1, h1 => exact by unfold Jvm.ClassFile.Decoder.instr; rw [fd_bind _ _ h1]; rfl
  | 2, h1 => exact by unfold Jvm.ClassFile.Decoder.instr; rw [fd_bind _ _ h1]; rfl
  | 3, h1 => exact by unfold Jvm.ClassFile.Decoder.instr; rw [fd_bind _ _ h1]; rfl
set_option maxRecDepth 20000 in
theorem fd_aload_n {code : ByteArray} {q : Nat} (n : Fin 4) (h1 : fd_1 (42 + n.val) code q) : Jvm.ClassFile.Decoder.instr q code q = .ok (.aload_n n, q + 1) := by
  match n, h1 with
  | 0, h1 => exact by unfold Jvm.ClassFile.Decoder.instr; rw [fd_bind _ _ h1]; rfl
  | 1, h1 => exact by unfold Jvm.ClassFile.Decoder.instr; rw [fd_bind _ _ h1]; rfl
  | 2, h1 => exact by unfold Jvm.ClassFile.Decoder.instr; rw [fd_bind _ _ h1]; rfl
  | 3, h1 => exact by unfold Jvm.ClassFile.Decoder.instr; rw [fd_bind _ _ h1]; rfl
set_option maxRecDepth 20000 in
theorem fd_istore_n {code : ByteArray} {q : Nat} (n : Fin 4) (h1 : fd_1 (59 + n.val) code q) : Jvm.ClassFile.Decoder.instr q code q = .ok (.istore_n n, q + 1) := by
  match n, h1 with
  | 0, h1 => exact by unfold Jvm.ClassFile.Decoder.instr; rw [fd_bind _ _ h1]; rfl
  | 1, h1 => exact by unfold Jvm.ClassFile.Decoder.instr; rw [fd_bind _ _ h1]; rfl
  | 2, h1 => exact by unfold Jvm.ClassFile.Decoder.instr; rw [fd_bind _ _ h1]; rfl
  | 3, h1 => exact by unfold Jvm.ClassFile.Decoder.instr; rw [fd_bind _ _ h1]; rfl
set_option maxRecDepth 20000 in
theorem fd_lstore_n {code : ByteArray} {q : Nat} (n : Fin 4) (h1 : fd_1 (63 + n.val) code q) : Jvm.ClassFile.Decoder.instr q code q = .ok (.lstore_n n, q + 1) := by
  match n, h1 with
  | 0, h1 => exact by unfold Jvm.ClassFile.Decoder.instr; rw [fd_bind _ _ h1]; rfl
  | 1, h1 => exact by unfold Jvm.ClassFile.Decoder.instr; rw [fd_bind _ _ h1]; rfl
  | 2, h1 => exact by unfold Jvm.ClassFile.Decoder.instr; rw [fd_bind _ _ h1]; rfl
  | 3, h1 => exact by unfold Jvm.ClassFile.Decoder.instr; rw [fd_bind _ _ h1]; rfl
set_option maxRecDepth 20000 in
theorem fd_astore_n {code : ByteArray} {q : Nat} (n : Fin 4) (h1 : fd_1 (75 + n.val) code q) : Jvm.ClassFile.Decoder.instr q code q = .ok (.astore_n n, q + 1) := by
  match n, h1 with
  | 0, h1 => exact by unfold Jvm.ClassFile.Decoder.instr; rw [fd_bind _ _ h1]; rfl
  | 1, h1 => exact by unfold Jvm.ClassFile.Decoder.instr; rw [fd_bind _ _ h1]; rfl
  | 2, h1 => exact by unfold Jvm.ClassFile.Decoder.instr; rw [fd_bind _ _ h1]; rfl
  | 3, h1 => exact by unfold Jvm.ClassFile.Decoder.instr; rw [fd_bind _ _ h1]; rfl
set_option maxRecDepth 20000 in
theorem fd_lconst {code : ByteArray} {q : Nat} (n : Fin 2) (h1 : fd_1 (9 + n.val) code q) : Jvm.ClassFile.Decoder.instr q code q = .ok (.lconst n, q + 1) := by
  match n, h1 with
  | 0, h1 => exact by unfold Jvm.ClassFile.Decoder.instr; rw [fd_bind _ _ h1]; rfl
  | 1, h1 => exact by unfold Jvm.ClassFile.Decoder.instr; rw [fd_bind _ _ h1]; rfl
set_option maxRecDepth 20000 in
theorem fd_ifCond {code : ByteArray} {q : Nat} (c : Jvm.ClassFile.Cond) {n : Int} (h1 : fd_1 (153 + fd_k c) code q) (h2 : (Jvm.ClassFile.Reader.s2 : Jvm.ClassFile.Decoder Int) code (q + 1) = .ok (n, q + 1 + 2)) : Jvm.ClassFile.Decoder.instr q code q = .ok (.ifCond c n, q + 1 + 2) := by
  match c, h1 with
  | .eq, h1 => exact by unfold Jvm.ClassFile.Decoder.instr; rw [fd_bind _ _ h1]; exact (fd_bind (Jvm.ClassFile.Reader.s2 : Jvm.ClassFile.Decoder Int) (fun x => pure (Instr.ifCond .eq x)) h2).trans rfl
  | .ne, h1 => exact by unfold Jvm.ClassFile.Decoder.instr; rw [fd_bind _ _ h1]; exact (fd_bind (Jvm.ClassFile.Reader.s2 : Jvm.ClassFile.Decoder Int) (fun x => pure (Instr.ifCond .ne x)) h2).trans rfl
  | .lt, h1 => exact by unfold Jvm.ClassFile.Decoder.instr; rw [fd_bind _ _ h1]; exact (fd_bind (Jvm.ClassFile.Reader.s2 : Jvm.ClassFile.Decoder Int) (fun x => pure (Instr.ifCond .lt x)) h2).trans rfl
  | .ge, h1 => exact by unfold Jvm.ClassFile.Decoder.instr; rw [fd_bind _ _ h1]; exact (fd_bind (Jvm.ClassFile.Reader.s2 : Jvm.ClassFile.Decoder Int) (fun x => pure (Instr.ifCond .ge x)) h2).trans rfl
  | .gt, h1 => exact by unfold Jvm.ClassFile.Decoder.instr; rw [fd_bind _ _ h1]; exact (fd_bind (Jvm.ClassFile.Reader.s2 : Jvm.ClassFile.Decoder Int) (fun x => pure (Instr.ifCond .gt x)) h2).trans rfl
  | .le, h1 => exact by unfold Jvm.ClassFile.Decoder.instr; rw [fd_bind _ _ h1]; exact (fd_bind (Jvm.ClassFile.Reader.s2 : Jvm.ClassFile.Decoder Int) (fun x => pure (Instr.ifCond .le x)) h2).trans rfl
set_option maxRecDepth 20000 in
theorem fd_if_icmp {code : ByteArray} {q : Nat} (c : Jvm.ClassFile.Cond) {n : Int} (h1 : fd_1 (159 + fd_k c) code q) (h2 : (Jvm.ClassFile.Reader.s2 : Jvm.ClassFile.Decoder Int) code (q + 1) = .ok (n, q + 1 + 2)) : Jvm.ClassFile.Decoder.instr q code q = .ok (.if_icmp c n, q + 1 + 2) := by
  match c, h1 with
  | .eq, h1 => exact by unfold Jvm.ClassFile.Decoder.instr; rw [fd_bind _ _ h1]; exact (fd_bind (Jvm.ClassFile.Reader.s2 : Jvm.ClassFile.Decoder Int) (fun x => pure (Instr.if_icmp .eq x)) h2).trans rfl
  | .ne, h1 => exact by unfold Jvm.ClassFile.Decoder.instr; rw [fd_bind _ _ h1]; exact (fd_bind (Jvm.ClassFile.Reader.s2 : Jvm.ClassFile.Decoder Int) (fun x => pure (Instr.if_icmp .ne x)) h2).trans rfl
  | .lt, h1 => exact by unfold Jvm.ClassFile.Decoder.instr; rw [fd_bind _ _ h1]; exact (fd_bind (Jvm.ClassFile.Reader.s2 : Jvm.ClassFile.Decoder Int) (fun x => pure (Instr.if_icmp .lt x)) h2).trans rfl
  | .ge, h1 => exact by unfold Jvm.ClassFile.Decoder.instr; rw [fd_bind _ _ h1]; exact (fd_bind (Jvm.ClassFile.Reader.s2 : Jvm.ClassFile.Decoder Int) (fun x => pure (Instr.if_icmp .ge x)) h2).trans rfl
  | .gt, h1 => exact by unfold Jvm.ClassFile.Decoder.instr; rw [fd_bind _ _ h1]; exact (fd_bind (Jvm.ClassFile.Reader.s2 : Jvm.ClassFile.Decoder Int) (fun x => pure (Instr.if_icmp .gt x)) h2).trans rfl
  | .le, h1 => exact by unfold Jvm.ClassFile.Decoder.instr; rw [fd_bind _ _ h1]; exact (fd_bind (Jvm.ClassFile.Reader.s2 : Jvm.ClassFile.Decoder Int) (fun x => pure (Instr.if_icmp .le x)) h2).trans rfl
set_option maxRecDepth 20000 in
theorem fd_newarray {code : ByteArray} {q : Nat} (t : ArrayType) (ht : 0 < fd_a t) (h1 : fd_1 188 code q) (h2 : fd_1 (fd_a t) code (q + 1)) : Jvm.ClassFile.Decoder.instr q code q = .ok (.newarray t, q + 1 + 1) := by
  match t, ht, h2 with
  | .boolean, ht, h2 => exact by unfold Jvm.ClassFile.Decoder.instr; rw [fd_bind _ _ h1]; show Jvm.ClassFile.Decoder.newarray q code (q + 1) = _; unfold Jvm.ClassFile.Decoder.newarray; rw [fd_bind _ _ h2]; rfl
  | .char, ht, h2 => exact by unfold Jvm.ClassFile.Decoder.instr; rw [fd_bind _ _ h1]; show Jvm.ClassFile.Decoder.newarray q code (q + 1) = _; unfold Jvm.ClassFile.Decoder.newarray; rw [fd_bind _ _ h2]; rfl
  | .byte, ht, h2 => exact by unfold Jvm.ClassFile.Decoder.instr; rw [fd_bind _ _ h1]; show Jvm.ClassFile.Decoder.newarray q code (q + 1) = _; unfold Jvm.ClassFile.Decoder.newarray; rw [fd_bind _ _ h2]; rfl
  | .int, ht, h2 => exact by unfold Jvm.ClassFile.Decoder.instr; rw [fd_bind _ _ h1]; show Jvm.ClassFile.Decoder.newarray q code (q + 1) = _; unfold Jvm.ClassFile.Decoder.newarray; rw [fd_bind _ _ h2]; rfl
  | .long, ht, h2 => exact by unfold Jvm.ClassFile.Decoder.instr; rw [fd_bind _ _ h1]; show Jvm.ClassFile.Decoder.newarray q code (q + 1) = _; unfold Jvm.ClassFile.Decoder.newarray; rw [fd_bind _ _ h2]; rfl
  | .float, ht, h2 => exact absurd ht (by decide)
  | .double, ht, h2 => exact absurd ht (by decide)
  | .short, ht, h2 => exact absurd ht (by decide)
set_option maxRecDepth 20000 in
theorem fd_iconst {code : ByteArray} {q : Nat} {l : List UInt8} (hl : code.data.toList.drop q = l) {n : Int} (h : (decide (-1 ≤ n) && (decide (n ≤ 5) && fd_b (fd_ic n) l)) = true) : decode code q = .ok (.iconst n, 1) := by
  rw [Bool.and_eq_true, Bool.and_eq_true, decide_eq_true_eq, decide_eq_true_eq] at h
  obtain ⟨ha, hb, h⟩ := h
  have hc : n = -1 ∨ n = 0 ∨ n = 1 ∨ n = 2 ∨ n = 3 ∨ n = 4 ∨ n = 5 := by omega
  rcases hc with rfl | rfl | rfl | rfl | rfl | rfl | rfl
  · exact fd_rb (k := 2) (fun h1 => by unfold Jvm.ClassFile.Decoder.instr; rw [fd_bind _ _ h1]; rfl) hl h
  · exact fd_rb (k := 3) (fun h1 => by unfold Jvm.ClassFile.Decoder.instr; rw [fd_bind _ _ h1]; rfl) hl h
  · exact fd_rb (k := 4) (fun h1 => by unfold Jvm.ClassFile.Decoder.instr; rw [fd_bind _ _ h1]; rfl) hl h
  · exact fd_rb (k := 5) (fun h1 => by unfold Jvm.ClassFile.Decoder.instr; rw [fd_bind _ _ h1]; rfl) hl h
  · exact fd_rb (k := 6) (fun h1 => by unfold Jvm.ClassFile.Decoder.instr; rw [fd_bind _ _ h1]; rfl) hl h
  · exact fd_rb (k := 7) (fun h1 => by unfold Jvm.ClassFile.Decoder.instr; rw [fd_bind _ _ h1]; rfl) hl h
  · exact fd_rb (k := 8) (fun h1 => by unfold Jvm.ClassFile.Decoder.instr; rw [fd_bind _ _ h1]; rfl) hl h
/-- does the instruction stand there? (switches, and what nobody uses here, not) -/
def fd_c (i : Instr) (l : List UInt8) : Bool := match i with
  | .aconst_null => fd_b 1 l
  | .iaload => fd_b 46 l
  | .laload => fd_b 47 l
  | .aaload => fd_b 50 l
  | .baload => fd_b 51 l
  | .caload => fd_b 52 l
  | .iastore => fd_b 79 l
  | .lastore => fd_b 80 l
  | .aastore => fd_b 83 l
  | .bastore => fd_b 84 l
  | .castore => fd_b 85 l
  | .pop => fd_b 87 l
  | .pop2 => fd_b 88 l
  | .dup => fd_b 89 l
  | .dup_x1 => fd_b 90 l
  | .dup_x2 => fd_b 91 l
  | .dup2 => fd_b 92 l
  | .dup2_x1 => fd_b 93 l
  | .swap => fd_b 95 l
  | .iadd => fd_b 96 l
  | .ladd => fd_b 97 l
  | .isub => fd_b 100 l
  | .lsub => fd_b 101 l
  | .imul => fd_b 104 l
  | .lmul => fd_b 105 l
  | .idiv => fd_b 108 l
  | .ldiv => fd_b 109 l
  | .irem => fd_b 112 l
  | .lrem => fd_b 113 l
  | .ineg => fd_b 116 l
  | .lneg => fd_b 117 l
  | .ishl => fd_b 120 l
  | .lshl => fd_b 121 l
  | .ishr => fd_b 122 l
  | .lshr => fd_b 123 l
  | .iushr => fd_b 124 l
  | .lushr => fd_b 125 l
  | .iand => fd_b 126 l
  | .land => fd_b 127 l
  | .ior => fd_b 128 l
  | .lor => fd_b 129 l
  | .ixor => fd_b 130 l
  | .lxor => fd_b 131 l
  | .i2l => fd_b 133 l
  | .l2i => fd_b 136 l
  | .i2b => fd_b 145 l
  | .i2c => fd_b 146 l
  | .i2s => fd_b 147 l
  | .lcmp => fd_b 148 l
  | .ireturn => fd_b 172 l
  | .lreturn => fd_b 173 l
  | .areturn => fd_b 176 l
  | .return_ => fd_b 177 l
  | .arraylength => fd_b 190 l
  | .athrow => fd_b 191 l
  | .iload_n n => fd_b (26 + n.val) l
  | .lload_n n => fd_b (30 + n.val) l
  | .aload_n n => fd_b (42 + n.val) l
  | .istore_n n => fd_b (59 + n.val) l
  | .lstore_n n => fd_b (63 + n.val) l
  | .astore_n n => fd_b (75 + n.val) l
  | .lconst n => fd_b (9 + n.val) l
  | .iconst n => decide (-1 ≤ n) && (decide (n ≤ 5) && fd_b (fd_ic n) l)
  | .ldc n => fd_u 18 n l
  | .iload n => fd_u 21 n l
  | .lload n => fd_u 22 n l
  | .aload n => fd_u 25 n l
  | .istore n => fd_u 54 n l
  | .lstore n => fd_u 55 n l
  | .astore n => fd_u 58 n l
  | .bipush n => fd_s 16 n l
  | .ldc_w n => fd_U 19 n l
  | .ldc2_w n => fd_U 20 n l
  | .getfield n => fd_U 180 n l
  | .putfield n => fd_U 181 n l
  | .invokevirtual n => fd_U 182 n l
  | .invokespecial n => fd_U 183 n l
  | .invokestatic n => fd_U 184 n l
  | .new n => fd_U 187 n l
  | .anewarray n => fd_U 189 n l
  | .sipush n => fd_S 17 n l
  | .goto n => fd_S 167 n l
  | .ifnull n => fd_S 198 n l
  | .ifnonnull n => fd_S 199 n l
  | .ifCond c n => fd_S (153 + fd_k c) n l
  | .if_icmp c n => fd_S (159 + fd_k c) n l
  | .iinc n v => fd_I n v l
  | .newarray t => Nat.blt 0 (fd_a t) && fd_u 188 (fd_a t) l
  | _ => false
/-- how many bytes it has -/
def fd_n (i : Instr) : Nat := match i with
  | .aconst_null => 1
  | .iaload => 1
  | .laload => 1
  | .aaload => 1
  | .baload => 1
  | .caload => 1
  | .iastore => 1
  | .lastore => 1
  | .aastore => 1
  | .bastore => 1
  | .castore => 1
  | .pop => 1
  | .pop2 => 1
  | .dup => 1
  | .dup_x1 => 1
  | .dup_x2 => 1
  | .dup2 => 1
  | .dup2_x1 => 1
  | .swap => 1
  | .iadd => 1
  | .ladd => 1
  | .isub => 1
  | .lsub => 1
  | .imul => 1
  | .lmul => 1
  | .idiv => 1
  | .ldiv => 1
  | .irem => 1
  | .lrem => 1
  | .ineg => 1
  | .lneg => 1
  | .ishl => 1
  | .lshl => 1
  | .ishr => 1
  | .lshr => 1
  | .iushr => 1
  | .lushr => 1
  | .iand => 1
  | .land => 1
  | .ior => 1
  | .lor => 1
  | .ixor => 1
  | .lxor => 1
  | .i2l => 1
  | .l2i => 1
  | .i2b => 1
  | .i2c => 1
  | .i2s => 1
  | .lcmp => 1
  | .ireturn => 1
  | .lreturn => 1
  | .areturn => 1
  | .return_ => 1
  | .arraylength => 1
  | .athrow => 1
  | .iload_n n => 1
  | .lload_n n => 1
  | .aload_n n => 1
  | .istore_n n => 1
  | .lstore_n n => 1
  | .astore_n n => 1
  | .lconst n => 1
  | .iconst n => 1
  | .ldc n => 2
  | .iload n => 2
  | .lload n => 2
  | .aload n => 2
  | .istore n => 2
  | .lstore n => 2
  | .astore n => 2
  | .bipush n => 2
  | .ldc_w n => 3
  | .ldc2_w n => 3
  | .getfield n => 3
  | .putfield n => 3
  | .invokevirtual n => 3
  | .invokespecial n => 3
  | .invokestatic n => 3
  | .new n => 3
  | .anewarray n => 3
  | .sipush n => 3
  | .goto n => 3
  | .ifnull n => 3
  | .ifnonnull n => 3
  | .ifCond c n => 3
  | .if_icmp c n => 3
  | .iinc n v => 3
  | .newarray t => 2
  | _ => 0
set_option maxRecDepth 20000 in
theorem fd_ok {code : ByteArray} {q : Nat} {l : List UInt8} (hl : code.data.toList.drop q = l) {i : Instr} (h : fd_c i l = true) : decode code q = .ok (i, fd_n i) := by
  cases i
  case aconst_null => exact fd_rb (k := 1) (fun h1 => by unfold Jvm.ClassFile.Decoder.instr; rw [fd_bind _ _ h1]; rfl) hl h
  case iaload => exact fd_rb (k := 46) (fun h1 => by unfold Jvm.ClassFile.Decoder.instr; rw [fd_bind _ _ h1]; rfl) hl h
  case laload => exact fd_rb (k := 47) (fun h1 => by unfold Jvm.ClassFile.Decoder.instr; rw [fd_bind _ _ h1]; rfl) hl h
  case aaload => exact fd_rb (k := 50) (fun h1 => by unfold Jvm.ClassFile.Decoder.instr; rw [fd_bind _ _ h1]; rfl) hl h
  case baload => exact fd_rb (k := 51) (fun h1 => by unfold Jvm.ClassFile.Decoder.instr; rw [fd_bind _ _ h1]; rfl) hl h
  case caload => exact fd_rb (k := 52) (fun h1 => by unfold Jvm.ClassFile.Decoder.instr; rw [fd_bind _ _ h1]; rfl) hl h
  case iastore => exact fd_rb (k := 79) (fun h1 => by unfold Jvm.ClassFile.Decoder.instr; rw [fd_bind _ _ h1]; rfl) hl h
  case lastore => exact fd_rb (k := 80) (fun h1 => by unfold Jvm.ClassFile.Decoder.instr; rw [fd_bind _ _ h1]; rfl) hl h
  case aastore => exact fd_rb (k := 83) (fun h1 => by unfold Jvm.ClassFile.Decoder.instr; rw [fd_bind _ _ h1]; rfl) hl h
  case bastore => exact fd_rb (k := 84) (fun h1 => by unfold Jvm.ClassFile.Decoder.instr; rw [fd_bind _ _ h1]; rfl) hl h
  case castore => exact fd_rb (k := 85) (fun h1 => by unfold Jvm.ClassFile.Decoder.instr; rw [fd_bind _ _ h1]; rfl) hl h
  case pop => exact fd_rb (k := 87) (fun h1 => by unfold Jvm.ClassFile.Decoder.instr; rw [fd_bind _ _ h1]; rfl) hl h
  case pop2 => exact fd_rb (k := 88) (fun h1 => by unfold Jvm.ClassFile.Decoder.instr; rw [fd_bind _ _ h1]; rfl) hl h
  case dup => exact fd_rb (k := 89) (fun h1 => by unfold Jvm.ClassFile.Decoder.instr; rw [fd_bind _ _ h1]; rfl) hl h
  case dup_x1 => exact fd_rb (k := 90) (fun h1 => by unfold Jvm.ClassFile.Decoder.instr; rw [fd_bind _ _ h1]; rfl) hl h
  case dup_x2 => exact fd_rb (k := 91) (fun h1 => by unfold Jvm.ClassFile.Decoder.instr; rw [fd_bind _ _ h1]; rfl) hl h
  case dup2 => exact fd_rb (k := 92) (fun h1 => by unfold Jvm.ClassFile.Decoder.instr; rw [fd_bind _ _ h1]; rfl) hl h
  case dup2_x1 => exact fd_rb (k := 93) (fun h1 => by unfold Jvm.ClassFile.Decoder.instr; rw [fd_bind _ _ h1]; rfl) hl h
  case swap => exact fd_rb (k := 95) (fun h1 => by unfold Jvm.ClassFile.Decoder.instr; rw [fd_bind _ _ h1]; rfl) hl h
  case iadd => exact fd_rb (k := 96) (fun h1 => by unfold Jvm.ClassFile.Decoder.instr; rw [fd_bind _ _ h1]; rfl) hl h
  case ladd => exact fd_rb (k := 97) (fun h1 => by unfold Jvm.ClassFile.Decoder.instr; rw [fd_bind _ _ h1]; rfl) hl h
  case isub => exact fd_rb (k := 100) (fun h1 => by unfold Jvm.ClassFile.Decoder.instr; rw [fd_bind _ _ h1]; rfl) hl h
  case lsub => exact fd_rb (k := 101) (fun h1 => by unfold Jvm.ClassFile.Decoder.instr; rw [fd_bind _ _ h1]; rfl) hl h
  case imul => exact fd_rb (k := 104) (fun h1 => by unfold Jvm.ClassFile.Decoder.instr; rw [fd_bind _ _ h1]; rfl) hl h
  case lmul => exact fd_rb (k := 105) (fun h1 => by unfold Jvm.ClassFile.Decoder.instr; rw [fd_bind _ _ h1]; rfl) hl h
  case idiv => exact fd_rb (k := 108) (fun h1 => by unfold Jvm.ClassFile.Decoder.instr; rw [fd_bind _ _ h1]; rfl) hl h
  case ldiv => exact fd_rb (k := 109) (fun h1 => by unfold Jvm.ClassFile.Decoder.instr; rw [fd_bind _ _ h1]; rfl) hl h
  case irem => exact fd_rb (k := 112) (fun h1 => by unfold Jvm.ClassFile.Decoder.instr; rw [fd_bind _ _ h1]; rfl) hl h
  case lrem => exact fd_rb (k := 113) (fun h1 => by unfold Jvm.ClassFile.Decoder.instr; rw [fd_bind _ _ h1]; rfl) hl h
  case ineg => exact fd_rb (k := 116) (fun h1 => by unfold Jvm.ClassFile.Decoder.instr; rw [fd_bind _ _ h1]; rfl) hl h
  case lneg => exact fd_rb (k := 117) (fun h1 => by unfold Jvm.ClassFile.Decoder.instr; rw [fd_bind _ _ h1]; rfl) hl h
  case ishl => exact fd_rb (k := 120) (fun h1 => by unfold Jvm.ClassFile.Decoder.instr; rw [fd_bind _ _ h1]; rfl) hl h
  case lshl => exact fd_rb (k := 121) (fun h1 => by unfold Jvm.ClassFile.Decoder.instr; rw [fd_bind _ _ h1]; rfl) hl h
  case ishr => exact fd_rb (k := 122) (fun h1 => by unfold Jvm.ClassFile.Decoder.instr; rw [fd_bind _ _ h1]; rfl) hl h
  case lshr => exact fd_rb (k := 123) (fun h1 => by unfold Jvm.ClassFile.Decoder.instr; rw [fd_bind _ _ h1]; rfl) hl h
  case iushr => exact fd_rb (k := 124) (fun h1 => by unfold Jvm.ClassFile.Decoder.instr; rw [fd_bind _ _ h1]; rfl) hl h
  case lushr => exact fd_rb (k := 125) (fun h1 => by unfold Jvm.ClassFile.Decoder.instr; rw [fd_bind _ _ h1]; rfl) hl h
  case iand => exact fd_rb (k := 126) (fun h1 => by unfold Jvm.ClassFile.Decoder.instr; rw [fd_bind _ _ h1]; rfl) hl h
  case land => exact fd_rb (k := 127) (fun h1 => by unfold Jvm.ClassFile.Decoder.instr; rw [fd_bind _ _ h1]; rfl) hl h
  case ior => exact fd_rb (k := 128) (fun h1 => by unfold Jvm.ClassFile.Decoder.instr; rw [fd_bind _ _ h1]; rfl) hl h
  case lor => exact fd_rb (k := 129) (fun h1 => by unfold Jvm.ClassFile.Decoder.instr; rw [fd_bind _ _ h1]; rfl) hl h
  case ixor => exact fd_rb (k := 130) (fun h1 => by unfold Jvm.ClassFile.Decoder.instr; rw [fd_bind _ _ h1]; rfl) hl h
  case lxor => exact fd_rb (k := 131) (fun h1 => by unfold Jvm.ClassFile.Decoder.instr; rw [fd_bind _ _ h1]; rfl) hl h
  case i2l => exact fd_rb (k := 133) (fun h1 => by unfold Jvm.ClassFile.Decoder.instr; rw [fd_bind _ _ h1]; rfl) hl h
  case l2i => exact fd_rb (k := 136) (fun h1 => by unfold Jvm.ClassFile.Decoder.instr; rw [fd_bind _ _ h1]; rfl) hl h
  case i2b => exact fd_rb (k := 145) (fun h1 => by unfold Jvm.ClassFile.Decoder.instr; rw [fd_bind _ _ h1]; rfl) hl h
  case i2c => exact fd_rb (k := 146) (fun h1 => by unfold Jvm.ClassFile.Decoder.instr; rw [fd_bind _ _ h1]; rfl) hl h
  case i2s => exact fd_rb (k := 147) (fun h1 => by unfold Jvm.ClassFile.Decoder.instr; rw [fd_bind _ _ h1]; rfl) hl h
  case lcmp => exact fd_rb (k := 148) (fun h1 => by unfold Jvm.ClassFile.Decoder.instr; rw [fd_bind _ _ h1]; rfl) hl h
  case ireturn => exact fd_rb (k := 172) (fun h1 => by unfold Jvm.ClassFile.Decoder.instr; rw [fd_bind _ _ h1]; rfl) hl h
  case lreturn => exact fd_rb (k := 173) (fun h1 => by unfold Jvm.ClassFile.Decoder.instr; rw [fd_bind _ _ h1]; rfl) hl h
  case areturn => exact fd_rb (k := 176) (fun h1 => by unfold Jvm.ClassFile.Decoder.instr; rw [fd_bind _ _ h1]; rfl) hl h
  case return_ => exact fd_rb (k := 177) (fun h1 => by unfold Jvm.ClassFile.Decoder.instr; rw [fd_bind _ _ h1]; rfl) hl h
  case arraylength => exact fd_rb (k := 190) (fun h1 => by unfold Jvm.ClassFile.Decoder.instr; rw [fd_bind _ _ h1]; rfl) hl h
  case athrow => exact fd_rb (k := 191) (fun h1 => by unfold Jvm.ClassFile.Decoder.instr; rw [fd_bind _ _ h1]; rfl) hl h
  case iload_n n => exact fd_rb (k := 26 + n.val) (fun h1 => fd_iload_n n h1) hl h
  case lload_n n => exact fd_rb (k := 30 + n.val) (fun h1 => fd_lload_n n h1) hl h
  case aload_n n => exact fd_rb (k := 42 + n.val) (fun h1 => fd_aload_n n h1) hl h
  case istore_n n => exact fd_rb (k := 59 + n.val) (fun h1 => fd_istore_n n h1) hl h
  case lstore_n n => exact fd_rb (k := 63 + n.val) (fun h1 => fd_lstore_n n h1) hl h
  case astore_n n => exact fd_rb (k := 75 + n.val) (fun h1 => fd_astore_n n h1) hl h
  case lconst n => exact fd_rb (k := 9 + n.val) (fun h1 => fd_lconst n h1) hl h
  case iconst n => exact fd_iconst hl h
  case ldc n => exact fd_ru (k := 18) (fun h1 h2 => by unfold Jvm.ClassFile.Decoder.instr; rw [fd_bind _ _ h1]; exact (fd_bind (Jvm.ClassFile.Reader.u1 : Jvm.ClassFile.Decoder Nat) (fun x => pure (Instr.ldc x)) h2).trans rfl) hl h
  case iload n => exact fd_ru (k := 21) (fun h1 h2 => by unfold Jvm.ClassFile.Decoder.instr; rw [fd_bind _ _ h1]; exact (fd_bind (Jvm.ClassFile.Reader.u1 : Jvm.ClassFile.Decoder Nat) (fun x => pure (Instr.iload x)) h2).trans rfl) hl h
  case lload n => exact fd_ru (k := 22) (fun h1 h2 => by unfold Jvm.ClassFile.Decoder.instr; rw [fd_bind _ _ h1]; exact (fd_bind (Jvm.ClassFile.Reader.u1 : Jvm.ClassFile.Decoder Nat) (fun x => pure (Instr.lload x)) h2).trans rfl) hl h
  case aload n => exact fd_ru (k := 25) (fun h1 h2 => by unfold Jvm.ClassFile.Decoder.instr; rw [fd_bind _ _ h1]; exact (fd_bind (Jvm.ClassFile.Reader.u1 : Jvm.ClassFile.Decoder Nat) (fun x => pure (Instr.aload x)) h2).trans rfl) hl h
  case istore n => exact fd_ru (k := 54) (fun h1 h2 => by unfold Jvm.ClassFile.Decoder.instr; rw [fd_bind _ _ h1]; exact (fd_bind (Jvm.ClassFile.Reader.u1 : Jvm.ClassFile.Decoder Nat) (fun x => pure (Instr.istore x)) h2).trans rfl) hl h
  case lstore n => exact fd_ru (k := 55) (fun h1 h2 => by unfold Jvm.ClassFile.Decoder.instr; rw [fd_bind _ _ h1]; exact (fd_bind (Jvm.ClassFile.Reader.u1 : Jvm.ClassFile.Decoder Nat) (fun x => pure (Instr.lstore x)) h2).trans rfl) hl h
  case astore n => exact fd_ru (k := 58) (fun h1 h2 => by unfold Jvm.ClassFile.Decoder.instr; rw [fd_bind _ _ h1]; exact (fd_bind (Jvm.ClassFile.Reader.u1 : Jvm.ClassFile.Decoder Nat) (fun x => pure (Instr.astore x)) h2).trans rfl) hl h
  case bipush n => exact fd_rs (k := 16) (fun h1 h2 => by unfold Jvm.ClassFile.Decoder.instr; rw [fd_bind _ _ h1]; exact (fd_bind (Jvm.ClassFile.Reader.s1 : Jvm.ClassFile.Decoder Int) (fun x => pure (Instr.bipush x)) h2).trans rfl) hl h
  case ldc_w n => exact fd_rU (k := 19) (fun h1 h2 => by unfold Jvm.ClassFile.Decoder.instr; rw [fd_bind _ _ h1]; exact (fd_bind (Jvm.ClassFile.Reader.u2 : Jvm.ClassFile.Decoder Nat) (fun x => pure (Instr.ldc_w x)) h2).trans rfl) hl h
  case ldc2_w n => exact fd_rU (k := 20) (fun h1 h2 => by unfold Jvm.ClassFile.Decoder.instr; rw [fd_bind _ _ h1]; exact (fd_bind (Jvm.ClassFile.Reader.u2 : Jvm.ClassFile.Decoder Nat) (fun x => pure (Instr.ldc2_w x)) h2).trans rfl) hl h
  case getfield n => exact fd_rU (k := 180) (fun h1 h2 => by unfold Jvm.ClassFile.Decoder.instr; rw [fd_bind _ _ h1]; exact (fd_bind (Jvm.ClassFile.Reader.u2 : Jvm.ClassFile.Decoder Nat) (fun x => pure (Instr.getfield x)) h2).trans rfl) hl h
  case putfield n => exact fd_rU (k := 181) (fun h1 h2 => by unfold Jvm.ClassFile.Decoder.instr; rw [fd_bind _ _ h1]; exact (fd_bind (Jvm.ClassFile.Reader.u2 : Jvm.ClassFile.Decoder Nat) (fun x => pure (Instr.putfield x)) h2).trans rfl) hl h
  case invokevirtual n => exact fd_rU (k := 182) (fun h1 h2 => by unfold Jvm.ClassFile.Decoder.instr; rw [fd_bind _ _ h1]; exact (fd_bind (Jvm.ClassFile.Reader.u2 : Jvm.ClassFile.Decoder Nat) (fun x => pure (Instr.invokevirtual x)) h2).trans rfl) hl h
  case invokespecial n => exact fd_rU (k := 183) (fun h1 h2 => by unfold Jvm.ClassFile.Decoder.instr; rw [fd_bind _ _ h1]; exact (fd_bind (Jvm.ClassFile.Reader.u2 : Jvm.ClassFile.Decoder Nat) (fun x => pure (Instr.invokespecial x)) h2).trans rfl) hl h
  case invokestatic n => exact fd_rU (k := 184) (fun h1 h2 => by unfold Jvm.ClassFile.Decoder.instr; rw [fd_bind _ _ h1]; exact (fd_bind (Jvm.ClassFile.Reader.u2 : Jvm.ClassFile.Decoder Nat) (fun x => pure (Instr.invokestatic x)) h2).trans rfl) hl h
  case new n => exact fd_rU (k := 187) (fun h1 h2 => by unfold Jvm.ClassFile.Decoder.instr; rw [fd_bind _ _ h1]; exact (fd_bind (Jvm.ClassFile.Reader.u2 : Jvm.ClassFile.Decoder Nat) (fun x => pure (Instr.new x)) h2).trans rfl) hl h
  case anewarray n => exact fd_rU (k := 189) (fun h1 h2 => by unfold Jvm.ClassFile.Decoder.instr; rw [fd_bind _ _ h1]; exact (fd_bind (Jvm.ClassFile.Reader.u2 : Jvm.ClassFile.Decoder Nat) (fun x => pure (Instr.anewarray x)) h2).trans rfl) hl h
  case sipush n => exact fd_rS (k := 17) (fun h1 h2 => by unfold Jvm.ClassFile.Decoder.instr; rw [fd_bind _ _ h1]; exact (fd_bind (Jvm.ClassFile.Reader.s2 : Jvm.ClassFile.Decoder Int) (fun x => pure (Instr.sipush x)) h2).trans rfl) hl h
  case goto n => exact fd_rS (k := 167) (fun h1 h2 => by unfold Jvm.ClassFile.Decoder.instr; rw [fd_bind _ _ h1]; exact (fd_bind (Jvm.ClassFile.Reader.s2 : Jvm.ClassFile.Decoder Int) (fun x => pure (Instr.goto x)) h2).trans rfl) hl h
  case ifnull n => exact fd_rS (k := 198) (fun h1 h2 => by unfold Jvm.ClassFile.Decoder.instr; rw [fd_bind _ _ h1]; exact (fd_bind (Jvm.ClassFile.Reader.s2 : Jvm.ClassFile.Decoder Int) (fun x => pure (Instr.ifnull x)) h2).trans rfl) hl h
  case ifnonnull n => exact fd_rS (k := 199) (fun h1 h2 => by unfold Jvm.ClassFile.Decoder.instr; rw [fd_bind _ _ h1]; exact (fd_bind (Jvm.ClassFile.Reader.s2 : Jvm.ClassFile.Decoder Int) (fun x => pure (Instr.ifnonnull x)) h2).trans rfl) hl h
  case ifCond c n => exact fd_rS (k := 153 + fd_k c) (fun h1 h2 => fd_ifCond c h1 h2) hl h
  case if_icmp c n => exact fd_rS (k := 159 + fd_k c) (fun h1 h2 => fd_if_icmp c h1 h2) hl h
  case iinc n v => exact fd_rI hl h
  case newarray t => exact fd_ru (k := 188) (n := fd_a t) (fun h1 h2 => fd_newarray t (Nat.le_of_ble_eq_true (Bool.and_eq_true_iff.mp h).1) h1 h2) hl (Bool.and_eq_true_iff.mp h).2
  all_goals exact absurd (show false = true from h) (by decide)
