/-! any step -/
section ZW
variable {p : Program} {l : Launch} {e : Env} {R : Room} {s : State} {m : MethodId} {args : Array Value} {below : List Frame} {meth : Method} {c : Code} {Q : State → Prop} {D : va_G} {cA : Nat → ClassId} {z b n0 s0 md pc : Nat} {X : zz_X} {lv : zz_V} {st : List Value} {h : zz_H} {s' : zz_S}
theorem z1_iload {j : Nat} (C : zz_C p R s m args meth c D cA z b n0 X md) (hd : decode (zz_bc md) pc = .ok (.iload j, 2)) (hs : zz_int lv j (pc + 2) st h = some (.inl s')) (k : zz_G p l e R s m args below meth c D cA z b n0 s0 md Q s') : zz_G p l e R s m args below meth c D cA z b n0 s0 md Q (pc, lv, st, h) := by
  obtain ⟨a, ha, rfl⟩ := zz_int_ok hs
  exact fun H locs ls w1 w2 w3 => lv_iload C.1 C.2.1 hd (w3.2.2.2 _ _ ha) (k H locs ls w1 w2 w3)
theorem z1_iload_n {j : Fin 4} (C : zz_C p R s m args meth c D cA z b n0 X md) (hd : decode (zz_bc md) pc = .ok (.iload_n j, 1)) (hs : zz_int lv (j : Nat) (pc + 1) st h = some (.inl s')) (k : zz_G p l e R s m args below meth c D cA z b n0 s0 md Q s') : zz_G p l e R s m args below meth c D cA z b n0 s0 md Q (pc, lv, st, h) := by
  obtain ⟨a, ha, rfl⟩ := zz_int_ok hs
  exact fun H locs ls w1 w2 w3 => lv_iload_n C.1 C.2.1 hd rfl (w3.2.2.2 _ _ ha) (k H locs ls w1 w2 w3)
theorem z1_lload {j : Nat} (C : zz_C p R s m args meth c D cA z b n0 X md) (hd : decode (zz_bc md) pc = .ok (.lload j, 2)) (hs : zz_lng lv j (pc + 2) st h = some (.inl s')) (k : zz_G p l e R s m args below meth c D cA z b n0 s0 md Q s') : zz_G p l e R s m args below meth c D cA z b n0 s0 md Q (pc, lv, st, h) := by
  obtain ⟨a, ha, rfl⟩ := zz_lng_ok hs
  exact fun H locs ls w1 w2 w3 => lv_lload C.1 C.2.1 hd (w3.2.2.2 _ _ ha) (k H locs ls w1 w2 w3)
theorem z1_lload_n {j : Fin 4} (C : zz_C p R s m args meth c D cA z b n0 X md) (hd : decode (zz_bc md) pc = .ok (.lload_n j, 1)) (hs : zz_lng lv (j : Nat) (pc + 1) st h = some (.inl s')) (k : zz_G p l e R s m args below meth c D cA z b n0 s0 md Q s') : zz_G p l e R s m args below meth c D cA z b n0 s0 md Q (pc, lv, st, h) := by
  obtain ⟨a, ha, rfl⟩ := zz_lng_ok hs
  exact fun H locs ls w1 w2 w3 => lv_lload_n C.1 C.2.1 hd rfl (w3.2.2.2 _ _ ha) (k H locs ls w1 w2 w3)
theorem z1_aload {j : Nat} (C : zz_C p R s m args meth c D cA z b n0 X md) (hd : decode (zz_bc md) pc = .ok (.aload j, 2)) (hs : zz_rfl lv j (pc + 2) st h = some (.inl s')) (k : zz_G p l e R s m args below meth c D cA z b n0 s0 md Q s') : zz_G p l e R s m args below meth c D cA z b n0 s0 md Q (pc, lv, st, h) := by
  obtain ⟨a, ha, rfl⟩ | ⟨ha, rfl⟩ := zz_rfl_ok hs
  · exact fun H locs ls w1 w2 w3 => lv_aload C.1 C.2.1 hd (w3.2.2.2 _ _ ha) (k H locs ls w1 w2 w3)
  · exact fun H locs ls w1 w2 w3 => lv_aloadN C.1 C.2.1 hd (w3.2.2.2 _ _ ha) (k H locs ls w1 w2 w3)
theorem z1_aload_n {j : Fin 4} (C : zz_C p R s m args meth c D cA z b n0 X md) (hd : decode (zz_bc md) pc = .ok (.aload_n j, 1)) (hs : zz_rfl lv (j : Nat) (pc + 1) st h = some (.inl s')) (k : zz_G p l e R s m args below meth c D cA z b n0 s0 md Q s') : zz_G p l e R s m args below meth c D cA z b n0 s0 md Q (pc, lv, st, h) := by
  obtain ⟨a, ha, rfl⟩ | ⟨ha, rfl⟩ := zz_rfl_ok hs
  · exact fun H locs ls w1 w2 w3 => lv_aload_n C.1 C.2.1 hd rfl (w3.2.2.2 _ _ ha) (k H locs ls w1 w2 w3)
  · exact fun H locs ls w1 w2 w3 => lv_aload_nN C.1 C.2.1 hd rfl (w3.2.2.2 _ _ ha) (k H locs ls w1 w2 w3)
theorem z1_istore {j : Nat} (C : zz_C p R s m args meth c D cA z b n0 X md) (hd : decode (zz_bc md) pc = .ok (.istore j, 2)) (hs : zz_is lv j (pc + 2) st h = some (.inl s')) (k : zz_G p l e R s m args below meth c D cA z b n0 s0 md Q s') : zz_G p l e R s m args below meth c D cA z b n0 s0 md Q (pc, lv, st, h) := by
  obtain ⟨a, r, rfl, hj, rfl⟩ := zz_is_ok hs
  exact fun H locs ls w1 w2 w3 => lv_istore C.1 C.2.1 hd w3.has (by rw [← w3.2.2.1]; exact hj) rfl (fun ls2 hl2 => k H locs ls2 w1 w2 (w3.st1 hj hl2))
theorem z1_istore_n {j : Fin 4} (C : zz_C p R s m args meth c D cA z b n0 X md) (hd : decode (zz_bc md) pc = .ok (.istore_n j, 1)) (hs : zz_is lv (j : Nat) (pc + 1) st h = some (.inl s')) (k : zz_G p l e R s m args below meth c D cA z b n0 s0 md Q s') : zz_G p l e R s m args below meth c D cA z b n0 s0 md Q (pc, lv, st, h) := by
  obtain ⟨a, r, rfl, hj, rfl⟩ := zz_is_ok hs
  exact fun H locs ls w1 w2 w3 => lv_istore_n C.1 C.2.1 hd rfl w3.has (by rw [← w3.2.2.1]; exact hj) rfl (fun ls2 hl2 => k H locs ls2 w1 w2 (w3.st1 hj hl2))
theorem z1_lstore {j : Nat} (C : zz_C p R s m args meth c D cA z b n0 X md) (hd : decode (zz_bc md) pc = .ok (.lstore j, 2)) (hs : zz_ls lv j (pc + 2) st h = some (.inl s')) (k : zz_G p l e R s m args below meth c D cA z b n0 s0 md Q s') : zz_G p l e R s m args below meth c D cA z b n0 s0 md Q (pc, lv, st, h) := by
  obtain ⟨a, r, rfl, hj, rfl⟩ := zz_ls_ok hs
  exact fun H locs ls w1 w2 w3 => lv_lstore C.1 C.2.1 hd w3.has (by rw [← w3.2.2.1]; exact hj) rfl (fun ls2 hl2 => k H locs ls2 w1 w2 (w3.st2 hj hl2))
theorem z1_lstore_n {j : Fin 4} (C : zz_C p R s m args meth c D cA z b n0 X md) (hd : decode (zz_bc md) pc = .ok (.lstore_n j, 1)) (hs : zz_ls lv (j : Nat) (pc + 1) st h = some (.inl s')) (k : zz_G p l e R s m args below meth c D cA z b n0 s0 md Q s') : zz_G p l e R s m args below meth c D cA z b n0 s0 md Q (pc, lv, st, h) := by
  obtain ⟨a, r, rfl, hj, rfl⟩ := zz_ls_ok hs
  exact fun H locs ls w1 w2 w3 => lv_lstore_n C.1 C.2.1 hd rfl w3.has (by rw [← w3.2.2.1]; exact hj) rfl (fun ls2 hl2 => k H locs ls2 w1 w2 (w3.st2 hj hl2))
theorem z1_astore {j : Nat} (C : zz_C p R s m args meth c D cA z b n0 X md) (hd : decode (zz_bc md) pc = .ok (.astore j, 2)) (hs : zz_as lv j (pc + 2) st h = some (.inl s')) (k : zz_G p l e R s m args below meth c D cA z b n0 s0 md Q s') : zz_G p l e R s m args below meth c D cA z b n0 s0 md Q (pc, lv, st, h) := by
  obtain ⟨a, r, rfl, hj, rfl⟩ | ⟨r, rfl, hj, rfl⟩ := zz_as_ok hs
  · exact fun H locs ls w1 w2 w3 => lv_astore C.1 C.2.1 hd w3.has (by rw [← w3.2.2.1]; exact hj) rfl (fun ls2 hl2 => k H locs ls2 w1 w2 (w3.st1 (v := .ref a) hj hl2))
  · exact fun H locs ls w1 w2 w3 => lv_astoreN C.1 C.2.1 hd w3.has (by rw [← w3.2.2.1]; exact hj) rfl (fun ls2 hl2 => k H locs ls2 w1 w2 (w3.st1 (v := .null) hj hl2))
theorem z1_astore_n {j : Fin 4} (C : zz_C p R s m args meth c D cA z b n0 X md) (hd : decode (zz_bc md) pc = .ok (.astore_n j, 1)) (hs : zz_as lv (j : Nat) (pc + 1) st h = some (.inl s')) (k : zz_G p l e R s m args below meth c D cA z b n0 s0 md Q s') : zz_G p l e R s m args below meth c D cA z b n0 s0 md Q (pc, lv, st, h) := by
  obtain ⟨a, r, rfl, hj, rfl⟩ | ⟨r, rfl, hj, rfl⟩ := zz_as_ok hs
  · exact fun H locs ls w1 w2 w3 => lv_astore_n C.1 C.2.1 hd rfl w3.has (by rw [← w3.2.2.1]; exact hj) rfl (fun ls2 hl2 => k H locs ls2 w1 w2 (w3.st1 (v := .ref a) hj hl2))
  · exact fun H locs ls w1 w2 w3 => lv_astore_nN C.1 C.2.1 hd rfl w3.has (by rw [← w3.2.2.1]; exact hj) rfl (fun ls2 hl2 => k H locs ls2 w1 w2 (w3.st1 (v := .null) hj hl2))
theorem z1_iinc {j : Nat} {n : Int} {a : Int32} (C : zz_C p R s m args meth c D cA z b n0 X md) (hd : decode (zz_bc md) pc = .ok (.iinc j n, 3)) (ha : zz_ld lv j = some (.int a)) (hj : j < lv.length) (k : zz_G p l e R s m args below meth c D cA z b n0 s0 md Q (pc + 3, zz_st1 lv j (.int (a + Int32.ofInt n)), st, h)) : zz_G p l e R s m args below meth c D cA z b n0 s0 md Q (pc, lv, st, h) := by
  intro H locs ls w1 w2 w3
  obtain ⟨q, hq⟩ := List.getElem?_of_mem (zz_al_mem w3.2.2.1 ha)
  exact lv_iinc C.1 C.2.1 hd w3.has hq rfl (by rw [← w3.2.2.1]; exact hj) rfl (fun ls2 hl2 => k H locs ls2 w1 w2 (w3.st1 (v := .int (a + Int32.ofInt n)) hj hl2))
theorem z1_if {cn : Jvm.ClassFile.Cond} {off : Int} {tgt : Nat} (C : zz_C p R s m args meth c D cA z b n0 X md) (hd : decode (zz_bc md) pc = .ok (.ifCond cn off, 3)) (ht : (pc : Int) + off = (tgt : Int)) (hs : zz_if (zz_cond cn) pc tgt lv st h = some (.inl s')) (k : zz_G p l e R s m args below meth c D cA z b n0 s0 md Q s') : zz_G p l e R s m args below meth c D cA z b n0 s0 md Q (pc, lv, st, h) := by
  obtain ⟨a, r, rfl, ⟨hp, rfl⟩ | ⟨hp, rfl⟩⟩ := zz_if_ok hs
  · cases cn
    · exact fun H locs ls w1 w2 w3 => lv_if_eq C.1 C.2.1 hd ht (fun _ => k H locs ls w1 w2 w3) (fun q => absurd (of_decide_eq_true hp) q)
    · exact fun H locs ls w1 w2 w3 => lv_if_ne C.1 C.2.1 hd ht (fun _ => k H locs ls w1 w2 w3) (fun q => absurd q (of_decide_eq_true hp))
    · exact fun H locs ls w1 w2 w3 => lv_if_lt C.1 C.2.1 hd ht (fun _ => k H locs ls w1 w2 w3) (fun q => absurd (of_decide_eq_true hp) q)
    · exact fun H locs ls w1 w2 w3 => lv_if_ge C.1 C.2.1 hd ht (fun _ => k H locs ls w1 w2 w3) (fun q => absurd (of_decide_eq_true hp) q)
    · exact fun H locs ls w1 w2 w3 => lv_if_gt C.1 C.2.1 hd ht (fun _ => k H locs ls w1 w2 w3) (fun q => absurd (of_decide_eq_true hp) q)
    · exact fun H locs ls w1 w2 w3 => lv_if_le C.1 C.2.1 hd ht (fun _ => k H locs ls w1 w2 w3) (fun q => absurd (of_decide_eq_true hp) q)
  · cases cn
    · exact fun H locs ls w1 w2 w3 => lv_if_eq C.1 C.2.1 hd ht (fun q => absurd (decide_eq_true q) hp) (fun _ => k H locs ls w1 w2 w3)
    · exact fun H locs ls w1 w2 w3 => lv_if_ne C.1 C.2.1 hd ht (fun q => absurd (decide_eq_true q) hp) (fun _ => k H locs ls w1 w2 w3)
    · exact fun H locs ls w1 w2 w3 => lv_if_lt C.1 C.2.1 hd ht (fun q => absurd (decide_eq_true q) hp) (fun _ => k H locs ls w1 w2 w3)
    · exact fun H locs ls w1 w2 w3 => lv_if_ge C.1 C.2.1 hd ht (fun q => absurd (decide_eq_true q) hp) (fun _ => k H locs ls w1 w2 w3)
    · exact fun H locs ls w1 w2 w3 => lv_if_gt C.1 C.2.1 hd ht (fun q => absurd (decide_eq_true q) hp) (fun _ => k H locs ls w1 w2 w3)
    · exact fun H locs ls w1 w2 w3 => lv_if_le C.1 C.2.1 hd ht (fun q => absurd (decide_eq_true q) hp) (fun _ => k H locs ls w1 w2 w3)

theorem z1_ic {cn : Jvm.ClassFile.Cond} {off : Int} {tgt : Nat} (C : zz_C p R s m args meth c D cA z b n0 X md) (hd : decode (zz_bc md) pc = .ok (.if_icmp cn off, 3)) (ht : (pc : Int) + off = (tgt : Int)) (hs : zz_ic (zz_cmp cn) pc tgt lv st h = some (.inl s')) (k : zz_G p l e R s m args below meth c D cA z b n0 s0 md Q s') : zz_G p l e R s m args below meth c D cA z b n0 s0 md Q (pc, lv, st, h) := by
  obtain ⟨a, d, r, rfl, ⟨hp, rfl⟩ | ⟨hp, rfl⟩⟩ := zz_ic_ok hs
  · cases cn
    · exact fun H locs ls w1 w2 w3 => lv_icmp_eq C.1 C.2.1 hd ht (fun _ => k H locs ls w1 w2 w3) (fun q => absurd (of_decide_eq_true hp) q)
    · exact fun H locs ls w1 w2 w3 => lv_icmp_ne C.1 C.2.1 hd ht (fun _ => k H locs ls w1 w2 w3) (fun q => absurd q (of_decide_eq_true hp))
    · exact fun H locs ls w1 w2 w3 => lv_icmp_lt C.1 C.2.1 hd ht (fun _ => k H locs ls w1 w2 w3) (fun q => absurd (of_decide_eq_true hp) q)
    · exact fun H locs ls w1 w2 w3 => lv_icmp_ge C.1 C.2.1 hd ht (fun _ => k H locs ls w1 w2 w3) (fun q => absurd (of_decide_eq_true hp) q)
    · exact fun H locs ls w1 w2 w3 => lv_icmp_gt C.1 C.2.1 hd ht (fun _ => k H locs ls w1 w2 w3) (fun q => absurd (of_decide_eq_true hp) q)
    · exact fun H locs ls w1 w2 w3 => lv_icmp_le C.1 C.2.1 hd ht (fun _ => k H locs ls w1 w2 w3) (fun q => absurd (of_decide_eq_true hp) q)
  · cases cn
    · exact fun H locs ls w1 w2 w3 => lv_icmp_eq C.1 C.2.1 hd ht (fun q => absurd (decide_eq_true q) hp) (fun _ => k H locs ls w1 w2 w3)
    · exact fun H locs ls w1 w2 w3 => lv_icmp_ne C.1 C.2.1 hd ht (fun q => absurd (decide_eq_true q) hp) (fun _ => k H locs ls w1 w2 w3)
    · exact fun H locs ls w1 w2 w3 => lv_icmp_lt C.1 C.2.1 hd ht (fun q => absurd (decide_eq_true q) hp) (fun _ => k H locs ls w1 w2 w3)
    · exact fun H locs ls w1 w2 w3 => lv_icmp_ge C.1 C.2.1 hd ht (fun q => absurd (decide_eq_true q) hp) (fun _ => k H locs ls w1 w2 w3)
    · exact fun H locs ls w1 w2 w3 => lv_icmp_gt C.1 C.2.1 hd ht (fun q => absurd (decide_eq_true q) hp) (fun _ => k H locs ls w1 w2 w3)
    · exact fun H locs ls w1 w2 w3 => lv_icmp_le C.1 C.2.1 hd ht (fun q => absurd (decide_eq_true q) hp) (fun _ => k H locs ls w1 w2 w3)

theorem zz_swk_in : ∀ (sw : List (Int × Nat)) (lo : Int) (os : List Int) (q : Int) (d : Nat) (a : Int), zz_swk sw lo os q = true → (lo ≤ a → a < lo + os.length → ∃ off, os[(a - lo).toNat]? = some off ∧ q + off = (zz_sw sw d a : Int)) ∧ (a < lo ∨ lo + os.length ≤ a → zz_sw sw d a = d)
  | [], lo, [], q, d, a, _ => ⟨fun h1 h2 => by simp at h2; omega, fun _ => rfl⟩
  | (k, t) :: r, lo, o :: os, q, d, a, hh => by
    simp only [zz_swk, Bool.and_eq_true, decide_eq_true_eq] at hh
    obtain ⟨h1, h2, h3⟩ := hh
    obtain ⟨i1, i2⟩ := zz_swk_in r (lo + 1) os q d a h3
    by_cases ha : a = k
    · refine ⟨fun _ _ => ⟨o, ?_, ?_⟩, fun hx => ?_⟩
      · rw [show (a - lo).toNat = 0 by omega]; rfl
      · simp [zz_sw, ha, h2]
      · simp only [List.length_cons] at hx; omega
    · refine ⟨fun hx hy => ?_, fun hx => ?_⟩
      · simp only [List.length_cons] at hy
        obtain ⟨off, o1, o2⟩ := i1 (by omega) (by omega)
        refine ⟨off, ?_, ?_⟩
        · rw [show (a - lo).toNat = (a - (lo + 1)).toNat + 1 by omega]; exact o1
        · simp only [zz_sw, if_neg ha]; exact o2
      · simp only [zz_sw, if_neg ha]
        simp only [List.length_cons] at hx
        exact i2 (by omega)
  | [], _, _ :: _, _, _, _, hh => by simp [zz_swk] at hh
  | _ :: _, _, [], _, _, _, hh => by simp [zz_swk] at hh
theorem zz_lkk_in : ∀ (sw : List (Int × Nat)) (ps : List (Int × Int)) (q : Int) (d : Int) (x : Nat) (a : Int), q + d = (x : Int) → zz_lkk sw ps q = true → q + Op.lookupswitch.offset ps d a = (zz_sw sw x a : Int)
  | [], [], q, d, x, a, hd, _ => hd
  | (k, t) :: r, (j, o) :: ps, q, d, x, a, hd, hh => by
    simp only [zz_lkk, Bool.and_eq_true, decide_eq_true_eq] at hh
    obtain ⟨h1, h2, h3⟩ := hh
    have ih := zz_lkk_in r ps q d x a hd h3
    subst h1
    by_cases ha : a = k
    · simp [zz_sw, ha, Op.lookupswitch.offset, h2]
    · have ha2 : ¬ k = a := fun q => ha q.symm
      simp [zz_sw, ha, ha2, Op.lookupswitch.offset, ih]
  | [], _ :: _, _, _, _, _, _, hh => by simp [zz_lkk] at hh
  | _ :: _, [], _, _, _, _, _, hh => by simp [zz_lkk] at hh
theorem z1_tsw {d lo hi : Int} {offs : Array Int} {x y u w : Nat} {v : Value} {sw : List (Int × Nat)} {a : Int32} {r : List Value} (C : zz_C p R s m args meth c D cA z b n0 X md) (ok : zz_okI md pc (.tableswitch d lo hi offs, (x, y, u, w), v, sw) = true) (k : zz_G p l e R s m args below meth c D cA z b n0 s0 md Q (zz_sw sw x a.toInt, lv, r, h)) : zz_G p l e R s m args below meth c D cA z b n0 s0 md Q (pc, lv, .int a :: r, h) := by
  have hd := zz_okd ok
  simp only [zz_okI, Bool.and_eq_true, decide_eq_true_eq] at ok
  obtain ⟨-, o1, o2, o3⟩ := ok
  obtain ⟨i1, i2⟩ := zz_swk_in sw lo offs.toList pc x a.toInt o3
  intro H locs ls w1 w2 w3
  have k1 := k H locs ls w1 w2 w3
  by_cases h1 : a.toInt < lo
  · rw [i2 (Or.inl h1)] at k1
    exact lv_tableOut C.1 C.2.1 hd (Or.inl h1) o1 k1
  · by_cases h2 : hi < a.toInt
    · rw [i2 (Or.inr (by omega))] at k1
      exact lv_tableOut C.1 C.2.1 hd (Or.inr h2) o1 k1
    · obtain ⟨off, e1, e2⟩ := i1 (by omega) (by omega)
      exact lv_tableIn C.1 C.2.1 hd h1 h2 (by rw [← Array.getElem?_toList]; exact e1) e2 k1
theorem z1_lsw {d : Int} {ps : Array (Int × Int)} {x y u w : Nat} {v : Value} {sw : List (Int × Nat)} {a : Int32} {r : List Value} (C : zz_C p R s m args meth c D cA z b n0 X md) (ok : zz_okI md pc (.lookupswitch d ps, (x, y, u, w), v, sw) = true) (k : zz_G p l e R s m args below meth c D cA z b n0 s0 md Q (zz_sw sw x a.toInt, lv, r, h)) : zz_G p l e R s m args below meth c D cA z b n0 s0 md Q (pc, lv, .int a :: r, h) := by
  have hd := zz_okd ok
  simp only [zz_okI, Bool.and_eq_true] at ok
  obtain ⟨-, o1, o2, o3⟩ := ok
  intro H locs ls w1 w2 w3
  exact lv_lookup C.1 C.2.1 hd o2 rfl (zz_lkk_in sw ps.toList pc d x a.toInt (of_decide_eq_true o1) o3) (k H locs ls w1 w2 w3)
theorem z1_obj {k0 y u w : Nat} {v : Value} {sw : List (Int × Nat)} {a : Nat} {r : List Value} (C : zz_C p R s m args meth c D cA z b n0 X md) (ok : zz_okI md pc (.invokespecial k0, (100000, y, u, w), v, sw) = true) (hr : (r.map fun v => v.category).sum ≤ 8) (k : zz_G p l e R s m args below meth c D cA z b n0 s0 md Q (pc + 3, lv, r, h)) : zz_G p l e R s m args below meth c D cA z b n0 s0 md Q (pc, lv, .ref a :: r, h) := by
  obtain ⟨hx, hb, hml, hown, hts, hK, hz, hbz, hXx, hin, hfr, hlo, hE⟩ := C
  have hd := zz_okd ok
  have ok : (decide (zz_lt w = some (8, zz_oc md, k0, 0, 0, .null)) && (Nat.ble 1 (zz_fr md) && Nat.ble 20 (zz_lo md))) = true := (Bool.and_eq_true_iff.mp ok).2
  simp only [Bool.and_eq_true, decide_eq_true_eq, Nat.ble_eq] at ok
  obtain ⟨ok1, ok2, ok3⟩ := ok
  have hk := zz_kO_ok
  simp only [Bool.and_eq_true] at hk
  intro H locs ls w1 w2 w3
  have h8 := lv_room (m := m) (pc := pc) (ls := ls) (rest := []) (st := r.map (zz_mv z b)) (by rw [zz_mv_sum]; exact hr)
  refine W.objInit hx hb hown (hts _ (zz_link ok1 rfl)) (hts _ (zz_all_of hk.1)) (hts _ (zz_all_of hk.2)) rfl (by rw [hml]; exact w3.1) rfl hd (by omega) ?_ (k H locs ls w1 w2 w3)
  show 2 * 0 + ((r.map (zz_mv z b)).map fun v => v.category).sum + 12 ≤ R.locals
  rw [zz_mv_sum]
  omega
set_option maxHeartbeats 4000000 in
/-- any step that goes on -/
theorem zz_sim1 {q : zz_I} (hmd : md < zz_nm) (C : zz_C p R s m args meth c D cA z b n0 X md) (ok : zz_okI md pc q = true) (hZ : zz_Zr h) (hn0 : n0 ≤ h.1.1) (hs0 : s0 ≤ h.1.2) (hb1 : s'.2.2.2.1.1 - n0 ≤ R.cells) (hb2 : s'.2.2.2.1.2 - s0 ≤ R.slots) (hs : zz_step X zz_us (zz_rt md) q pc lv st h = some (.inl s')) (k : zz_G p l e R s m args below meth c D cA z b n0 s0 md Q s') : zz_G p l e R s m args below meth c D cA z b n0 s0 md Q (pc, lv, st, h) := by
  obtain ⟨i, ⟨x, y, u, w⟩, v, sw⟩ := q
  have hd := zz_okd ok
  cases i with
  | iadd =>
    obtain ⟨a, d, r, rfl, rfl⟩ := zz_i2_ok hs
    exact fun H locs ls w1 w2 w3 => lv_iadd C.1 C.2.1 hd (k H locs ls w1 w2 w3)
  | isub =>
    obtain ⟨a, d, r, rfl, rfl⟩ := zz_i2_ok hs
    exact fun H locs ls w1 w2 w3 => lv_isub C.1 C.2.1 hd (k H locs ls w1 w2 w3)
  | imul =>
    obtain ⟨a, d, r, rfl, rfl⟩ := zz_i2_ok hs
    exact fun H locs ls w1 w2 w3 => lv_imul C.1 C.2.1 hd (k H locs ls w1 w2 w3)
  | iand =>
    obtain ⟨a, d, r, rfl, rfl⟩ := zz_i2_ok hs
    exact fun H locs ls w1 w2 w3 => lv_iand C.1 C.2.1 hd (k H locs ls w1 w2 w3)
  | ior =>
    obtain ⟨a, d, r, rfl, rfl⟩ := zz_i2_ok hs
    exact fun H locs ls w1 w2 w3 => lv_ior C.1 C.2.1 hd (k H locs ls w1 w2 w3)
  | ixor =>
    obtain ⟨a, d, r, rfl, rfl⟩ := zz_i2_ok hs
    exact fun H locs ls w1 w2 w3 => lv_ixor C.1 C.2.1 hd (k H locs ls w1 w2 w3)
  | ishr =>
    obtain ⟨a, d, r, rfl, rfl⟩ := zz_i2_ok hs
    exact fun H locs ls w1 w2 w3 => lv_ishr C.1 C.2.1 hd (k H locs ls w1 w2 w3)
  | iushr =>
    obtain ⟨a, d, r, rfl, rfl⟩ := zz_i2_ok hs
    exact fun H locs ls w1 w2 w3 => lv_iushr C.1 C.2.1 hd rfl (k H locs ls w1 w2 w3)
  | ladd =>
    obtain ⟨a, d, r, rfl, rfl⟩ := zz_l2_ok hs
    exact fun H locs ls w1 w2 w3 => lv_ladd C.1 C.2.1 hd (k H locs ls w1 w2 w3)
  | lsub =>
    obtain ⟨a, d, r, rfl, rfl⟩ := zz_l2_ok hs
    exact fun H locs ls w1 w2 w3 => lv_lsub C.1 C.2.1 hd (k H locs ls w1 w2 w3)
  | lmul =>
    obtain ⟨a, d, r, rfl, rfl⟩ := zz_l2_ok hs
    exact fun H locs ls w1 w2 w3 => lv_lmul C.1 C.2.1 hd (k H locs ls w1 w2 w3)
  | iconst n =>
    cases hs
    exact fun H locs ls w1 w2 w3 => lv_iconst C.1 C.2.1 hd rfl (k H locs ls w1 w2 w3)
  | bipush n =>
    cases hs
    exact fun H locs ls w1 w2 w3 => lv_bipush C.1 C.2.1 hd rfl (k H locs ls w1 w2 w3)
  | sipush n =>
    cases hs
    exact fun H locs ls w1 w2 w3 => lv_sipush C.1 C.2.1 hd rfl (k H locs ls w1 w2 w3)
  | lconst n =>
    cases hs
    exact fun H locs ls w1 w2 w3 => lv_lconst C.1 C.2.1 hd rfl (k H locs ls w1 w2 w3)
  | aconst_null =>
    cases hs
    exact fun H locs ls w1 w2 w3 => lv_null C.1 C.2.1 hd (k H locs ls w1 w2 w3)
  | ldc n =>
    cases v with
    | int a =>
      cases hs
      simp only [zz_okI, Bool.and_eq_true, decide_eq_true_eq] at ok
      exact fun H locs ls w1 w2 w3 => lv_ldc C.1 C.2.1 C.2.2.2.1 (C.2.2.2.2.1 _ (zz_link ok.2 rfl)) hd (k H locs ls w1 w2 w3)
    | _ => cases hs
  | ldc_w n =>
    cases v with
    | int a =>
      cases hs
      simp only [zz_okI, Bool.and_eq_true, decide_eq_true_eq] at ok
      exact fun H locs ls w1 w2 w3 => lv_ldcw C.1 C.2.1 C.2.2.2.1 (C.2.2.2.2.1 _ (zz_link ok.2 rfl)) hd (k H locs ls w1 w2 w3)
    | _ => cases hs
  | ldc2_w n =>
    cases v with
    | long a =>
      cases hs
      simp only [zz_okI, Bool.and_eq_true, decide_eq_true_eq] at ok
      exact fun H locs ls w1 w2 w3 => lv_ldc2 C.1 C.2.1 C.2.2.2.1 (C.2.2.2.2.1 _ (zz_link ok.2 rfl)) hd (k H locs ls w1 w2 w3)
    | _ => cases hs
  | iload n =>
    exact z1_iload C hd hs k
  | iload_n n =>
    exact z1_iload_n C hd hs k
  | lload n =>
    exact z1_lload C hd hs k
  | lload_n n =>
    exact z1_lload_n C hd hs k
  | aload n =>
    exact z1_aload C hd hs k
  | aload_n n =>
    exact z1_aload_n C hd hs k
  | istore n =>
    exact z1_istore C hd hs k
  | istore_n n =>
    exact z1_istore_n C hd hs k
  | lstore n =>
    exact z1_lstore C hd hs k
  | lstore_n n =>
    exact z1_lstore_n C hd hs k
  | astore n =>
    exact z1_astore C hd hs k
  | astore_n n =>
    exact z1_astore_n C hd hs k
  | iinc j n =>
    simp only [zz_step] at hs
    split at hs
    · split at hs
      · cases hs
        exact z1_iinc C hd (by assumption) (by assumption) k
      · cases hs
    · cases hs
  | idiv =>
    simp only [zz_step] at hs
    split at hs
    · split at hs
      · cases hs
      · cases hs
        exact fun H locs ls w1 w2 w3 => lv_idiv C.1 C.2.1 hd (by assumption) (k H locs ls w1 w2 w3)
    · cases hs
  | irem =>
    simp only [zz_step] at hs
    split at hs
    · split at hs
      · cases hs
      · cases hs
        exact fun H locs ls w1 w2 w3 => lv_irem C.1 C.2.1 hd (by assumption) (k H locs ls w1 w2 w3)
    · cases hs
  | ldiv =>
    simp only [zz_step] at hs
    split at hs
    · split at hs
      · cases hs
      · cases hs
        exact fun H locs ls w1 w2 w3 => lv_ldiv C.1 C.2.1 hd (by assumption) (k H locs ls w1 w2 w3)
    · cases hs
  | ineg =>
    simp only [zz_step] at hs
    split at hs
    · cases hs
      exact fun H locs ls w1 w2 w3 => lv_ineg C.1 C.2.1 hd (k H locs ls w1 w2 w3)
    · cases hs
  | lcmp =>
    simp only [zz_step] at hs
    split at hs
    · cases hs
      exact fun H locs ls w1 w2 w3 => W.lcmp C.1 C.2.1 hd (k H locs ls w1 w2 w3)
    · cases hs
  | i2l =>
    simp only [zz_step] at hs
    split at hs
    · cases hs
      exact fun H locs ls w1 w2 w3 => lv_i2l C.1 C.2.1 hd rfl (k H locs ls w1 w2 w3)
    · cases hs
  | l2i =>
    simp only [zz_step] at hs
    split at hs
    · cases hs
      exact fun H locs ls w1 w2 w3 => lv_l2i C.1 C.2.1 hd rfl (k H locs ls w1 w2 w3)
    · cases hs
  | i2b =>
    simp only [zz_step] at hs
    split at hs
    · cases hs
      exact fun H locs ls w1 w2 w3 => lv_i2b C.1 C.2.1 hd rfl (k H locs ls w1 w2 w3)
    · cases hs
  | goto n =>
    cases hs
    simp only [zz_okI, Bool.and_eq_true, decide_eq_true_eq] at ok
    exact fun H locs ls w1 w2 w3 => lv_goto C.1 C.2.1 hd ok.2 (k H locs ls w1 w2 w3)
  | ifCond cn n =>
    simp only [zz_okI, Bool.and_eq_true, decide_eq_true_eq] at ok
    exact z1_if C hd ok.2 hs k
  | if_icmp cn n =>
    simp only [zz_okI, Bool.and_eq_true, decide_eq_true_eq] at ok
    exact z1_ic C hd ok.2 hs k
  | ifnull n =>
    simp only [zz_okI, Bool.and_eq_true, decide_eq_true_eq] at ok
    simp only [zz_step] at hs
    split at hs
    · cases hs
      exact fun H locs ls w1 w2 w3 => lv_ifnullN C.1 C.2.1 hd ok.2 (k H locs ls w1 w2 w3)
    · cases hs
      exact fun H locs ls w1 w2 w3 => lv_ifnull C.1 C.2.1 hd (k H locs ls w1 w2 w3)
    · cases hs
  | ifnonnull n =>
    simp only [zz_okI, Bool.and_eq_true, decide_eq_true_eq] at ok
    simp only [zz_step] at hs
    split at hs
    · cases hs
      exact fun H locs ls w1 w2 w3 => lv_ifnonnullN C.1 C.2.1 hd (k H locs ls w1 w2 w3)
    · cases hs
      exact fun H locs ls w1 w2 w3 => lv_ifnonnull C.1 C.2.1 hd ok.2 (k H locs ls w1 w2 w3)
    · cases hs
  | tableswitch d lo hi offs =>
    simp only [zz_step] at hs
    split at hs
    · cases hs
      exact z1_tsw C ok k
    · cases hs
  | lookupswitch d ps =>
    simp only [zz_step] at hs
    split at hs
    · cases hs
      exact z1_lsw C ok k
    · cases hs
  | dup =>
    simp only [zz_step] at hs
    split at hs
    · split at hs
      · cases hs
        exact fun H locs ls w1 w2 w3 => lv_dup C.1 C.2.1 hd (by rw [zz_mv_cat]; assumption) (k H locs ls w1 w2 w3)
      · cases hs
    · cases hs
  | pop =>
    simp only [zz_step] at hs
    split at hs
    · split at hs
      · cases hs
        exact fun H locs ls w1 w2 w3 => lv_pop C.1 C.2.1 hd (by rw [zz_mv_cat]; assumption) (k H locs ls w1 w2 w3)
      · cases hs
    · cases hs
  | dup2 =>
    simp only [zz_step] at hs
    split at hs
    · split at hs
      · rename_i hc
        cases hs
        exact fun H locs ls w1 w2 w3 => lv_dup2_11 C.1 C.2.1 hd (by rw [zz_mv_cat]; exact hc.1) (by rw [zz_mv_cat]; exact hc.2) (k H locs ls w1 w2 w3)
      · cases hs
    · cases hs
  | dup_x1 =>
    simp only [zz_step] at hs
    split at hs
    · split at hs
      · rename_i hc
        cases hs
        exact fun H locs ls w1 w2 w3 => lv_dup_x1 C.1 C.2.1 hd (by rw [zz_mv_cat]; exact hc.1) (by rw [zz_mv_cat]; exact hc.2) (k H locs ls w1 w2 w3)
      · cases hs
    · cases hs
  | getfield n =>
    exact z1_get C ok hs k
  | putfield n =>
    exact z1_put hmd C ok hs k
  | iaload =>
    exact z1_ial C hd hs k
  | baload =>
    exact z1_bal C hd hs k
  | iastore =>
    exact z1_ias C hd hs k
  | bastore =>
    exact z1_bas C hd hs k
  | aaload =>
    exact z1_aal C hd hs k
  | aastore =>
    exact z1_aas C hd hs k
  | arraylength =>
    exact z1_len C hd hs k
  | new n =>
    cases hs
    exact z1_new C ok hZ hn0 hs0 hb1 hb2 k
  | newarray t =>
    obtain ⟨n, r, rfl, q1, q2, rfl⟩ := zz_nar_ok hs
    exact z1_nar C ok hZ hn0 hs0 q1 q2 hb1 hb2 k
  | anewarray t =>
    obtain ⟨n, r, rfl, q1, q2, rfl⟩ := zz_anr_ok hs
    exact z1_anr C ok hZ hn0 hs0 q1 q2 hb1 hb2 k
  | invokestatic n =>
    simp only [zz_step] at hs
    split at hs
    · unfold zz_cs zz_call at hs
      repeat' split at hs
      all_goals cases hs
    · split at hs
      · rename_i _ hx
        subst hx
        exact z1_cpy C ok hs k
      · split at hs
        · rename_i _ _ hx
          subst hx
          exact z1_min C ok hb1 hb2 hs k
        · split at hs
          · rename_i _ _ _ hx
            subst hx
            exact z1_max C ok hb1 hb2 hs k
          · split at hs
            · rename_i _ _ _ _ hx
              subst hx
              exact z1_abs C ok hb1 hb2 hs k
            · cases hs
  | invokevirtual n =>
    simp only [zz_step, zz_cv, zz_call] at hs
    repeat' split at hs
    all_goals cases hs
  | invokespecial n =>
    simp only [zz_step] at hs
    split at hs
    · rename_i hx
      subst hx
      split at hs
      · split at hs
        · cases hs
          exact z1_obj C ok (by assumption) k
        · cases hs
      · cases hs
    · unfold zz_cv zz_call at hs
      repeat' split at hs
      all_goals cases hs
  | ireturn =>
    simp only [zz_step] at hs
    repeat' split at hs
    all_goals cases hs
  | areturn =>
    simp only [zz_step] at hs
    repeat' split at hs
    all_goals cases hs
  | return_ =>
    simp only [zz_step] at hs
    repeat' split at hs
    all_goals cases hs
  | _ => cases hs
end ZW
