/-! the instructions, checked by what stands in the bytes: forty places at a time -/
def zz_okN (m q : Nat) (e : zz_I) : Bool := match e with
  | (i, (x, y, u, w), v, sw) => (match i with
    | .goto o => decide ((q : Int) + o = (x : Int))
    | .ifCond _ o => decide ((q : Int) + o = (x : Int))
    | .if_icmp _ o => decide ((q : Int) + o = (x : Int))
    | .ifnull o => decide ((q : Int) + o = (x : Int))
    | .ifnonnull o => decide ((q : Int) + o = (x : Int))
    | .tableswitch d lo hi offs => decide ((q : Int) + d = (x : Int)) && (decide (hi + 1 = lo + offs.toList.length) && zz_swk sw lo offs.toList q)
    | .lookupswitch d ps => decide ((q : Int) + d = (x : Int)) && ((ps.toList.zip (ps.toList.drop 1)).all (fun (a, next) => a.1 < next.1) && zz_lkk sw ps.toList q)
    | .getfield k => decide (zz_lt w = some (1, zz_oc m, k, x, y, .null)) && (match zz_cl[x]? with
      | some (_, _, N) => Nat.blt y N
      | none => false)
    | .putfield k => decide (zz_lt w = some (1, zz_oc m, k, x, y, .null)) && (decide ((zz_us x)[y]? = some u) && (match zz_cl[x]? with
      | some (_, T, N) => Nat.blt y N && (!(T y).2.2.2 || (decide ((zz_mw m).1 = 2) && decide (zz_mc m = x)))
      | none => false))
    | .new k => decide (zz_lt w = some (4, zz_oc m, k, x, 0, .null)) && (match zz_cl[x]? with
      | some _ => true
      | none => false)
    | .newarray t => Nat.blt x 3 && (decide (newarray.typeOf t = zz_ty x) && decide (zz_lt w = some (7, 0, 0, x, 0, .null)))
    | .anewarray k => decide (x = 3 ∨ x = 4) && decide (zz_lt w = some (4, zz_oc m, k, zz_of x, 0, .null))
    | .ldc k => match v with
      | .int a => decide (zz_lt w = some (5, zz_oc m, k, 0, 0, .int a))
      | _ => false
    | .ldc_w k => match v with
      | .int a => decide (zz_lt w = some (5, zz_oc m, k, 0, 0, .int a))
      | _ => false
    | .ldc2_w k => match v with
      | .long a => decide (zz_lt w = some (6, zz_oc m, k, 0, 0, .long a))
      | _ => false
    | .invokestatic k => if x < 100000 then (decide (zz_lt w = some (2, zz_oc m, k, x, 0, .null)) || decide (zz_lt w = some (3, zz_oc m, k, x, 0, .null))) && zz_okx m x 0 y
        else decide (zz_lt w = some (x - 100000 + 8, zz_oc m, k, 0, 0, .null)) && (Nat.ble 1 (zz_fr m) && Nat.ble (if x = 100001 then 26 else 21) (zz_lo m))
    | .invokevirtual k => decide (zz_lt w = some (2, zz_oc m, k, x, 0, .null)) && (zz_okx m x 1 y && decide (zz_mc x = u))
    | .invokespecial k => if x = 100000 then decide (zz_lt w = some (8, zz_oc m, k, 0, 0, .null)) && (Nat.ble 1 (zz_fr m) && Nat.ble 20 (zz_lo m))
        else (decide (zz_lt w = some (2, zz_oc m, k, x, 0, .null)) || decide (zz_lt w = some (3, zz_oc m, k, x, 0, .null))) && zz_okx m x 2 y
    | _ => true)
def fd_w : Instr → Bool
  | .tableswitch _ _ _ _ => true
  | .lookupswitch _ _ => true
  | _ => false
def zz_okJ (m q : Nat) (e : zz_I) (l : List UInt8) : Bool := cond (fd_w e.1) (zz_okI m q e) (fd_c e.1 l && zz_okN m q e)
theorem zz_fn {i : Instr} {l : List UInt8} (y : Nat) (h : fd_c i l = true) : fd_n i = zz_le i y := by
  cases i <;> first | rfl | exact absurd (show false = true from h) (by decide)
theorem zz_okIN (m q : Nat) (i : Instr) (x y u w : Nat) (v : Value) (sw : List (Int × Nat)) : zz_okI m q (i, (x, y, u, w), v, sw) = (decide (decode (zz_bc m) q = .ok (i, zz_le i y)) && zz_okN m q (i, (x, y, u, w), v, sw)) := by
  first | rfl | (cases i <;> rfl)
theorem zz_okJ_ok {m q : Nat} {e : zz_I} {l : List UInt8} (hl : (zz_bc m).data.toList.drop q = l) (h : zz_okJ m q e l = true) : zz_okI m q e = true := by
  unfold zz_okJ at h
  cases hw : fd_w e.1 with
  | true =>
    rw [hw] at h
    exact h
  | false =>
    rw [hw] at h
    have h : (fd_c e.1 l && zz_okN m q e) = true := h
    rw [Bool.and_eq_true] at h
    obtain ⟨i, ⟨x, y, u, w⟩, v, sw⟩ := e
    have h1 : fd_c i l = true := h.1
    have h2 := fd_ok hl h1
    rw [zz_fn y h1] at h2
    rw [zz_okIN, Bool.and_eq_true, decide_eq_true_eq]
    exact ⟨h2, h.2⟩
def zz_nx (f : List UInt8 → Bool) : List UInt8 → Bool
  | [] => f []
  | _ :: r => f r
def zz_at (m q : Nat) (l : List UInt8) : Bool := match zz_T m q with
  | none => true
  | some e => zz_okJ m q e l
def zz_chk (m : Nat) : Nat → Nat → List UInt8 → Bool
  | 0, _, _ => true
  | n + 1, q, l => zz_at m q l && zz_nx (zz_chk m n (q + 1)) l
theorem zz_chk_ok (m : Nat) : ∀ (n q : Nat) (l : List UInt8), (zz_bc m).data.toList.drop q = l → zz_chk m n q l = true → ∀ (j : Nat) (e : zz_I), j < n → zz_T m (q + j) = some e → zz_okI m (q + j) e = true
  | 0, q, l, hl, h, j, e, hj, he => absurd hj (Nat.not_lt_zero j)
  | n + 1, q, l, hl, h, 0, e, hj, he => by
    have h : (zz_at m q l && zz_nx (zz_chk m n (q + 1)) l) = true := h
    rw [Bool.and_eq_true] at h
    have h1 := h.1
    have he : zz_T m q = some e := he
    unfold zz_at at h1
    rw [he] at h1
    exact zz_okJ_ok hl h1
  | n + 1, q, l, hl, h, j + 1, e, hj, he => by
    have h : (zz_at m q l && zz_nx (zz_chk m n (q + 1)) l) = true := h
    rw [Bool.and_eq_true] at h
    have h2 := h.2
    have hd : (zz_bc m).data.toList.drop (q + 1) = l.tail := by rw [← List.tail_drop, hl]
    rw [show q + (j + 1) = q + 1 + j by omega] at he ⊢
    cases l with
    | nil => exact zz_chk_ok m n (q + 1) [] hd h2 j e (by omega) he
    | cons a r => exact zz_chk_ok m n (q + 1) r hd h2 j e (by omega) he
def zz_okU (m c : Nat) : Bool := zz_chk m 40 (40 * c) ((zz_bc m).data.toList.drop (40 * c))
theorem zz_T_lt {m q : Nat} {e : zz_I} (he : zz_T m q = some e) : q < zz_ln m := by
  unfold zz_T at he
  rcases Nat.lt_or_ge q (zz_ln m) with h | h
  · exact h
  · rw [show Nat.ble (zz_ln m) q = true from Nat.ble_eq_true_of_le h] at he
    cases he
theorem zz_okU_all {m n : Nat} (h : ∀ c, c < n → zz_okU m c = true) (hn : zz_ln m ≤ 40 * n) : ∀ (q : Nat) (e : zz_I), zz_T m q = some e → zz_okI m q e = true := by
  intro q e he
  have hq := zz_T_lt he
  have h3 := zz_chk_ok m 40 (40 * (q / 40)) _ rfl (h (q / 40) (by omega)) (q % 40) e (by omega) (by rw [show 40 * (q / 40) + q % 40 = q by omega]; exact he)
  rwa [show 40 * (q / 40) + q % 40 = q by omega] at h3
def zz_vv (m : Nat) : Prop := ∀ (q : Nat) (e : zz_I), zz_T m q = some e → zz_okI m q e = true
