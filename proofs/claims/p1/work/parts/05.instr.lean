def zz_okU (m a : Nat) : Bool := (List.range 40).all fun j => match zz_T m (a + j) with
  | none => true
  | some e => zz_okI m (a + j) e
theorem zz_ok {m q : Nat} {e : zz_I} (hm : m < zz_nm) (he : zz_T m q = some e) : zz_okI m q e = true := sorry
