/-! an empty heap -/
def zz_h0 : zz_H := ((0, 0), (fun _ => .inl (9, 0), fun _ _ => 0))
