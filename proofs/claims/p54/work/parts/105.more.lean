/-! the further steps are steps of the machine -/
section YM
variable {p : Program} {l : Launch} {e : Env} {R : Room} {s : State} {m : MethodId} {args : Array Value} {below : List Frame} {meth : Method} {c : Code} {Q : State → Prop} {D : va_G} {cA : Nat → ClassId} {z : Nat} {b : Nat → Nat} {n0 s0 md pc : Nat} {X : yy_X} {lv : zz_V} {st : List Value} {h : zz_H} {s' : zz_S}
theorem yy_ldcw {cc : ByteArray} {H : Heap} {locs : List Loc} {cells slots : Nat} {ls : Array Slot} {rest : List Value} (hexec : p.tables.exec = Jvm.exec) (hb : c.code = cc) {own tx : String} {index q : Nat} (hown : s.vm.findClass own = some m.cls) (hZ : vk_R own index tx q s) (hdg : decode cc pc = .ok (.ldc_w index, 3))
    (k : W p l e R s m args below meth c H locs cells slots Q (F0 m (pc + 3) ls (.ref q :: rest))) : W p l e R s m args below meth c H locs cells slots Q (F0 m pc ls rest) := by
  intro T hT X
  obtain ⟨t, a1, b1⟩ := k T hT X
  obtain ⟨k9, cf, i, a', hk, hcf, hcp, -, hr, hev'⟩ := Cond.stringRef_spec hown hZ.1
  cases hZ.2.symm.trans hev'
  obtain ⟨k', hk', he⟩ := X.warmed.alike.2.2 _ _ hk
  have hr' : k'.resolved[index]? = some (some (.string q)) := by
    rcases X.warmed.entry hk hk' index with h | ⟨h, -⟩
    · rw [h]; exact hr
    · rw [hr] at h; cases h
  refine ⟨t, ?_, b1⟩
  have hdg' : decode c.code (F0 m pc ls rest).pc = .ok (.ldc_w index, 3) := by rw [hb]; exact hdg
  jvm_step X.here [hexec, hdg', ldc_w.wp_string (e := e) (s := T) (f := F0 m pc ls rest) X.here.top hk' (by rw [he]; exact hcf) hcp hr']
  exact a1
theorem y1_ldc {i k0 x y u w : Nat} {sw : List (Int × Nat)} (C : zz_C p R s m args meth c D cA z b n0 X md) (ok : zz_okI md pc (.ldc i, (x, y, u, w), .ref k0, sw) = true) (k : zz_G p l e R s m args below meth c D cA z b n0 s0 md Q (pc + 2, lv, .ref k0 :: st, h)) : zz_G p l e R s m args below meth c D cA z b n0 s0 md Q (pc, lv, st, h) := by
  obtain ⟨hx, hb, hml, hown, hts, hK, hz, hbz, hXx, hin, hfr, hlo, hE⟩ := C
  have hd := zz_okd ok
  simp only [zz_okI, Bool.and_eq_true, decide_eq_true_eq] at ok
  obtain ⟨-, o1, -, -, o2⟩ := ok
  have o1 : yy_B ≤ k0 := Nat.le_of_ble_eq_true o1
  intro H locs ls hW hS hl
  have h5 := hXx.2.2 _ _ _ o2
  rw [show yy_B + (k0 - yy_B) = k0 by omega] at h5
  exact va_ldcS hx hb hown h5 hd (k H locs ls hW hS hl)
theorem y1_ldcw {i k0 x y u w : Nat} {sw : List (Int × Nat)} (C : zz_C p R s m args meth c D cA z b n0 X md) (ok : zz_okI md pc (.ldc_w i, (x, y, u, w), .ref k0, sw) = true) (k : zz_G p l e R s m args below meth c D cA z b n0 s0 md Q (pc + 3, lv, .ref k0 :: st, h)) : zz_G p l e R s m args below meth c D cA z b n0 s0 md Q (pc, lv, st, h) := by
  obtain ⟨hx, hb, hml, hown, hts, hK, hz, hbz, hXx, hin, hfr, hlo, hE⟩ := C
  have hd := zz_okd ok
  simp only [zz_okI, Bool.and_eq_true, decide_eq_true_eq] at ok
  obtain ⟨-, o1, -, -, o2⟩ := ok
  have o1 : yy_B ≤ k0 := Nat.le_of_ble_eq_true o1
  intro H locs ls hW hS hl
  have h5 := hXx.2.2 _ _ _ o2
  rw [show yy_B + (k0 - yy_B) = k0 by omega] at h5
  exact yy_ldcw hx hb hown h5 hd (k H locs ls hW hS hl)
/-- a static: what stands there from the start -/
def yy_sval (X : yy_X) (j : Nat) : Value := match j with
  | 0 => .int 1
  | 1 => .ref (yy_B + 200)
  | 2 => .ref (yy_B + 201)
  | _ => cond X.2 (.ref (yy_B + 300)) .null
theorem y1_gets {i x y u w j : Nat} {v : Value} {sw : List (Int × Nat)} (C : zz_C p R s m args meth c D cA z b n0 X md) (hd : decode (zz_bc md) pc = .ok (.getstatic i, 3)) (hw : zz_lt w = some (14, zz_oc md, i, j, 0, v)) (hj : j < 4) (k : zz_G p l e R s m args below meth c D cA z b n0 s0 md Q (pc + 3, lv, yy_sval X j :: st, h)) : zz_G p l e R s m args below meth c D cA z b n0 s0 md Q (pc, lv, st, h) := by
  obtain ⟨hx, hb, hml, hown, hts, hK, hz, hbz, hXx, hin, hfr, hlo, hE⟩ := C
  have hlink := hts _ (zz_link hw rfl)
  obtain ⟨-, -, z1, z2, z3, z4⟩ := hXx.2.1
  intro H locs ls hW hS hl
  have k1 := k H locs ls hW hS hl
  match j, hj with
  | 0, _ => exact va_gets hx hb z1 hS hown hlink (fun _ h9 => h9) hd k1
  | 1, _ => exact va_gets hx hb z2 hS hown hlink (fun _ h9 => h9) hd k1
  | 2, _ => exact va_gets hx hb z3 hS hown hlink (fun _ h9 => h9) hd k1
  | 3, _ =>
    refine va_gets hx hb z4 hS hown hlink (fun _ h9 => h9) hd ?_
    have e9 : zz_mv z b (yy_sval X 3) = cond X.2 (.ref (b (yy_B + 300))) .null := by
      show zz_mv z b (cond X.2 (.ref (yy_B + 300)) .null) = _
      cases X.2 <;> rfl
    rw [← e9]
    exact k1
theorem y1_get {i x y u w : Nat} {v : Value} {sw : List (Int × Nat)} (C : zz_C p R s m args meth c D cA z b n0 X md) (ok : zz_okI md pc (.getfield i, (x, y, u, w), v, sw) = true) (hs : yy_get yy_O x y pc lv st h = some (.inl s')) (k : zz_G p l e R s m args below meth c D cA z b n0 s0 md Q s') : zz_G p l e R s m args below meth c D cA z b n0 s0 md Q (pc, lv, st, h) := by
  obtain ⟨hx, hb, hml, hown, hts, hK, hz, hbz, hXx, hin, hfr, hlo, hE⟩ := C
  have hd := zz_okd ok
  obtain ⟨k0, r, rfl, ⟨o1, o2, rfl⟩, hs⟩ := yy_get_ok hs
  have o1 : yy_B ≤ k0 := Nat.le_of_ble_eq_true o1
  simp only [zz_okI, Bool.and_eq_true, decide_eq_true_eq] at ok
  have ok1 := ok.2.1
  obtain ⟨s1, s2, s3⟩ := hXx.2.1.1 _ o2
  rw [show yy_B + (k0 - yy_B) = k0 by omega] at s1 s2 s3
  have hlink := hts _ (zz_lk1 (C := "java/lang/String") (T := zz_F14) (N := 4) ok1 rfl)
  rcases hs with ⟨rfl, rfl⟩ | ⟨rfl, rfl⟩
  · intro H locs ls hW hS hl
    exact vk_getf hx hb s3 hS hown hlink (fun _ h9 => h9) hd (k H locs ls hW hS hl)
  · intro H locs ls hW hS hl
    exact vk_getf hx hb s2 hS hown hlink (fun _ h9 => h9) hd (k H locs ls hW hS hl)
theorem y1_len (hB : h.1.1 < yy_B) (C : zz_C p R s m args meth c D cA z b n0 X md) (hd : decode (zz_bc md) pc = .ok (.arraylength, 1)) (hs : yy_len yy_O pc lv st h = some (.inl s')) (k : zz_G p l e R s m args below meth c D cA z b n0 s0 md Q s') : zz_G p l e R s m args below meth c D cA z b n0 s0 md Q (pc, lv, st, h) := by
  obtain ⟨hx, hb, hml, hown, hts, hK, hz, hbz, hXx, hin, hfr, hlo, hE⟩ := C
  obtain ⟨j, r, rfl, ⟨o1, bs, o2, rfl⟩ | ⟨t, rs, hr, ht, rfl⟩⟩ := yy_len_ok hs
  · have o1 : yy_B ≤ j + 1 := Nat.le_of_ble_eq_true o1
    have h5 := hXx.2.1.2.1 _ _ o2
    rw [show yy_B + (j + 1 - yy_B) = j + 1 by omega] at h5
    intro H locs ls hW hS hl
    exact va_tlen hx hb h5 hS rfl hd (k H locs ls hW hS hl)
  · obtain ⟨hle, hlay⟩ := zz_rar_ok hr
    intro H locs ls hW hS hl
    have hW : zz_Wd D cA z b h H := hW
    exact va_alen (a := b (j + 1)) hx hb hK hW j t (cA := cA t) (x := (rs.length, .inr (.inr (.inr (.inr (zz_rs z b rs)))))) (by rw [zz_ws_at (by omega), hlay, hbz.1 j (by omega)]; rfl) (zz_tys_at cA ht) rfl hd (k H locs ls hW hS hl)
theorem y1_bal (C : zz_C p R s m args meth c D cA z b n0 X md) (hd : decode (zz_bc md) pc = .ok (.baload, 1)) (hs : yy_bal yy_O pc lv st h = some (.inl s')) (k : zz_G p l e R s m args below meth c D cA z b n0 s0 md Q s') : zz_G p l e R s m args below meth c D cA z b n0 s0 md Q (pc, lv, st, h) := by
  obtain ⟨hx, hb, hml, hown, hts, hK, hz, hbz, hXx, hin, hfr, hlo, hE⟩ := C
  obtain ⟨i, k0, r, bs, rfl, o1, o2, hi, rfl⟩ := yy_bal_ok hs
  have o1 : yy_B ≤ k0 := Nat.le_of_ble_eq_true o1
  have h5 := hXx.2.1.2.1 _ _ o2
  rw [show yy_B + (k0 - yy_B) = k0 by omega] at h5
  intro H locs ls hW hS hl
  exact va_tb hx hb h5 hS hi rfl hd (k H locs ls hW hS hl)
theorem yy_rsv {rs : List (Option Nat)} {j : Nat} {q : Option Nat} (hq : rs[j]? = some q) : va_rf (zz_rs z b rs j) = zz_mv z b (zz_val q) := by
  unfold zz_rs
  rw [hq]
  cases q <;> rfl
theorem y1_aal (hB : h.1.1 < yy_B) (C : zz_C p R s m args meth c D cA z b n0 X md) (hd : decode (zz_bc md) pc = .ok (.aaload, 1)) (hs : yy_aal pc lv st h = some (.inl s')) (k : zz_G p l e R s m args below meth c D cA z b n0 s0 md Q s') : zz_G p l e R s m args below meth c D cA z b n0 s0 md Q (pc, lv, st, h) := by
  obtain ⟨hx, hb, hml, hown, hts, hK, hz, hbz, hXx, hin, hfr, hlo, hE⟩ := C
  obtain ⟨i, r, j, t, rs, q, rfl, ho, hi, ht, hq, rfl⟩ := yy_aal_ok hs
  obtain ⟨hle, hlay⟩ := zz_rar_ok ho
  have hv := yy_rsv (z := z) (b := b) hq
  have hlt : i.toNatClampNeg < rs.length := Nat.not_le.mp fun q => hi (Or.inr q)
  intro H locs ls hW hS hl
  have hW : zz_Wd D cA z b h H := hW
  have k1 := k H locs ls hW hS hl
  have ha : (zz_ws z b cA h)[j]? = some (b (j + 1), .inl (cA t, rs.length, .inr (.inr (.inr (.inr (zz_rs z b rs)))))) := by rw [zz_ws_at (by omega), hlay, hbz.1 j (by omega)]; rfl
  have hty := zz_tys_at cA (t := t) (by omega)
  have h4 := W.aald (v := va_rf (zz_rs z b rs i.toNatClampNeg)) (ty := zz_ty t) (ls := ls) (rest := r.map (zz_mv z b)) (pc := pc) hx hb (hW j _ ha) ((hK.2 t _ hty).1 rs.length (fun j => va_rf (zz_rs z b rs j))) rfl (fun q => by cases q) (by show ¬ (i < 0 ∨ (arrV _ _ _).slots.size ≤ _); rw [arrV_size]; exact hi) (by show (arrV _ _ _).slots[_]? = _; rw [arrV_read _ _ hlt]) rfl rfl hd
  refine h4 ?_
  rw [hv]
  exact k1
end YM
