/-! the further steps are steps of the machine -/
section YM
variable {p : Program} {l : Launch} {e : Env} {R : Room} {s : State} {m : MethodId} {args : Array Value} {below : List Frame} {meth : Method} {c : Code} {Q : State → Prop} {D : va_G} {cA : Nat → ClassId} {z : Nat} {b : Nat → Nat} {n0 s0 md pc : Nat} {X : yy_X} {lv : zz_V} {st : List Value} {h : zz_H} {s' : zz_S}
theorem yy_ldcw {cc : ByteArray} {H : Heap} {locs : List Loc} {cells slots : Nat} {ls : Array Slot} {rest : List Value} (hexec : p.tables.exec = Jvm.exec) (hb : c.code = cc) {own tx : String} {index q : Nat} (hown : s.vm.findClass own = some m.cls) (hZ : vk_R own index tx q s) (hdg : decode cc pc = .ok (.ldc_w index, 3))
    (k : W p l e R s m args below meth c H locs cells slots Q (F0 m (pc + 3) ls (.ref q :: rest))) : W p l e R s m args below meth c H locs cells slots Q (F0 m pc ls rest) := by
  intro T hT X
  obtain ⟨t, a1, b1⟩ := k T hT X
  obtain ⟨k9, cf, i, a', hk, hcf, hcp, -, hr, hev'⟩ := Cond.stringRef_spec hown hZ.1
  cases hZ.2.symm.trans hev'
  obtain ⟨k', hk', he⟩ := X.warmed.alike.2.2 _ _ hk
  have hr' : k'.resolved[index]? = some (some (.string q)) := by
    rcases X.warmed.entry hk hk' index with h | ⟨h, -⟩
    · rw [h]; exact hr
    · rw [hr] at h; cases h
  refine ⟨t, ?_, b1⟩
  have hdg' : decode c.code (F0 m pc ls rest).pc = .ok (.ldc_w index, 3) := by rw [hb]; exact hdg
  jvm_step X.here [hexec, hdg', ldc_w.wp_string (e := e) (s := T) (f := F0 m pc ls rest) X.here.top hk' (by rw [he]; exact hcf) hcp hr']
  exact a1
theorem y1_ldc {i k0 x y u w : Nat} {sw : List (Int × Nat)} (C : zz_C p R s m args meth c D cA z b n0 X md) (ok : zz_okI md pc (.ldc i, (x, y, u, w), .ref k0, sw) = true) (k : zz_G p l e R s m args below meth c D cA z b n0 s0 md Q (pc + 2, lv, .ref k0 :: st, h)) : zz_G p l e R s m args below meth c D cA z b n0 s0 md Q (pc, lv, st, h) := by
  obtain ⟨hx, hb, hml, hown, hts, hK, hz, hbz, hXx, hin, hfr, hlo, hE⟩ := C
  have hd := zz_okd ok
  simp only [zz_okI, Bool.and_eq_true, decide_eq_true_eq] at ok
  obtain ⟨-, o1, -, -, o2⟩ := ok
  have o1 : yy_B ≤ k0 := Nat.le_of_ble_eq_true o1
  intro H locs ls hW hS hl
  have h5 := hXx.2.2 _ _ _ o2
  rw [show yy_B + (k0 - yy_B) = k0 by omega] at h5
  exact va_ldcS hx hb hown h5 hd (k H locs ls hW hS hl)
theorem y1_ldcw {i k0 x y u w : Nat} {sw : List (Int × Nat)} (C : zz_C p R s m args meth c D cA z b n0 X md) (ok : zz_okI md pc (.ldc_w i, (x, y, u, w), .ref k0, sw) = true) (k : zz_G p l e R s m args below meth c D cA z b n0 s0 md Q (pc + 3, lv, .ref k0 :: st, h)) : zz_G p l e R s m args below meth c D cA z b n0 s0 md Q (pc, lv, st, h) := by
  obtain ⟨hx, hb, hml, hown, hts, hK, hz, hbz, hXx, hin, hfr, hlo, hE⟩ := C
  have hd := zz_okd ok
  simp only [zz_okI, Bool.and_eq_true, decide_eq_true_eq] at ok
  obtain ⟨-, o1, -, -, o2⟩ := ok
  have o1 : yy_B ≤ k0 := Nat.le_of_ble_eq_true o1
  intro H locs ls hW hS hl
  have h5 := hXx.2.2 _ _ _ o2
  rw [show yy_B + (k0 - yy_B) = k0 by omega] at h5
  exact yy_ldcw hx hb hown h5 hd (k H locs ls hW hS hl)
/-- a static: what stands there from the start -/
def yy_sval (X : yy_X) (j : Nat) : Value := match j with
  | 0 => .int 1
  | 1 => .ref (yy_B + 200)
  | 2 => .ref (yy_B + 201)
  | _ => cond X.2 (.ref (yy_B + 300)) .null
theorem y1_gets {i x y u w j : Nat} {v : Value} {sw : List (Int × Nat)} (C : zz_C p R s m args meth c D cA z b n0 X md) (hd : decode (zz_bc md) pc = .ok (.getstatic i, 3)) (hw : zz_lt w = some (14, zz_oc md, i, j, 0, v)) (hj : j < 4) (k : zz_G p l e R s m args below meth c D cA z b n0 s0 md Q (pc + 3, lv, yy_sval X j :: st, h)) : zz_G p l e R s m args below meth c D cA z b n0 s0 md Q (pc, lv, st, h) := by
  obtain ⟨hx, hb, hml, hown, hts, hK, hz, hbz, hXx, hin, hfr, hlo, hE⟩ := C
  have hlink := hts _ (zz_link hw rfl)
  obtain ⟨-, -, z1, z2, z3, z4⟩ := hXx.2.1
  intro H locs ls hW hS hl
  have k1 := k H locs ls hW hS hl
  match j, hj with
  | 0, _ => exact va_gets hx hb z1 hS hown hlink (fun _ h9 => h9) hd k1
  | 1, _ => exact va_gets hx hb z2 hS hown hlink (fun _ h9 => h9) hd k1
  | 2, _ => exact va_gets hx hb z3 hS hown hlink (fun _ h9 => h9) hd k1
  | 3, _ =>
    refine va_gets hx hb z4 hS hown hlink (fun _ h9 => h9) hd ?_
    have e9 : zz_mv z b (yy_sval X 3) = cond X.2 (.ref (b (yy_B + 300))) .null := by
      show zz_mv z b (cond X.2 (.ref (yy_B + 300)) .null) = _
      cases X.2 <;> rfl
    rw [← e9]
    exact k1
theorem y1_get {i x y u w : Nat} {v : Value} {sw : List (Int × Nat)} (C : zz_C p R s m args meth c D cA z b n0 X md) (ok : zz_okI md pc (.getfield i, (x, y, u, w), v, sw) = true) (hs : yy_get yy_O x y pc lv st h = some (.inl s')) (k : zz_G p l e R s m args below meth c D cA z b n0 s0 md Q s') : zz_G p l e R s m args below meth c D cA z b n0 s0 md Q (pc, lv, st, h) := by
  obtain ⟨hx, hb, hml, hown, hts, hK, hz, hbz, hXx, hin, hfr, hlo, hE⟩ := C
  have hd := zz_okd ok
  obtain ⟨k0, r, rfl, ⟨o1, o2, rfl⟩, h9⟩ := yy_get_ok hs
  have o1 : yy_B ≤ k0 := Nat.le_of_ble_eq_true o1
  simp only [zz_okI, Bool.and_eq_true, decide_eq_true_eq] at ok
  have ok1 := ok.2.1
  obtain ⟨s1, s2, s3⟩ := hXx.2.1.1 _ o2
  rw [show yy_B + (k0 - yy_B) = k0 by omega] at s1 s2 s3
  have hlink := hts _ (zz_lk1 (C := "java/lang/String") (T := zz_F14) (N := 4) ok1 rfl)
  rcases h9 with ⟨rfl, rfl⟩ | ⟨rfl, rfl⟩
  · intro H locs ls hW hS hl
    exact vk_getf hx hb s3 hS hown hlink (fun _ h9 => h9) hd (k H locs ls hW hS hl)
  · intro H locs ls hW hS hl
    exact vk_getf hx hb s2 hS hown hlink (fun _ h9 => h9) hd (k H locs ls hW hS hl)
theorem y1_len (hB : h.1.1 < yy_B) (C : zz_C p R s m args meth c D cA z b n0 X md) (hd : decode (zz_bc md) pc = .ok (.arraylength, 1)) (hs : yy_len yy_O pc lv st h = some (.inl s')) (k : zz_G p l e R s m args below meth c D cA z b n0 s0 md Q s') : zz_G p l e R s m args below meth c D cA z b n0 s0 md Q (pc, lv, st, h) := by
  obtain ⟨hx, hb, hml, hown, hts, hK, hz, hbz, hXx, hin, hfr, hlo, hE⟩ := C
  obtain ⟨j, r, rfl, ⟨o1, bs, o2, rfl⟩ | ⟨t, rs, hr, ht, rfl⟩⟩ := yy_len_ok hs
  · have o1 : yy_B ≤ j + 1 := Nat.le_of_ble_eq_true o1
    have h5 := hXx.2.1.2.1 _ _ o2
    rw [show yy_B + (j + 1 - yy_B) = j + 1 by omega] at h5
    intro H locs ls hW hS hl
    exact va_tlen hx hb h5 hS rfl hd (k H locs ls hW hS hl)
  · obtain ⟨hle, hlay⟩ := zz_rar_ok hr
    intro H locs ls hW hS hl
    have hW : zz_Wd D cA z b h H := hW
    exact va_alen (a := b (j + 1)) hx hb hK hW j t (cA := cA t) (x := (rs.length, .inr (.inr (.inr (.inr (zz_rs z b rs)))))) (by rw [zz_ws_at (by omega), hlay, hbz.1 j (by omega)]; rfl) (zz_tys_at cA ht) rfl hd (k H locs ls hW hS hl)
theorem y1_bal (C : zz_C p R s m args meth c D cA z b n0 X md) (hd : decode (zz_bc md) pc = .ok (.baload, 1)) (hs : yy_bal yy_O pc lv st h = some (.inl s')) (k : zz_G p l e R s m args below meth c D cA z b n0 s0 md Q s') : zz_G p l e R s m args below meth c D cA z b n0 s0 md Q (pc, lv, st, h) := by
  obtain ⟨hx, hb, hml, hown, hts, hK, hz, hbz, hXx, hin, hfr, hlo, hE⟩ := C
  obtain ⟨i, k0, r, bs, rfl, o1, o2, hi, rfl⟩ := yy_bal_ok hs
  have o1 : yy_B ≤ k0 := Nat.le_of_ble_eq_true o1
  have h5 := hXx.2.1.2.1 _ _ o2
  rw [show yy_B + (k0 - yy_B) = k0 by omega] at h5
  intro H locs ls hW hS hl
  exact va_tb hx hb h5 hS hi rfl hd (k H locs ls hW hS hl)
theorem yy_rsv {rs : List (Option Nat)} {j : Nat} {q : Option Nat} (hq : rs[j]? = some q) : va_rf (zz_rs z b rs j) = zz_mv z b (zz_val q) := by
  unfold zz_rs
  rw [hq]
  cases q <;> rfl
theorem y1_aal (hB : h.1.1 < yy_B) (C : zz_C p R s m args meth c D cA z b n0 X md) (hd : decode (zz_bc md) pc = .ok (.aaload, 1)) (hs : yy_aal pc lv st h = some (.inl s')) (k : zz_G p l e R s m args below meth c D cA z b n0 s0 md Q s') : zz_G p l e R s m args below meth c D cA z b n0 s0 md Q (pc, lv, st, h) := by
  obtain ⟨hx, hb, hml, hown, hts, hK, hz, hbz, hXx, hin, hfr, hlo, hE⟩ := C
  obtain ⟨i, r, j, t, rs, q, rfl, ho, hi, ht, hq, rfl⟩ := yy_aal_ok hs
  obtain ⟨hle, hlay⟩ := zz_rar_ok ho
  have hv := yy_rsv (z := z) (b := b) hq
  have hlt : i.toNatClampNeg < rs.length := Nat.not_le.mp fun q => hi (Or.inr q)
  intro H locs ls hW hS hl
  have hW : zz_Wd D cA z b h H := hW
  have k1 := k H locs ls hW hS hl
  have ha : (zz_ws z b cA h)[j]? = some (b (j + 1), .inl (cA t, rs.length, .inr (.inr (.inr (.inr (zz_rs z b rs)))))) := by rw [zz_ws_at (by omega), hlay, hbz.1 j (by omega)]; rfl
  have hty := zz_tys_at cA (t := t) (by omega)
  have hrf : (zz_ty t).isReference = true := by
    have tt : t = 5 ∨ t = 6 ∨ t = 7 ∨ t = 8 := by omega
    rcases tt with rfl | rfl | rfl | rfl <;> rfl
  have k2 : W p l e R s m args below meth c H locs (h.1.1 - n0) (h.1.2 - s0) Q (F0 m (pc + 1) ls (va_rf (zz_rs z b rs i.toNatClampNeg) :: r.map (zz_mv z b))) := by
    rw [hv]
    exact k1
  exact W.aald (v := va_rf (zz_rs z b rs i.toNatClampNeg)) (ty := zz_ty t) hx hb (hW j _ ha) ((hK.2 t _ hty).1 rs.length (fun j => va_rf (zz_rs z b rs j))) hrf (fun q => by cases q) (by show ¬ (i < 0 ∨ (arrV _ _ _).slots.size ≤ _); rw [arrV_size]; exact hi) (by show (arrV _ _ _).slots[_]? = _; rw [arrV_read _ _ hlt]) rfl rfl hd k2
/-- casts and copies of rows -/
theorem y1_cst {i x y u w : Nat} {v : Value} {sw : List (Int × Nat)} (hB : h.1.1 < yy_B) (C : zz_C p R s m args meth c D cA z b n0 X md) (ok : zz_okI md pc (.checkcast i, (x, y, u, w), v, sw) = true) (hs : yy_cst x pc lv st h = some (.inl s')) (k : zz_G p l e R s m args below meth c D cA z b n0 s0 md Q s') : zz_G p l e R s m args below meth c D cA z b n0 s0 md Q (pc, lv, st, h) := by
  obtain ⟨hx, hb, hml, hown, hts, hK, hz, hbz, hXx, hin, hfr, hlo, hE⟩ := C
  have hd := zz_okd ok
  obtain ⟨j, r, rfl, hle, rfl, h9⟩ := yy_cst_ok hs
  simp only [zz_okI, Bool.and_eq_true, decide_eq_true_eq] at ok
  have hlink := hts _ (zz_link ok.2.2 rfl)
  intro H locs ls hW hS hl
  have hW : zz_Wd D cA z b h H := hW
  have k1 := k H locs ls hW hS hl
  rcases h9 with ⟨n, hlay, ht⟩ | ⟨rs, hlay, ht⟩
  · rcases ht with rfl | rfl
    · exact va_castA (a := b (j + 1)) hx hb hown hlink hW j (cA := cA 0) (x := (n, .inl (h.2.2 (j + 1)))) (by rw [zz_ws_at (by omega), hlay, hbz.1 j (by omega)]; rfl) (hK.2 0 _ (zz_tys_at cA (t := 0) (by decide))).2 hd k1
    · exact va_castA (a := b (j + 1)) hx hb hown hlink hW j (cA := cA 2) (x := (n, .inl (h.2.2 (j + 1)))) (by rw [zz_ws_at (by omega), hlay, hbz.1 j (by omega)]; rfl) (hK.2 2 _ (zz_tys_at cA (t := 2) (by decide))).2 hd k1
  · subst ht
    exact va_castA (a := b (j + 1)) hx hb hown hlink hW j (cA := cA 5) (x := (rs.length, .inr (.inr (.inr (.inr (zz_rs z b rs)))))) (by rw [zz_ws_at (by omega), hlay, hbz.1 j (by omega)]; rfl) (hK.2 5 _ (zz_tys_at cA (t := 5) (by decide))).2 hd k1
theorem yy_bound {H : Heap} {locs : List Loc} {cells sl : Nat} {g : JFrame} (k : H.size ≤ s.heap.size + cells → W p l e R s m args below meth c H locs cells sl Q g) : W p l e R s m args below meth c H locs cells sl Q g := by
  intro T hT X
  refine k ?_ T hT X
  have h1 := X.same.2.2.1
  have h2 : (T.setVm s.vm).heap = H := hT
  rw [h2] at h1
  exact h1
def yy_ckN (t : Nat) : Bool := zz_wd (yy_kNi t).1 (.sameMethod (yy_an t) "java/lang/Object" "clone" "()Ljava/lang/Object;") && (zz_wd (yy_kNi t).2.1 (.selects (yy_an t) ⟨yy_an t, "clone", "()Ljava/lang/Object;"⟩ ⟨"java/lang/Object", "clone", "()Ljava/lang/Object;"⟩) && (zz_wn (yy_kNi t).2.2 (.castable (yy_an t) "java/lang/Cloneable") && (zz_wd yy_kNo.1 (.native ⟨"java/lang/Object", "clone", "()Ljava/lang/Object;"⟩) && zz_wd yy_kNo.2 (.instanceMethod ⟨"java/lang/Object", "clone", "()Ljava/lang/Object;"⟩))))
theorem yy_ckN0 : yy_ckN 0 = true := by decide +kernel
theorem yy_ckN2 : yy_ckN 2 = true := by decide +kernel
theorem yy_ckN5 : yy_ckN 5 = true := by decide +kernel
theorem yy_nestC {k : Nat} {a d : String} (h : zz_wn k (.castable a d) = true) : Jvm.Cond.castable a d ∈ zz_nest := by
  unfold zz_wn at h
  rw [decide_eq_true_eq] at h
  exact List.mem_filter.mpr ⟨List.mem_of_getElem? h, rfl⟩
theorem yy_fitb {x : Int32} (h : yy_fb x = true) : fits .byte (.int x) = true := by
  have h1 : -128 ≤ x ∧ x ≤ 127 := of_decide_eq_true h
  have h2 := pk_fb x
  have h3 : x.toInt8.toInt32 = x := by
    apply Int32.toInt_inj.mp
    have a1 := Int32.le_iff_toInt_le.mp h1.1
    have a2 := Int32.le_iff_toInt_le.mp h1.2
    rw [show (-128 : Int32).toInt = -128 from rfl] at a1
    rw [show (127 : Int32).toInt = 127 from rfl] at a2
    rw [Int8.toInt_toInt32, Int32.toInt_toInt8, Int.bmod_def]
    split <;> omega
  rw [h3] at h2
  exact h2
theorem y1_cln {i x y u w t : Nat} {v : Value} {sw : List (Int × Nat)} (hB : h.1.1 + 1 < yy_B) (C : zz_C p R s m args meth c D cA z b n0 X md) (ok : zz_okI md pc (.invokevirtual i, (x, y, u, w), v, sw) = true) (hx5 : x = 100005 + t) (hn0 : n0 ≤ h.1.1) (hs0 : s0 ≤ h.1.2) (hb1 : s'.2.2.2.1.1 - n0 ≤ R.cells) (hb2 : s'.2.2.2.1.2 - s0 ≤ R.slots) (hs : yy_cln t pc lv st h = some (.inl s')) (k : zz_G p l e R s m args below meth c D cA z b n0 s0 md Q s') : zz_G p l e R s m args below meth c D cA z b n0 s0 md Q (pc, lv, st, h) := by
  obtain ⟨hx, hb, hml, hown, hts, hK, hz, hbz, hXx, hin, hfr, hlo, hE⟩ := C
  have hd := zz_okd ok
  subst hx5
  have ok1 := (Bool.and_eq_true_iff.mp ok).2
  simp only [if_neg (show ¬ 100005 + t < 100000 by omega), Bool.and_eq_true, decide_eq_true_eq, Nat.ble_eq, show 100005 + t - 100005 = t by omega] at ok1
  obtain ⟨-, ow, o2, o3⟩ := ok1
  obtain ⟨j, r, rfl, h8, hle, h9⟩ := yy_cln_ok hs
  have hck : yy_ckN t = true := by
    rcases h9 with ⟨n, -, e | e, -⟩ | ⟨rs, -, e, -⟩
    · rw [e]; exact yy_ckN0
    · rw [e.1]; exact yy_ckN2
    · rw [e]; exact yy_ckN5
  unfold yy_ckN at hck
  simp only [Bool.and_eq_true] at hck
  obtain ⟨w1, w2, w3, w4, w5⟩ := hck
  have ht9 : t < 9 := by
    rcases h9 with ⟨n, -, e | e, -⟩ | ⟨rs, -, e, -⟩ <;> omega
  have hty := zz_tys_at cA ht9
  -- one address is left for the new row
  have fin : ∀ (q : zz_L) (n : Nat) (g : Nat → Nat → Int32) (xA : vp_A), h.2.1 (j + 1) = q → zz_cell z b cA q (h.2.2 (j + 1)) = .inl (cA t, xA) → xA.1 = n → (∀ (i : Nat) (v : Value), (vp_cell (cA t) xA).slots[i]? = some v → fits (zz_ty t) v = true) →
      s' = (pc + 3, lv, .ref (h.1.1 + 1) :: r, ((h.1.1 + 1, h.1.2 + n), (zz_up h.2.1 (h.1.1 + 1) q, g))) → (∀ a, a ≤ h.1.1 → g a = h.2.2 a) → zz_cell z b cA q (g (h.1.1 + 1)) = .inl (cA t, xA) →
      s.vm.findClass (yy_an t) = some (cA t) → zz_G p l e R s m args below meth c D cA z b n0 s0 md Q (pc, lv, .ref (j + 1) :: r, h) := by
    intro q n g xA e1 e2 e3 hfit e4 hg e5 hnm
    subst e4
    intro H locs ls hW hS hl
    have hW : zz_Wd D cA z b h H := hW
    refine zz_sized (h := h) hz hn0 hW hS fun hsz => ?_
    have ha : (zz_ws z b cA h)[j]? = some (b (j + 1), .inl (cA t, xA)) := by rw [zz_ws_at (by omega), e1, e2, hbz.1 j (by omega)]
    refine va_clone (a := b (j + 1)) (A := fun q => z ≤ q) hx hb (hml.trans hl.1.symm) hown (hts _ (zz_link ow rfl)) (hts _ (zz_all_of w1)) (hts _ (zz_all_of w4)) (hts _ (zz_all_of w5)) (hts _ (zz_all_of w2)) (hE.1 _ (yy_nestC w3)) hK hW (zz_ws_D z b cA h) hS (fun q hq => by show z ≤ q; omega) j t ha hty hnm hfit (by omega) (by rw [zz_mv_sum]; omega) (by show h.1.1 - n0 + 1 ≤ _; have : h.1.1 + 1 - n0 ≤ R.cells := hb1; omega) (by show h.1.2 - s0 + xA.1 ≤ _; have : h.1.2 + n - s0 ≤ R.slots := hb2; omega) hd fun q1 H1 _ hP1 hD1 hS1 => ?_
    refine yy_bound fun hH1 => ?_
    have hq1 : q1 = z + h.1.1 := by
      have l1 : (zz_ws z b cA h).length = h.1.1 := by simp [zz_ws]
      have l2 : (zz_ws z b cA h ++ [(q1, (.inl (cA t, xA) : va_E))])[h.1.1]? = some (q1, .inl (cA t, xA)) := by
        rw [List.getElem?_append_right (by omega), l1]
        simp
      have l3 := (hP1 _ _ l2).lt
      have l3 : q1 < H1.size := l3
      have l4 : z ≤ q1 := hD1.2 _ _ l2
      rcases Nat.lt_or_ge q1 (z + h.1.1) with l5 | l5
      · exfalso
        have l6 : (zz_ws z b cA h ++ [(q1, (.inl (cA t, xA) : va_E))])[q1 - z]? = some (z + (q1 - z), zz_cell z b cA (h.2.1 (q1 - z + 1)) (h.2.2 (q1 - z + 1))) := by
          rw [List.getElem?_append_left (by omega)]
          exact zz_ws_at (by omega)
        have := hD1.1 _ _ _ _ l6 l2 (by show z + (q1 - z) = q1; omega)
        omega
      · omega
    subst hq1
    have hW1 : zz_Wd D cA z b ((h.1.1 + 1, h.1.2 + n), (zz_up h.2.1 (h.1.1 + 1) q, g)) H1 := by
      unfold zz_Wd
      have e6 : zz_ws z b cA ((h.1.1 + 1, h.1.2 + n), (zz_up h.2.1 (h.1.1 + 1) q, g)) = zz_ws z b cA h ++ [(z + h.1.1, .inl (cA t, xA))] := by
        show (List.range (h.1.1 + 1)).map _ = _
        rw [List.range_succ, List.map_append]
        have p1 : (List.range h.1.1).map (fun k' => (z + k', zz_cell z b cA (zz_up h.2.1 (h.1.1 + 1) q (k' + 1)) (g (k' + 1)))) = zz_ws z b cA h := by
          apply List.map_congr_left
          intro k' hk'
          have hk' := List.mem_range.mp hk'
          rw [zz_up_other _ _ (by omega), hg _ (by omega)]
        have p2 : [h.1.1].map (fun k' => (z + k', zz_cell z b cA (zz_up h.2.1 (h.1.1 + 1) q (k' + 1)) (g (k' + 1)))) = [(z + h.1.1, .inl (cA t, xA))] := by
          show [(z + h.1.1, zz_cell z b cA (zz_up h.2.1 (h.1.1 + 1) q (h.1.1 + 1)) (g (h.1.1 + 1)))] = _
          rw [zz_up_self, e5]
        exact congr (congrArg HAppend.hAppend p1) p2
      rw [e6]
      exact hP1
    have k1 := k H1 locs ls hW1 hS1 hl
    have a1 : h.1.1 + 1 - n0 = h.1.1 - n0 + 1 := by omega
    have a2 : h.1.2 + n - s0 = h.1.2 - s0 + xA.1 := by omega
    have e9 : (Value.ref (h.1.1 + 1) :: r).map (zz_mv z b) = .ref (z + h.1.1) :: r.map (zz_mv z b) := congrArg (fun q => Value.ref q :: r.map (zz_mv z b)) (hbz.1 h.1.1 hB)
    dsimp only at k1
    rw [a1, a2, e9] at k1
    exact k1
  rcases h9 with ⟨n, hlay, ht, e⟩ | ⟨rs, hlay, ht, e⟩
  · refine fin (.inl (t, n)) n _ (n, .inl (h.2.2 (j + 1))) hlay rfl rfl (fun i v hv => ?_) e (fun a ha => zz_up_other _ _ (by omega)) (by rw [zz_up_self]; rfl) ?_
    · have hv : (arrV (cA t) n (fun j' => .int (h.2.2 (j + 1) j'))).slots[i]? = some v := hv
      have hi : i < n := by
        have := (Array.getElem?_eq_some_iff.mp hv).1
        rwa [arrV_size] at this
      rw [arrV_read _ _ hi] at hv
      cases hv
      rcases ht with rfl | ⟨rfl, hb8⟩
      · rfl
      · exact yy_fitb (List.all_eq_true.mp hb8 i (List.mem_range.mpr hi))
    · rcases ht with rfl | ⟨rfl, -⟩
      · exact (hK.2 0 _ hty).2
      · exact (hK.2 2 _ hty).2
  · subst ht
    refine fin (.inr (.inl (5, rs))) rs.length _ (rs.length, .inr (.inr (.inr (.inr (zz_rs z b rs))))) hlay rfl rfl (fun i v hv => ?_) e (fun a ha => rfl) rfl (hK.2 5 _ hty).2
    have hv : (arrV (cA 5) rs.length (fun j' => va_rf (zz_rs z b rs j'))).slots[i]? = some v := hv
    have hi : i < rs.length := by
      have := (Array.getElem?_eq_some_iff.mp hv).1
      rwa [arrV_size] at this
    rw [arrV_read _ _ hi] at hv
    cases hv
    show fits (.array .int) (va_rf (zz_rs z b rs i)) = true
    cases zz_rs z b rs i <;> rfl
theorem yy_asg (vm : Vm) (cc : ClassId) : vm.assignable cc cc = true := by
  show vm.assignableAux (255 + 1) cc cc = true
  rw [Vm.assignableAux]
  simp
theorem yy_aastN0 {T : State} {locs : List Loc} {cells slots : Nat} (X : Stand p l e R s m args below meth c T locs cells slots) (hexec : p.tables.exec = Jvm.exec) {a : Addr} {cell : Cell} {ty : FieldType} {j : Int32} (hcell : T.heap[a]? = some cell) (harr : s.isArrayOf cell (.array ty)) (hknown : cell.vm ≠ .unknown)
    (hin : ¬ (j < 0 ∨ cell.slots.size ≤ j.toNatClampNeg))
    {g : JFrame} (hg : g.method = m) {rest : List Value} (hstack : g.stack = .null :: .int j :: .ref a :: rest) (hdg : decode c.code g.pc = .ok (.aastore, 1)) :
    Stand p l e R s m args below meth c (T.setCell a (cell.setSlot j.toNatClampNeg .null)) (locs ++ [⟨a, j.toNatClampNeg⟩]) cells slots ∧
      ∀ target, Steps p.tables e below ((T.setCell a (cell.setSlot j.toNatClampNeg .null)).setTop { g with pc := g.pc + 1, stack := rest }) target → Steps p.tables e below (T.setTop g) target := by
  have hT := State.isArrayOf_alike X.warmed.alike harr
  have hfit : T.fitsSlot cell.cls cell.vm j.toNatClampNeg .null = true := by
    obtain ⟨hobj, k, hk, comp, hkind⟩ := hT
    cases hvm : cell.vm <;> first | exact absurd hvm (hobj _) | simp [State.fitsSlot, State.slotType?, hk, hkind, fits]
  refine ⟨X.stored hcell _ _, fun target hrest => ?_⟩
  subst hg
  jvm_step X.here [hexec, hdg]
  refine aastore.wp_of_null (c := cell) (t := .array ty) X.here.top hstack hcell hT hin hknown (Nat.not_le.mp fun q => hin (Or.inr q)) hfit ?_
  intro acts
  rw [afterInstr_ok]
  exact hrest
theorem yy_WaastN {H : Heap} {locs : List Loc} {cells slots : Nat} {cc : ByteArray} (hexec : p.tables.exec = Jvm.exec) (hb : c.code = cc) {a : Addr} {cell : Cell} {ty : FieldType} {j : Int32} (hcell : H[a]? = some cell) (harr : s.isArrayOf cell (.array ty)) (hknown : cell.vm ≠ .unknown) (hin : ¬ (j < 0 ∨ cell.slots.size ≤ j.toNatClampNeg))
    {g : JFrame} (hg : g.method = m) {rest : List Value} (hstack : g.stack = .null :: .int j :: .ref a :: rest) (hdg : decode cc g.pc = .ok (.aastore, 1))
    (kk : ∀ H' : Heap, H'[a]? = some (cell.setSlot j.toNatClampNeg .null) → H'.size = H.size → (∀ q, q ≠ a → H'[q]? = H[q]?) → W p l e R s m args below meth c H' (locs ++ [⟨a, j.toNatClampNeg⟩]) cells slots Q { g with pc := g.pc + 1, stack := rest }) :
    W p l e R s m args below meth c H locs cells slots Q g := by
  intro T hT X
  have hT' : T.heap[a]? = some cell := by rw [hT]; exact hcell
  obtain ⟨X', st⟩ := yy_aastN0 X hexec hT' harr hknown hin hg hstack (by rw [hb]; exact hdg)
  have hlt : a < T.heap.size := (Array.getElem?_eq_some_iff.mp hT').1
  obtain ⟨t', a1, b1⟩ := kk _ (heapAt_setCell_self _ hlt) (by rw [size_setCell, hT]) (fun q hq => by rw [heapAt_setCell_ne _ (Ne.symm hq), hT]) (T.setCell a (cell.setSlot j.toNatClampNeg .null)) rfl X'
  exact ⟨t', st t' a1, b1⟩
theorem yy_rs_setN {rs : List (Option Nat)} {i : Nat} (hi : i < rs.length) : va_up (zz_rs z b rs) i none = zz_rs z b (rs.set i none) := by
  funext j
  unfold zz_rs va_up
  by_cases hj : j = i
  · subst hj
    simp [hi]
  · rw [if_neg hj, List.getElem?_set, if_neg (Ne.symm hj)]
theorem y1_aas (hB : h.1.1 < yy_B) (C : zz_C p R s m args meth c D cA z b n0 X md) (hd : decode (zz_bc md) pc = .ok (.aastore, 1)) (hs : yy_aas pc lv st h = some (.inl s')) (k : zz_G p l e R s m args below meth c D cA z b n0 s0 md Q s') : zz_G p l e R s m args below meth c D cA z b n0 s0 md Q (pc, lv, st, h) := by
  obtain ⟨hx, hb, hml, hown, hts, hK, hz, hbz, hXx, hin, hfr, hlo, hE⟩ := C
  obtain ⟨i, r, j, t, rs, ho, hi, ht, h9⟩ := yy_aas_ok hs
  obtain ⟨hle, hlay⟩ := zz_rar_ok ho
  have hlt : i.toNatClampNeg < rs.length := Nat.not_le.mp fun q => hi (Or.inr q)
  have h0 : ¬ i < 0 := fun q => hi (Or.inl q)
  have ha : (zz_ws z b cA h)[j]? = some (b (j + 1), .inl (cA t, rs.length, .inr (.inr (.inr (.inr (zz_rs z b rs)))))) := by rw [zz_ws_at (by omega), hlay, hbz.1 j (by omega)]; rfl
  -- the new picture
  have pic : ∀ (o : Option Nat) (o' : Option Nat) (H1 : Heap), va_up (zz_rs z b rs) i.toNatClampNeg o = zz_rs z b (rs.set i.toNatClampNeg o') → va_P D zz_cl ((zz_ws z b cA h).set j (b (j + 1), .inl (cA t, rs.length, .inr (.inr (.inr (.inr (va_up (zz_rs z b rs) i.toNatClampNeg o))))))) H1 → zz_Wd D cA z b (h.1, (zz_up h.2.1 (j + 1) (.inr (.inl (t, rs.set i.toNatClampNeg o'))), h.2.2)) H1 := by
    intro o o' H1 e hP1
    rw [hbz.1 j (by omega), zz_ws_set (h := h) (h' := (h.1, (zz_up h.2.1 (j + 1) (.inr (.inl (t, rs.set i.toNatClampNeg o'))), h.2.2))) j rfl (by
      show zz_cell z b cA (zz_up h.2.1 (j + 1) _ (j + 1)) (h.2.2 (j + 1)) = _
      rw [zz_up_self, zz_cell_r, ← e, List.length_set]) (fun a ha => ⟨zz_up_other _ _ ha, rfl⟩)] at hP1
    exact hP1
  have stv : ∀ (H H1 : Heap) (o : Option Nat), H1[b (j + 1)]? = some ((arrV (cA t) rs.length (fun j' => va_rf (zz_rs z b rs j'))).setSlot i.toNatClampNeg (va_rf o)) → H1[b (j + 1)]? = some (vp_cell (cA t) (rs.length, .inr (.inr (.inr (.inr (va_up (zz_rs z b rs) i.toNatClampNeg o)))))) := by
    intro H H1 o e
    rw [e]
    rw [vp_cell_q, arrV_store]
    congr 2
    funext q
    by_cases hq : q = i.toNatClampNeg
    · subst hq
      simp [updV, va_up]
    · simp [updV, va_up, hq]
  rcases h9 with ⟨q, rfl, hkd, rfl⟩ | ⟨rfl, rfl, rfl⟩
  · intro H locs ls hW hS hl
    have hW : zz_Wd D cA z b h H := hW
    have hrs : va_up (zz_rs z b rs) i.toNatClampNeg (some (b (q + 1))) = zz_rs z b (rs.set i.toNatClampNeg (some (q + 1))) := zz_rs_set hlt
    have fin : ∀ (H1 : Heap) (locs1 : List Loc), va_P D zz_cl ((zz_ws z b cA h).set j (b (j + 1), .inl (cA t, rs.length, .inr (.inr (.inr (.inr (va_up (zz_rs z b rs) i.toNatClampNeg (some (b (q + 1))))))))) ) H1 → va_D (fun q => z ≤ q) ((zz_ws z b cA h).set j (b (j + 1), .inl (cA t, rs.length, .inr (.inr (.inr (.inr (va_up (zz_rs z b rs) i.toNatClampNeg (some (b (q + 1))))))))) ) → va_S (fun q => z ≤ q) s.heap H1 locs1 → W p l e R s m args below meth c H1 locs1 (h.1.1 - n0) (h.1.2 - s0) Q (F0 m (pc + 1) ls (r.map (zz_mv z b))) := fun H1 locs1 hP1 _ hS1 => k H1 locs1 ls (pic _ _ H1 hrs hP1) hS1 hl
    -- an element that is a row
    have row : ∀ (t0 : Nat) (x : vp_A) (ty : FieldType), zz_ty t = .array ty → t0 < 9 → (zz_ws z b cA h)[q]? = some (b (q + 1), .inl (cA t0, x)) → yy_Ao ty s → s.vm.findClass (FieldType.array ty).toString = some (cA t0) → (∀ g, (vp_cell (cA t0) x).vm ≠ .statics g) → (vp_cell (cA t0) x).cls = cA t0 → W p l e R s m args below meth c H locs (h.1.1 - n0) (h.1.2 - s0) Q (F0 m pc ls (.ref (b (q + 1)) :: .int i :: .ref (b (j + 1)) :: r.map (zz_mv z b))) := by
      intro t0 x ty ety ht0 hq hao hnm hvm hcl
      obtain ⟨comp, cA5, k5, a1, a2, a3, a4, a5⟩ := arrayOverA_spec hao
      cases a1.symm.trans hnm
      have hRA := (hK.2 t _ (zz_tys_at cA (by omega))).2
      rw [ety] at hRA
      have hRA : s.vm.findClass ("[" ++ (FieldType.array ty).toString) = some (cA t) := hRA
      cases a5.symm.trans hRA
      obtain ⟨-, kv, hkv, -⟩ := (hK.2 t0 _ (zz_tys_at cA ht0)).1 0 (fun _ => .null)
      refine W.aast (cell := arrV (cA t) rs.length (fun j' => va_rf (zz_rs z b rs j'))) (cv := vp_cell (cA t0) x) (t := .array ty) hx hb (hW j _ ha) (fun q h => by cases h) (fun h => by cases h) a3 a4 rfl hkv ⟨h0, by show _ < (arrV _ _ _).slots.size; rw [arrV_size]; exact hlt⟩ (hW q _ hq) hvm (by rw [hcl]; exact hkv) (by rw [hcl]; exact yy_asg _ _) rfl rfl hd fun H1 e z1 oq => ?_
      exact fin H1 _ (hW.set (zz_ws_D z b cA h) ha (stv H H1 (some (b (q + 1))) e) oq) ((zz_ws_D z b cA h).set ha) (hS.put z1 oq ((zz_ws_D z b cA h).2 j _ ha))
    obtain ⟨t5, t8⟩ := ht
    have tt : t = 5 ∨ t = 6 ∨ t = 7 ∨ t = 8 := by omega
    rcases tt with rfl | rfl | rfl | rfl
    · have hkd : (zz_arr h (q + 1) 0).isSome = true := hkd
      obtain ⟨n, hq⟩ := Option.isSome_iff_exists.mp hkd
      obtain ⟨hle2, hlay2⟩ := zz_arr_ok hq
      exact row 0 (n, .inl (h.2.2 (q + 1))) .int rfl (by decide) (by rw [zz_ws_at (by omega), hlay2, hbz.1 q (by omega)]; rfl) hE.2.2.1 (hK.2 0 _ (zz_tys_at cA (t := 0) (by decide))).2 (fun g h => by cases h) rfl
    · have hkd : (match zz_rar h (q + 1) with
        | some (5, _) => true
        | _ => false) = true := hkd
      split at hkd
      · rename_i rs2 hq
        obtain ⟨hle2, hlay2⟩ := zz_rar_ok hq
        exact row 5 (rs2.length, .inr (.inr (.inr (.inr (zz_rs z b rs2))))) (.array .int) rfl (by decide) (by rw [zz_ws_at (by omega), hlay2, hbz.1 q (by omega)]; rfl) hE.2.2.2.1 (hK.2 5 _ (zz_tys_at cA (t := 5) (by decide))).2 (fun g h => by cases h) rfl
      · cases hkd
    · have hkd : (zz_obj h (q + 1) 11).isSome = true := hkd
      obtain ⟨fs, hq⟩ := Option.isSome_iff_exists.mp hkd
      obtain ⟨hle2, hlay2⟩ := zz_obj_ok hq
      exact va_astq (a := b (j + 1)) hx hb hK hW (zz_ws_D z b cA h) hS j 7 q 11 (cA := cA 7) (r := ("UnequalHoursLaw$B", zz_F11, 5)) (n := rs.length) (v := b (q + 1)) (vs := zz_fv z b (h.2.2 (q + 1)) 0 fs) (f := zz_rs z b rs) ha (zz_tys_at cA (t := 7) (by decide)) (by rw [zz_ws_at (by omega), hlay2, hbz.1 q (by omega)]; rfl) rfl hi hd fin
    · have hkd : (zz_obj h (q + 1) 12).isSome = true := hkd
      obtain ⟨fs, hq⟩ := Option.isSome_iff_exists.mp hkd
      obtain ⟨hle2, hlay2⟩ := zz_obj_ok hq
      exact va_astq (a := b (j + 1)) hx hb hK hW (zz_ws_D z b cA h) hS j 8 q 12 (cA := cA 8) (r := ("UnequalHoursLaw$W", zz_F12, 9)) (n := rs.length) (v := b (q + 1)) (vs := zz_fv z b (h.2.2 (q + 1)) 0 fs) (f := zz_rs z b rs) ha (zz_tys_at cA (t := 8) (by decide)) (by rw [zz_ws_at (by omega), hlay2, hbz.1 q (by omega)]; rfl) rfl hi hd fin
  · intro H locs ls hW hS hl
    have hW : zz_Wd D cA z b h H := hW
    refine yy_WaastN (ty := .int) (cell := arrV (cA 5) rs.length (fun j' => va_rf (zz_rs z b rs j'))) hx hb (hW j _ ha) ((hK.2 5 _ (zz_tys_at cA (t := 5) (by decide))).1 rs.length (fun j => va_rf (zz_rs z b rs j))) (fun h => by cases h) (by show ¬ (i < 0 ∨ (arrV _ _ _).slots.size ≤ _); rw [arrV_size]; exact hi) rfl rfl hd fun H1 e z1 oq => ?_
    exact k H1 _ ls (pic none none H1 (yy_rs_setN hlt) (hW.set (zz_ws_D z b cA h) ha (stv H H1 none e) oq)) (hS.put z1 oq ((zz_ws_D z b cA h).2 j _ ha)) hl
theorem y1_cpy {k0 y u w : Nat} {v : Value} {sw : List (Int × Nat)} (hB : h.1.1 < yy_B) (C : zz_C p R s m args meth c D cA z b n0 X md) (ok : zz_okI md pc (.invokestatic k0, (100001, y, u, w), v, sw) = true) (hs : yy_cpy yy_O pc lv st h = some (.inl s')) (k : zz_G p l e R s m args below meth c D cA z b n0 s0 md Q s') : zz_G p l e R s m args below meth c D cA z b n0 s0 md Q (pc, lv, st, h) := by
  obtain ⟨hx, hb, hml, hown, hts, hK, hz, hbz, hXx, hin, hfr, hlo, hE⟩ := C
  have hd := zz_okd ok
  have ok : (decide (zz_lt w = some (9, zz_oc md, k0, 0, 0, .null)) && (Nat.ble 1 (zz_fr md) && Nat.ble 26 (zz_lo md))) = true := (Bool.and_eq_true_iff.mp ok).2
  simp only [Bool.and_eq_true, decide_eq_true_eq, Nat.ble_eq] at ok
  obtain ⟨ok1, ok2, ok3⟩ := ok
  obtain ⟨n, sp, dp, r, a, d, na, nb, f, rfl, ha, hsrc, ⟨c1, c2, c3, c4, c5, c6, c7⟩, rfl⟩ := yy_cpy_ok hs
  obtain ⟨hla, hya⟩ := zz_arr_ok ha
  have hk := zz_kC_ok
  simp only [Bool.and_eq_true] at hk
  have hfit : ∀ i : Nat, i < n.toNatClampNeg → fits .byte (.int (f (sp.toNatClampNeg + i))) = true := fun i hi => yy_fitb (List.all_eq_true.mp c7 i (List.mem_range.mpr hi))
  have hw7 : nativeFrameWords "java/lang/System" "arraycopy" 5 = 7 := by decide +kernel
  intro H locs ls hW hS hl
  have hW : zz_Wd D cA z b h H := hW
  have fin : ∀ (H1 : Heap) (locs1 : List Loc), va_P D zz_cl ((zz_ws z b cA h).set a (b (a + 1), .inl (cA 2, na, .inl (va_cpy f (h.2.2 (a + 1)) sp.toNatClampNeg dp.toNatClampNeg n.toNatClampNeg)))) H1 → va_D (fun q => z ≤ q) ((zz_ws z b cA h).set a (b (a + 1), .inl (cA 2, na, .inl (va_cpy f (h.2.2 (a + 1)) sp.toNatClampNeg dp.toNatClampNeg n.toNatClampNeg)))) → va_S (fun q => z ≤ q) s.heap H1 locs1 → W p l e R s m args below meth c H1 locs1 (h.1.1 - n0) (h.1.2 - s0) Q (F0 m (pc + 3) ls (r.map (zz_mv z b))) := by
    intro H1 locs1 hP1 _ hS1
    rw [hbz.1 a (by omega)] at hP1
    rw [zz_ws_set (h := h) (h' := (h.1, (h.2.1, zz_up h.2.2 (a + 1) (va_cpy f (h.2.2 (a + 1)) sp.toNatClampNeg dp.toNatClampNeg n.toNatClampNeg)))) a rfl (by
      show zz_cell z b cA (h.2.1 (a + 1)) (zz_up h.2.2 (a + 1) _ (a + 1)) = _
      rw [hya, zz_up_self]
      rfl) (fun i hi => ⟨rfl, zz_up_other _ _ hi⟩)] at hP1
    exact k H1 locs1 ls hP1 hS1 hl
  rcases yy_src_ok hsrc with ⟨o1, bs, o2, rfl, rfl⟩ | ⟨d, rfl, hd2, rfl⟩
  · have o1 : yy_B ≤ d := Nat.le_of_ble_eq_true o1
    have h5 := hXx.2.1.2.1 _ _ o2
    rw [show yy_B + (d - yy_B) = d by omega] at h5
    exact vk_copyt (a := b (a + 1)) hx hb (hml.trans hl.1.symm) hown (hts _ (zz_link ok1 rfl)) (hts _ (zz_all_of hk.1)) (hts _ (zz_all_of hk.2.1)) (hts _ (zz_all_of hk.2.2)) hK hW (zz_ws_D z b cA h) hS (b0 := b d) (f := fun j => bs.getD j 0) h5 a 2 (c1 := cA 2) (n1 := na) (g := h.2.2 (a + 1)) (by rw [zz_ws_at (by omega), hya, hbz.1 a (by omega)]; rfl) (zz_tys_at cA (by decide)) c1 c2 c3 c4 c5 hfit (by omega) (by rw [zz_mv_sum]; omega) hd fin
  · obtain ⟨hld, hyd⟩ := zz_arr_ok hd2
    have q1 : (zz_ws z b cA h)[d]? = some (b (d + 1), .inl (cA 2, nb, .inl (h.2.2 (d + 1)))) := by rw [zz_ws_at (by omega), hyd, hbz.1 d (by omega)]; rfl
    have q2 : (zz_ws z b cA h)[a]? = some (b (a + 1), .inl (cA 2, na, .inl (h.2.2 (a + 1)))) := by rw [zz_ws_at (by omega), hya, hbz.1 a (by omega)]; rfl
    exact va_copyi (a := b (a + 1)) hx hb (hml.trans hl.1.symm) hown (hts _ (zz_link ok1 rfl)) (hts _ (zz_all_of hk.1)) (hts _ (zz_all_of hk.2.1)) (hts _ (zz_all_of hk.2.2)) hK hW (zz_ws_D z b cA h) hS d a 2 2 (a0 := b (d + 1)) (c0 := cA 2) (c1 := cA 2) (n0 := nb) (n1 := na) (f := h.2.2 (d + 1)) (g := h.2.2 (a + 1)) (ty := .byte) q1 q2 (zz_tys_at cA (by decide)) (zz_tys_at cA (by decide)) rfl c1 c2 c3 c4 c5 hfit (by omega) (by rw [zz_mv_sum]; omega) hd fin
end YM
