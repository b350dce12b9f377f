/-! arrays, new cells, copies -/
section ZX
variable {p : Program} {l : Launch} {e : Env} {R : Room} {s : State} {m : MethodId} {args : Array Value} {below : List Frame} {meth : Method} {c : Code} {Q : State → Prop} {D : va_G} {cA : Nat → ClassId} {z b n0 s0 md pc : Nat} {X : zz_X} {lv : zz_V} {st : List Value} {h : zz_H} {s' : zz_S}
theorem z1_ial (C : zz_C p R s m args meth c D cA z b n0 X md) (hd : decode (zz_bc md) pc = .ok (.iaload, 1)) (hs : zz_ial X pc lv st h = some (.inl s')) (k : zz_G p l e R s m args below meth c D cA z b n0 s0 md Q s') : zz_G p l e R s m args below meth c D cA z b n0 s0 md Q (pc, lv, st, h) := by
  obtain ⟨hx, hb, hml, hown, hts, hK, hz, hbz, hXx, hin, hfr, hlo, hE⟩ := C
  obtain ⟨i, r, ⟨L, xs, rfl, rfl, hi, rfl⟩ | ⟨j, n, rfl, ho, hi, rfl⟩⟩ := zz_ial_ok hs
  · intro H locs ls hW hS hl
    have hW : zz_Wd D cA z b h H := hW
    exact va_sld (A := fun q => z ≤ q) hx hb hXx (by omega) (by show ¬ z ≤ b; omega) hS hi hd (k H locs ls hW hS hl)
  · obtain ⟨hle, hlay⟩ := zz_arr_ok ho
    intro H locs ls hW hS hl
    have hW : zz_Wd D cA z b h H := hW
    exact va_iald hx hb hK hW j 0 (cA := cA 0) (n := n) (f := h.2.2 (j + 1)) (by rw [zz_ws_at (by omega), hlay]; rfl) (zz_tys_at cA (by decide)) hi hd (k H locs ls hW hS hl)
theorem z1_bal (C : zz_C p R s m args meth c D cA z b n0 X md) (hd : decode (zz_bc md) pc = .ok (.baload, 1)) (hs : zz_bal pc lv st h = some (.inl s')) (k : zz_G p l e R s m args below meth c D cA z b n0 s0 md Q s') : zz_G p l e R s m args below meth c D cA z b n0 s0 md Q (pc, lv, st, h) := by
  obtain ⟨hx, hb, hml, hown, hts, hK, hz, hbz, hXx, hin, hfr, hlo, hE⟩ := C
  obtain ⟨i, r, j, n, t, rfl | rfl, rfl, ho, hi, rfl⟩ := zz_bal_ok hs
  · obtain ⟨hle, hlay⟩ := zz_arr_ok ho
    intro H locs ls hW hS hl
    have hW : zz_Wd D cA z b h H := hW
    exact va_zald hx hb hK hW j 1 (cA := cA 1) (n := n) (f := h.2.2 (j + 1)) (by rw [zz_ws_at (by omega), hlay]; rfl) (zz_tys_at cA (by decide)) hi hd (k H locs ls hW hS hl)
  · obtain ⟨hle, hlay⟩ := zz_arr_ok ho
    intro H locs ls hW hS hl
    have hW : zz_Wd D cA z b h H := hW
    exact va_bald hx hb hK hW j 2 (cA := cA 2) (n := n) (f := h.2.2 (j + 1)) (by rw [zz_ws_at (by omega), hlay]; rfl) (zz_tys_at cA (by decide)) hi hd (k H locs ls hW hS hl)
theorem zz_ws_w {t n j i : Nat} {v : Int32} (hlay : h.2.1 (j + 1) = .inl (t, n)) : (zz_ws z b cA h).set j (z + j, .inl (cA t, n, .inl (upd (h.2.2 (j + 1)) i v))) = zz_ws z b cA (h.1, (h.2.1, zz_w h.2.2 (j + 1) i v)) :=
  zz_ws_set (h := h) (h' := (h.1, (h.2.1, zz_w h.2.2 (j + 1) i v))) j rfl (by
    show zz_cell z b cA (h.2.1 (j + 1)) (zz_w h.2.2 (j + 1) i v (j + 1)) = _
    rw [hlay, zz_w_self]
    rfl) (fun a ha => ⟨rfl, zz_w_other _ _ _ ha⟩)
theorem zz_ws_wP {t n j i : Nat} {v : Int32} {H1 : Heap} (hlay : h.2.1 (j + 1) = .inl (t, n)) (hP : va_P D zz_cl ((zz_ws z b cA h).set j (zz_ad z b (j + 1), .inl (cA t, n, .inl (upd (h.2.2 (j + 1)) i v)))) H1) : zz_Wd D cA z b (h.1, (h.2.1, zz_w h.2.2 (j + 1) i v)) H1 := by
  unfold zz_Wd
  rw [← zz_ws_w hlay]
  exact hP
theorem z1_ias (C : zz_C p R s m args meth c D cA z b n0 X md) (hd : decode (zz_bc md) pc = .ok (.iastore, 1)) (hs : zz_ias pc lv st h = some (.inl s')) (k : zz_G p l e R s m args below meth c D cA z b n0 s0 md Q s') : zz_G p l e R s m args below meth c D cA z b n0 s0 md Q (pc, lv, st, h) := by
  obtain ⟨hx, hb, hml, hown, hts, hK, hz, hbz, hXx, hin, hfr, hlo, hE⟩ := C
  obtain ⟨a, i, r, j, n, rfl, ho, hi, rfl⟩ := zz_ias_ok hs
  obtain ⟨hle, hlay⟩ := zz_arr_ok ho
  intro H locs ls hW hS hl
  have hW : zz_Wd D cA z b h H := hW
  refine va_iast hx hb hK hW (zz_ws_D z b cA h) hS j 0 (cA := cA 0) (n := n) (f := h.2.2 (j + 1)) (by rw [zz_ws_at (by omega), hlay]; rfl) (zz_tys_at cA (by decide)) hi hd (fun H1 locs1 hP1 hD1 hS1 => ?_)
  exact k H1 locs1 ls (zz_ws_wP hlay hP1) hS1 hl
theorem z1_bas (C : zz_C p R s m args meth c D cA z b n0 X md) (hd : decode (zz_bc md) pc = .ok (.bastore, 1)) (hs : zz_bas pc lv st h = some (.inl s')) (k : zz_G p l e R s m args below meth c D cA z b n0 s0 md Q s') : zz_G p l e R s m args below meth c D cA z b n0 s0 md Q (pc, lv, st, h) := by
  obtain ⟨hx, hb, hml, hown, hts, hK, hz, hbz, hXx, hin, hfr, hlo, hE⟩ := C
  obtain ⟨a, i, r, j, n, t, rfl, ho, hi, ⟨rfl, rfl⟩ | ⟨rfl, rfl⟩⟩ := zz_bas_ok hs
  · obtain ⟨hle, hlay⟩ := zz_arr_ok ho
    intro H locs ls hW hS hl
    have hW : zz_Wd D cA z b h H := hW
    refine va_zast hx hb hK hW (zz_ws_D z b cA h) hS j 1 (cA := cA 1) (n := n) (f := h.2.2 (j + 1)) (by rw [zz_ws_at (by omega), hlay]; rfl) (zz_tys_at cA (by decide)) hi hd (fun H1 locs1 hP1 hD1 hS1 => ?_)
    exact k H1 locs1 ls (zz_ws_wP hlay hP1) hS1 hl
  · obtain ⟨hle, hlay⟩ := zz_arr_ok ho
    intro H locs ls hW hS hl
    have hW : zz_Wd D cA z b h H := hW
    refine va_bast hx hb hK hW (zz_ws_D z b cA h) hS j 2 (cA := cA 2) (n := n) (f := h.2.2 (j + 1)) (by rw [zz_ws_at (by omega), hlay]; rfl) (zz_tys_at cA (by decide)) hi hd (fun H1 locs1 hP1 hD1 hS1 => ?_)
    exact k H1 locs1 ls (zz_ws_wP hlay hP1) hS1 hl
def zz_rs (z b : Nat) (rs : List (Option Nat)) : Nat → Option Nat := fun j => match rs[j]? with
  | some (some k) => some (zz_ad z b k)
  | _ => none
theorem zz_cell_r (t : Nat) (rs : List (Option Nat)) (g : Nat → Int32) : zz_cell z b cA (.inr (.inl (t, rs))) g = .inl (cA t, (rs.length, .inr (.inr (.inr (.inr (zz_rs z b rs)))))) := rfl
theorem z1_aal (C : zz_C p R s m args meth c D cA z b n0 X md) (hd : decode (zz_bc md) pc = .ok (.aaload, 1)) (hs : zz_aal pc lv st h = some (.inl s')) (k : zz_G p l e R s m args below meth c D cA z b n0 s0 md Q s') : zz_G p l e R s m args below meth c D cA z b n0 s0 md Q (pc, lv, st, h) := by
  obtain ⟨hx, hb, hml, hown, hts, hK, hz, hbz, hXx, hin, hfr, hlo, hE⟩ := C
  obtain ⟨i, r, j, t, rs, q, rfl, ho, hi, ht, hq, rfl⟩ := zz_aal_ok hs
  obtain ⟨hle, hlay⟩ := zz_rar_ok ho
  have hv : va_rf (zz_rs z b rs i.toNatClampNeg) = zz_mv z b (zz_val q) := by
    unfold zz_rs
    rw [hq]
    cases q <;> rfl
  intro H locs ls hW hS hl
  have hW : zz_Wd D cA z b h H := hW
  have k1 := k H locs ls hW hS hl
  rcases ht with rfl | rfl
  · exact va_aldq hx hb hK hW j 3 (cA := cA 3) (n := rs.length) (f := zz_rs z b rs) (by rw [zz_ws_at (by omega), hlay]; rfl) (zz_tys_at cA (t := 3) (by decide)) hi hd (by rw [hv]; exact k1)
  · exact va_aldq hx hb hK hW j 4 (cA := cA 4) (n := rs.length) (f := zz_rs z b rs) (by rw [zz_ws_at (by omega), hlay]; rfl) (zz_tys_at cA (t := 4) (by decide)) hi hd (by rw [hv]; exact k1)
theorem zz_rs_set {rs : List (Option Nat)} {i k : Nat} (hi : i < rs.length) : va_up (zz_rs z b rs) i (some (zz_ad z b k)) = zz_rs z b (rs.set i (some k)) := by
  funext j
  unfold zz_rs va_up
  by_cases hj : j = i
  · subst hj
    simp [hi]
  · rw [if_neg hj, List.getElem?_set, if_neg (Ne.symm hj)]
theorem z1_aas (C : zz_C p R s m args meth c D cA z b n0 X md) (hd : decode (zz_bc md) pc = .ok (.aastore, 1)) (hs : zz_aas pc lv st h = some (.inl s')) (k : zz_G p l e R s m args below meth c D cA z b n0 s0 md Q s') : zz_G p l e R s m args below meth c D cA z b n0 s0 md Q (pc, lv, st, h) := by
  obtain ⟨hx, hb, hml, hown, hts, hK, hz, hbz, hXx, hin, hfr, hlo, hE⟩ := C
  obtain ⟨i, r, j, q, t, rs, rfl, ho, hi, ht, hq, rfl⟩ := zz_aas_ok hs
  obtain ⟨hle, hlay⟩ := zz_rar_ok ho
  obtain ⟨fs, hq⟩ := Option.isSome_iff_exists.mp hq
  obtain ⟨hle2, hlay2⟩ := zz_obj_ok hq
  have hlt : i.toNatClampNeg < rs.length := Nat.not_le.mp fun q => hi (Or.inr q)
  intro H locs ls hW hS hl
  have hW : zz_Wd D cA z b h H := hW
  have fin : ∀ (H1 : Heap) (locs1 : List Loc), va_P D zz_cl ((zz_ws z b cA h).set j (z + j, .inl (cA t, rs.length, .inr (.inr (.inr (.inr (va_up (zz_rs z b rs) i.toNatClampNeg (some (z + q))))))))) H1 → va_D (fun q => z ≤ q) ((zz_ws z b cA h).set j (z + j, .inl (cA t, rs.length, .inr (.inr (.inr (.inr (va_up (zz_rs z b rs) i.toNatClampNeg (some (z + q))))))))) → va_S (fun q => z ≤ q) s.heap H1 locs1 → W p l e R s m args below meth c H1 locs1 (h.1.1 - n0) (h.1.2 - s0) Q (F0 m (pc + 1) ls (r.map (zz_mv z b))) := fun H1 locs1 hP1 hD1 hS1 => by
    rw [zz_ws_set (h := h) (h' := (h.1, (zz_up h.2.1 (j + 1) (.inr (.inl (t, rs.set i.toNatClampNeg (some (q + 1))))), h.2.2))) j rfl (by
      show zz_cell z b cA (zz_up h.2.1 (j + 1) _ (j + 1)) (h.2.2 (j + 1)) = _
      rw [zz_up_self, zz_cell_r, ← zz_rs_set hlt, List.length_set]
      rfl) (fun a ha => ⟨zz_up_other _ _ ha, rfl⟩)] at hP1
    exact k H1 locs1 ls hP1 hS1 hl
  rcases ht with rfl | rfl
  · exact va_astq hx hb hK hW (zz_ws_D z b cA h) hS j 3 q 7 (cA := cA 3) (r := ("UnequalHours$Town", zz_F7, 6)) (n := rs.length) (v := z + q) (vs := zz_fv z b (h.2.2 (q + 1)) 0 fs) (f := zz_rs z b rs) (by rw [zz_ws_at (by omega), hlay]; rfl) (zz_tys_at cA (t := 3) (by decide)) (by rw [zz_ws_at (by omega), hlay2]; rfl) rfl hi hd fin
  · exact va_astq hx hb hK hW (zz_ws_D z b cA h) hS j 4 q 5 (cA := cA 4) (r := ("UnequalHours$State", zz_F5, 4)) (n := rs.length) (v := z + q) (vs := zz_fv z b (h.2.2 (q + 1)) 0 fs) (f := zz_rs z b rs) (by rw [zz_ws_at (by omega), hlay]; rfl) (zz_tys_at cA (t := 4) (by decide)) (by rw [zz_ws_at (by omega), hlay2]; rfl) rfl hi hd fin
theorem z1_len (C : zz_C p R s m args meth c D cA z b n0 X md) (hd : decode (zz_bc md) pc = .ok (.arraylength, 1)) (hs : zz_len X pc lv st h = some (.inl s')) (k : zz_G p l e R s m args below meth c D cA z b n0 s0 md Q s') : zz_G p l e R s m args below meth c D cA z b n0 s0 md Q (pc, lv, st, h) := by
  obtain ⟨hx, hb, hml, hown, hts, hK, hz, hbz, hXx, hin, hfr, hlo, hE⟩ := C
  obtain ⟨r, ⟨L, xs, rfl, rfl, rfl⟩ | ⟨j, n, t, rfl, ho, ht, rfl⟩⟩ := zz_len_ok hs
  · intro H locs ls hW hS hl
    have hW : zz_Wd D cA z b h H := hW
    exact va_slen (A := fun q => z ≤ q) (b := b) hx hb hXx (by omega) (by show ¬ z ≤ b; omega) hS hd (k H locs ls hW hS hl)
  · unfold zz_lay at ho
    split at ho
    · rename_i hle
      have hlay := Option.some.inj ho
      intro H locs ls hW hS hl
      have hW : zz_Wd D cA z b h H := hW
      exact va_alen hx hb hK hW j t (cA := cA t) (x := (n, .inl (h.2.2 (j + 1)))) (by rw [zz_ws_at (by omega), hlay]; rfl) (zz_tys_at cA ht) rfl hd (k H locs ls hW hS hl)
    · cases ho
/-- no ints lie beyond the last cell -/
def zz_Zr (h : zz_H) : Prop := ∀ k, h.1.1 < k → h.2.2 k = fun _ => 0
theorem zz_ws_more {n : Nat} {q : zz_L} (hZ : zz_Zr h) : zz_ws z b cA (zz_more h n q) = zz_ws z b cA h ++ [(z + h.1.1, zz_cell z b cA q (fun _ => 0))] := by
  show (List.range (h.1.1 + 1)).map _ = _
  rw [List.range_succ, List.map_append]
  congr 1
  · apply List.map_congr_left
    intro k hk
    have hk := List.mem_range.mp hk
    show (z + k, zz_cell z b cA (zz_up h.2.1 (h.1.1 + 1) q (k + 1)) (h.2.2 (k + 1))) = _
    rw [zz_up_other _ _ (by omega)]
  · show [(z + h.1.1, zz_cell z b cA (zz_up h.2.1 (h.1.1 + 1) q (h.1.1 + 1)) (h.2.2 (h.1.1 + 1)))] = _
    rw [zz_up_self, hZ _ (Nat.lt_succ_self _)]
/-- the heap with one cell more -/
theorem zz_grown {n : Nat} {q : zz_L} {H H1 : Heap} {locs : List Loc} (hZ : zz_Zr h) (hW : zz_Wd D cA z b h H) (hS : va_S (fun q => z ≤ q) s.heap H locs) (hz1 : H1.size = z + h.1.1 + 1) (hsz : H.size = z + h.1.1) (o1 : ∀ q, q < z + h.1.1 → H1[q]? = H[q]?) (hn : va_at D zz_cl (z + h.1.1, zz_cell z b cA q (fun _ => 0)) H1) :
    zz_Wd D cA z b (zz_more h n q) H1 ∧ va_S (fun q => z ≤ q) s.heap H1 locs := by
  refine ⟨?_, ⟨Nat.le_trans hS.1 (by omega), fun x h1 h2 => (o1 x (by have := hS.1; omega)).trans (hS.2.1 x h1 h2), hS.2.2⟩⟩
  unfold zz_Wd
  rw [zz_ws_more hZ]
  refine (hW.kept fun k x hx => o1 x.1 (by have := (hW k x hx).lt; omega)).app (fun k x hx => ?_)
  have hz : k < 1 := (List.getElem?_eq_some_iff.mp hx).1
  rw [show k = 0 by omega] at hx
  cases hx
  exact hn
theorem z1_new {k0 x y u w : Nat} {v : Value} {sw : List (Int × Nat)} (C : zz_C p R s m args meth c D cA z b n0 X md) (ok : zz_okI md pc (.new k0, (x, y, u, w), v, sw) = true) (hZ : zz_Zr h) (hn0 : n0 ≤ h.1.1) (hs0 : s0 ≤ h.1.2) (hb1 : h.1.1 + 1 - n0 ≤ R.cells) (hb2 : h.1.2 + (zz_us x).length - s0 ≤ R.slots)
    (k : zz_G p l e R s m args below meth c D cA z b n0 s0 md Q (pc + 3, lv, .ref (h.1.1 + 1) :: st, zz_more h (zz_us x).length (.inr (.inr (x, zz_fs (zz_us x)))))) : zz_G p l e R s m args below meth c D cA z b n0 s0 md Q (pc, lv, st, h) := by
  obtain ⟨hx, hb, hml, hown, hts, hK, hz, hbz, hXx, hin, hfr, hlo, hE⟩ := C
  have hd := zz_okd ok
  simp only [zz_okI, Bool.and_eq_true, decide_eq_true_eq] at ok
  obtain ⟨-, ok1, ok⟩ := ok
  split at ok
  · rename_i q hc
    obtain ⟨C, T, N⟩ := q
    obtain ⟨g1, g2, g3, g4, g5, g6⟩ := zz_cls hc
    have hKn := hK.1 x _ hc
    intro H locs ls hW hS hl
    have hW : zz_Wd D cA z b h H := hW
    refine zz_sized (h := h) hz hn0 hW hS fun hsz => ?_
    refine W.newcK hx hb hown (hts _ (zz_lk4 ok1 hc)) (hts _ g2) (hts _ g3) rfl hd (by show h.1.1 - n0 + 1 ≤ _; omega) (by show h.1.2 - s0 + N ≤ _; omega) hKn.2.1 hsz fun H1 kC hkC e1 z1 o1 => ?_
    have hnew : va_at D zz_cl (z + h.1.1, zz_cell z b cA (.inr (.inr (x, zz_fs (zz_us x)))) (fun _ => 0)) H1 := by
      refine ⟨_, hc, (u_born (fun k => zz_ft (T k).2.2.1) hts g1 hKn hkC e1 (fun k hk => (g5 k hk).2.1)).to fun j hj => ?_⟩
      obtain ⟨-, -, u1, hu1, hu2⟩ := g5 j hj
      show _ = (zz_fv z b (fun _ => 0) 0 (zz_fs (zz_us x))).getD j .null
      rw [List.getD_eq_getElem?_getD, zz_fv_at]
      unfold zz_fs
      rw [List.getElem?_map, hu1]
      rcases zz_ft_int hu2 with ⟨e3, e4⟩ | ⟨e3, e4⟩ | ⟨⟨n1, e3⟩, e4⟩ | ⟨⟨n1, e3⟩, e4⟩
      · rw [e3, e4]; rfl
      · rw [e3, e4]; rfl
      · rw [e3, e4]; rfl
      · rw [e3, e4]; rfl
    obtain ⟨w1, w2⟩ := zz_grown (n := (zz_us x).length) hZ hW hS z1 hsz o1 hnew
    have k1 := k H1 locs ls w1 w2 hl
    have a1 : (zz_more h (zz_us x).length (.inr (.inr (x, zz_fs (zz_us x))))).1.1 - n0 = h.1.1 - n0 + 1 := by show h.1.1 + 1 - n0 = _; omega
    have a2 : (zz_more h (zz_us x).length (.inr (.inr (x, zz_fs (zz_us x))))).1.2 - s0 = h.1.2 - s0 + N := by show h.1.2 + (zz_us x).length - s0 = _; omega
    rw [a1, a2] at k1
    exact k1
  · cases ok
theorem z1_nar {t : ArrayType} {x y u w : Nat} {v : Value} {sw : List (Int × Nat)} {n : Int32} {r : List Value} (C : zz_C p R s m args meth c D cA z b n0 X md) (ok : zz_okI md pc (.newarray t, (x, y, u, w), v, sw) = true) (hZ : zz_Zr h) (hn0 : n0 ≤ h.1.1) (hs0 : s0 ≤ h.1.2) (hn : ¬ n < 0) (hN : n.toNatClampNeg ≤ 100000) (hb1 : h.1.1 + 1 - n0 ≤ R.cells) (hb2 : h.1.2 + n.toNatClampNeg - s0 ≤ R.slots)
    (k : zz_G p l e R s m args below meth c D cA z b n0 s0 md Q (pc + 2, lv, .ref (h.1.1 + 1) :: r, zz_more h n.toNatClampNeg (.inl (x, n.toNatClampNeg)))) : zz_G p l e R s m args below meth c D cA z b n0 s0 md Q (pc, lv, .int n :: r, h) := by
  obtain ⟨hx, hb, hml, hown, hts, hK, hz, hbz, hXx, hin, hfr, hlo, hE⟩ := C
  have hd := zz_okd ok
  simp only [zz_okI, Bool.and_eq_true, decide_eq_true_eq, Nat.blt_eq] at ok
  obtain ⟨-, ok1, ok2, ok3⟩ := ok
  have hcl : (zz_ty x = .int ∨ zz_ty x = .boolean ∨ zz_ty x = .byte) := by
    match x, ok1 with
    | 0, _ => exact Or.inl rfl
    | 1, _ => exact Or.inr (Or.inl rfl)
    | 2, _ => exact Or.inr (Or.inr rfl)
  intro H locs ls hW hS hl
  have hW : zz_Wd D cA z b h H := hW
  refine zz_sized (h := h) hz hn0 hW hS fun hsz => ?_
  refine va_newaK hx hb (by rw [ok2]; exact hts _ (zz_link ok3 rfl)) rfl hd rfl hn rfl ?_ (by show h.1.1 - n0 + 1 ≤ _; omega) (by show h.1.2 - s0 + n.toNatClampNeg ≤ _; omega) hsz fun H1 cA1 e1 z1 o1 hAr hNm => ?_
  · rw [ok2]
    rcases hcl with q | q | q <;> rw [q] <;> simp [componentBytes] <;> omega
  · rw [ok2] at hNm e1
    have hRA := (hK.2 x _ (zz_tys_at cA (by omega))).2
    have hcA : cA1 = cA x := by
      rcases hcl with q | q | q <;> rw [q] at hRA hNm <;> exact Option.some.inj (hNm.symm.trans hRA)
    subst hcA
    have hnew : va_at D zz_cl (z + h.1.1, zz_cell z b cA (.inl (x, n.toNatClampNeg)) (fun _ => 0)) H1 := by
      show H1[z + h.1.1]? = some (vp_cell (cA x) (n.toNatClampNeg, .inl (fun _ => 0)))
      rw [e1, vp_cell_i]
      rcases hcl with q | q | q <;> rw [q] <;> rfl
    obtain ⟨w1, w2⟩ := zz_grown (n := n.toNatClampNeg) hZ hW hS z1 hsz o1 hnew
    have k1 := k H1 locs ls w1 w2 hl
    have a1 : (zz_more h n.toNatClampNeg (.inl (x, n.toNatClampNeg))).1.1 - n0 = h.1.1 - n0 + 1 := by show h.1.1 + 1 - n0 = _; omega
    have a2 : (zz_more h n.toNatClampNeg (.inl (x, n.toNatClampNeg))).1.2 - s0 = h.1.2 - s0 + n.toNatClampNeg := by show h.1.2 + n.toNatClampNeg - s0 = _; omega
    rw [a1, a2] at k1
    exact k1
theorem z1_anr {k0 x y u w : Nat} {v : Value} {sw : List (Int × Nat)} {n : Int32} {r : List Value} (C : zz_C p R s m args meth c D cA z b n0 X md) (ok : zz_okI md pc (.anewarray k0, (x, y, u, w), v, sw) = true) (hZ : zz_Zr h) (hn0 : n0 ≤ h.1.1) (hs0 : s0 ≤ h.1.2) (hn : ¬ n < 0) (hN : n.toNatClampNeg ≤ 100000) (hb1 : h.1.1 + 1 - n0 ≤ R.cells) (hb2 : h.1.2 + n.toNatClampNeg - s0 ≤ R.slots)
    (k : zz_G p l e R s m args below meth c D cA z b n0 s0 md Q (pc + 3, lv, .ref (h.1.1 + 1) :: r, zz_more h n.toNatClampNeg (.inr (.inl (x, List.replicate n.toNatClampNeg none))))) : zz_G p l e R s m args below meth c D cA z b n0 s0 md Q (pc, lv, .int n :: r, h) := by
  obtain ⟨hx, hb, hml, hown, hts, hK, hz, hbz, hXx, hin, hfr, hlo, hE⟩ := C
  have hd := zz_okd ok
  simp only [zz_okI, Bool.and_eq_true, decide_eq_true_eq] at ok
  obtain ⟨-, ok1, ok2⟩ := ok
  have key : ∃ C1, zz_ty x = .object C1 ∧ va_AO C1 s ∧ Jvm.Cond.classLink (zz_ow md) k0 C1 ∈ zz_all := by
    rcases ok1 with rfl | rfl
    · exact ⟨_, rfl, hE.2.1, zz_lk4 (C := "UnequalHours$Town") (T := zz_F7) (N := 6) ok2 rfl⟩
    · exact ⟨_, rfl, hE.2.2, zz_lk4 (C := "UnequalHours$State") (T := zz_F5) (N := 4) ok2 rfl⟩
  obtain ⟨C1, t1, t2, t3⟩ := key
  intro H locs ls hW hS hl
  have hW : zz_Wd D cA z b h H := hW
  refine zz_sized (h := h) hz hn0 hW hS fun hsz => ?_
  refine W.anew hx hb hown (hts _ t3) (va_AO.use t2) rfl hd rfl hn (by omega) (by show h.1.1 - n0 + 1 ≤ _; omega) (by show h.1.2 - s0 + n.toNatClampNeg ≤ _; omega) fun cA1 kA comp f1 f2 f3 f4 => ?_
  generalize hH1 : H.push ({ cls := cA1, slots := Array.replicate n.toNatClampNeg .null, vm := .none } : Cell) = H1
  have z1 : H1.size = z + h.1.1 + 1 := by rw [← hH1, Array.size_push, hsz]
  have e1 : H1[z + h.1.1]? = some (arrV cA1 n.toNatClampNeg (fun _ => .null)) := by rw [← hH1, ← hsz, Array.getElem?_push_size, ← arrV_new]
  have o1 : ∀ q : Nat, q < z + h.1.1 → H1[q]? = H[q]? := fun q hq => by rw [← hH1, Array.getElem?_push, if_neg (by omega)]
  have hRA := (hK.2 x _ (zz_tys_at cA (by rcases ok1 with rfl | rfl <;> decide))).2
  rw [t1] at hRA
  obtain ⟨-, -, -, -, -, hRA⟩ := hRA
  have hcA : cA1 = cA x := Option.some.inj (f1.symm.trans hRA)
  subst hcA
  have hnew : va_at D zz_cl (z + h.1.1, zz_cell z b cA (.inr (.inl (x, List.replicate n.toNatClampNeg none))) (fun _ => 0)) H1 := by
    have e2 : zz_rs z b (List.replicate n.toNatClampNeg none) = fun _ => none := by
      funext j
      unfold zz_rs
      rw [List.getElem?_replicate]
      split <;> rename_i q <;> split at q <;> first | rfl | (cases q; done) | simp_all
    show H1[z + h.1.1]? = some (vp_cell (cA x) ((List.replicate n.toNatClampNeg (none : Option Nat)).length, .inr (.inr (.inr (.inr (zz_rs z b (List.replicate n.toNatClampNeg none)))))))
    rw [e1, e2, vp_cell_q, List.length_replicate]
    rfl
  obtain ⟨w1, w2⟩ := zz_grown (n := n.toNatClampNeg) hZ hW hS z1 hsz o1 hnew
  have k1 := k H1 locs ls w1 w2 hl
  have a1 : (zz_more h n.toNatClampNeg (.inr (.inl (x, List.replicate n.toNatClampNeg none)))).1.1 - n0 = h.1.1 - n0 + 1 := by show h.1.1 + 1 - n0 = _; omega
  have a2 : (zz_more h n.toNatClampNeg (.inr (.inl (x, List.replicate n.toNatClampNeg none)))).1.2 - s0 = h.1.2 - s0 + n.toNatClampNeg := by show h.1.2 + n.toNatClampNeg - s0 = _; omega
  rw [a1, a2] at k1
  rw [hsz]
  exact k1
theorem z1_cpy {k0 y u w : Nat} {v : Value} {sw : List (Int × Nat)} (C : zz_C p R s m args meth c D cA z b n0 X md) (ok : zz_okI md pc (.invokestatic k0, (100001, y, u, w), v, sw) = true) (hs : zz_cpy pc lv st h = some (.inl s')) (k : zz_G p l e R s m args below meth c D cA z b n0 s0 md Q s') : zz_G p l e R s m args below meth c D cA z b n0 s0 md Q (pc, lv, st, h) := by
  obtain ⟨hx, hb, hml, hown, hts, hK, hz, hbz, hXx, hin, hfr, hlo, hE⟩ := C
  have hd := zz_okd ok
  have ok : (decide (zz_lt w = some (9, zz_oc md, k0, 0, 0, .null)) && (Nat.ble 1 (zz_fr md) && Nat.ble 26 (zz_lo md))) = true := (Bool.and_eq_true_iff.mp ok).2
  simp only [Bool.and_eq_true, decide_eq_true_eq, Nat.ble_eq] at ok
  obtain ⟨ok1, ok2, ok3⟩ := ok
  obtain ⟨n, sp, dp, r, a, d, na, nb, rfl, ha, hd2, ⟨c1, c2, c3, c4, c5, c6⟩, rfl⟩ := zz_cpy_ok hs
  obtain ⟨hla, hya⟩ := zz_arr_ok ha
  obtain ⟨hld, hyd⟩ := zz_arr_ok hd2
  have hk := zz_kC_ok
  simp only [Bool.and_eq_true] at hk
  intro H locs ls hW hS hl
  have hW : zz_Wd D cA z b h H := hW
  refine va_copyi hx hb (hml.trans hl.1.symm) hown (hts _ (zz_link ok1 rfl)) (hts _ (zz_all_of hk.1)) (hts _ (zz_all_of hk.2.1)) (hts _ (zz_all_of hk.2.2)) hK hW (zz_ws_D z b cA h) hS d a 0 0 (a0 := z + d) (c0 := cA 0) (c1 := cA 0) (n0 := nb) (n1 := na) (f := h.2.2 (d + 1)) (g := h.2.2 (a + 1)) (ty := .int) (by rw [zz_ws_at (by omega), hyd]; rfl) (by rw [zz_ws_at (by omega), hya]; rfl) (zz_tys_at cA (by decide)) (zz_tys_at cA (by decide)) rfl c1 c2 c3 c4 c5 (fun _ _ => rfl) (by omega) ?_ hd (fun H1 locs1 hP1 hD1 hS1 => ?_)
  · rw [zz_mv_sum]
    show _ + (nativeFrameWords "java/lang/System" "arraycopy" 5 + 11) ≤ _
    have : nativeFrameWords "java/lang/System" "arraycopy" 5 = 7 := by decide +kernel
    omega
  · have hP1 : va_P D zz_cl ((zz_ws z b cA h).set a (z + a, .inl (cA 0, na, .inl (va_cpy (h.2.2 (d + 1)) (h.2.2 (a + 1)) sp.toNatClampNeg dp.toNatClampNeg n.toNatClampNeg)))) H1 := hP1
    rw [zz_ws_set (h := h) (h' := (h.1, (h.2.1, zz_up h.2.2 (a + 1) (va_cpy (h.2.2 (d + 1)) (h.2.2 (a + 1)) sp.toNatClampNeg dp.toNatClampNeg n.toNatClampNeg)))) a rfl (by
      show zz_cell z b cA (h.2.1 (a + 1)) (zz_up h.2.2 (a + 1) _ (a + 1)) = _
      rw [hya, zz_up_self]
      rfl) (fun i hi => ⟨rfl, zz_up_other _ _ hi⟩)] at hP1
    exact k H1 locs1 ls hP1 hS1 hl
theorem zz_mm_ok {f : Int32 → Int32 → Int32} (hs : zz_mm f pc lv st h = some (.inl s')) : ∃ (a d : Int32) (r : List Value), st = .int d :: .int a :: r ∧ (r.map fun v => v.category).sum ≤ 8 ∧ s' = (pc + 3, lv, .int (f a d) :: r, h) := by
  unfold zz_mm at hs
  split at hs
  · split at hs
    · cases hs
      exact ⟨_, _, _, rfl, by assumption, rfl⟩
    · cases hs
  · cases hs
theorem zz_ma_ok (hs : zz_ma pc lv st h = some (.inl s')) : ∃ (a : Int32) (r : List Value), st = .int a :: r ∧ (r.map fun v => v.category).sum ≤ 8 ∧ s' = (pc + 3, lv, .int (if 0 ≤ a then a else 0 - a) :: r, h) := by
  unfold zz_ma at hs
  split at hs
  · split at hs
    · cases hs
      exact ⟨_, _, rfl, by assumption, rfl⟩
    · cases hs
  · cases hs
theorem z1_min {k0 y u w : Nat} {v : Value} {sw : List (Int × Nat)} (C : zz_C p R s m args meth c D cA z b n0 X md) (ok : zz_okI md pc (.invokestatic k0, (100002, y, u, w), v, sw) = true) (hb1 : s'.2.2.2.1.1 - n0 ≤ R.cells) (hb2 : s'.2.2.2.1.2 - s0 ≤ R.slots) (hs : zz_mm (fun a d => if d < a then d else a) pc lv st h = some (.inl s')) (k : zz_G p l e R s m args below meth c D cA z b n0 s0 md Q s') : zz_G p l e R s m args below meth c D cA z b n0 s0 md Q (pc, lv, st, h) := by
  obtain ⟨hx, hb, hml, hown, hts, hK, hz, hbz, hXx, hin, hfr, hlo, hE⟩ := C
  have hd := zz_okd ok
  have ok : (decide (zz_lt w = some (10, zz_oc md, k0, 0, 0, .null)) && (Nat.ble 1 (zz_fr md) && Nat.ble 21 (zz_lo md))) = true := (Bool.and_eq_true_iff.mp ok).2
  simp only [Bool.and_eq_true, decide_eq_true_eq, Nat.ble_eq] at ok
  obtain ⟨ok1, ok2, ok3⟩ := ok
  obtain ⟨a, d, r, rfl, hr, rfl⟩ := zz_mm_ok hs
  have hk := zz_kP_ok
  simp only [Bool.and_eq_true] at hk
  obtain ⟨p1, p2, p3, p4, p5, p6, p7⟩ := hk
  exact fun H locs ls w1 w2 w3 => va_mmin hx hb (hml.trans w3.1.symm) hown (hts _ (zz_link ok1 rfl)) (hts _ (zz_all_of p2)) (hts _ (zz_all_of p1)) (hts _ (zz_all_of p3)) (by omega) (by rw [zz_mv_sum]; omega) hb1 hb2 hd (k H locs ls w1 w2 w3)
theorem z1_max {k0 y u w : Nat} {v : Value} {sw : List (Int × Nat)} (C : zz_C p R s m args meth c D cA z b n0 X md) (ok : zz_okI md pc (.invokestatic k0, (100003, y, u, w), v, sw) = true) (hb1 : s'.2.2.2.1.1 - n0 ≤ R.cells) (hb2 : s'.2.2.2.1.2 - s0 ≤ R.slots) (hs : zz_mm (fun a d => if a < d then d else a) pc lv st h = some (.inl s')) (k : zz_G p l e R s m args below meth c D cA z b n0 s0 md Q s') : zz_G p l e R s m args below meth c D cA z b n0 s0 md Q (pc, lv, st, h) := by
  obtain ⟨hx, hb, hml, hown, hts, hK, hz, hbz, hXx, hin, hfr, hlo, hE⟩ := C
  have hd := zz_okd ok
  have ok : (decide (zz_lt w = some (11, zz_oc md, k0, 0, 0, .null)) && (Nat.ble 1 (zz_fr md) && Nat.ble 21 (zz_lo md))) = true := (Bool.and_eq_true_iff.mp ok).2
  simp only [Bool.and_eq_true, decide_eq_true_eq, Nat.ble_eq] at ok
  obtain ⟨ok1, ok2, ok3⟩ := ok
  obtain ⟨a, d, r, rfl, hr, rfl⟩ := zz_mm_ok hs
  have hk := zz_kP_ok
  simp only [Bool.and_eq_true] at hk
  obtain ⟨p1, p2, p3, p4, p5, p6, p7⟩ := hk
  exact fun H locs ls w1 w2 w3 => va_mmax hx hb (hml.trans w3.1.symm) hown (hts _ (zz_link ok1 rfl)) (hts _ (zz_all_of p4)) (hts _ (zz_all_of p1)) (hts _ (zz_all_of p5)) (by omega) (by rw [zz_mv_sum]; omega) hb1 hb2 hd (k H locs ls w1 w2 w3)
theorem z1_abs {k0 y u w : Nat} {v : Value} {sw : List (Int × Nat)} (C : zz_C p R s m args meth c D cA z b n0 X md) (ok : zz_okI md pc (.invokestatic k0, (100004, y, u, w), v, sw) = true) (hb1 : s'.2.2.2.1.1 - n0 ≤ R.cells) (hb2 : s'.2.2.2.1.2 - s0 ≤ R.slots) (hs : zz_ma pc lv st h = some (.inl s')) (k : zz_G p l e R s m args below meth c D cA z b n0 s0 md Q s') : zz_G p l e R s m args below meth c D cA z b n0 s0 md Q (pc, lv, st, h) := by
  obtain ⟨hx, hb, hml, hown, hts, hK, hz, hbz, hXx, hin, hfr, hlo, hE⟩ := C
  have hd := zz_okd ok
  have ok : (decide (zz_lt w = some (12, zz_oc md, k0, 0, 0, .null)) && (Nat.ble 1 (zz_fr md) && Nat.ble 21 (zz_lo md))) = true := (Bool.and_eq_true_iff.mp ok).2
  simp only [Bool.and_eq_true, decide_eq_true_eq, Nat.ble_eq] at ok
  obtain ⟨ok1, ok2, ok3⟩ := ok
  obtain ⟨a, r, rfl, hr, rfl⟩ := zz_ma_ok hs
  have hk := zz_kP_ok
  simp only [Bool.and_eq_true] at hk
  obtain ⟨p1, p2, p3, p4, p5, p6, p7⟩ := hk
  exact fun H locs ls w1 w2 w3 => va_mabs hx hb (hml.trans w3.1.symm) hown (hts _ (zz_link ok1 rfl)) (hts _ (zz_all_of p6)) (hts _ (zz_all_of p1)) (hts _ (zz_all_of p7)) (by omega) (by rw [zz_mv_sum]; omega) hb1 hb2 hd (k H locs ls w1 w2 w3)
end ZX
