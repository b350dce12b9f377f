/-! calls, and the whole -/
section ZU
variable {p : Program} {l : Launch} {e : Env} {R : Room} {s : State} {m : MethodId} {args : Array Value} {below : List Frame} {meth : Method} {c : Code} {Q : State → Prop} {D : va_G} {cA : Nat → ClassId} {z b n0 s0 md pc : Nat} {X : zz_X} {lv : zz_V} {st : List Value} {h : zz_H} {s' : zz_S}
theorem zz_code_all {m2 : Nat} (hm0 : 0 < m2) (hm : m2 < zz_nm) : GoodIn zz_all (.code (zz_y m2) (zz_bc m2) (zz_nl m2) (zz_re m2) :: zz_all) :=
  zz_good fun w hw => (List.mem_cons.mp hw).elim (fun e => by rw [e]; exact List.mem_filter.mpr ⟨zz_code hm0 hm, rfl⟩) id
theorem zz_ar {a b c : Nat} (h1 : a ≤ b) (h2 : b ≤ c) : c - a = b - a + (c - b) := by omega
theorem z1_call {n x y u w q : Nat} {i : Instr} {v : Value} {sw : List (Int × Nat)} {as rest : List Value} {rv : Option Value} {h' : zz_H} (ih : zz_Sim l D cA z b X n) (hmd : md < zz_nm) (C : zz_C p R s m args meth c D cA z b n0 X md) (ok : zz_okI md pc (i, (x, y, u, w), v, sw) = true)
    (hZ : zz_Zr h) (hn0 : n0 ≤ h.1.1) (hs0 : s0 ≤ h.1.2) (hb1 : h'.1.1 - n0 ≤ R.cells) (hb2 : h'.1.2 - s0 ≤ R.slots) (hs : zz_step X zz_us (zz_rt md) (i, (x, y, u, w), v, sw) pc lv st h = some (.inr (.inr (x, as, rest))))
    (hf : (zz_in as 0).length ≤ zz_nl x) (hw : zz_walk zz_Q zz_us X n x (0, zz_in as (zz_nl x), [], h) = some (.inr (q, rv, h')))
    (k : zz_G p l e R s m args below meth c D cA z b n0 s0 md Q (pc + 3, lv, rv.toList ++ rest, h')) : zz_G p l e R s m args below meth c D cA z b n0 s0 md Q (pc, lv, st, h) := by
  obtain ⟨hx, hb, hml, hown, hts, hK, hz, hbz, hXx, hin, hfr, hlo, hE⟩ := C
  have hd := zz_okd ok
  obtain ⟨-, h8, hc⟩ := zz_step_call hs
  have hmore := zz_walk_more n x _ _ hw
  have hm1 : h.1.1 ≤ h'.1.1 := hmore.1
  have hm2 : h.1.2 ≤ h'.1.2 := hmore.2
  have key : ∀ (H : Heap) (locs : List Loc) (ls : Array Slot), zz_Wd D cA z b h H → va_S (fun q => z ≤ q) s.heap H locs → zz_lr z b ls (zz_nl md) lv →
      (H.size = z + h.1.1 → va_Run p l e R s m args below meth c H locs (h.1.1 - n0) (h.1.2 - s0) (h'.1.1 - h.1.1) (h'.1.2 - h.1.2) (F0 m pc ls (st.map (zz_mv z b))) (rest.map (zz_mv z b)) (zz_Qc D cA z b rv h' (as.map (zz_mv z b)).toArray) (fun q => z ≤ q)) → W p l e R s m args below meth c H locs (h.1.1 - n0) (h.1.2 - s0) Q (F0 m pc ls (st.map (zz_mv z b))) := by
    intro H locs ls hW hS hl hr
    refine zz_sized (h := h) hz hn0 hW hS fun hsz => ?_
    refine zz_after (hr hsz) hS fun H1 locs1 hW1 hS1 => ?_
    have k1 := k H1 locs1 ls hW1 hS1 hl
    have a1 : h'.1.1 - n0 = h.1.1 - n0 + (h'.1.1 - h.1.1) := zz_ar hn0 hm1
    have a2 : h'.1.2 - s0 = h.1.2 - s0 + (h'.1.2 - h.1.2) := zz_ar hs0 hm2
    have a3 : (rv.toList ++ rest).map (zz_mv z b) = (rv.map (zz_mv z b)).toList ++ rest.map (zz_mv z b) := by cases rv <;> rfl
    have k1 : W p l e R s m args below meth c H1 locs1 (h'.1.1 - n0) (h'.1.2 - s0) Q (F0 m (pc + 3) ls ((rv.toList ++ rest).map (zz_mv z b))) := k1
    rw [a1, a2, a3] at k1
    exact k1
  have hpre : ∀ (H : Heap) (locs : List Loc), zz_Wd D cA z b h H → va_S (fun q => z ≤ q) s.heap H locs → H.size = z + h.1.1 → ∀ U : State, U.heap = H → s.WarmedH U.vm → va_Pc (as.map (zz_mv z b)) (zz_Pc D cA z b X h) (as.map (zz_mv z b)).toArray U := by
    intro H locs hW hS hsz U hU hW2
    exact ⟨rfl, by rw [hU]; exact hW, by rw [hU]; exact hsz, va_K.moved hW2.alike hK, hbz, zz_Xx.moved hbz (by omega) hS hU hW2.alike hXx, hE.warm hW2⟩
  have hroom : ∀ {x : Nat}, zz_rm md x = true → zz_fr x + 1 ≤ R.frames ∧ 8 + (zz_nl x + 11) + zz_lo x ≤ R.locals := by
    intro x hh
    unfold zz_rm at hh
    simp only [Bool.and_eq_true, Nat.ble_eq] at hh
    omega
  rcases hc with ⟨⟨k0, rfl⟩, hx5, hlen, rfl⟩ | ⟨hi, j, as', rfl, hlen, rfl, hob⟩
  · have ok : ((decide (zz_lt w = some (2, zz_oc md, k0, x, 0, .null)) || decide (zz_lt w = some (3, zz_oc md, k0, x, 0, .null))) && zz_okx md x 0 y) = true := by
      have := (Bool.and_eq_true_iff.mp ok).2
      simp only [if_pos hx5] at this
      exact this
    unfold zz_okx at ok
    simp only [Bool.and_eq_true, Bool.or_eq_true, decide_eq_true_eq, Nat.ble_eq, Nat.blt_eq] at ok
    obtain ⟨ok1, ok2, ok3, ok4, ok5, ok6⟩ := ok
    obtain ⟨m1, m2, m3, m4, m5, m6, m7, m8, -, -⟩ := zz_meth ok2 ok3
    have hM := zz_met hZ ih ok2 ok3 hf hw
    have hstk : ((as.reverse ++ rest).map (zz_mv z b)) = (as.map (zz_mv z b)).reverse ++ rest.map (zz_mv z b) := by
      rw [List.map_append, List.map_reverse]
    intro H locs ls hW hS hl
    have hW : zz_Wd D cA z b h H := hW
    refine key H locs ls hW hS hl fun hsz => ?_
    rcases ok1 with ok1 | ok1
    · exact va_runS (As := as.map (zz_mv z b)) (rest := rest.map (zz_mv z b)) ⟨hx, hb, hml, hown, hts⟩ hM (n := y) ⟨callB_of y hts (zz_code_all ok2 ok3) rfl rfl rfl (hts _ m2) (hts _ (zz_link ok1 rfl)) ⟨m6.1, m6.2, by rw [m7, ok6]⟩ (hroom ok5), hts _ (m8 ok4)⟩ ⟨zz_Pc_blind _, hpre H locs hW hS hsz⟩ rfl (by rw [List.length_map]; exact hlen) hl.1 hstk (lv_room (by rw [zz_mv_sum]; exact h8)) hd ⟨by omega, by omega⟩
    · exact va_runSN (As := as.map (zz_mv z b)) (rest := rest.map (zz_mv z b)) ⟨hx, hb, hml, hown, hts⟩ hM (n := y) ⟨va_cnB y hts (zz_code_all ok2 ok3) rfl rfl rfl (hE.1 _ (zz_link3 ok1)) (hts _ m2) ⟨m6.1, m6.2, by rw [m7, ok6]⟩ (hroom ok5), hts _ (m8 ok4), trivial⟩ ⟨zz_Pc_blind _, hpre H locs hW hS hsz⟩ rfl (by rw [List.length_map]; exact hlen) hl.1 hstk (lv_room (by rw [zz_mv_sum]; exact h8)) hd ⟨by omega, by omega⟩
  · have hstk : ((as'.reverse ++ .ref (j + 1) :: rest).map (zz_mv z b)) = (as'.map (zz_mv z b)).reverse ++ .ref (z + j) :: rest.map (zz_mv z b) := by
      rw [List.map_append, List.map_reverse]
      rfl
    rcases hi with ⟨k0, rfl⟩ | ⟨⟨k0, rfl⟩, hx5⟩
    · have ok : (decide (zz_lt w = some (2, zz_oc md, k0, x, 0, .null)) && (zz_okx md x 1 y && decide (zz_mc x = u))) = true := (Bool.and_eq_true_iff.mp ok).2
      unfold zz_okx at ok
      simp only [Bool.and_eq_true, decide_eq_true_eq, Nat.ble_eq, Nat.blt_eq] at ok
      obtain ⟨ok1, ⟨ok2, ok3, ok4, ok5, ok6⟩, ok7⟩ := ok
      subst ok7
      obtain ⟨m1, m2, m3, m4, m5, m6, m7, -, m8, -⟩ := zz_meth ok2 ok3
      obtain ⟨m9, m10, T2, N2, m11⟩ := m8 ok4
      have hM := zz_met hZ ih ok2 ok3 hf hw
      obtain ⟨fs, ho⟩ := Option.isSome_iff_exists.mp hob
      obtain ⟨hle, hlay⟩ := zz_obj_ok ho
      intro H locs ls hW hS hl
      have hW : zz_Wd D cA z b h H := hW
      refine key H locs ls hW hS hl fun hsz => ?_
      exact va_runV (C := (zz_y x).cls) (b := z + j) (As := as'.map (zz_mv z b)) (rest := rest.map (zz_mv z b)) ⟨hx, hb, hml, hown, hts⟩ hM (n := y) ⟨callB_of y hts (zz_code_all ok2 ok3) rfl rfl rfl (hts _ m2) (hts _ (zz_link ok1 rfl)) ⟨m6.1, m6.2, by rw [m7, ok6]⟩ (hroom ok5), hts _ m9, hts _ m10⟩ ⟨zz_Pc_blind _, va_recv hK hW m11 (q0 := j) (fs := zz_fv z b (h.2.2 (j + 1)) 0 fs) (by rw [zz_ws_at (by omega), hlay]; rfl), hpre H locs hW hS hsz⟩ rfl (by rw [List.length_map]; exact hlen) hl.1 hstk (lv_room (by rw [zz_mv_sum]; exact h8)) hd ⟨by omega, by omega⟩
    · have ok : ((decide (zz_lt w = some (2, zz_oc md, k0, x, 0, .null)) || decide (zz_lt w = some (3, zz_oc md, k0, x, 0, .null))) && zz_okx md x 2 y) = true := by
        have := (Bool.and_eq_true_iff.mp ok).2
        simp only [if_neg hx5] at this
        exact this
      unfold zz_okx at ok
      simp only [Bool.and_eq_true, Bool.or_eq_true, decide_eq_true_eq, Nat.ble_eq, Nat.blt_eq] at ok
      obtain ⟨ok1, ok2, ok3, ok4, ok5, ok6⟩ := ok
      obtain ⟨m1, m2, m3, m4, m5, m6, m7, -, -, m8⟩ := zz_meth ok2 ok3
      obtain ⟨m9, m10, m11, -⟩ := m8 ok4
      have hM := zz_met hZ ih ok2 ok3 hf hw
      have hre := zz_rt0 m5 m11
      rw [hre] at hM
      have hgood : GoodIn zz_all (.code (zz_y x) (zz_bc x) (zz_nl x) none :: zz_all) := by
        have := zz_code_all ok2 ok3
        rw [hre] at this
        exact this
      intro H locs ls hW hS hl
      have hW : zz_Wd D cA z b h H := hW
      refine key H locs ls hW hS hl fun hsz => ?_
      rcases ok1 with ok1 | ok1
      · exact va_runI (b := z + j) (As := as'.map (zz_mv z b)) (rest := rest.map (zz_mv z b)) ⟨hx, hb, hml, hown, hts⟩ hM (n := y) ⟨callB_of y hts hgood rfl rfl rfl (hts _ m2) (hts _ (zz_link ok1 rfl)) ⟨m6.1, m6.2, by rw [m7, ok6]⟩ (hroom ok5), m10, hts _ m9⟩ ⟨zz_Pc_blind _, hpre H locs hW hS hsz⟩ rfl (by rw [List.length_map]; exact hlen) hl.1 hstk (lv_room (by rw [zz_mv_sum]; exact h8)) hd ⟨by omega, by omega⟩
      · exact va_runIN (b := z + j) (As := as'.map (zz_mv z b)) (rest := rest.map (zz_mv z b)) ⟨hx, hb, hml, hown, hts⟩ hM (n := y) ⟨va_cnB y hts hgood rfl rfl rfl (hE.1 _ (zz_link3 ok1)) (hts _ m2) ⟨m6.1, m6.2, by rw [m7, ok6]⟩ (hroom ok5), m10, hts _ m9⟩ ⟨zz_Pc_blind _, hpre H locs hW hS hsz⟩ rfl (by rw [List.length_map]; exact hlen) hl.1 hstk (lv_room (by rw [zz_mv_sum]; exact h8)) hd ⟨by omega, by omega⟩
theorem zz_sim (l : Launch) (D : va_G) (cA : Nat → ClassId) (z b : Nat) (X : zz_X) : ∀ n : Nat, zz_Sim l D cA z b X n
  | 0 => by
    intro p e R s m args below meth c Q n0 s0 md a r hmd hw C hZ hn0 hs0 hb1 hb2 k
    cases hw
    exact k
  | n + 1 => by
    intro p e R s m args below meth c Q n0 s0 md a r hmd hw C hZ hn0 hs0 hb1 hb2 k
    obtain ⟨pc, lv, st, h⟩ := a
    have ih := zz_sim l D cA z b X n
    unfold zz_walk at hw
    split at hw
    · cases hw
    · rename_i q hq
      have ok := zz_ok hmd hq
      split at hw
      · cases hw
      · rename_i s' hs
        have h1 := zz_step_more hs
        have h2 := zz_walk_more n md s' r hw
        have h1a : h.1.1 ≤ s'.2.2.2.1.1 := h1.1
        have h1b : h.1.2 ≤ s'.2.2.2.1.2 := h1.2
        have h2a := h2.1
        have h2b := h2.2
        exact zz_sim1 hmd C ok hZ hn0 hs0 (by omega) (by omega) hs (ih p e R s m args below meth c Q n0 s0 md s' r hmd hw C (zz_step_zero hZ hs) (Nat.le_trans hn0 h1a) (Nat.le_trans hs0 h1b) hb1 hb2 k)
      · rename_i r' hs
        cases hw
        obtain ⟨e1, e2, e3, e4⟩ := zz_step_end hs
        obtain ⟨i, ⟨x, y, u, w⟩, v, sw⟩ := q
        have hd := zz_okd ok
        intro H locs ls hW hS hl
        obtain ⟨rq, rv, rh⟩ := r'
        have e1 : rq = pc := e1
        have e2 : rh = h := e2
        have e3 : st = rv.toList := e3
        subst e1 e2 e3
        refine k ?_ H locs ls hW hS
        rcases e4 with ⟨i1, i2⟩ | ⟨i1, i2⟩ | ⟨i1, i2⟩
        · have i1 : i = .ireturn := i1
          subst i1
          exact Or.inl ⟨hd, i2⟩
        · have i1 : i = .areturn := i1
          subst i1
          exact Or.inr (Or.inl ⟨hd, i2⟩)
        · have i1 : i = .return_ := i1
          subst i1
          exact Or.inr (Or.inr ⟨hd, i2⟩)
      · rename_i m2 as rest hs
        split at hw
        · rename_i hf
          split at hw
          · rename_i q2 rv h2 hc
            obtain ⟨i, ⟨x, y, u, w⟩, v, sw⟩ := q
            have hx : m2 = x := (zz_step_call hs).1
            subst hx
            have h1 := zz_walk_more n m2 _ _ hc
            have h3 := zz_walk_more n md _ r hw
            have h1a : h.1.1 ≤ h2.1.1 := h1.1
            have h1b : h.1.2 ≤ h2.1.2 := h1.2
            have h3a : h2.1.1 ≤ (zz_rn r).1 := h3.1
            have h3b : h2.1.2 ≤ (zz_rn r).2 := h3.2
            exact z1_call ih hmd C ok hZ hn0 hs0 (by omega) (by omega) hs hf hc (ih p e R s m args below meth c Q n0 s0 md _ r hmd hw C (zz_walk_zero n m2 (0, zz_in as (zz_Q.2.2 m2), [], h) (.inr (q2, rv, h2)) hZ hc) (Nat.le_trans hn0 h1a) (Nat.le_trans hs0 h1b) hb1 hb2 k)
          · cases hw
        · cases hw
end ZU
