/-! calls, and the whole -/
section ZU
variable {p : Program} {l : Launch} {e : Env} {R : Room} {s : State} {m : MethodId} {args : Array Value} {below : List Frame} {meth : Method} {c : Code} {Q : State → Prop} {D : va_G} {cA : Nat → ClassId} {z : Nat} {b : Nat → Nat} {n0 s0 md pc : Nat} {X : yy_X} {lv : zz_V} {st : List Value} {h : zz_H} {s' : zz_S}
theorem zz_code_all {m2 : Nat} (hm0 : 0 < m2) (hm : zz_real m2 = true) : GoodIn zz_all (.code (zz_y m2) (zz_bc m2) (zz_nl m2) (zz_re m2) :: zz_all) :=
  zz_good fun w hw => (List.mem_cons.mp hw).elim (fun e => by rw [e]; exact List.mem_filter.mpr ⟨zz_code hm0 hm, rfl⟩) id
theorem zz_ar {a b c : Nat} (h1 : a ≤ b) (h2 : b ≤ c) : c - a = b - a + (c - b) := by omega
/-- what a call takes: a static method's, an object's, an old text's -/
theorem yy_step_call {O : yy_D} {us : Nat → List Nat} {rt x y u w m2 : Nat} {i : Instr} {v : Value} {sw : List (Int × Nat)} {as rest : List Value} (hs : yy_step O X us rt (i, (x, y, u, w), v, sw) pc lv st h = some (.inr (.inr (m2, as, rest)))) : m2 = x ∧ (rest.map fun v => v.category).sum ≤ 8 ∧
    (((∃ k, i = .invokestatic k) ∧ x < 100000 ∧ as.length = y ∧ st = as.reverse ++ rest) ∨
     (((∃ k, i = .invokevirtual k) ∨ ((∃ k, i = .invokespecial k) ∧ x ≠ 100000)) ∧ ∃ (k : Nat) (as' : List Value), as = .ref k :: as' ∧ as'.length = y ∧ st = as'.reverse ++ .ref k :: rest ∧ ((∃ j, k = j + 1 ∧ (zz_obj h (j + 1) u).isSome = true) ∨ (yy_old k = true ∧ k - yy_B < O.1 ∧ u = 14)))) := by
  rcases yy_step_or hs with g | g
  · obtain ⟨a1, a2, a3⟩ := zz_step_call g
    refine ⟨a1, a2, ?_⟩
    rcases a3 with a3 | ⟨a3, k, as', e1, e2, e3, e4⟩
    · exact Or.inl a3
    · exact Or.inr ⟨a3, k + 1, as', e1, e2, e3, Or.inl ⟨k, rfl, e4⟩⟩
  · obtain ⟨n, k, as', e1, e2, e3, e4, e5, e6, e7, e8, e9, e10⟩ := yy_more_call g
    exact ⟨e2.symm, e4, Or.inr ⟨Or.inl ⟨n, e1⟩, k, as', e5, e6, e7, Or.inr ⟨e8, e9, e10⟩⟩⟩
theorem yy_ccl : zz_cl[13]? = some ("java/lang/StringBuilder", zz_F13, 4) := rfl
theorem yy_kl_ok : (zz_wd yy_kl.1 (.sameMethod "java/lang/AbstractStringBuilder" "java/lang/AbstractStringBuilder" "length" "()I") && (zz_wd yy_kl.2.1 (.selects "java/lang/StringBuilder" ⟨"java/lang/AbstractStringBuilder", "length", "()I"⟩ ⟨"java/lang/StringBuilder", "length", "()I"⟩) && (zz_wd yy_kl.2.2.1 (.instanceMethod ⟨"java/lang/AbstractStringBuilder", "length", "()I"⟩) && (decide (zz_y yy_kl.2.2.2 = ⟨"java/lang/AbstractStringBuilder", "length", "()I"⟩) && (zz_real yy_kl.2.2.2 && Nat.blt 0 yy_kl.2.2.2))))) = true := by decide +kernel
theorem yy_T_none {q : Nat} (hm : zz_nm ≤ md) : zz_T md q = none := by
  unfold zz_T
  have h1 : zz_ln md = 0 := by
    unfold zz_ln
    rw [show Nat.ble 352 md = true from Nat.ble_eq_true_of_le hm]
    rfl
  rw [h1]
  rfl
theorem y1_call {n x y u w q : Nat} {i : Instr} {v : Value} {sw : List (Int × Nat)} {as rest : List Value} {rv : Option Value} {h' : zz_H} (ih : zz_Sim l D cA z b X n) (hmd : zz_real md = true) (hB : h.1.1 < yy_B) (hB' : h'.1.1 < yy_B) (C : zz_C p R s m args meth c D cA z b n0 X md) (ok : zz_okI md pc (i, (x, y, u, w), v, sw) = true)
    (hZ : zz_Zr h) (hn0 : n0 ≤ h.1.1) (hs0 : s0 ≤ h.1.2) (hb1 : h'.1.1 - n0 ≤ R.cells) (hb2 : h'.1.2 - s0 ≤ R.slots) (hs : yy_step yy_O X zz_us (zz_rt md) (i, (x, y, u, w), v, sw) pc lv st h = some (.inr (.inr (x, as, rest)))) (hx5 : x < 100000)
    (hf : (zz_in as 0).length ≤ zz_nl x) (hw : yy_walk yy_O zz_Q zz_us X n x (0, zz_in as (zz_nl x), [], h) = some (.inr (q, rv, h')))
    (k : zz_G p l e R s m args below meth c D cA z b n0 s0 md Q (pc + 3, lv, rv.toList ++ rest, h')) : zz_G p l e R s m args below meth c D cA z b n0 s0 md Q (pc, lv, st, h) := by
  obtain ⟨hx, hb, hml, hown, hts, hK, hz, hbz, hXx, hin, hfr, hlo, hE⟩ := C
  have hd := zz_okd ok
  obtain ⟨-, h8, hc⟩ := yy_step_call hs
  have hmore := yy_walk_more n x _ _ hw
  have hm1 : h.1.1 ≤ h'.1.1 := hmore.1
  have hm2 : h.1.2 ≤ h'.1.2 := hmore.2
  have key : ∀ (H : Heap) (locs : List Loc) (ls : Array Slot), zz_Wd D cA z b h H → va_S (fun q => z ≤ q) s.heap H locs → zz_lr z b ls (zz_nl md) lv →
      (H.size = z + h.1.1 → va_Run p l e R s m args below meth c H locs (h.1.1 - n0) (h.1.2 - s0) (h'.1.1 - h.1.1) (h'.1.2 - h.1.2) (F0 m pc ls (st.map (zz_mv z b))) (rest.map (zz_mv z b)) (zz_Qc D cA z b rv h' (as.map (zz_mv z b)).toArray) (fun q => z ≤ q)) → W p l e R s m args below meth c H locs (h.1.1 - n0) (h.1.2 - s0) Q (F0 m pc ls (st.map (zz_mv z b))) := by
    intro H locs ls hW hS hl hr
    refine zz_sized (h := h) hz hn0 hW hS fun hsz => ?_
    refine zz_after (hr hsz) hS fun H1 locs1 hW1 hS1 => ?_
    have k1 := k H1 locs1 ls hW1 hS1 hl
    have a1 : h'.1.1 - n0 = h.1.1 - n0 + (h'.1.1 - h.1.1) := zz_ar hn0 hm1
    have a2 : h'.1.2 - s0 = h.1.2 - s0 + (h'.1.2 - h.1.2) := zz_ar hs0 hm2
    have a3 : (rv.toList ++ rest).map (zz_mv z b) = (rv.map (zz_mv z b)).toList ++ rest.map (zz_mv z b) := by cases rv <;> rfl
    have k1 : W p l e R s m args below meth c H1 locs1 (h'.1.1 - n0) (h'.1.2 - s0) Q (F0 m (pc + 3) ls ((rv.toList ++ rest).map (zz_mv z b))) := k1
    rw [a1, a2, a3] at k1
    exact k1
  have hpre : ∀ (H : Heap) (locs : List Loc), zz_Wd D cA z b h H → va_S (fun q => z ≤ q) s.heap H locs → H.size = z + h.1.1 → ∀ U : State, U.heap = H → s.WarmedH U.vm → va_Pc (as.map (zz_mv z b)) (zz_Pc D cA z b X h) (as.map (zz_mv z b)).toArray U := by
    intro H locs hW hS hsz U hU hW2
    exact ⟨rfl, by rw [hU]; exact hW, by rw [hU]; exact hsz, va_K.moved hW2.alike hK, hbz, zz_Xx.moved hbz (by omega) hS hU hW2 hXx, hE.warm hW2⟩
  have hroom : ∀ {x : Nat}, zz_rm md x = true → zz_fr x + 1 ≤ R.frames ∧ 8 + (zz_nl x + 11) + zz_lo x ≤ R.locals := by
    intro x hh
    unfold zz_rm at hh
    simp only [Bool.and_eq_true, Nat.ble_eq] at hh
    omega
  rcases hc with ⟨⟨k0, rfl⟩, -, hlen, rfl⟩ | ⟨hi, kr, as', rfl, hlen, rfl, hob⟩
  · have ok : ((decide (zz_lt w = some (2, zz_oc md, k0, x, 0, .null)) || (decide (zz_lt w = some (3, zz_oc md, k0, x, 0, .null)) || decide (zz_lt w = some (17, zz_oc md, k0, x, 0, .null)))) && zz_okx md x 0 y) = true := by
      have := (Bool.and_eq_true_iff.mp ok).2
      simp only [if_pos hx5] at this
      exact this
    unfold zz_okx at ok
    simp only [Bool.and_eq_true, Bool.or_eq_true, decide_eq_true_eq, Nat.ble_eq] at ok
    obtain ⟨ok1, ok2, ok3, ok4, ok5, ok6⟩ := ok
    obtain ⟨m1, m2, m3, m4, m5, m6, m7, m8, -⟩ := zz_meth ok2 ok3
    have hM := zz_met hZ ih ok2 ok3 hB' hf hw
    have hstk : ((as.reverse ++ rest).map (zz_mv z b)) = (as.map (zz_mv z b)).reverse ++ rest.map (zz_mv z b) := by
      rw [List.map_append, List.map_reverse]
    intro H locs ls hW hS hl
    have hW : zz_Wd D cA z b h H := hW
    refine key H locs ls hW hS hl fun hsz => ?_
    rcases ok1 with ok1 | ok1 | ok1
    · exact va_runS (As := as.map (zz_mv z b)) (rest := rest.map (zz_mv z b)) ⟨hx, hb, hml, hown, hts⟩ hM (n := y) ⟨callB_of y hts (zz_code_all ok2 ok3) rfl rfl rfl (hts _ m2) (hts _ (zz_link ok1 rfl)) ⟨m6.1, m6.2, by rw [m7, ok6]⟩ (hroom ok5), hts _ (m8 ok4)⟩ ⟨zz_Pc_blind _, hpre H locs hW hS hsz⟩ rfl (by rw [List.length_map]; exact hlen) hl.1 hstk (lv_room (by rw [zz_mv_sum]; exact h8)) hd ⟨by omega, by omega⟩
    · exact va_runSN (As := as.map (zz_mv z b)) (rest := rest.map (zz_mv z b)) ⟨hx, hb, hml, hown, hts⟩ hM (n := y) ⟨va_cnB y hts (zz_code_all ok2 ok3) rfl rfl rfl (hE.1 _ (zz_link3 ok1)) (hts _ m2) ⟨m6.1, m6.2, by rw [m7, ok6]⟩ (hroom ok5), hts _ (m8 ok4), trivial⟩ ⟨zz_Pc_blind _, hpre H locs hW hS hsz⟩ rfl (by rw [List.length_map]; exact hlen) hl.1 hstk (lv_room (by rw [zz_mv_sum]; exact h8)) hd ⟨by omega, by omega⟩
    · exact va_runSN (As := as.map (zz_mv z b)) (rest := rest.map (zz_mv z b)) ⟨hx, hb, hml, hown, hts⟩ hM (n := y) ⟨va_cnB y hts (zz_code_all ok2 ok3) rfl rfl rfl (hE.1 _ (zz_link17 ok1)) (hts _ m2) ⟨m6.1, m6.2, by rw [m7, ok6]⟩ (hroom ok5), hts _ (m8 ok4), trivial⟩ ⟨zz_Pc_blind _, hpre H locs hW hS hsz⟩ rfl (by rw [List.length_map]; exact hlen) hl.1 hstk (lv_room (by rw [zz_mv_sum]; exact h8)) hd ⟨by omega, by omega⟩
  · have hstk : ((as'.reverse ++ .ref kr :: rest).map (zz_mv z b)) = (as'.map (zz_mv z b)).reverse ++ .ref (b kr) :: rest.map (zz_mv z b) := by
      rw [List.map_append, List.map_reverse]
      rfl
    have recv : ∀ (H : Heap) (locs : List Loc), zz_Wd D cA z b h H → va_S (fun q => z ≤ q) s.heap H locs → ∀ (C : String) (T : u_T) (N : Nat), zz_cl[u]? = some (C, T, N) → ∃ cellB : Cell, H[b kr]? = some cellB ∧ cellB.vm.isStatics = false ∧ s.vm.findClass C = some cellB.cls := by
      intro H locs hW hS C T N hC
      rcases hob with ⟨j, rfl, hob⟩ | ⟨o1, o2, rfl⟩
      · obtain ⟨fs, ho⟩ := Option.isSome_iff_exists.mp hob
        obtain ⟨hle, hlay⟩ := zz_obj_ok ho
        exact va_recv hK hW hC (q0 := j) (a := b (j + 1)) (fs := zz_fv z b (h.2.2 (j + 1)) 0 fs) (by rw [zz_ws_at (by omega), hlay, hbz.1 j (by omega)]; rfl)
      · have o1 : yy_B ≤ kr := Nat.le_of_ble_eq_true o1
        have h5 := (hXx.2.1.1 _ o2).1
        rw [show yy_B + (kr - yy_B) = kr by omega] at h5
        obtain ⟨cell, h1, h2, h3, -⟩ := h5.kept hS.2.1
        cases hC
        exact ⟨cell, h1, h2, h3⟩
    rcases hi with ⟨k0, rfl⟩ | ⟨⟨k0, rfl⟩, hx6⟩
    · have ok : ((decide (zz_lt w = some (2, zz_oc md, k0, x, 0, .null)) && ((zz_okx md x 1 y && decide (zz_mc x = u)) || (zz_okx md x 3 y && (decide (u = 13) && yy_okv x)))) || (decide (zz_lt w = some (18, zz_oc md, k0, x, 0, .null)) && (zz_okx md x 3 0 && (decide (y = 0) && (decide (u = 13) && decide (zz_y x = ⟨"java/lang/StringBuilder", "length", "()I"⟩)))))) = true := by
        have := (Bool.and_eq_true_iff.mp ok).2
        simp only [if_pos hx5] at this
        exact this
      unfold zz_okx at ok
      simp only [Bool.and_eq_true, Bool.or_eq_true, decide_eq_true_eq, Nat.ble_eq] at ok
      rcases ok with ⟨ok1, ⟨⟨ok2, ok3, ok4, ok5, ok6⟩, ok7⟩ | ⟨⟨ok2, ok3, ok4, ok5, ok6⟩, ok7, ok8⟩⟩ | ⟨ok1, ⟨ok2, ok3, ok4, ok5, ok6⟩, ok7, ok8, ok9⟩
      · subst ok7
        obtain ⟨m1, m2, m3, m4, m5, m6, m7, -, m8, -⟩ := zz_meth ok2 ok3
        obtain ⟨m9, m10, T2, N2, m11⟩ := m8 ok4
        have hM := zz_met hZ ih ok2 ok3 hB' hf hw
        intro H locs ls hW hS hl
        have hW : zz_Wd D cA z b h H := hW
        refine key H locs ls hW hS hl fun hsz => ?_
        exact va_runV (C := (zz_y x).cls) (b := b kr) (As := as'.map (zz_mv z b)) (rest := rest.map (zz_mv z b)) ⟨hx, hb, hml, hown, hts⟩ hM (n := y) ⟨callB_of y hts (zz_code_all ok2 ok3) rfl rfl rfl (hts _ m2) (hts _ (zz_link ok1 rfl)) ⟨m6.1, m6.2, by rw [m7, ok6]⟩ (hroom ok5), hts _ m9, hts _ m10⟩ ⟨zz_Pc_blind _, recv H locs hW hS _ _ _ m11, hpre H locs hW hS hsz⟩ rfl (by rw [List.length_map]; exact hlen) hl.1 hstk (lv_room (by rw [zz_mv_sum]; exact h8)) hd ⟨by omega, by omega⟩
      · subst ok7
        obtain ⟨m1, m2, m3, m4, m5, m6, m7, -, -, -, m8⟩ := zz_meth ok2 ok3
        obtain ⟨m9, -⟩ := m8 ok4
        have hM := zz_met hZ ih ok2 ok3 hB' hf hw
        unfold yy_okv at ok8
        simp only [Bool.and_eq_true, Bool.or_eq_true, decide_eq_true_eq] at ok8
        obtain ⟨v1, v2⟩ := ok8
        have hsel : (Jvm.Cond.selects "java/lang/StringBuilder" (zz_y x) (zz_y x)).before args s = true := by
          rcases v2 with v2 | v2
          · have g := hE.2.2.2.2 _ v2
            exact word_at (State.WarmedH.refl s) (Or.inl rfl) g
          · exact hts _ (zz_all_of v2)
        have hG := zz_code_all ok2 ok3
        have hcode : (Jvm.Cond.code (zz_y x) (zz_bc x) (zz_nl x) (zz_re x)).before args s = true := hts _ (hG _ List.mem_cons_self).1
        intro H locs ls hW hS hl
        have hW : zz_Wd D cA z b h H := hW
        refine key H locs ls hW hS hl fun hsz => ?_
        refine va_runU (C := "java/lang/StringBuilder") (owner := (zz_y x).cls) (x := zz_y x) (y := zz_y x) (b := b kr) (As := as'.map (zz_mv z b)) (rest := rest.map (zz_mv z b)) ⟨hx, hb, hml, hown, hts⟩ hM (n := y) ⟨⟨rfl, rfl, (hroom ok5).1, (hroom ok5).2, pay_in hts hG, List.mem_cons_self⟩, hcode, hts _ m2, m6, fun sig hsg => ?_, hts _ (zz_link ok1 rfl), hts _ (zz_all_of v1), va_Decl.of (hts _ m9) hcode, hsel, hts _ m9⟩ ⟨zz_Pc_blind _, recv H locs hW hS _ _ _ yy_ccl, hpre H locs hW hS hsz⟩ rfl (by rw [List.length_map]; exact hlen) hl.1 hstk (lv_room (by rw [zz_mv_sum]; exact h8)) hd ⟨by omega, by omega⟩
        rw [hsg] at m7
        exact ok6.symm.trans (Option.some.inj m7).symm
      · subst ok7
        subst ok8
        obtain ⟨m1, m2, m3, m4, m5, m6, m7, -, -, -, m8⟩ := zz_meth ok2 ok3
        obtain ⟨m9, -⟩ := m8 ok4
        have hM := zz_met hZ ih ok2 ok3 hB' hf hw
        have hk := yy_kl_ok
        simp only [Bool.and_eq_true, decide_eq_true_eq, Nat.blt_eq] at hk
        obtain ⟨w1, w2, w3, w4, w5, w6⟩ := hk
        have hG := zz_code_all ok2 ok3
        have hcode : (Jvm.Cond.code (zz_y x) (zz_bc x) (zz_nl x) (zz_re x)).before args s = true := hts _ (hG _ List.mem_cons_self).1
        have hcode2 : (Jvm.Cond.code ⟨"java/lang/AbstractStringBuilder", "length", "()I"⟩ (zz_bc yy_kl.2.2.2) (zz_nl yy_kl.2.2.2) (zz_re yy_kl.2.2.2)).before args s = true := by
          have g := hts _ (zz_code_all w6 w5 _ List.mem_cons_self).1
          rw [w4] at g
          exact g
        have hlink := hts _ (zz_link ok1 rfl)
        have hsel := hts _ (zz_all_of w2)
        rw [← ok9] at hsel
        intro H locs ls hW hS hl
        have hW : zz_Wd D cA z b h H := hW
        refine key H locs ls hW hS hl fun hsz => ?_
        refine va_runU (C := "java/lang/StringBuilder") (owner := "java/lang/AbstractStringBuilder") (x := ⟨"java/lang/AbstractStringBuilder", "length", "()I"⟩) (y := zz_y x) (b := b kr) (As := as'.map (zz_mv z b)) (rest := rest.map (zz_mv z b)) ⟨hx, hb, hml, hown, hts⟩ hM (n := 0) ⟨⟨rfl, rfl, (hroom ok5).1, (hroom ok5).2, pay_in hts hG, List.mem_cons_self⟩, hcode, hts _ m2, ⟨by decide, by decide⟩, fun sig hsg => ?_, hlink, hts _ (zz_all_of w1), va_Decl.of (hts _ (zz_all_of w3)) hcode2, hsel, hts _ m9⟩ ⟨zz_Pc_blind _, recv H locs hW hS _ _ _ yy_ccl, hpre H locs hW hS hsz⟩ rfl (by rw [List.length_map]; exact hlen) hl.1 hstk (lv_room (by rw [zz_mv_sum]; exact h8)) hd ⟨by omega, by omega⟩
        have e0 : parseMethodDescriptor "()I" = parseMethodDescriptor (zz_y x).desc := by rw [ok9]
        have hsg : parseMethodDescriptor "()I" = some sig := hsg
        rw [← e0, hsg] at m7
        exact ok6.symm.trans (Option.some.inj m7).symm
    · have ok : (((decide (zz_lt w = some (2, zz_oc md, k0, x, 0, .null)) || (decide (zz_lt w = some (3, zz_oc md, k0, x, 0, .null)) || decide (zz_lt w = some (17, zz_oc md, k0, x, 0, .null)))) && zz_okx md x 2 y) || (decide (zz_lt w = some (2, zz_oc md, k0, x, 0, .null)) && (zz_okx md x 3 y && (decide (zz_oc md = yy_sb) && (decide (u = 13) && yy_oks x))))) = true := by
        have := (Bool.and_eq_true_iff.mp ok).2
        simp only [if_neg hx6] at this
        exact this
      unfold zz_okx at ok
      simp only [Bool.and_eq_true, Bool.or_eq_true, decide_eq_true_eq, Nat.ble_eq] at ok
      rcases ok with ⟨ok1, ok2, ok3, ok4, ok5, ok6⟩ | ⟨ok1, ⟨ok2, ok3, ok4, ok5, ok6⟩, ok7, ok8, ok9⟩
      · obtain ⟨m1, m2, m3, m4, m5, m6, m7, -, -, m8, -⟩ := zz_meth ok2 ok3
        obtain ⟨m9, m10, m11, -⟩ := m8 ok4
        have hM := zz_met hZ ih ok2 ok3 hB' hf hw
        have hre := zz_rt0 m5 m11
        rw [hre] at hM
        have hgood : GoodIn zz_all (.code (zz_y x) (zz_bc x) (zz_nl x) none :: zz_all) := by
          have := zz_code_all ok2 ok3
          rw [hre] at this
          exact this
        intro H locs ls hW hS hl
        have hW : zz_Wd D cA z b h H := hW
        refine key H locs ls hW hS hl fun hsz => ?_
        rcases ok1 with ok1 | ok1 | ok1
        · exact va_runI (b := b kr) (As := as'.map (zz_mv z b)) (rest := rest.map (zz_mv z b)) ⟨hx, hb, hml, hown, hts⟩ hM (n := y) ⟨callB_of y hts hgood rfl rfl rfl (hts _ m2) (hts _ (zz_link ok1 rfl)) ⟨m6.1, m6.2, by rw [m7, ok6]⟩ (hroom ok5), m10, hts _ m9⟩ ⟨zz_Pc_blind _, hpre H locs hW hS hsz⟩ rfl (by rw [List.length_map]; exact hlen) hl.1 hstk (lv_room (by rw [zz_mv_sum]; exact h8)) hd ⟨by omega, by omega⟩
        · exact va_runIN (b := b kr) (As := as'.map (zz_mv z b)) (rest := rest.map (zz_mv z b)) ⟨hx, hb, hml, hown, hts⟩ hM (n := y) ⟨va_cnB y hts hgood rfl rfl rfl (hE.1 _ (zz_link3 ok1)) (hts _ m2) ⟨m6.1, m6.2, by rw [m7, ok6]⟩ (hroom ok5), m10, hts _ m9⟩ ⟨zz_Pc_blind _, hpre H locs hW hS hsz⟩ rfl (by rw [List.length_map]; exact hlen) hl.1 hstk (lv_room (by rw [zz_mv_sum]; exact h8)) hd ⟨by omega, by omega⟩
        · exact va_runIN (b := b kr) (As := as'.map (zz_mv z b)) (rest := rest.map (zz_mv z b)) ⟨hx, hb, hml, hown, hts⟩ hM (n := y) ⟨va_cnB y hts hgood rfl rfl rfl (hE.1 _ (zz_link17 ok1)) (hts _ m2) ⟨m6.1, m6.2, by rw [m7, ok6]⟩ (hroom ok5), m10, hts _ m9⟩ ⟨zz_Pc_blind _, hpre H locs hW hS hsz⟩ rfl (by rw [List.length_map]; exact hlen) hl.1 hstk (lv_room (by rw [zz_mv_sum]; exact h8)) hd ⟨by omega, by omega⟩
      · subst ok8
        obtain ⟨m1, m2, m3, m4, m5, m6, m7, -, -, -, m8⟩ := zz_meth ok2 ok3
        obtain ⟨m9, -⟩ := m8 ok4
        have hM := zz_met hZ ih ok2 ok3 hB' hf hw
        unfold yy_oks at ok9
        simp only [Bool.and_eq_true, decide_eq_true_eq] at ok9
        obtain ⟨v1, v2, v3⟩ := ok9
        have hG := zz_code_all ok2 ok3
        have hcode : (Jvm.Cond.code (zz_y x) (zz_bc x) (zz_nl x) (zz_re x)).before args s = true := hts _ (hG _ List.mem_cons_self).1
        have hsup : (Jvm.Cond.superclass (zz_ow md) (zz_y x).cls).before args s = true := by
          have g := hts _ (zz_all_of v2)
          rw [← ok7] at g
          exact g
        have hlink := hts _ (zz_link ok1 rfl)
        intro H locs ls hW hS hl
        have hW : zz_Wd D cA z b h H := hW
        refine key H locs ls hW hS hl fun hsz => ?_
        refine va_runSU (hK.1 13 _ yy_ccl).2 (y := zz_y x) (b := b kr) (As := as'.map (zz_mv z b)) (rest := rest.map (zz_mv z b)) ⟨hx, hb, hml, hown, hts⟩ hM (n := y) ⟨⟨rfl, rfl, (hroom ok5).1, (hroom ok5).2, pay_in hts hG, List.mem_cons_self⟩, hlink, hts _ (zz_all_of v1), hsup, hts _ m9, hts _ m2, hcode, v3, fun sig hsg => ?_⟩ ⟨zz_Pc_blind _, recv H locs hW hS _ _ _ yy_ccl, hpre H locs hW hS hsz⟩ rfl (by rw [List.length_map]; exact hlen) hl.1 hstk (lv_room (by rw [zz_mv_sum]; exact h8)) hd ⟨by omega, by omega⟩
        rw [hsg] at m7
        exact ok6.symm.trans (Option.some.inj m7).symm
theorem zz_sim (l : Launch) (D : va_G) (cA : Nat → ClassId) (z : Nat) (b : Nat → Nat) (X : yy_X) : ∀ n : Nat, zz_Sim l D cA z b X n
  | 0 => by
    intro p e R s m args below meth c Q n0 s0 md a r hmd hw hBr C hZ hn0 hs0 hb1 hb2 k
    cases hw
    exact k
  | n + 1 => by
    intro p e R s m args below meth c Q n0 s0 md a r hmd hw hBr C hZ hn0 hs0 hb1 hb2 k
    obtain ⟨pc, lv, st, h⟩ := a
    have ih := zz_sim l D cA z b X n
    unfold yy_walk at hw
    split at hw
    · cases hw
    · rename_i q hq
      have ok := zz_ok hmd hq
      split at hw
      · cases hw
      · rename_i s' hs
        have h1 := yy_step_more hs
        have h2 := yy_walk_more n md s' r hw
        have h1a : h.1.1 ≤ s'.2.2.2.1.1 := h1.1
        have h1b : h.1.2 ≤ s'.2.2.2.1.2 := h1.2
        have h2a := h2.1
        have h2b := h2.2
        exact yy_sim1 hmd (by omega) (by omega) C ok hZ hn0 hs0 (by omega) (by omega) hs (ih p e R s m args below meth c Q n0 s0 md s' r hmd hw hBr C (yy_step_zero hZ hs) (Nat.le_trans hn0 h1a) (Nat.le_trans hs0 h1b) hb1 hb2 k)
      · rename_i r' hs
        cases hw
        obtain ⟨e1, e2, e3, e4⟩ := yy_step_end hs
        obtain ⟨i, ⟨x, y, u, w⟩, v, sw⟩ := q
        have hd := zz_okd ok
        intro H locs ls hW hS hl
        obtain ⟨rq, rv, rh⟩ := r'
        have e1 : rq = pc := e1
        have e2 : rh = h := e2
        have e3 : st = rv.toList := e3
        subst e1 e2 e3
        refine k ?_ H locs ls hW hS
        rcases e4 with ⟨i1, i2⟩ | ⟨i1, i2⟩ | ⟨i1, i2⟩
        · have i1 : i = .ireturn := i1
          subst i1
          exact Or.inl ⟨hd, i2⟩
        · have i1 : i = .areturn := i1
          subst i1
          exact Or.inr (Or.inl ⟨hd, i2⟩)
        · have i1 : i = .return_ := i1
          subst i1
          exact Or.inr (Or.inr ⟨hd, i2⟩)
      · rename_i m2 as rest hs
        split at hw
        · rename_i hf
          split at hw
          · rename_i q2 rv h2 hc
            obtain ⟨i, ⟨x, y, u, w⟩, v, sw⟩ := q
            have hx : m2 = x := (yy_step_call hs).1
            subst hx
            have hx5 : m2 < 100000 := by
              rcases Nat.lt_or_ge m2 100000 with g | g
              · exact g
              · exfalso
                cases n with
                | zero => cases hc
                | succ n =>
                  unfold yy_walk at hc
                  rw [show zz_Q.1 m2 0 = none from yy_T_none (Nat.le_trans (by decide) g)] at hc
                  cases hc
            have h1 := yy_walk_more n m2 _ _ hc
            have h3 := yy_walk_more n md _ r hw
            have h1a : h.1.1 ≤ h2.1.1 := h1.1
            have h1b : h.1.2 ≤ h2.1.2 := h1.2
            have h3a : h2.1.1 ≤ (zz_rn r).1 := h3.1
            have h3b : h2.1.2 ≤ (zz_rn r).2 := h3.2
            exact y1_call ih hmd (by omega) (by omega) C ok hZ hn0 hs0 (by omega) (by omega) hs hx5 hf hc (ih p e R s m args below meth c Q n0 s0 md _ r hmd hw hBr C (yy_walk_zero n m2 (0, zz_in as (zz_Q.2.2 m2), [], h) (.inr (q2, rv, h2)) hZ hc) (Nat.le_trans hn0 h1a) (Nat.le_trans hs0 h1b) hb1 hb2 k)
          · cases hw
        · cases hw
end ZU
