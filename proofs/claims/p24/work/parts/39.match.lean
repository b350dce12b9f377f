section
-- ===== end of PART A; then your names; then what follows =====
/-! THE CLAIM OUT OF ONE WALK OF THE LAW'S BODY. Your part is whole_start (and what it stands on); all else here is the same for every law, but numbers. -/
def R_law : String := "UnequalHoursLaw"
def lw_P (b : Addr) (xs : List Int32) (args : Array Value) (s : State) : Prop := args = #[.ref b] ∧ s.IntsAt b xs ∧ xs.length ≤ 6 ∧ (Jvm.Cond.and given_1 narrow_1).before args s = true
def lw_Q (_ : Array Value) (s : State) (o : Outcome) (t : State) : Prop := o = .returned (some (.int 1)) ∧ Framed s o t [] 600000 7302250
def lw_Z (below : List Frame) (a : Array Value) (s : State) : State → Prop := fun t => ∃ o, t.status = .running ∧ Ended t below o ∧ lw_Q a s o t
/-- the law's own end, with 1 on the stack, nothing written that was there before, its room as the claim has it -/
theorem lw_ret {p : Program} {l : Launch} {e : Env} {s : State} {m : MethodId} {below : List Frame} {meth : Method} {c : Code} {b : Nat} (hx : p.tables.exec = Jvm.exec) (hb : c.code = code) (hr : meth.sig.returnType = ret) (hlocks : meth.locks = false) {pc : Nat} {H : Heap} {ls : Array Slot} (hdg : decode code pc = .ok (.ireturn, 1)) : W p l e room_1 s m #[Value.ref b] below meth c H [] 600000 7302250 (lw_Z below #[Value.ref b] s) (F0 m pc ls [.int 1]) := by
  intro T hT X
  obtain ⟨fs, hret, hrun, hended, hW, hframe⟩ := X.leave (v := some (.int 1)) (hlocks := hlocks) (fun h => by rw [hr] at h; cases h)
  have hmeth' : T.vm.method? m = some meth := X.method'
  refine ⟨T.setFrames fs, ?_, .returned (some (.int 1)), hrun, hended, rfl, ⟨_, rfl⟩, hW, hframe⟩
  jvm_step X.here [X.here.top, hx, hb, hdg, hmeth', hr, ret, narrow_b1]
  (try refine ⟨rfl, ?_⟩); (try refine ⟨rfl, ?_⟩)
  first | (intro acts; rw [hret _ acts rfl rfl rfl]) | rw [hret _ _ rfl rfl rfl]
  exact Steps.refl _
/-- what holds at the law's entry: the machine, the code, the tables' words (any of lw_tbl by 'hts w (by decide +kernel)'), the script of L ints xs at the cell b, what the Statement gives of the start (any of its parts by flat_of_before) -/
def lw_At (p : Program) (s : State) (m : MethodId) (meth : Method) (c : Code) (b L : Nat) (xs : Nat → Int32) : Prop :=
  p.tables.exec = Jvm.exec ∧ c.code = code ∧ meth.sig.returnType = ret ∧ c.maxLocals = 4 ∧ s.vm.findClass R_law = some m.cls ∧ (∀ w ∈ lw_tbl, w.before #[Value.ref b] s = true) ∧ va_X b L xs s s.heap ∧ b < s.heap.size ∧ meth.locks = false ∧ (Jvm.Cond.and given_1 narrow_1).before #[Value.ref b] s = true
end
section
/-! THE LAW'S RUN, FROM THE MACHINE'S START -/
def zz_h0 : zz_H := ((0, 0), (fun _ => .inl (9, 0), fun _ _ => 0))
theorem zz_known {s : State} {args : Array Value} (hts : ∀ w ∈ lw_tbl, w.before args s = true) : ∃ (D : va_G) (cA : Nat → ClassId), va_K D zz_cl (zz_tys cA) s := by
  have hal : ∀ w ∈ zz_all, w.before args s = true := fun w hw => hts w (List.mem_filter.mp hw).1
  have h1 : ∀ k : Nat, ∃ y : ClassId × (Nat → Nat), ∀ q : vw_C, zz_cl[k]? = some q → u_Kn s q.1 q.2.1 q.2.2 y.1 y.2 := by
    intro k
    cases hk : zz_cl[k]? with
    | none => exact ⟨(0, fun _ => 0), fun q hq => by cases hq⟩
    | some q =>
      obtain ⟨C, T, N⟩ := q
      obtain ⟨g1, g2, -⟩ := zz_cls hk
      obtain ⟨cC, iS, hKn⟩ := u_known (C := C) (T := T) (N := N) (n := N) hal g1 (hal _ g2)
      exact ⟨(cC, iS), fun q hq => by cases hq; exact hKn⟩
  obtain ⟨f, hf⟩ := Classical.axiomOfChoice h1
  have h2 : ∀ t : Nat, ∃ y : ClassId, t < 5 → ArrOfT s y (zz_ty t) ∧ va_RA s y (zz_ty t) := by
    intro t
    have prim : ∀ ty : FieldType, (Jvm.Cond.arrayClass ty) ∈ lw_tbl → (∀ y : ClassId, s.vm.findClass ("[" ++ ty.toString) = some y → va_RA s y ty) → ∃ y : ClassId, t < 5 → ArrOfT s y ty ∧ va_RA s y ty := fun ty hw hra => by
      obtain ⟨c, k, comp, e1, e2, e3⟩ := Cond.arrayClass_spec (hts _ hw)
      exact ⟨c, fun _ => ⟨fun N z => ⟨(fun k h => by cases h), k, e2, comp, e3⟩, hra c e1⟩⟩
    have refs : ∀ C : String, (Jvm.Cond.arrayOver (.object C)) ∈ lw_tbl → ∃ y : ClassId, t < 5 → ArrOfT s y (.object C) ∧ va_RA s y (.object C) := fun C hw => by
      obtain ⟨comp, c, k, e1, e2, e3, e4, e5⟩ := Cond.arrayOver_spec (hts _ hw)
      exact ⟨c, fun _ => ⟨fun N z => ⟨(fun k h => by cases h), k, e3, comp, e4⟩, k, comp, e3, e4, e1, e5⟩⟩
    match t with
    | 0 => exact prim .int (List.mem_of_getElem? (i := 152) (by decide +kernel)) (fun _ h => h)
    | 1 => exact prim .boolean (List.mem_of_getElem? (i := 264) (by decide +kernel)) (fun _ h => h)
    | 2 => exact prim .byte (List.mem_of_getElem? (i := 1143) (by decide +kernel)) (fun _ h => h)
    | 3 => exact refs "UnequalHours$Town" (List.mem_of_getElem? (i := 104) (by decide +kernel))
    | 4 => exact refs "UnequalHours$State" (List.mem_of_getElem? (i := 218) (by decide +kernel))
    | t + 5 => exact ⟨0, fun h => absurd h (by omega)⟩
  obtain ⟨cA, hcA⟩ := Classical.axiomOfChoice h2
  refine ⟨(fun k => (f k).1, fun k => (f k).2), cA, fun k q hq => hf k q hq, fun k q hq => ?_⟩
  have hk : k < 5 := by
    have := (List.getElem?_eq_some_iff.mp hq).1
    simpa [zz_tys] using this
  rw [zz_tys_at cA hk] at hq
  cases hq
  exact hcA k hk
theorem zz_E_of {s : State} {args : Array Value} (hts : ∀ w ∈ lw_tbl, w.before args s = true) : zz_E s := by
  refine ⟨fun w hw => ?_, va_AO.of (hts _ (List.mem_of_getElem? (i := 104) (by decide +kernel))), va_AO.of (hts _ (List.mem_of_getElem? (i := 218) (by decide +kernel)))⟩
  have h1 := List.mem_filter.mp hw
  have h2 := h1.2
  have h3 := hts w h1.1
  cases w <;> first | exact va_Nw.of rfl h3 | (exact absurd (show false = true from h2) (by decide))
section ZR
variable {p : Program} {l : Launch} {e : Env} {s : State} {m : MethodId} {below : List Frame} {meth : Method} {c : Code} {D : va_G} {cA : Nat → ClassId} {z b : Nat} {X : zz_X}
/-- a run of the law that ends well is a run of the machine that ends well -/
theorem zz_law_fin {a : zz_S} (hr : meth.sig.returnType = ret) (hlocks : meth.locks = false) (hZ : zz_Zr a.2.2.2) (C : zz_C p room_1 s m #[Value.ref b] meth c D cA s.heap.size b 0 X 0)
    (k : zz_fin X 0 a (fun v h => v = some (.int 1) ∧ h.1.1 ≤ 600000 ∧ h.1.2 ≤ 7302250)) : zz_G p l e room_1 s m #[Value.ref b] below meth c D cA s.heap.size b 0 0 0 (lw_Z below #[Value.ref b] s) a := by
  obtain ⟨n, q, v, h, hw, hv, h1, h2⟩ := k
  refine zz_sim l D cA s.heap.size b X n p e room_1 s m _ below meth c (lw_Z below #[Value.ref b] s) 0 0 0 a _ (by decide +kernel) hw C hZ (Nat.zero_le _) (Nat.zero_le _) (by show h.1.1 - 0 ≤ 600000; omega) (by show h.1.2 - 0 ≤ 7302250; omega) ?_
  intro hk H locs ls hW hS
  have hv : v = some (.int 1) := hv
  subst hv
  rcases hk with ⟨hd, -⟩ | ⟨-, h3, -⟩ | ⟨-, h3, -⟩
  · refine va_forget (fun q hq => hS.2.2 q hq) ?_
    refine W.widen (k := 600000) (n := 7302250) (by show h.1.1 - 0 ≤ 600000; omega) (by show h.1.2 - 0 ≤ 7302250; omega) ?_
    exact lw_ret C.1 C.2.1 hr hlocks hd
  · exact absurd h3 (by decide +kernel)
  · exact absurd h3 (by decide +kernel)
/-- two heaps that hold the same as far as they reach -/
def zz_eqv (h h' : zz_H) : Prop := h.1 = h'.1 ∧ ∀ k, k < h.1.1 → h.2.1 (k + 1) = h'.2.1 (k + 1) ∧ (match h'.2.1 (k + 1) with
  | .inl (_, n) => ∀ j, j < n → h.2.2 (k + 1) j = h'.2.2 (k + 1) j
  | .inr (.inl _) => True
  | .inr (.inr (_, fs)) => ∀ j, j < fs.length → fs[j]? = some none → h.2.2 (k + 1) j = h'.2.2 (k + 1) j)
theorem zz_arrV {cI : ClassId} {N : Nat} {f g : Nat → Value} (h : ∀ j, j < N → f j = g j) : arrV cI N f = arrV cI N g := by
  unfold arrV
  rw [show (fun j : Fin N => f j.val) = (fun j : Fin N => g j.val) from funext fun j => h j.val j.isLt]
theorem zz_fv_eqv {g g' : Nat → Int32} {fs : List (Option (Option Nat))} (h : ∀ j, j < fs.length → fs[j]? = some none → g j = g' j) : zz_fv z b g 0 fs = zz_fv z b g' 0 fs := by
  apply List.ext_getElem?
  intro i
  rw [zz_fv_at, zz_fv_at]
  cases hi : fs[i]? with
  | none => rfl
  | some q =>
    cases q with
    | none =>
      have hl : i < fs.length := (List.getElem?_eq_some_iff.mp hi).1
      show some (Value.int (g (0 + i))) = some (Value.int (g' (0 + i)))
      rw [Nat.zero_add, h i hl hi]
    | some q => rfl
theorem zz_eqv.Wd {h h' : zz_H} {H : Heap} (q : zz_eqv h h') (hW : zz_Wd D cA z b h H) : zz_Wd D cA z b h' H := by
  obtain ⟨e1, e2⟩ := q
  intro k x hx
  obtain ⟨hk, rfl⟩ := zz_ws_inv hx
  rw [← e1] at hk
  have h1 := hW k _ (zz_ws_at hk)
  obtain ⟨f1, f2⟩ := e2 k hk
  rw [f1] at h1
  cases hl : h'.2.1 (k + 1) with
  | inl q =>
    obtain ⟨t, n⟩ := q
    rw [hl] at h1 f2
    have h1 : H[z + k]? = some (vp_cell (cA t) (n, .inl (h.2.2 (k + 1)))) := h1
    show H[z + k]? = some (vp_cell (cA t) (n, .inl (h'.2.2 (k + 1))))
    rw [h1, vp_cell_i, vp_cell_i]
    rw [zz_arrV fun j hj => by rw [f2 j hj]]
  | inr q =>
    cases q with
    | inl q => rw [hl] at h1; exact h1
    | inr q =>
      obtain ⟨ci, fs⟩ := q
      rw [hl] at h1 f2
      have h1 : va_at D zz_cl (z + k, .inr (ci, zz_fv z b (h.2.2 (k + 1)) 0 fs)) H := h1
      show va_at D zz_cl (z + k, .inr (ci, zz_fv z b (h'.2.2 (k + 1)) 0 fs)) H
      rw [← zz_fv_eqv f2]
      exact h1
end ZR
end
section
/-! WHICH INTS A RUN WRITES -/
def zz_wt (e : zz_I) (st : List Value) : List (Nat × Nat) := match e with
  | (i, (x, y, _, _), _, _) => match i with
    | .putfield _ => match st with
      | .int _ :: .ref k :: _ => [(k, y)]
      | _ => []
    | .iastore => match st with
      | .int _ :: .int i :: .ref k :: _ => [(k, i.toNatClampNeg)]
      | _ => []
    | .bastore => match st with
      | .int _ :: .int i :: .ref k :: _ => [(k, i.toNatClampNeg)]
      | _ => []
    | .invokestatic _ => match st with
      | .int n :: .int dp :: .ref a :: _ => if x = 100001 then (List.range n.toNatClampNeg).map fun i => (a, dp.toNatClampNeg + i) else []
      | _ => []
    | _ => []
theorem zz_step_wt {X : zz_X} {us : Nat → List Nat} {rt pc : Nat} {q : zz_I} {lv : zz_V} {st : List Value} {h : zz_H} {s' : zz_S} (hs : zz_step X us rt q pc lv st h = some (.inl s')) {k j : Nat} (hn : (k, j) ∉ zz_wt q st) : s'.2.2.2.2.2 k j = h.2.2 k j := by
  obtain ⟨i, ⟨x, y, u, w⟩, v, sw⟩ := q
  have hw : ∀ (a i : Nat) (v : Int32), (k, j) ≠ (a, i) → zz_w h.2.2 a i v k j = h.2.2 k j := fun a i v hne => by
    by_cases hk : k = a
    · subst hk
      rw [zz_w_self]
      unfold upd
      rw [if_neg (fun e => hne (by rw [e]))]
    · rw [zz_w_other _ _ _ hk]
  cases i with
  | putfield n =>
    obtain ⟨a, r, fs, ho, ⟨b, rfl, -, -, rfl⟩ | ⟨q, q0, -, -, -, rfl⟩⟩ := zz_put_ok hs
    · exact hw _ _ _ fun e => hn (by rw [e]; exact List.mem_cons_self)
    · rfl
  | iastore =>
    obtain ⟨a, i, r, c, n, rfl, ho, -, rfl⟩ := zz_ias_ok hs
    exact hw _ _ _ fun e => hn (by rw [e]; exact List.mem_cons_self)
  | bastore =>
    obtain ⟨a, i, r, c, n, t, rfl, ho, -, ⟨-, rfl⟩ | ⟨-, rfl⟩⟩ := zz_bas_ok hs
    · exact hw _ _ _ fun e => hn (by rw [e]; exact List.mem_cons_self)
    · exact hw _ _ _ fun e => hn (by rw [e]; exact List.mem_cons_self)
  | invokestatic n =>
    simp only [zz_step] at hs
    split at hs
    · simp only [zz_cs, zz_call] at hs
      repeat' split at hs
      all_goals cases hs
    · split at hs
      · rename_i hx
        obtain ⟨n, sp, dp, r, a, d, na, nb, rfl, ha, -, -, rfl⟩ := zz_cpy_ok hs
        show zz_up h.2.2 (a + 1) _ k j = _
        by_cases hk : k = a + 1
        · subst hk
          rw [zz_up_self]
          unfold va_cpy
          rw [if_neg]
          intro hc
          refine hn ?_
          show (a + 1, j) ∈ (if x = 100001 then (List.range n.toNatClampNeg).map fun i => (a + 1, dp.toNatClampNeg + i) else [])
          rw [if_pos hx]
          exact List.mem_map.mpr ⟨j - dp.toNatClampNeg, List.mem_range.mpr (by omega), by rw [show dp.toNatClampNeg + (j - dp.toNatClampNeg) = j by omega]⟩
        · rw [zz_up_other _ _ hk]
      · split at hs
        · obtain ⟨a, d, r, -, -, rfl⟩ := zz_mm_ok hs
          rfl
        · split at hs
          · obtain ⟨a, d, r, -, -, rfl⟩ := zz_mm_ok hs
            rfl
          · split at hs
            · obtain ⟨a, r, -, -, rfl⟩ := zz_ma_ok hs
              rfl
            · cases hs
  | _ =>
    simp only [zz_step, zz_go, zz_int, zz_lng, zz_rfl, zz_is, zz_ls, zz_as, zz_i2, zz_l2, zz_if, zz_ic, zz_get, zz_ial, zz_bal, zz_aal, zz_aas, zz_len, zz_call, zz_cs, zz_cv, zz_new, zz_nar, zz_anr, zz_more] at hs
    repeat' split at hs
    all_goals first
      | (cases hs; done)
      | (cases hs; rfl)
def zz_wk (P : zz_P) (us : Nat → List Nat) (X : zz_X) : Nat → Nat → zz_S → List (Nat × Nat)
  | 0, _, _ => []
  | n + 1, m, (pc, lv, st, h) => match P.1 m pc with
    | none => []
    | some e => match zz_step X us (P.2.1 m) e pc lv st h with
      | none => []
      | some (.inl s) => zz_wt e st ++ zz_wk P us X n m s
      | some (.inr (.inl _)) => []
      | some (.inr (.inr (m', as, rest))) => match zz_walk P us X n m' (0, zz_in as (P.2.2 m'), [], h) with
        | some (.inr (_, v, h')) => zz_wk P us X n m' (0, zz_in as (P.2.2 m'), [], h) ++ zz_wk P us X n m (pc + 3, lv, v.toList ++ rest, h')
        | _ => []
theorem zz_walk_wk {P : zz_P} {us : Nat → List Nat} {X : zz_X} : ∀ (n m : Nat) (s : zz_S) (r : zz_S ⊕ zz_R), zz_walk P us X n m s = some r → ∀ k j, (k, j) ∉ zz_wk P us X n m s → (zz_rz r).2.2 k j = s.2.2.2.2.2 k j
  | 0, m, s, r, h, k, j, hn => by
    cases h
    rfl
  | n + 1, m, (pc, lv, st, h), r, hw, k, j, hn => by
    unfold zz_walk at hw
    unfold zz_wk at hn
    cases hT : P.1 m pc with
    | none => rw [hT] at hw; cases hw
    | some e =>
      rw [hT] at hw hn
      dsimp only at hw hn
      cases hs : zz_step X us (P.2.1 m) e pc lv st h with
      | none => rw [hs] at hw; cases hw
      | some o =>
        rw [hs] at hw hn
        cases o with
        | inl s' =>
          dsimp only at hw hn
          rw [List.mem_append] at hn
          rw [zz_walk_wk n m s' r hw k j fun q => hn (Or.inr q)]
          exact zz_step_wt hs fun q => hn (Or.inl q)
        | inr o =>
          cases o with
          | inl r' =>
            cases hw
            have h1 := zz_step_end hs
            show r'.2.2.2.2 k j = h.2.2 k j
            rw [h1.2.1]
          | inr o =>
            obtain ⟨m2, as, rest⟩ := o
            dsimp only at hw hn
            by_cases hf : (zz_in as 0).length ≤ P.2.2 m2
            · rw [if_pos hf] at hw
              cases hc : zz_walk P us X n m2 (0, zz_in as (P.2.2 m2), [], h) with
              | none => rw [hc] at hw; cases hw
              | some o2 =>
                rw [hc] at hw hn
                cases o2 with
                | inl s2 => cases hw
                | inr q =>
                  obtain ⟨q, v, h'⟩ := q
                  dsimp only at hw hn
                  rw [List.mem_append] at hn
                  rw [zz_walk_wk n m _ r hw k j fun q => hn (Or.inr q)]
                  exact zz_walk_wk n m2 _ _ hc k j fun q => hn (Or.inl q)
            · rw [if_neg hf] at hw
              cases hw
/-- a few ints, 0 elsewhere -/
def zz_lk : List (Nat × Nat × Int32) → Nat → Nat → Int32
  | [], _, _ => 0
  | (a, b, v) :: r, k, j => cond (Nat.beq k a && Nat.beq j b) v (zz_lk r k j)
theorem zz_lk_none : ∀ (l : List (Nat × Nat × Int32)) (k j : Nat), (k, j) ∉ l.map (fun q => (q.1, q.2.1)) → zz_lk l k j = 0
  | [], k, j, _ => rfl
  | (a, b, v) :: r, k, j, h => by
    unfold zz_lk
    have h1 : (Nat.beq k a && Nat.beq j b) = false := by
      cases hb : (Nat.beq k a && Nat.beq j b) with
      | false => rfl
      | true =>
        rw [Bool.and_eq_true] at hb
        exact absurd (by rw [Nat.eq_of_beq_eq_true hb.1, Nat.eq_of_beq_eq_true hb.2]; exact List.mem_cons_self) h
    rw [h1]
    exact zz_lk_none r k j fun q => h (List.mem_cons_of_mem _ q)
end
section
/-! THE HEAP AFTER THE TWO CONSTRUCTORS (written by wip/prog/mk17.py) -/
def zz_ly (k : Nat) : zz_L := cond (Nat.ble 277 k) (cond (Nat.ble 415 k) (cond (Nat.ble 484 k) (cond (Nat.ble 519 k) (cond (Nat.ble 536 k) (cond (Nat.ble 545 k) (cond (Nat.ble 549 k) (cond (Nat.ble 551 k) (cond (Nat.ble 552 k) (cond (Nat.ble 553 k) (.inl (2, 260)) (.inl (0, 150))) (.inl (0, 24))) (cond (Nat.ble 550 k) (.inl (0, 8)) (.inl (0, 44)))) (cond (Nat.ble 547 k) (cond (Nat.ble 548 k) (.inl (0, 5)) (.inl (0, 24))) (cond (Nat.ble 546 k) (.inl (0, 24)) (.inl (0, 140))))) (cond (Nat.ble 540 k) (cond (Nat.ble 542 k) (cond (Nat.ble 543 k) (cond (Nat.ble 544 k) (.inl (0, 56)) (.inl (2, 500))) (.inl (1, 2))) (cond (Nat.ble 541 k) (.inl (0, 6384)) (.inr (.inr (10, [some (some 541), none, some (some 542), some (some 543), none, none, none, none, some (some 544), some (some 545), none, none, none, none, none, none, none, none, none, none, none, none, none, none, some (some 546), some (some 547), none, some (some 548), some (some 549), none, none, some (some 550), some (some 551), some (some 552), none, none, some (some 553), none]))))) (cond (Nat.ble 538 k) (cond (Nat.ble 539 k) (.inl (0, 12)) (.inl (0, 12))) (cond (Nat.ble 537 k) (.inl (0, 12)) (.inl (0, 12)))))) (cond (Nat.ble 527 k) (cond (Nat.ble 531 k) (cond (Nat.ble 533 k) (cond (Nat.ble 534 k) (cond (Nat.ble 535 k) (.inr (.inr (7, [none, none, some (some 536), some (some 537), some (some 538), some (some 539)]))) (.inl (0, 12))) (.inl (0, 12))) (cond (Nat.ble 532 k) (.inl (0, 12)) (.inl (0, 12)))) (cond (Nat.ble 529 k) (cond (Nat.ble 530 k) (.inr (.inr (7, [none, none, some (some 531), some (some 532), some (some 533), some (some 534)]))) (.inl (0, 12))) (cond (Nat.ble 528 k) (.inl (0, 12)) (.inl (0, 12))))) (cond (Nat.ble 523 k) (cond (Nat.ble 525 k) (cond (Nat.ble 526 k) (.inl (0, 12)) (.inr (.inr (7, [none, none, some (some 526), some (some 527), some (some 528), some (some 529)])))) (cond (Nat.ble 524 k) (.inl (0, 12)) (.inl (0, 12)))) (cond (Nat.ble 521 k) (cond (Nat.ble 522 k) (.inl (0, 12)) (.inl (0, 12))) (cond (Nat.ble 520 k) (.inr (.inr (7, [none, none, some (some 521), some (some 522), some (some 523), some (some 524)]))) (.inl (0, 40))))))) (cond (Nat.ble 501 k) (cond (Nat.ble 510 k) (cond (Nat.ble 514 k) (cond (Nat.ble 516 k) (cond (Nat.ble 517 k) (cond (Nat.ble 518 k) (.inl (0, 40)) (.inl (0, 40))) (.inl (0, 8))) (cond (Nat.ble 515 k) (.inl (0, 8)) (.inl (0, 8)))) (cond (Nat.ble 512 k) (cond (Nat.ble 513 k) (.inl (0, 8)) (.inl (0, 8))) (cond (Nat.ble 511 k) (.inl (0, 8)) (.inr (.inr (1, [none, none, some (some 511), some (some 512), some (some 513), some (some 514), some (some 515), some (some 516), some (some 517), some (some 518), some (some 519)])))))) (cond (Nat.ble 505 k) (cond (Nat.ble 507 k) (cond (Nat.ble 508 k) (cond (Nat.ble 509 k) (.inr (.inl (3, [some 520, some 525, some 530, some 535]))) (.inr (.inr (5, [none, none, some (some 509), some (some 510)])))) (.inl (0, 12))) (cond (Nat.ble 506 k) (.inl (0, 12)) (.inl (0, 12)))) (cond (Nat.ble 503 k) (cond (Nat.ble 504 k) (.inl (0, 12)) (.inr (.inr (7, [none, none, some (some 504), some (some 505), some (some 506), some (some 507)])))) (cond (Nat.ble 502 k) (.inl (0, 12)) (.inl (0, 12)))))) (cond (Nat.ble 492 k) (cond (Nat.ble 496 k) (cond (Nat.ble 498 k) (cond (Nat.ble 499 k) (cond (Nat.ble 500 k) (.inl (0, 12)) (.inl (0, 12))) (.inr (.inr (7, [none, none, some (some 499), some (some 500), some (some 501), some (some 502)])))) (cond (Nat.ble 497 k) (.inl (0, 12)) (.inl (0, 12)))) (cond (Nat.ble 494 k) (cond (Nat.ble 495 k) (.inl (0, 12)) (.inl (0, 12))) (cond (Nat.ble 493 k) (.inr (.inr (7, [none, none, some (some 494), some (some 495), some (some 496), some (some 497)]))) (.inl (0, 12))))) (cond (Nat.ble 488 k) (cond (Nat.ble 490 k) (cond (Nat.ble 491 k) (.inl (0, 12)) (.inl (0, 12))) (cond (Nat.ble 489 k) (.inl (0, 12)) (.inr (.inr (7, [none, none, some (some 489), some (some 490), some (some 491), some (some 492)]))))) (cond (Nat.ble 486 k) (cond (Nat.ble 487 k) (.inl (0, 40)) (.inl (0, 40))) (cond (Nat.ble 485 k) (.inl (0, 40)) (.inl (0, 8)))))))) (cond (Nat.ble 449 k) (cond (Nat.ble 466 k) (cond (Nat.ble 475 k) (cond (Nat.ble 479 k) (cond (Nat.ble 481 k) (cond (Nat.ble 482 k) (cond (Nat.ble 483 k) (.inl (0, 8)) (.inl (0, 8))) (.inl (0, 8))) (cond (Nat.ble 480 k) (.inl (0, 8)) (.inl (0, 8)))) (cond (Nat.ble 477 k) (cond (Nat.ble 478 k) (.inr (.inr (1, [none, none, some (some 479), some (some 480), some (some 481), some (some 482), some (some 483), some (some 484), some (some 485), some (some 486), some (some 487)]))) (.inr (.inl (3, [some 488, some 493, some 498, some 503])))) (cond (Nat.ble 476 k) (.inr (.inr (5, [none, none, some (some 477), some (some 478)]))) (.inl (0, 8))))) (cond (Nat.ble 470 k) (cond (Nat.ble 472 k) (cond (Nat.ble 473 k) (cond (Nat.ble 474 k) (.inr (.inr (4, [none, none, none, none, none, none, none, none]))) (.inr (.inr (4, [none, none, none, none, none, none, none, none])))) (.inr (.inr (4, [none, none, none, none, none, none, none, none])))) (cond (Nat.ble 471 k) (.inl (0, 16)) (.inl (0, 16)))) (cond (Nat.ble 468 k) (cond (Nat.ble 469 k) (.inr (.inr (3, [none, some (some 470), some (some 471), some (some 472), some (some 473), some (some 474)]))) (.inr (.inr (4, [none, none, none, none, none, none, none, none])))) (cond (Nat.ble 467 k) (.inr (.inr (4, [none, none, none, none, none, none, none, none]))) (.inr (.inr (4, [none, none, none, none, none, none, none, none]))))))) (cond (Nat.ble 457 k) (cond (Nat.ble 461 k) (cond (Nat.ble 463 k) (cond (Nat.ble 464 k) (cond (Nat.ble 465 k) (.inl (0, 16)) (.inl (0, 16))) (.inr (.inr (3, [none, some (some 464), some (some 465), some (some 466), some (some 467), some (some 468)])))) (cond (Nat.ble 462 k) (.inr (.inr (4, [none, none, none, none, none, none, none, none]))) (.inr (.inr (4, [none, none, none, none, none, none, none, none]))))) (cond (Nat.ble 459 k) (cond (Nat.ble 460 k) (.inl (0, 256)) (.inr (.inr (8, [none, some (some 460)])))) (cond (Nat.ble 458 k) (.inl (0, 120)) (.inl (0, 30))))) (cond (Nat.ble 453 k) (cond (Nat.ble 455 k) (cond (Nat.ble 456 k) (.inr (.inr (0, [none, some (some 457), some (some 458)]))) (.inl (0, 500))) (cond (Nat.ble 454 k) (.inr (.inr (6, [none, none, none, none, none, some (some 455)]))) (.inl (1, 2)))) (cond (Nat.ble 451 k) (cond (Nat.ble 452 k) (.inr (.inl (4, [some 476, some 508]))) (.inl (0, 12))) (cond (Nat.ble 450 k) (.inl (0, 12)) (.inl (0, 12))))))) (cond (Nat.ble 432 k) (cond (Nat.ble 440 k) (cond (Nat.ble 444 k) (cond (Nat.ble 446 k) (cond (Nat.ble 447 k) (cond (Nat.ble 448 k) (.inl (0, 12)) (.inr (.inr (7, [none, none, some (some 448), some (some 449), some (some 450), some (some 451)])))) (.inl (0, 12))) (cond (Nat.ble 445 k) (.inl (0, 12)) (.inl (0, 12)))) (cond (Nat.ble 442 k) (cond (Nat.ble 443 k) (.inl (0, 12)) (.inr (.inr (7, [none, none, some (some 443), some (some 444), some (some 445), some (some 446)])))) (cond (Nat.ble 441 k) (.inl (0, 12)) (.inl (0, 12))))) (cond (Nat.ble 436 k) (cond (Nat.ble 438 k) (cond (Nat.ble 439 k) (.inl (0, 12)) (.inl (0, 12))) (cond (Nat.ble 437 k) (.inr (.inr (7, [none, none, some (some 438), some (some 439), some (some 440), some (some 441)]))) (.inl (0, 12)))) (cond (Nat.ble 434 k) (cond (Nat.ble 435 k) (.inl (0, 12)) (.inl (0, 12))) (cond (Nat.ble 433 k) (.inl (0, 12)) (.inr (.inr (7, [none, none, some (some 433), some (some 434), some (some 435), some (some 436)]))))))) (cond (Nat.ble 423 k) (cond (Nat.ble 427 k) (cond (Nat.ble 429 k) (cond (Nat.ble 430 k) (cond (Nat.ble 431 k) (.inl (0, 40)) (.inl (0, 40))) (.inl (0, 40))) (cond (Nat.ble 428 k) (.inl (0, 8)) (.inl (0, 8)))) (cond (Nat.ble 425 k) (cond (Nat.ble 426 k) (.inl (0, 8)) (.inl (0, 8))) (cond (Nat.ble 424 k) (.inl (0, 8)) (.inl (0, 8))))) (cond (Nat.ble 419 k) (cond (Nat.ble 421 k) (cond (Nat.ble 422 k) (.inr (.inr (1, [none, none, some (some 423), some (some 424), some (some 425), some (some 426), some (some 427), some (some 428), some (some 429), some (some 430), some (some 431)]))) (.inr (.inl (3, [some 432, some 437, some 442, some 447])))) (cond (Nat.ble 420 k) (.inr (.inr (5, [none, none, some (some 421), some (some 422)]))) (.inl (0, 12)))) (cond (Nat.ble 417 k) (cond (Nat.ble 418 k) (.inl (0, 12)) (.inl (0, 12))) (cond (Nat.ble 416 k) (.inl (0, 12)) (.inr (.inr (7, [none, none, some (some 416), some (some 417), some (some 418), some (some 419)])))))))))) (cond (Nat.ble 346 k) (cond (Nat.ble 380 k) (cond (Nat.ble 397 k) (cond (Nat.ble 406 k) (cond (Nat.ble 410 k) (cond (Nat.ble 412 k) (cond (Nat.ble 413 k) (cond (Nat.ble 414 k) (.inl (0, 12)) (.inl (0, 12))) (.inl (0, 12))) (cond (Nat.ble 411 k) (.inl (0, 12)) (.inr (.inr (7, [none, none, some (some 411), some (some 412), some (some 413), some (some 414)]))))) (cond (Nat.ble 408 k) (cond (Nat.ble 409 k) (.inl (0, 12)) (.inl (0, 12))) (cond (Nat.ble 407 k) (.inl (0, 12)) (.inl (0, 12))))) (cond (Nat.ble 401 k) (cond (Nat.ble 403 k) (cond (Nat.ble 404 k) (cond (Nat.ble 405 k) (.inr (.inr (7, [none, none, some (some 406), some (some 407), some (some 408), some (some 409)]))) (.inl (0, 12))) (.inl (0, 12))) (cond (Nat.ble 402 k) (.inl (0, 12)) (.inl (0, 12)))) (cond (Nat.ble 399 k) (cond (Nat.ble 400 k) (.inr (.inr (7, [none, none, some (some 401), some (some 402), some (some 403), some (some 404)]))) (.inl (0, 40))) (cond (Nat.ble 398 k) (.inl (0, 40)) (.inl (0, 40)))))) (cond (Nat.ble 388 k) (cond (Nat.ble 392 k) (cond (Nat.ble 394 k) (cond (Nat.ble 395 k) (cond (Nat.ble 396 k) (.inl (0, 8)) (.inl (0, 8))) (.inl (0, 8))) (cond (Nat.ble 393 k) (.inl (0, 8)) (.inl (0, 8)))) (cond (Nat.ble 390 k) (cond (Nat.ble 391 k) (.inl (0, 8)) (.inr (.inr (1, [none, none, some (some 391), some (some 392), some (some 393), some (some 394), some (some 395), some (some 396), some (some 397), some (some 398), some (some 399)])))) (cond (Nat.ble 389 k) (.inr (.inl (3, [some 400, some 405, some 410, some 415]))) (.inr (.inr (5, [none, none, some (some 389), some (some 390)])))))) (cond (Nat.ble 384 k) (cond (Nat.ble 386 k) (cond (Nat.ble 387 k) (.inl (0, 12)) (.inl (0, 12))) (cond (Nat.ble 385 k) (.inl (0, 12)) (.inl (0, 12)))) (cond (Nat.ble 382 k) (cond (Nat.ble 383 k) (.inr (.inr (7, [none, none, some (some 384), some (some 385), some (some 386), some (some 387)]))) (.inl (0, 12))) (cond (Nat.ble 381 k) (.inl (0, 12)) (.inl (0, 12))))))) (cond (Nat.ble 363 k) (cond (Nat.ble 371 k) (cond (Nat.ble 375 k) (cond (Nat.ble 377 k) (cond (Nat.ble 378 k) (cond (Nat.ble 379 k) (.inl (0, 12)) (.inr (.inr (7, [none, none, some (some 379), some (some 380), some (some 381), some (some 382)])))) (.inl (0, 12))) (cond (Nat.ble 376 k) (.inl (0, 12)) (.inl (0, 12)))) (cond (Nat.ble 373 k) (cond (Nat.ble 374 k) (.inl (0, 12)) (.inr (.inr (7, [none, none, some (some 374), some (some 375), some (some 376), some (some 377)])))) (cond (Nat.ble 372 k) (.inl (0, 12)) (.inl (0, 12))))) (cond (Nat.ble 367 k) (cond (Nat.ble 369 k) (cond (Nat.ble 370 k) (.inl (0, 12)) (.inl (0, 12))) (cond (Nat.ble 368 k) (.inr (.inr (7, [none, none, some (some 369), some (some 370), some (some 371), some (some 372)]))) (.inl (0, 40)))) (cond (Nat.ble 365 k) (cond (Nat.ble 366 k) (.inl (0, 40)) (.inl (0, 40))) (cond (Nat.ble 364 k) (.inl (0, 8)) (.inl (0, 8)))))) (cond (Nat.ble 354 k) (cond (Nat.ble 358 k) (cond (Nat.ble 360 k) (cond (Nat.ble 361 k) (cond (Nat.ble 362 k) (.inl (0, 8)) (.inl (0, 8))) (.inl (0, 8))) (cond (Nat.ble 359 k) (.inl (0, 8)) (.inr (.inr (1, [none, none, some (some 359), some (some 360), some (some 361), some (some 362), some (some 363), some (some 364), some (some 365), some (some 366), some (some 367)]))))) (cond (Nat.ble 356 k) (cond (Nat.ble 357 k) (.inr (.inl (3, [some 368, some 373, some 378, some 383]))) (.inr (.inr (5, [none, none, some (some 357), some (some 358)])))) (cond (Nat.ble 355 k) (.inl (0, 12)) (.inl (0, 12))))) (cond (Nat.ble 350 k) (cond (Nat.ble 352 k) (cond (Nat.ble 353 k) (.inl (0, 12)) (.inl (0, 12))) (cond (Nat.ble 351 k) (.inr (.inr (7, [none, none, some (some 352), some (some 353), some (some 354), some (some 355)]))) (.inl (0, 12)))) (cond (Nat.ble 348 k) (cond (Nat.ble 349 k) (.inl (0, 12)) (.inl (0, 12))) (cond (Nat.ble 347 k) (.inl (0, 12)) (.inr (.inr (7, [none, none, some (some 347), some (some 348), some (some 349), some (some 350)]))))))))) (cond (Nat.ble 311 k) (cond (Nat.ble 328 k) (cond (Nat.ble 337 k) (cond (Nat.ble 341 k) (cond (Nat.ble 343 k) (cond (Nat.ble 344 k) (cond (Nat.ble 345 k) (.inl (0, 12)) (.inl (0, 12))) (.inl (0, 12))) (cond (Nat.ble 342 k) (.inl (0, 12)) (.inr (.inr (7, [none, none, some (some 342), some (some 343), some (some 344), some (some 345)]))))) (cond (Nat.ble 339 k) (cond (Nat.ble 340 k) (.inl (0, 12)) (.inl (0, 12))) (cond (Nat.ble 338 k) (.inl (0, 12)) (.inl (0, 12))))) (cond (Nat.ble 332 k) (cond (Nat.ble 334 k) (cond (Nat.ble 335 k) (cond (Nat.ble 336 k) (.inr (.inr (7, [none, none, some (some 337), some (some 338), some (some 339), some (some 340)]))) (.inl (0, 40))) (.inl (0, 40))) (cond (Nat.ble 333 k) (.inl (0, 40)) (.inl (0, 8)))) (cond (Nat.ble 330 k) (cond (Nat.ble 331 k) (.inl (0, 8)) (.inl (0, 8))) (cond (Nat.ble 329 k) (.inl (0, 8)) (.inl (0, 8)))))) (cond (Nat.ble 319 k) (cond (Nat.ble 323 k) (cond (Nat.ble 325 k) (cond (Nat.ble 326 k) (cond (Nat.ble 327 k) (.inl (0, 8)) (.inr (.inr (1, [none, none, some (some 327), some (some 328), some (some 329), some (some 330), some (some 331), some (some 332), some (some 333), some (some 334), some (some 335)])))) (.inr (.inl (3, [some 336, some 341, some 346, some 351])))) (cond (Nat.ble 324 k) (.inr (.inr (5, [none, none, some (some 325), some (some 326)]))) (.inl (0, 12)))) (cond (Nat.ble 321 k) (cond (Nat.ble 322 k) (.inl (0, 12)) (.inl (0, 12))) (cond (Nat.ble 320 k) (.inl (0, 12)) (.inr (.inr (7, [none, none, some (some 320), some (some 321), some (some 322), some (some 323)])))))) (cond (Nat.ble 315 k) (cond (Nat.ble 317 k) (cond (Nat.ble 318 k) (.inl (0, 12)) (.inl (0, 12))) (cond (Nat.ble 316 k) (.inl (0, 12)) (.inl (0, 12)))) (cond (Nat.ble 313 k) (cond (Nat.ble 314 k) (.inr (.inr (7, [none, none, some (some 315), some (some 316), some (some 317), some (some 318)]))) (.inl (0, 12))) (cond (Nat.ble 312 k) (.inl (0, 12)) (.inl (0, 12))))))) (cond (Nat.ble 294 k) (cond (Nat.ble 302 k) (cond (Nat.ble 306 k) (cond (Nat.ble 308 k) (cond (Nat.ble 309 k) (cond (Nat.ble 310 k) (.inl (0, 12)) (.inr (.inr (7, [none, none, some (some 310), some (some 311), some (some 312), some (some 313)])))) (.inl (0, 12))) (cond (Nat.ble 307 k) (.inl (0, 12)) (.inl (0, 12)))) (cond (Nat.ble 304 k) (cond (Nat.ble 305 k) (.inl (0, 12)) (.inr (.inr (7, [none, none, some (some 305), some (some 306), some (some 307), some (some 308)])))) (cond (Nat.ble 303 k) (.inl (0, 40)) (.inl (0, 40))))) (cond (Nat.ble 298 k) (cond (Nat.ble 300 k) (cond (Nat.ble 301 k) (.inl (0, 40)) (.inl (0, 8))) (cond (Nat.ble 299 k) (.inl (0, 8)) (.inl (0, 8)))) (cond (Nat.ble 296 k) (cond (Nat.ble 297 k) (.inl (0, 8)) (.inl (0, 8))) (cond (Nat.ble 295 k) (.inl (0, 8)) (.inr (.inr (1, [none, none, some (some 295), some (some 296), some (some 297), some (some 298), some (some 299), some (some 300), some (some 301), some (some 302), some (some 303)]))))))) (cond (Nat.ble 285 k) (cond (Nat.ble 289 k) (cond (Nat.ble 291 k) (cond (Nat.ble 292 k) (cond (Nat.ble 293 k) (.inr (.inl (3, [some 304, some 309, some 314, some 319]))) (.inr (.inr (5, [none, none, some (some 293), some (some 294)])))) (.inl (0, 12))) (cond (Nat.ble 290 k) (.inl (0, 12)) (.inl (0, 12)))) (cond (Nat.ble 287 k) (cond (Nat.ble 288 k) (.inl (0, 12)) (.inr (.inr (7, [none, none, some (some 288), some (some 289), some (some 290), some (some 291)])))) (cond (Nat.ble 286 k) (.inl (0, 12)) (.inl (0, 12))))) (cond (Nat.ble 281 k) (cond (Nat.ble 283 k) (cond (Nat.ble 284 k) (.inl (0, 12)) (.inl (0, 12))) (cond (Nat.ble 282 k) (.inr (.inr (7, [none, none, some (some 283), some (some 284), some (some 285), some (some 286)]))) (.inl (0, 12)))) (cond (Nat.ble 279 k) (cond (Nat.ble 280 k) (.inl (0, 12)) (.inl (0, 12))) (cond (Nat.ble 278 k) (.inl (0, 12)) (.inr (.inr (7, [none, none, some (some 278), some (some 279), some (some 280), some (some 281)]))))))))))) (cond (Nat.ble 139 k) (cond (Nat.ble 208 k) (cond (Nat.ble 242 k) (cond (Nat.ble 259 k) (cond (Nat.ble 268 k) (cond (Nat.ble 272 k) (cond (Nat.ble 274 k) (cond (Nat.ble 275 k) (cond (Nat.ble 276 k) (.inl (0, 12)) (.inl (0, 12))) (.inl (0, 12))) (cond (Nat.ble 273 k) (.inl (0, 12)) (.inr (.inr (7, [none, none, some (some 273), some (some 274), some (some 275), some (some 276)]))))) (cond (Nat.ble 270 k) (cond (Nat.ble 271 k) (.inl (0, 40)) (.inl (0, 40))) (cond (Nat.ble 269 k) (.inl (0, 40)) (.inl (0, 8))))) (cond (Nat.ble 263 k) (cond (Nat.ble 265 k) (cond (Nat.ble 266 k) (cond (Nat.ble 267 k) (.inl (0, 8)) (.inl (0, 8))) (.inl (0, 8))) (cond (Nat.ble 264 k) (.inl (0, 8)) (.inl (0, 8)))) (cond (Nat.ble 261 k) (cond (Nat.ble 262 k) (.inr (.inr (1, [none, none, some (some 263), some (some 264), some (some 265), some (some 266), some (some 267), some (some 268), some (some 269), some (some 270), some (some 271)]))) (.inr (.inl (3, [some 272, some 277, some 282, some 287])))) (cond (Nat.ble 260 k) (.inr (.inr (5, [none, none, some (some 261), some (some 262)]))) (.inl (0, 12)))))) (cond (Nat.ble 250 k) (cond (Nat.ble 254 k) (cond (Nat.ble 256 k) (cond (Nat.ble 257 k) (cond (Nat.ble 258 k) (.inl (0, 12)) (.inl (0, 12))) (.inl (0, 12))) (cond (Nat.ble 255 k) (.inr (.inr (7, [none, none, some (some 256), some (some 257), some (some 258), some (some 259)]))) (.inl (0, 12)))) (cond (Nat.ble 252 k) (cond (Nat.ble 253 k) (.inl (0, 12)) (.inl (0, 12))) (cond (Nat.ble 251 k) (.inl (0, 12)) (.inr (.inr (7, [none, none, some (some 251), some (some 252), some (some 253), some (some 254)])))))) (cond (Nat.ble 246 k) (cond (Nat.ble 248 k) (cond (Nat.ble 249 k) (.inl (0, 12)) (.inl (0, 12))) (cond (Nat.ble 247 k) (.inl (0, 12)) (.inl (0, 12)))) (cond (Nat.ble 244 k) (cond (Nat.ble 245 k) (.inr (.inr (7, [none, none, some (some 246), some (some 247), some (some 248), some (some 249)]))) (.inl (0, 12))) (cond (Nat.ble 243 k) (.inl (0, 12)) (.inl (0, 12))))))) (cond (Nat.ble 225 k) (cond (Nat.ble 233 k) (cond (Nat.ble 237 k) (cond (Nat.ble 239 k) (cond (Nat.ble 240 k) (cond (Nat.ble 241 k) (.inl (0, 12)) (.inr (.inr (7, [none, none, some (some 241), some (some 242), some (some 243), some (some 244)])))) (.inl (0, 40))) (cond (Nat.ble 238 k) (.inl (0, 40)) (.inl (0, 40)))) (cond (Nat.ble 235 k) (cond (Nat.ble 236 k) (.inl (0, 8)) (.inl (0, 8))) (cond (Nat.ble 234 k) (.inl (0, 8)) (.inl (0, 8))))) (cond (Nat.ble 229 k) (cond (Nat.ble 231 k) (cond (Nat.ble 232 k) (.inl (0, 8)) (.inl (0, 8))) (cond (Nat.ble 230 k) (.inr (.inr (1, [none, none, some (some 231), some (some 232), some (some 233), some (some 234), some (some 235), some (some 236), some (some 237), some (some 238), some (some 239)]))) (.inr (.inl (3, [some 240, some 245, some 250, some 255]))))) (cond (Nat.ble 227 k) (cond (Nat.ble 228 k) (.inr (.inr (5, [none, none, some (some 229), some (some 230)]))) (.inl (0, 12))) (cond (Nat.ble 226 k) (.inl (0, 12)) (.inl (0, 12)))))) (cond (Nat.ble 216 k) (cond (Nat.ble 220 k) (cond (Nat.ble 222 k) (cond (Nat.ble 223 k) (cond (Nat.ble 224 k) (.inl (0, 12)) (.inr (.inr (7, [none, none, some (some 224), some (some 225), some (some 226), some (some 227)])))) (.inl (0, 12))) (cond (Nat.ble 221 k) (.inl (0, 12)) (.inl (0, 12)))) (cond (Nat.ble 218 k) (cond (Nat.ble 219 k) (.inl (0, 12)) (.inr (.inr (7, [none, none, some (some 219), some (some 220), some (some 221), some (some 222)])))) (cond (Nat.ble 217 k) (.inl (0, 12)) (.inl (0, 12))))) (cond (Nat.ble 212 k) (cond (Nat.ble 214 k) (cond (Nat.ble 215 k) (.inl (0, 12)) (.inl (0, 12))) (cond (Nat.ble 213 k) (.inr (.inr (7, [none, none, some (some 214), some (some 215), some (some 216), some (some 217)]))) (.inl (0, 12)))) (cond (Nat.ble 210 k) (cond (Nat.ble 211 k) (.inl (0, 12)) (.inl (0, 12))) (cond (Nat.ble 209 k) (.inl (0, 12)) (.inr (.inr (7, [none, none, some (some 209), some (some 210), some (some 211), some (some 212)]))))))))) (cond (Nat.ble 173 k) (cond (Nat.ble 190 k) (cond (Nat.ble 199 k) (cond (Nat.ble 203 k) (cond (Nat.ble 205 k) (cond (Nat.ble 206 k) (cond (Nat.ble 207 k) (.inl (0, 40)) (.inl (0, 40))) (.inl (0, 40))) (cond (Nat.ble 204 k) (.inl (0, 8)) (.inl (0, 8)))) (cond (Nat.ble 201 k) (cond (Nat.ble 202 k) (.inl (0, 8)) (.inl (0, 8))) (cond (Nat.ble 200 k) (.inl (0, 8)) (.inl (0, 8))))) (cond (Nat.ble 194 k) (cond (Nat.ble 196 k) (cond (Nat.ble 197 k) (cond (Nat.ble 198 k) (.inr (.inr (1, [none, none, some (some 199), some (some 200), some (some 201), some (some 202), some (some 203), some (some 204), some (some 205), some (some 206), some (some 207)]))) (.inr (.inl (3, [some 208, some 213, some 218, some 223])))) (.inr (.inr (5, [none, none, some (some 197), some (some 198)])))) (cond (Nat.ble 195 k) (.inl (0, 12)) (.inl (0, 12)))) (cond (Nat.ble 192 k) (cond (Nat.ble 193 k) (.inl (0, 12)) (.inl (0, 12))) (cond (Nat.ble 191 k) (.inr (.inr (7, [none, none, some (some 192), some (some 193), some (some 194), some (some 195)]))) (.inl (0, 12)))))) (cond (Nat.ble 181 k) (cond (Nat.ble 185 k) (cond (Nat.ble 187 k) (cond (Nat.ble 188 k) (cond (Nat.ble 189 k) (.inl (0, 12)) (.inl (0, 12))) (.inl (0, 12))) (cond (Nat.ble 186 k) (.inr (.inr (7, [none, none, some (some 187), some (some 188), some (some 189), some (some 190)]))) (.inl (0, 12)))) (cond (Nat.ble 183 k) (cond (Nat.ble 184 k) (.inl (0, 12)) (.inl (0, 12))) (cond (Nat.ble 182 k) (.inl (0, 12)) (.inr (.inr (7, [none, none, some (some 182), some (some 183), some (some 184), some (some 185)])))))) (cond (Nat.ble 177 k) (cond (Nat.ble 179 k) (cond (Nat.ble 180 k) (.inl (0, 12)) (.inl (0, 12))) (cond (Nat.ble 178 k) (.inl (0, 12)) (.inl (0, 12)))) (cond (Nat.ble 175 k) (cond (Nat.ble 176 k) (.inr (.inr (7, [none, none, some (some 177), some (some 178), some (some 179), some (some 180)]))) (.inl (0, 40))) (cond (Nat.ble 174 k) (.inl (0, 40)) (.inl (0, 40))))))) (cond (Nat.ble 156 k) (cond (Nat.ble 164 k) (cond (Nat.ble 168 k) (cond (Nat.ble 170 k) (cond (Nat.ble 171 k) (cond (Nat.ble 172 k) (.inl (0, 8)) (.inl (0, 8))) (.inl (0, 8))) (cond (Nat.ble 169 k) (.inl (0, 8)) (.inl (0, 8)))) (cond (Nat.ble 166 k) (cond (Nat.ble 167 k) (.inl (0, 8)) (.inr (.inr (1, [none, none, some (some 167), some (some 168), some (some 169), some (some 170), some (some 171), some (some 172), some (some 173), some (some 174), some (some 175)])))) (cond (Nat.ble 165 k) (.inr (.inl (3, [some 176, some 181, some 186, some 191]))) (.inr (.inr (5, [none, none, some (some 165), some (some 166)])))))) (cond (Nat.ble 160 k) (cond (Nat.ble 162 k) (cond (Nat.ble 163 k) (.inl (0, 12)) (.inl (0, 12))) (cond (Nat.ble 161 k) (.inl (0, 12)) (.inl (0, 12)))) (cond (Nat.ble 158 k) (cond (Nat.ble 159 k) (.inr (.inr (7, [none, none, some (some 160), some (some 161), some (some 162), some (some 163)]))) (.inl (0, 12))) (cond (Nat.ble 157 k) (.inl (0, 12)) (.inl (0, 12)))))) (cond (Nat.ble 147 k) (cond (Nat.ble 151 k) (cond (Nat.ble 153 k) (cond (Nat.ble 154 k) (cond (Nat.ble 155 k) (.inl (0, 12)) (.inr (.inr (7, [none, none, some (some 155), some (some 156), some (some 157), some (some 158)])))) (.inl (0, 12))) (cond (Nat.ble 152 k) (.inl (0, 12)) (.inl (0, 12)))) (cond (Nat.ble 149 k) (cond (Nat.ble 150 k) (.inl (0, 12)) (.inr (.inr (7, [none, none, some (some 150), some (some 151), some (some 152), some (some 153)])))) (cond (Nat.ble 148 k) (.inl (0, 12)) (.inl (0, 12))))) (cond (Nat.ble 143 k) (cond (Nat.ble 145 k) (cond (Nat.ble 146 k) (.inl (0, 12)) (.inl (0, 12))) (cond (Nat.ble 144 k) (.inr (.inr (7, [none, none, some (some 145), some (some 146), some (some 147), some (some 148)]))) (.inl (0, 40)))) (cond (Nat.ble 141 k) (cond (Nat.ble 142 k) (.inl (0, 40)) (.inl (0, 40))) (cond (Nat.ble 140 k) (.inl (0, 8)) (.inl (0, 8))))))))) (cond (Nat.ble 70 k) (cond (Nat.ble 104 k) (cond (Nat.ble 121 k) (cond (Nat.ble 130 k) (cond (Nat.ble 134 k) (cond (Nat.ble 136 k) (cond (Nat.ble 137 k) (cond (Nat.ble 138 k) (.inl (0, 8)) (.inl (0, 8))) (.inl (0, 8))) (cond (Nat.ble 135 k) (.inl (0, 8)) (.inr (.inr (1, [none, none, some (some 135), some (some 136), some (some 137), some (some 138), some (some 139), some (some 140), some (some 141), some (some 142), some (some 143)]))))) (cond (Nat.ble 132 k) (cond (Nat.ble 133 k) (.inr (.inl (3, [some 144, some 149, some 154, some 159]))) (.inr (.inr (5, [none, none, some (some 133), some (some 134)])))) (cond (Nat.ble 131 k) (.inl (0, 12)) (.inl (0, 12))))) (cond (Nat.ble 125 k) (cond (Nat.ble 127 k) (cond (Nat.ble 128 k) (cond (Nat.ble 129 k) (.inl (0, 12)) (.inl (0, 12))) (.inr (.inr (7, [none, none, some (some 128), some (some 129), some (some 130), some (some 131)])))) (cond (Nat.ble 126 k) (.inl (0, 12)) (.inl (0, 12)))) (cond (Nat.ble 123 k) (cond (Nat.ble 124 k) (.inl (0, 12)) (.inl (0, 12))) (cond (Nat.ble 122 k) (.inr (.inr (7, [none, none, some (some 123), some (some 124), some (some 125), some (some 126)]))) (.inl (0, 12)))))) (cond (Nat.ble 112 k) (cond (Nat.ble 116 k) (cond (Nat.ble 118 k) (cond (Nat.ble 119 k) (cond (Nat.ble 120 k) (.inl (0, 12)) (.inl (0, 12))) (.inl (0, 12))) (cond (Nat.ble 117 k) (.inr (.inr (7, [none, none, some (some 118), some (some 119), some (some 120), some (some 121)]))) (.inl (0, 12)))) (cond (Nat.ble 114 k) (cond (Nat.ble 115 k) (.inl (0, 12)) (.inl (0, 12))) (cond (Nat.ble 113 k) (.inl (0, 12)) (.inr (.inr (7, [none, none, some (some 113), some (some 114), some (some 115), some (some 116)])))))) (cond (Nat.ble 108 k) (cond (Nat.ble 110 k) (cond (Nat.ble 111 k) (.inl (0, 40)) (.inl (0, 40))) (cond (Nat.ble 109 k) (.inl (0, 40)) (.inl (0, 8)))) (cond (Nat.ble 106 k) (cond (Nat.ble 107 k) (.inl (0, 8)) (.inl (0, 8))) (cond (Nat.ble 105 k) (.inl (0, 8)) (.inl (0, 8))))))) (cond (Nat.ble 87 k) (cond (Nat.ble 95 k) (cond (Nat.ble 99 k) (cond (Nat.ble 101 k) (cond (Nat.ble 102 k) (cond (Nat.ble 103 k) (.inl (0, 8)) (.inr (.inr (1, [none, none, some (some 103), some (some 104), some (some 105), some (some 106), some (some 107), some (some 108), some (some 109), some (some 110), some (some 111)])))) (.inr (.inl (3, [some 112, some 117, some 122, some 127])))) (cond (Nat.ble 100 k) (.inr (.inr (5, [none, none, some (some 101), some (some 102)]))) (.inl (0, 12)))) (cond (Nat.ble 97 k) (cond (Nat.ble 98 k) (.inl (0, 12)) (.inl (0, 12))) (cond (Nat.ble 96 k) (.inl (0, 12)) (.inr (.inr (7, [none, none, some (some 96), some (some 97), some (some 98), some (some 99)])))))) (cond (Nat.ble 91 k) (cond (Nat.ble 93 k) (cond (Nat.ble 94 k) (.inl (0, 12)) (.inl (0, 12))) (cond (Nat.ble 92 k) (.inl (0, 12)) (.inl (0, 12)))) (cond (Nat.ble 89 k) (cond (Nat.ble 90 k) (.inr (.inr (7, [none, none, some (some 91), some (some 92), some (some 93), some (some 94)]))) (.inl (0, 12))) (cond (Nat.ble 88 k) (.inl (0, 12)) (.inl (0, 12)))))) (cond (Nat.ble 78 k) (cond (Nat.ble 82 k) (cond (Nat.ble 84 k) (cond (Nat.ble 85 k) (cond (Nat.ble 86 k) (.inl (0, 12)) (.inr (.inr (7, [none, none, some (some 86), some (some 87), some (some 88), some (some 89)])))) (.inl (0, 12))) (cond (Nat.ble 83 k) (.inl (0, 12)) (.inl (0, 12)))) (cond (Nat.ble 80 k) (cond (Nat.ble 81 k) (.inl (0, 12)) (.inr (.inr (7, [none, none, some (some 81), some (some 82), some (some 83), some (some 84)])))) (cond (Nat.ble 79 k) (.inl (0, 40)) (.inl (0, 40))))) (cond (Nat.ble 74 k) (cond (Nat.ble 76 k) (cond (Nat.ble 77 k) (.inl (0, 40)) (.inl (0, 8))) (cond (Nat.ble 75 k) (.inl (0, 8)) (.inl (0, 8)))) (cond (Nat.ble 72 k) (cond (Nat.ble 73 k) (.inl (0, 8)) (.inl (0, 8))) (cond (Nat.ble 71 k) (.inl (0, 8)) (.inr (.inr (1, [none, none, some (some 71), some (some 72), some (some 73), some (some 74), some (some 75), some (some 76), some (some 77), some (some 78), some (some 79)]))))))))) (cond (Nat.ble 35 k) (cond (Nat.ble 52 k) (cond (Nat.ble 61 k) (cond (Nat.ble 65 k) (cond (Nat.ble 67 k) (cond (Nat.ble 68 k) (cond (Nat.ble 69 k) (.inr (.inl (3, [some 80, some 85, some 90, some 95]))) (.inr (.inr (5, [none, none, some (some 69), some (some 70)])))) (.inr (.inl (4, [some 68, some 100, some 132, some 164, some 196, some 228, some 260, some 292, some 324, some 356, some 388, some 420])))) (cond (Nat.ble 66 k) (.inr (.inr (2, [none, none, some (some 67)]))) (.inl (0, 12)))) (cond (Nat.ble 63 k) (cond (Nat.ble 64 k) (.inl (0, 12)) (.inl (0, 12))) (cond (Nat.ble 62 k) (.inl (0, 12)) (.inr (.inr (7, [none, none, some (some 62), some (some 63), some (some 64), some (some 65)])))))) (cond (Nat.ble 56 k) (cond (Nat.ble 58 k) (cond (Nat.ble 59 k) (cond (Nat.ble 60 k) (.inl (0, 12)) (.inl (0, 12))) (.inl (0, 12))) (cond (Nat.ble 57 k) (.inl (0, 12)) (.inr (.inr (7, [none, none, some (some 57), some (some 58), some (some 59), some (some 60)]))))) (cond (Nat.ble 54 k) (cond (Nat.ble 55 k) (.inl (0, 12)) (.inl (0, 12))) (cond (Nat.ble 53 k) (.inl (0, 12)) (.inl (0, 12)))))) (cond (Nat.ble 43 k) (cond (Nat.ble 47 k) (cond (Nat.ble 49 k) (cond (Nat.ble 50 k) (cond (Nat.ble 51 k) (.inr (.inr (7, [none, none, some (some 52), some (some 53), some (some 54), some (some 55)]))) (.inl (0, 12))) (.inl (0, 12))) (cond (Nat.ble 48 k) (.inl (0, 12)) (.inl (0, 12)))) (cond (Nat.ble 45 k) (cond (Nat.ble 46 k) (.inr (.inr (7, [none, none, some (some 47), some (some 48), some (some 49), some (some 50)]))) (.inl (0, 40))) (cond (Nat.ble 44 k) (.inl (0, 40)) (.inl (0, 40))))) (cond (Nat.ble 39 k) (cond (Nat.ble 41 k) (cond (Nat.ble 42 k) (.inl (0, 8)) (.inl (0, 8))) (cond (Nat.ble 40 k) (.inl (0, 8)) (.inl (0, 8)))) (cond (Nat.ble 37 k) (cond (Nat.ble 38 k) (.inl (0, 8)) (.inl (0, 8))) (cond (Nat.ble 36 k) (.inr (.inr (1, [none, none, some (some 37), some (some 38), some (some 39), some (some 40), some (some 41), some (some 42), some (some 43), some (some 44), some (some 45)]))) (.inr (.inl (3, [some 46, some 51, some 56, some 61])))))))) (cond (Nat.ble 18 k) (cond (Nat.ble 26 k) (cond (Nat.ble 30 k) (cond (Nat.ble 32 k) (cond (Nat.ble 33 k) (cond (Nat.ble 34 k) (.inr (.inr (5, [none, none, some (some 35), some (some 36)]))) (.inl (0, 12))) (.inl (0, 12))) (cond (Nat.ble 31 k) (.inl (0, 12)) (.inl (0, 12)))) (cond (Nat.ble 28 k) (cond (Nat.ble 29 k) (.inr (.inr (7, [none, none, some (some 30), some (some 31), some (some 32), some (some 33)]))) (.inl (0, 12))) (cond (Nat.ble 27 k) (.inl (0, 12)) (.inl (0, 12))))) (cond (Nat.ble 22 k) (cond (Nat.ble 24 k) (cond (Nat.ble 25 k) (.inl (0, 12)) (.inr (.inr (7, [none, none, some (some 25), some (some 26), some (some 27), some (some 28)])))) (cond (Nat.ble 23 k) (.inl (0, 12)) (.inl (0, 12)))) (cond (Nat.ble 20 k) (cond (Nat.ble 21 k) (.inl (0, 12)) (.inl (0, 12))) (cond (Nat.ble 19 k) (.inr (.inr (7, [none, none, some (some 20), some (some 21), some (some 22), some (some 23)]))) (.inl (0, 12)))))) (cond (Nat.ble 9 k) (cond (Nat.ble 13 k) (cond (Nat.ble 15 k) (cond (Nat.ble 16 k) (cond (Nat.ble 17 k) (.inl (0, 12)) (.inl (0, 12))) (.inl (0, 12))) (cond (Nat.ble 14 k) (.inr (.inr (7, [none, none, some (some 15), some (some 16), some (some 17), some (some 18)]))) (.inl (0, 40)))) (cond (Nat.ble 11 k) (cond (Nat.ble 12 k) (.inl (0, 40)) (.inl (0, 40))) (cond (Nat.ble 10 k) (.inl (0, 8)) (.inl (0, 8))))) (cond (Nat.ble 5 k) (cond (Nat.ble 7 k) (cond (Nat.ble 8 k) (.inl (0, 8)) (.inl (0, 8))) (cond (Nat.ble 6 k) (.inl (0, 8)) (.inl (0, 8)))) (cond (Nat.ble 3 k) (cond (Nat.ble 4 k) (.inr (.inr (1, [none, none, some (some 5), some (some 6), some (some 7), some (some 8), some (some 9), some (some 10), some (some 11), some (some 12), some (some 13)]))) (.inr (.inl (3, [some 14, some 19, some 24, some 29])))) (cond (Nat.ble 2 k) (.inr (.inr (5, [none, none, some (some 3), some (some 4)]))) (.inr (.inr (9, [some (some 2), some (some 34), some (some 66), some (some 452), some (some 453), some (some 454), some (some 456), some (some 459), some (some 461), some (some 462), some (some 463), some (some 469), some (some 475), none, none])))))))))))
def zz_gl : List (Nat × Nat × Int32) := [(1, 13, -1), (1, 14, -1), (2, 1, 60), (34, 1, 60), (68, 1, 60), (100, 1, 60), (132, 1, 60), (164, 1, 60), (196, 1, 60), (228, 1, 60), (260, 1, 60), (292, 1, 60), (324, 1, 60), (356, 1, 60), (388, 1, 60), (420, 1, 60), (454, 2, -1), (454, 4, -1), (476, 1, 60), (508, 1, 60), (540, 6, -1), (540, 16, -1), (540, 35, -1), (541, 1, 60)]
def zz_g0 : Nat → Nat → Int32 := zz_lk zz_gl
def zz_hs : zz_H := ((553, 15206), (zz_ly, zz_g0))
def zz_ha : zz_H := zz_more zz_h0 15 (.inr (.inr (9, zz_fs (zz_us 9))))
def zz_r1 : Option (zz_S ⊕ zz_R) := zz_walk zz_Q zz_us none 265 1 (0, zz_in [.ref 1] (zz_nl 1), [], zz_ha)
def zz_hm (h : zz_H) : zz_H := zz_more h 38 (.inr (.inr (10, zz_fs (zz_us 10))))
def zz_r2 (h : zz_H) : Option (zz_S ⊕ zz_R) := zz_walk zz_Q zz_us none 89 150 (0, zz_in [.ref 540] (zz_nl 150), [], zz_hm h)
def zz_gk : List (Nat × Nat) := zz_gl.map fun q => (q.1, q.2.1)
def zz_ck : Bool := match zz_r1 with
  | some (.inr (_, none, h1)) => decide (h1.1 = (539, 7547)) && (match zz_r2 h1 with
    | some (.inr (_, none, h2)) => decide (h2.1 = zz_hs.1) && ((List.range h2.1.1).all (fun k => decide (h2.2.1 (k + 1) = zz_ly (k + 1))) && (zz_gl.all (fun q => decide (h2.2.2 q.1 q.2.1 = q.2.2)) &&
        ((zz_wk zz_Q zz_us none 265 1 (0, zz_in [.ref 1] (zz_nl 1), [], zz_ha)).all (fun q => zz_gk.contains q) && (zz_wk zz_Q zz_us none 89 150 (0, zz_in [.ref 540] (zz_nl 150), [], zz_hm h1)).all (fun q => zz_gk.contains q))))
    | _ => false)
  | _ => false
set_option maxRecDepth 100000 in
set_option maxHeartbeats 4000000 in
theorem zz_ck_ok : zz_ck = true := by decide +kernel
theorem zz_ctor : ∃ (q1 q2 : Nat) (h1 h2 : zz_H), zz_r1 = some (.inr (q1, none, h1)) ∧ h1.1 = (539, 7547) ∧ zz_r2 h1 = some (.inr (q2, none, h2)) ∧ h2.1 = zz_hs.1 ∧ (∀ k, k < h2.1.1 → h2.2.1 (k + 1) = zz_ly (k + 1)) ∧ h2.2.2 = zz_g0 := by
  have h := zz_ck_ok
  unfold zz_ck at h
  split at h
  · rename_i q1 h1 e1
    rw [Bool.and_eq_true, decide_eq_true_eq] at h
    obtain ⟨e2, h⟩ := h
    split at h
    · rename_i q2 h2 e3
      simp only [Bool.and_eq_true, decide_eq_true_eq] at h
      obtain ⟨a1, a2, a3, a4, a5⟩ := h
      refine ⟨q1, q2, h1, h2, e1, e2, e3, a1, fun k hk => of_decide_eq_true (List.all_eq_true.mp a2 k (List.mem_range.mpr hk)), ?_⟩
      funext k j
      by_cases hm : (k, j) ∈ zz_gk
      · have key : ∀ l : List (Nat × Nat × Int32), l.all (fun q => decide (h2.2.2 q.1 q.2.1 = q.2.2)) = true → (k, j) ∈ l.map (fun q => (q.1, q.2.1)) → h2.2.2 k j = zz_lk l k j := by
          intro l
          induction l with
          | nil => intro _ hm; cases hm
          | cons q l ih =>
            obtain ⟨a, b, v⟩ := q
            intro hl hm
            rw [List.all_cons, Bool.and_eq_true, decide_eq_true_eq] at hl
            unfold zz_lk
            cases hb : (Nat.beq k a && Nat.beq j b) with
            | true =>
              rw [Bool.and_eq_true] at hb
              rw [Nat.eq_of_beq_eq_true hb.1, Nat.eq_of_beq_eq_true hb.2]
              exact hl.1
            | false =>
              refine ih hl.2 ?_
              rcases List.mem_cons.mp hm with q | q
              · have q : (k, j) = (a, b) := q
                cases q
                rw [zz_bt, zz_bt] at hb
                cases hb
              · exact q
        exact key zz_gl a3 hm
      · have n1 : (k, j) ∉ zz_wk zz_Q zz_us none 265 1 (0, zz_in [.ref 1] (zz_nl 1), [], zz_ha) := fun q => hm (List.contains_iff_mem.mp (List.all_eq_true.mp a4 _ q))
        have n2 : (k, j) ∉ zz_wk zz_Q zz_us none 89 150 (0, zz_in [.ref 540] (zz_nl 150), [], zz_hm h1) := fun q => hm (List.contains_iff_mem.mp (List.all_eq_true.mp a5 _ q))
        have b1 := zz_walk_wk _ _ _ _ e1 k j n1
        have b2 := zz_walk_wk _ _ _ _ e3 k j n2
        have b1 : h1.2.2 k j = 0 := b1
        have b2 : h2.2.2 k j = h1.2.2 k j := b2
        rw [b2, b1]
        exact (zz_lk_none zz_gl k j hm).symm
    · cases h
  · cases h
end
section
/-! branches, the smallest methods, the law's head -/
section ZQ
variable {X : zz_X} {m m2 pc n q : Nat} {s s' s2 : zz_S} {lv : zz_V} {st as rest : List Value} {h h' : zz_H} {e : zz_I} {v : Option Value} {φ ψ : Option Value → zz_H → Prop}
theorem zz_fin.step1 (hT : zz_T m pc = some e) (hs : zz_step X zz_us (zz_rt m) e pc lv st h = some (.inl s')) (k : zz_fin X m s' φ) : zz_fin X m (pc, lv, st, h) φ := by
  refine zz_fin.steps (n := 1) (s' := s') ?_ k
  rw [zz_walk]
  rw [show zz_Q.1 m pc = some e from hT]
  dsimp only
  rw [show zz_step X zz_us (zz_Q.2.1 m) e pc lv st h = some (.inl s') from hs]
  rfl
theorem zz_fin.ic {cn : Jvm.ClassFile.Cond} {off : Int} {x y u w : Nat} {vv : Value} {sw : List (Int × Nat)} {a d : Int32} {r : List Value} (hT : zz_T m pc = some (.if_icmp cn off, (x, y, u, w), vv, sw)) (k1 : zz_cmp cn a d = true → zz_fin X m (x, lv, r, h) φ) (k2 : ¬ zz_cmp cn a d = true → zz_fin X m (pc + 3, lv, r, h) φ) : zz_fin X m (pc, lv, .int d :: .int a :: r, h) φ := by
  by_cases hc : zz_cmp cn a d = true
  · exact zz_fin.step1 hT (by simp only [zz_step, zz_ic]; rw [if_pos hc]; rfl) (k1 hc)
  · exact zz_fin.step1 hT (by simp only [zz_step, zz_ic]; rw [if_neg hc]; rfl) (k2 hc)
theorem zz_fin.if {cn : Jvm.ClassFile.Cond} {off : Int} {x y u w : Nat} {vv : Value} {sw : List (Int × Nat)} {a : Int32} {r : List Value} (hT : zz_T m pc = some (.ifCond cn off, (x, y, u, w), vv, sw)) (k1 : zz_cond cn a = true → zz_fin X m (x, lv, r, h) φ) (k2 : ¬ zz_cond cn a = true → zz_fin X m (pc + 3, lv, r, h) φ) : zz_fin X m (pc, lv, .int a :: r, h) φ := by
  by_cases hc : zz_cond cn a = true
  · exact zz_fin.step1 hT (by simp only [zz_step, zz_if]; rw [if_pos hc]; rfl) (k1 hc)
  · exact zz_fin.step1 hT (by simp only [zz_step, zz_if]; rw [if_neg hc]; rfl) (k2 hc)
theorem zz_fin.retz {x y u w : Nat} {vv : Value} {sw : List (Int × Nat)} {a : Int32} (hT : zz_T m pc = some (.ireturn, (x, y, u, w), vv, sw)) (hrt : zz_rt m = 2) (ha : a = 0 ∨ a = 1) (k : φ (some (.int a)) h) : zz_fin X m (pc, lv, [.int a], h) φ := by
  refine ⟨1, pc, some (.int a), h, ?_, k⟩
  rw [zz_walk]
  rw [show zz_Q.1 m pc = _ from hT]
  dsimp only
  rw [show zz_Q.2.1 m = 2 from hrt]
  simp only [zz_step]
  rw [if_pos (Or.inr ⟨trivial, ha⟩)]
theorem zz_sw_all {P : Nat → Prop} : ∀ (sw : List (Int × Nat)) (d : Nat) (a : Int), (∀ q ∈ sw, P q.2) → P d → P (zz_sw sw d a)
  | [], d, a, _, hd => hd
  | (k, t) :: r, d, a, hs, hd => by
    unfold zz_sw
    split
    · exact hs (k, t) List.mem_cons_self
    · exact zz_sw_all r d a (fun q hq => hs q (List.mem_cons_of_mem _ hq)) hd
theorem zz_fin.callv {i n u w k : Nat} {vv : Value} {sw : List (Int × Nat)} (hT : zz_T m pc = some (.invokevirtual i, (m2, n, u, w), vv, sw)) (hst : st = as.reverse ++ .ref (k + 1) :: rest) (hn : as.length = n) (hob : (zz_obj h (k + 1) u).isSome = true) (h8 : (rest.map fun v => v.category).sum ≤ 8) (hf : (zz_in (.ref (k + 1) :: as) 0).length ≤ zz_nl m2)
    (kc : zz_fin X m2 (0, zz_in (.ref (k + 1) :: as) (zz_nl m2), [], h) ψ) (kk : ∀ v h', ψ v h' → zz_fin X m (pc + 3, lv, v.toList ++ rest, h') φ) : zz_fin X m (pc, lv, st, h) φ := by
  subst hst
  refine zz_fin.call hT ?_ hf kc kk
  show zz_cv m2 n u (as.reverse ++ .ref (k + 1) :: rest) h = _
  have hl : as.reverse.length = n := by rw [List.length_reverse, hn]
  have hd : (as.reverse ++ Value.ref (k + 1) :: rest).drop n = .ref (k + 1) :: rest := by rw [← hl, List.drop_left]
  have ht : (as.reverse ++ Value.ref (k + 1) :: rest).take n = as.reverse := by rw [← hl, List.take_left]
  unfold zz_cv
  rw [hd]
  dsimp only
  rw [if_pos ⟨by rw [List.length_append]; omega, hob⟩, ht, List.reverse_reverse]
  unfold zz_call
  rw [if_pos h8]
theorem zz_sw_none : ∀ (sw : List (Int × Nat)) (d : Nat) (a : Int), (∀ q ∈ sw, q.1 ≠ a) → zz_sw sw d a = d
  | [], d, a, _ => rfl
  | (k, t) :: r, d, a, hs => by
    unfold zz_sw
    rw [if_neg fun e => hs (k, t) List.mem_cons_self e.symm]
    exact zz_sw_none r d a fun q hq => hs q (List.mem_cons_of_mem _ hq)
theorem zz_fin.swd {dd lo hi : Int} {offs : Array Int} {x y u w : Nat} {vv : Value} {sw : List (Int × Nat)} {a : Int32} {r : List Value} (hT : zz_T m pc = some (.tableswitch dd lo hi offs, (x, y, u, w), vv, sw)) (hn : ∀ q ∈ sw, q.1 ≠ a.toInt) (k : zz_fin X m (x, lv, r, h) φ) : zz_fin X m (pc, lv, .int a :: r, h) φ :=
  zz_fin.step1 hT (by simp only [zz_step]; rw [zz_sw_none _ _ _ hn]; rfl) k
end ZQ
/-- the answer 1 or 0 of a test of bounds -/
def zz_wi (n lo hi : Int32) : Int32 := if lo ≤ n ∧ n ≤ hi then 1 else 0
theorem zz_wi01 (n lo hi : Int32) : zz_wi n lo hi = 0 ∨ zz_wi n lo hi = 1 := by
  unfold zz_wi
  split
  · exact Or.inr rfl
  · exact Or.inl rfl
theorem zz_within (m : Nat) (hm : m = 14 ∨ m = 154) (n lo hi : Int32) (h : zz_H) : zz_fin none m (0, zz_in [.int n, .int lo, .int hi] (zz_nl m), [], h) (fun v h' => v = some (.int (zz_wi n lo hi)) ∧ h' = h) := by
  have e0 : ¬ lo ≤ n → zz_wi n lo hi = 0 := fun q => if_neg fun z => q z.1
  have e1 : ¬ n ≤ hi → zz_wi n lo hi = 0 := fun q => if_neg fun z => q z.2
  have e2 : lo ≤ n → n ≤ hi → zz_wi n lo hi = 1 := fun q r => if_pos ⟨q, r⟩
  rcases hm with rfl | rfl
  · refine zz_fin.steps (n := 2) (s' := (2, [some (.int n), some (.int lo), some (.int hi)], [.int lo, .int n], h)) rfl ?_
    refine zz_fin.ic rfl (fun c => ?_) (fun c => ?_)
    · rw [e0 (Int32.not_le.mpr (of_decide_eq_true c))]
      exact zz_fin.at (n := 2) rfl ⟨rfl, rfl⟩
    · have c1 : lo ≤ n := Int32.not_lt.mp fun q => c (decide_eq_true q)
      refine zz_fin.steps (n := 2) (s' := (7, [some (.int n), some (.int lo), some (.int hi)], [.int hi, .int n], h)) rfl ?_
      refine zz_fin.ic rfl (fun c => ?_) (fun c => ?_)
      · rw [e1 (Int32.not_le.mpr (of_decide_eq_true c))]
        exact zz_fin.at (n := 2) rfl ⟨rfl, rfl⟩
      · rw [e2 c1 (Int32.not_lt.mp fun q => c (decide_eq_true q))]
        exact zz_fin.at (n := 3) rfl ⟨rfl, rfl⟩
  · refine zz_fin.steps (n := 2) (s' := (2, [some (.int n), some (.int lo), some (.int hi)], [.int lo, .int n], h)) rfl ?_
    refine zz_fin.ic rfl (fun c => ?_) (fun c => ?_)
    · rw [e0 (Int32.not_le.mpr (of_decide_eq_true c))]
      exact zz_fin.at (n := 2) rfl ⟨rfl, rfl⟩
    · have c1 : lo ≤ n := Int32.not_lt.mp fun q => c (decide_eq_true q)
      refine zz_fin.steps (n := 2) (s' := (7, [some (.int n), some (.int lo), some (.int hi)], [.int hi, .int n], h)) rfl ?_
      refine zz_fin.ic rfl (fun c => ?_) (fun c => ?_)
      · rw [e1 (Int32.not_le.mpr (of_decide_eq_true c))]
        exact zz_fin.at (n := 2) rfl ⟨rfl, rfl⟩
      · rw [e2 c1 (Int32.not_lt.mp fun q => c (decide_eq_true q))]
        exact zz_fin.at (n := 3) rfl ⟨rfl, rfl⟩
theorem zz_within1 {m : Nat} (hm : m = 14 ∨ m = 154) {n lo hi : Int32} {h : zz_H} (c : lo ≤ n ∧ n ≤ hi) : zz_fin none m (0, zz_in [.int n, .int lo, .int hi] (zz_nl m), [], h) (fun v h' => v = some (.int 1) ∧ h' = h) := by
  have := zz_within m hm n lo hi h
  rwa [show zz_wi n lo hi = 1 from if_pos c] at this
theorem zz_within0 {m : Nat} (hm : m = 14 ∨ m = 154) {n lo hi : Int32} {h : zz_H} (c : ¬ (lo ≤ n ∧ n ≤ hi)) : zz_fin none m (0, zz_in [.int n, .int lo, .int hi] (zz_nl m), [], h) (fun v h' => v = some (.int 0) ∧ h' = h) := by
  have := zz_within m hm n lo hi h
  rwa [show zz_wi n lo hi = 0 from if_neg c] at this
theorem zz_no {n : Int32} : ¬ ((0 : Int32) ≤ n ∧ n ≤ -1) := fun ⟨a, b⟩ => by
  have a := Int32.le_iff_toInt_le.mp a
  have b := Int32.le_iff_toInt_le.mp b
  have e1 : (0 : Int32).toInt = 0 := by decide
  have e2 : (-1 : Int32).toInt = -1 := by decide
  omega
theorem zz_hs_Zr : zz_Zr zz_hs := by
  intro k hk
  have hk : 553 < k := hk
  funext j
  refine zz_lk_none zz_gl k j fun q => ?_
  have h1 : ∀ q ∈ zz_gl.map (fun q => (q.1, q.2.1)), q.1 ≤ 553 := by decide +kernel
  have := h1 _ q
  have : k ≤ 553 := this
  omega
end
section
/-! THE GROUPS OF CELLS, their bounds (written by wip/an/gen29.py) -/
def aa_gc (k : Nat) : Nat := cond (Nat.ble k 553) (cond (Nat.ble 277 k) (cond (Nat.ble 415 k) (cond (Nat.ble 484 k) (cond (Nat.ble 519 k) (cond (Nat.ble 536 k) (cond (Nat.ble 545 k) (cond (Nat.ble 549 k) (cond (Nat.ble 551 k) (cond (Nat.ble 552 k) (cond (Nat.ble 553 k) (48) (47)) (46)) (cond (Nat.ble 550 k) (45) (44))) (cond (Nat.ble 547 k) (cond (Nat.ble 548 k) (43) (42)) (cond (Nat.ble 546 k) (41) (40)))) (cond (Nat.ble 540 k) (cond (Nat.ble 542 k) (cond (Nat.ble 543 k) (cond (Nat.ble 544 k) (39) (38)) (37)) (cond (Nat.ble 541 k) (36) (35))) (cond (Nat.ble 538 k) (cond (Nat.ble 539 k) (18) (17)) (cond (Nat.ble 537 k) (16) (15))))) (cond (Nat.ble 527 k) (cond (Nat.ble 531 k) (cond (Nat.ble 533 k) (cond (Nat.ble 534 k) (cond (Nat.ble 535 k) (14) (18)) (17)) (cond (Nat.ble 532 k) (16) (15))) (cond (Nat.ble 529 k) (cond (Nat.ble 530 k) (14) (18)) (cond (Nat.ble 528 k) (17) (16)))) (cond (Nat.ble 523 k) (cond (Nat.ble 525 k) (cond (Nat.ble 526 k) (15) (14)) (cond (Nat.ble 524 k) (18) (17))) (cond (Nat.ble 521 k) (cond (Nat.ble 522 k) (16) (15)) (cond (Nat.ble 520 k) (14) (13)))))) (cond (Nat.ble 501 k) (cond (Nat.ble 510 k) (cond (Nat.ble 514 k) (cond (Nat.ble 516 k) (cond (Nat.ble 517 k) (cond (Nat.ble 518 k) (12) (11)) (10)) (cond (Nat.ble 515 k) (9) (8))) (cond (Nat.ble 512 k) (cond (Nat.ble 513 k) (7) (6)) (cond (Nat.ble 511 k) (5) (4)))) (cond (Nat.ble 505 k) (cond (Nat.ble 507 k) (cond (Nat.ble 508 k) (cond (Nat.ble 509 k) (3) (2)) (18)) (cond (Nat.ble 506 k) (17) (16))) (cond (Nat.ble 503 k) (cond (Nat.ble 504 k) (15) (14)) (cond (Nat.ble 502 k) (18) (17))))) (cond (Nat.ble 492 k) (cond (Nat.ble 496 k) (cond (Nat.ble 498 k) (cond (Nat.ble 499 k) (cond (Nat.ble 500 k) (16) (15)) (14)) (cond (Nat.ble 497 k) (18) (17))) (cond (Nat.ble 494 k) (cond (Nat.ble 495 k) (16) (15)) (cond (Nat.ble 493 k) (14) (18)))) (cond (Nat.ble 488 k) (cond (Nat.ble 490 k) (cond (Nat.ble 491 k) (17) (16)) (cond (Nat.ble 489 k) (15) (14))) (cond (Nat.ble 486 k) (cond (Nat.ble 487 k) (13) (12)) (cond (Nat.ble 485 k) (11) (10))))))) (cond (Nat.ble 449 k) (cond (Nat.ble 466 k) (cond (Nat.ble 475 k) (cond (Nat.ble 479 k) (cond (Nat.ble 481 k) (cond (Nat.ble 482 k) (cond (Nat.ble 483 k) (9) (8)) (7)) (cond (Nat.ble 480 k) (6) (5))) (cond (Nat.ble 477 k) (cond (Nat.ble 478 k) (4) (3)) (cond (Nat.ble 476 k) (2) (34)))) (cond (Nat.ble 470 k) (cond (Nat.ble 472 k) (cond (Nat.ble 473 k) (cond (Nat.ble 474 k) (30) (30)) (30)) (cond (Nat.ble 471 k) (33) (32))) (cond (Nat.ble 468 k) (cond (Nat.ble 469 k) (31) (30)) (cond (Nat.ble 467 k) (30) (30))))) (cond (Nat.ble 457 k) (cond (Nat.ble 461 k) (cond (Nat.ble 463 k) (cond (Nat.ble 464 k) (cond (Nat.ble 465 k) (33) (32)) (31)) (cond (Nat.ble 462 k) (30) (30))) (cond (Nat.ble 459 k) (cond (Nat.ble 460 k) (29) (28)) (cond (Nat.ble 458 k) (27) (26)))) (cond (Nat.ble 453 k) (cond (Nat.ble 455 k) (cond (Nat.ble 456 k) (25) (24)) (cond (Nat.ble 454 k) (23) (22))) (cond (Nat.ble 451 k) (cond (Nat.ble 452 k) (21) (18)) (cond (Nat.ble 450 k) (17) (16)))))) (cond (Nat.ble 432 k) (cond (Nat.ble 440 k) (cond (Nat.ble 444 k) (cond (Nat.ble 446 k) (cond (Nat.ble 447 k) (cond (Nat.ble 448 k) (15) (14)) (18)) (cond (Nat.ble 445 k) (17) (16))) (cond (Nat.ble 442 k) (cond (Nat.ble 443 k) (15) (14)) (cond (Nat.ble 441 k) (18) (17)))) (cond (Nat.ble 436 k) (cond (Nat.ble 438 k) (cond (Nat.ble 439 k) (16) (15)) (cond (Nat.ble 437 k) (14) (18))) (cond (Nat.ble 434 k) (cond (Nat.ble 435 k) (17) (16)) (cond (Nat.ble 433 k) (15) (14))))) (cond (Nat.ble 423 k) (cond (Nat.ble 427 k) (cond (Nat.ble 429 k) (cond (Nat.ble 430 k) (cond (Nat.ble 431 k) (13) (12)) (11)) (cond (Nat.ble 428 k) (10) (9))) (cond (Nat.ble 425 k) (cond (Nat.ble 426 k) (8) (7)) (cond (Nat.ble 424 k) (6) (5)))) (cond (Nat.ble 419 k) (cond (Nat.ble 421 k) (cond (Nat.ble 422 k) (4) (3)) (cond (Nat.ble 420 k) (2) (18))) (cond (Nat.ble 417 k) (cond (Nat.ble 418 k) (17) (16)) (cond (Nat.ble 416 k) (15) (14)))))))) (cond (Nat.ble 346 k) (cond (Nat.ble 380 k) (cond (Nat.ble 397 k) (cond (Nat.ble 406 k) (cond (Nat.ble 410 k) (cond (Nat.ble 412 k) (cond (Nat.ble 413 k) (cond (Nat.ble 414 k) (18) (17)) (16)) (cond (Nat.ble 411 k) (15) (14))) (cond (Nat.ble 408 k) (cond (Nat.ble 409 k) (18) (17)) (cond (Nat.ble 407 k) (16) (15)))) (cond (Nat.ble 401 k) (cond (Nat.ble 403 k) (cond (Nat.ble 404 k) (cond (Nat.ble 405 k) (14) (18)) (17)) (cond (Nat.ble 402 k) (16) (15))) (cond (Nat.ble 399 k) (cond (Nat.ble 400 k) (14) (13)) (cond (Nat.ble 398 k) (12) (11))))) (cond (Nat.ble 388 k) (cond (Nat.ble 392 k) (cond (Nat.ble 394 k) (cond (Nat.ble 395 k) (cond (Nat.ble 396 k) (10) (9)) (8)) (cond (Nat.ble 393 k) (7) (6))) (cond (Nat.ble 390 k) (cond (Nat.ble 391 k) (5) (4)) (cond (Nat.ble 389 k) (3) (2)))) (cond (Nat.ble 384 k) (cond (Nat.ble 386 k) (cond (Nat.ble 387 k) (18) (17)) (cond (Nat.ble 385 k) (16) (15))) (cond (Nat.ble 382 k) (cond (Nat.ble 383 k) (14) (18)) (cond (Nat.ble 381 k) (17) (16)))))) (cond (Nat.ble 363 k) (cond (Nat.ble 371 k) (cond (Nat.ble 375 k) (cond (Nat.ble 377 k) (cond (Nat.ble 378 k) (cond (Nat.ble 379 k) (15) (14)) (18)) (cond (Nat.ble 376 k) (17) (16))) (cond (Nat.ble 373 k) (cond (Nat.ble 374 k) (15) (14)) (cond (Nat.ble 372 k) (18) (17)))) (cond (Nat.ble 367 k) (cond (Nat.ble 369 k) (cond (Nat.ble 370 k) (16) (15)) (cond (Nat.ble 368 k) (14) (13))) (cond (Nat.ble 365 k) (cond (Nat.ble 366 k) (12) (11)) (cond (Nat.ble 364 k) (10) (9))))) (cond (Nat.ble 354 k) (cond (Nat.ble 358 k) (cond (Nat.ble 360 k) (cond (Nat.ble 361 k) (cond (Nat.ble 362 k) (8) (7)) (6)) (cond (Nat.ble 359 k) (5) (4))) (cond (Nat.ble 356 k) (cond (Nat.ble 357 k) (3) (2)) (cond (Nat.ble 355 k) (18) (17)))) (cond (Nat.ble 350 k) (cond (Nat.ble 352 k) (cond (Nat.ble 353 k) (16) (15)) (cond (Nat.ble 351 k) (14) (18))) (cond (Nat.ble 348 k) (cond (Nat.ble 349 k) (17) (16)) (cond (Nat.ble 347 k) (15) (14))))))) (cond (Nat.ble 311 k) (cond (Nat.ble 328 k) (cond (Nat.ble 337 k) (cond (Nat.ble 341 k) (cond (Nat.ble 343 k) (cond (Nat.ble 344 k) (cond (Nat.ble 345 k) (18) (17)) (16)) (cond (Nat.ble 342 k) (15) (14))) (cond (Nat.ble 339 k) (cond (Nat.ble 340 k) (18) (17)) (cond (Nat.ble 338 k) (16) (15)))) (cond (Nat.ble 332 k) (cond (Nat.ble 334 k) (cond (Nat.ble 335 k) (cond (Nat.ble 336 k) (14) (13)) (12)) (cond (Nat.ble 333 k) (11) (10))) (cond (Nat.ble 330 k) (cond (Nat.ble 331 k) (9) (8)) (cond (Nat.ble 329 k) (7) (6))))) (cond (Nat.ble 319 k) (cond (Nat.ble 323 k) (cond (Nat.ble 325 k) (cond (Nat.ble 326 k) (cond (Nat.ble 327 k) (5) (4)) (3)) (cond (Nat.ble 324 k) (2) (18))) (cond (Nat.ble 321 k) (cond (Nat.ble 322 k) (17) (16)) (cond (Nat.ble 320 k) (15) (14)))) (cond (Nat.ble 315 k) (cond (Nat.ble 317 k) (cond (Nat.ble 318 k) (18) (17)) (cond (Nat.ble 316 k) (16) (15))) (cond (Nat.ble 313 k) (cond (Nat.ble 314 k) (14) (18)) (cond (Nat.ble 312 k) (17) (16)))))) (cond (Nat.ble 294 k) (cond (Nat.ble 302 k) (cond (Nat.ble 306 k) (cond (Nat.ble 308 k) (cond (Nat.ble 309 k) (cond (Nat.ble 310 k) (15) (14)) (18)) (cond (Nat.ble 307 k) (17) (16))) (cond (Nat.ble 304 k) (cond (Nat.ble 305 k) (15) (14)) (cond (Nat.ble 303 k) (13) (12)))) (cond (Nat.ble 298 k) (cond (Nat.ble 300 k) (cond (Nat.ble 301 k) (11) (10)) (cond (Nat.ble 299 k) (9) (8))) (cond (Nat.ble 296 k) (cond (Nat.ble 297 k) (7) (6)) (cond (Nat.ble 295 k) (5) (4))))) (cond (Nat.ble 285 k) (cond (Nat.ble 289 k) (cond (Nat.ble 291 k) (cond (Nat.ble 292 k) (cond (Nat.ble 293 k) (3) (2)) (18)) (cond (Nat.ble 290 k) (17) (16))) (cond (Nat.ble 287 k) (cond (Nat.ble 288 k) (15) (14)) (cond (Nat.ble 286 k) (18) (17)))) (cond (Nat.ble 281 k) (cond (Nat.ble 283 k) (cond (Nat.ble 284 k) (16) (15)) (cond (Nat.ble 282 k) (14) (18))) (cond (Nat.ble 279 k) (cond (Nat.ble 280 k) (17) (16)) (cond (Nat.ble 278 k) (15) (14))))))))) (cond (Nat.ble 138 k) (cond (Nat.ble 207 k) (cond (Nat.ble 242 k) (cond (Nat.ble 259 k) (cond (Nat.ble 268 k) (cond (Nat.ble 272 k) (cond (Nat.ble 274 k) (cond (Nat.ble 275 k) (cond (Nat.ble 276 k) (18) (17)) (16)) (cond (Nat.ble 273 k) (15) (14))) (cond (Nat.ble 270 k) (cond (Nat.ble 271 k) (13) (12)) (cond (Nat.ble 269 k) (11) (10)))) (cond (Nat.ble 263 k) (cond (Nat.ble 265 k) (cond (Nat.ble 266 k) (cond (Nat.ble 267 k) (9) (8)) (7)) (cond (Nat.ble 264 k) (6) (5))) (cond (Nat.ble 261 k) (cond (Nat.ble 262 k) (4) (3)) (cond (Nat.ble 260 k) (2) (18))))) (cond (Nat.ble 250 k) (cond (Nat.ble 254 k) (cond (Nat.ble 256 k) (cond (Nat.ble 257 k) (cond (Nat.ble 258 k) (17) (16)) (15)) (cond (Nat.ble 255 k) (14) (18))) (cond (Nat.ble 252 k) (cond (Nat.ble 253 k) (17) (16)) (cond (Nat.ble 251 k) (15) (14)))) (cond (Nat.ble 246 k) (cond (Nat.ble 248 k) (cond (Nat.ble 249 k) (18) (17)) (cond (Nat.ble 247 k) (16) (15))) (cond (Nat.ble 244 k) (cond (Nat.ble 245 k) (14) (18)) (cond (Nat.ble 243 k) (17) (16)))))) (cond (Nat.ble 224 k) (cond (Nat.ble 233 k) (cond (Nat.ble 237 k) (cond (Nat.ble 239 k) (cond (Nat.ble 240 k) (cond (Nat.ble 241 k) (15) (14)) (13)) (cond (Nat.ble 238 k) (12) (11))) (cond (Nat.ble 235 k) (cond (Nat.ble 236 k) (10) (9)) (cond (Nat.ble 234 k) (8) (7)))) (cond (Nat.ble 228 k) (cond (Nat.ble 230 k) (cond (Nat.ble 231 k) (cond (Nat.ble 232 k) (6) (5)) (4)) (cond (Nat.ble 229 k) (3) (2))) (cond (Nat.ble 226 k) (cond (Nat.ble 227 k) (18) (17)) (cond (Nat.ble 225 k) (16) (15))))) (cond (Nat.ble 215 k) (cond (Nat.ble 219 k) (cond (Nat.ble 221 k) (cond (Nat.ble 222 k) (cond (Nat.ble 223 k) (14) (18)) (17)) (cond (Nat.ble 220 k) (16) (15))) (cond (Nat.ble 217 k) (cond (Nat.ble 218 k) (14) (18)) (cond (Nat.ble 216 k) (17) (16)))) (cond (Nat.ble 211 k) (cond (Nat.ble 213 k) (cond (Nat.ble 214 k) (15) (14)) (cond (Nat.ble 212 k) (18) (17))) (cond (Nat.ble 209 k) (cond (Nat.ble 210 k) (16) (15)) (cond (Nat.ble 208 k) (14) (13))))))) (cond (Nat.ble 172 k) (cond (Nat.ble 189 k) (cond (Nat.ble 198 k) (cond (Nat.ble 202 k) (cond (Nat.ble 204 k) (cond (Nat.ble 205 k) (cond (Nat.ble 206 k) (12) (11)) (10)) (cond (Nat.ble 203 k) (9) (8))) (cond (Nat.ble 200 k) (cond (Nat.ble 201 k) (7) (6)) (cond (Nat.ble 199 k) (5) (4)))) (cond (Nat.ble 193 k) (cond (Nat.ble 195 k) (cond (Nat.ble 196 k) (cond (Nat.ble 197 k) (3) (2)) (18)) (cond (Nat.ble 194 k) (17) (16))) (cond (Nat.ble 191 k) (cond (Nat.ble 192 k) (15) (14)) (cond (Nat.ble 190 k) (18) (17))))) (cond (Nat.ble 180 k) (cond (Nat.ble 184 k) (cond (Nat.ble 186 k) (cond (Nat.ble 187 k) (cond (Nat.ble 188 k) (16) (15)) (14)) (cond (Nat.ble 185 k) (18) (17))) (cond (Nat.ble 182 k) (cond (Nat.ble 183 k) (16) (15)) (cond (Nat.ble 181 k) (14) (18)))) (cond (Nat.ble 176 k) (cond (Nat.ble 178 k) (cond (Nat.ble 179 k) (17) (16)) (cond (Nat.ble 177 k) (15) (14))) (cond (Nat.ble 174 k) (cond (Nat.ble 175 k) (13) (12)) (cond (Nat.ble 173 k) (11) (10)))))) (cond (Nat.ble 155 k) (cond (Nat.ble 163 k) (cond (Nat.ble 167 k) (cond (Nat.ble 169 k) (cond (Nat.ble 170 k) (cond (Nat.ble 171 k) (9) (8)) (7)) (cond (Nat.ble 168 k) (6) (5))) (cond (Nat.ble 165 k) (cond (Nat.ble 166 k) (4) (3)) (cond (Nat.ble 164 k) (2) (18)))) (cond (Nat.ble 159 k) (cond (Nat.ble 161 k) (cond (Nat.ble 162 k) (17) (16)) (cond (Nat.ble 160 k) (15) (14))) (cond (Nat.ble 157 k) (cond (Nat.ble 158 k) (18) (17)) (cond (Nat.ble 156 k) (16) (15))))) (cond (Nat.ble 146 k) (cond (Nat.ble 150 k) (cond (Nat.ble 152 k) (cond (Nat.ble 153 k) (cond (Nat.ble 154 k) (14) (18)) (17)) (cond (Nat.ble 151 k) (16) (15))) (cond (Nat.ble 148 k) (cond (Nat.ble 149 k) (14) (18)) (cond (Nat.ble 147 k) (17) (16)))) (cond (Nat.ble 142 k) (cond (Nat.ble 144 k) (cond (Nat.ble 145 k) (15) (14)) (cond (Nat.ble 143 k) (13) (12))) (cond (Nat.ble 140 k) (cond (Nat.ble 141 k) (11) (10)) (cond (Nat.ble 139 k) (9) (8)))))))) (cond (Nat.ble 69 k) (cond (Nat.ble 103 k) (cond (Nat.ble 120 k) (cond (Nat.ble 129 k) (cond (Nat.ble 133 k) (cond (Nat.ble 135 k) (cond (Nat.ble 136 k) (cond (Nat.ble 137 k) (7) (6)) (5)) (cond (Nat.ble 134 k) (4) (3))) (cond (Nat.ble 131 k) (cond (Nat.ble 132 k) (2) (18)) (cond (Nat.ble 130 k) (17) (16)))) (cond (Nat.ble 124 k) (cond (Nat.ble 126 k) (cond (Nat.ble 127 k) (cond (Nat.ble 128 k) (15) (14)) (18)) (cond (Nat.ble 125 k) (17) (16))) (cond (Nat.ble 122 k) (cond (Nat.ble 123 k) (15) (14)) (cond (Nat.ble 121 k) (18) (17))))) (cond (Nat.ble 111 k) (cond (Nat.ble 115 k) (cond (Nat.ble 117 k) (cond (Nat.ble 118 k) (cond (Nat.ble 119 k) (16) (15)) (14)) (cond (Nat.ble 116 k) (18) (17))) (cond (Nat.ble 113 k) (cond (Nat.ble 114 k) (16) (15)) (cond (Nat.ble 112 k) (14) (13)))) (cond (Nat.ble 107 k) (cond (Nat.ble 109 k) (cond (Nat.ble 110 k) (12) (11)) (cond (Nat.ble 108 k) (10) (9))) (cond (Nat.ble 105 k) (cond (Nat.ble 106 k) (8) (7)) (cond (Nat.ble 104 k) (6) (5)))))) (cond (Nat.ble 86 k) (cond (Nat.ble 94 k) (cond (Nat.ble 98 k) (cond (Nat.ble 100 k) (cond (Nat.ble 101 k) (cond (Nat.ble 102 k) (4) (3)) (2)) (cond (Nat.ble 99 k) (18) (17))) (cond (Nat.ble 96 k) (cond (Nat.ble 97 k) (16) (15)) (cond (Nat.ble 95 k) (14) (18)))) (cond (Nat.ble 90 k) (cond (Nat.ble 92 k) (cond (Nat.ble 93 k) (17) (16)) (cond (Nat.ble 91 k) (15) (14))) (cond (Nat.ble 88 k) (cond (Nat.ble 89 k) (18) (17)) (cond (Nat.ble 87 k) (16) (15))))) (cond (Nat.ble 77 k) (cond (Nat.ble 81 k) (cond (Nat.ble 83 k) (cond (Nat.ble 84 k) (cond (Nat.ble 85 k) (14) (18)) (17)) (cond (Nat.ble 82 k) (16) (15))) (cond (Nat.ble 79 k) (cond (Nat.ble 80 k) (14) (13)) (cond (Nat.ble 78 k) (12) (11)))) (cond (Nat.ble 73 k) (cond (Nat.ble 75 k) (cond (Nat.ble 76 k) (10) (9)) (cond (Nat.ble 74 k) (8) (7))) (cond (Nat.ble 71 k) (cond (Nat.ble 72 k) (6) (5)) (cond (Nat.ble 70 k) (4) (3))))))) (cond (Nat.ble 34 k) (cond (Nat.ble 51 k) (cond (Nat.ble 60 k) (cond (Nat.ble 64 k) (cond (Nat.ble 66 k) (cond (Nat.ble 67 k) (cond (Nat.ble 68 k) (2) (20)) (19)) (cond (Nat.ble 65 k) (18) (17))) (cond (Nat.ble 62 k) (cond (Nat.ble 63 k) (16) (15)) (cond (Nat.ble 61 k) (14) (18)))) (cond (Nat.ble 55 k) (cond (Nat.ble 57 k) (cond (Nat.ble 58 k) (cond (Nat.ble 59 k) (17) (16)) (15)) (cond (Nat.ble 56 k) (14) (18))) (cond (Nat.ble 53 k) (cond (Nat.ble 54 k) (17) (16)) (cond (Nat.ble 52 k) (15) (14))))) (cond (Nat.ble 42 k) (cond (Nat.ble 46 k) (cond (Nat.ble 48 k) (cond (Nat.ble 49 k) (cond (Nat.ble 50 k) (18) (17)) (16)) (cond (Nat.ble 47 k) (15) (14))) (cond (Nat.ble 44 k) (cond (Nat.ble 45 k) (13) (12)) (cond (Nat.ble 43 k) (11) (10)))) (cond (Nat.ble 38 k) (cond (Nat.ble 40 k) (cond (Nat.ble 41 k) (9) (8)) (cond (Nat.ble 39 k) (7) (6))) (cond (Nat.ble 36 k) (cond (Nat.ble 37 k) (5) (4)) (cond (Nat.ble 35 k) (3) (2)))))) (cond (Nat.ble 17 k) (cond (Nat.ble 25 k) (cond (Nat.ble 29 k) (cond (Nat.ble 31 k) (cond (Nat.ble 32 k) (cond (Nat.ble 33 k) (18) (17)) (16)) (cond (Nat.ble 30 k) (15) (14))) (cond (Nat.ble 27 k) (cond (Nat.ble 28 k) (18) (17)) (cond (Nat.ble 26 k) (16) (15)))) (cond (Nat.ble 21 k) (cond (Nat.ble 23 k) (cond (Nat.ble 24 k) (14) (18)) (cond (Nat.ble 22 k) (17) (16))) (cond (Nat.ble 19 k) (cond (Nat.ble 20 k) (15) (14)) (cond (Nat.ble 18 k) (18) (17))))) (cond (Nat.ble 8 k) (cond (Nat.ble 12 k) (cond (Nat.ble 14 k) (cond (Nat.ble 15 k) (cond (Nat.ble 16 k) (16) (15)) (14)) (cond (Nat.ble 13 k) (13) (12))) (cond (Nat.ble 10 k) (cond (Nat.ble 11 k) (11) (10)) (cond (Nat.ble 9 k) (9) (8)))) (cond (Nat.ble 4 k) (cond (Nat.ble 6 k) (cond (Nat.ble 7 k) (7) (6)) (cond (Nat.ble 5 k) (5) (4))) (cond (Nat.ble 2 k) (cond (Nat.ble 3 k) (3) (2)) (cond (Nat.ble 1 k) (1) (0)))))))))) 0
def aa_gi (k : Nat) : Nat × Nat × Nat × List Nat := cond (Nat.ble 25 k) (cond (Nat.ble 37 k) (cond (Nat.ble 43 k) (cond (Nat.ble 46 k) (cond (Nat.ble 48 k) (cond (Nat.ble 49 k) ((9, 0, 0, [])) ((1, 2, 260, []))) (cond (Nat.ble 47 k) ((1, 0, 150, [])) ((1, 0, 24, [])))) (cond (Nat.ble 44 k) (cond (Nat.ble 45 k) ((1, 0, 8, [])) ((1, 0, 44, []))) ((1, 0, 5, [])))) (cond (Nat.ble 40 k) (cond (Nat.ble 41 k) (cond (Nat.ble 42 k) ((1, 0, 24, [])) ((1, 0, 24, []))) ((1, 0, 140, []))) (cond (Nat.ble 38 k) (cond (Nat.ble 39 k) ((1, 0, 56, [])) ((1, 2, 500, []))) ((1, 1, 2, []))))) (cond (Nat.ble 31 k) (cond (Nat.ble 34 k) (cond (Nat.ble 35 k) (cond (Nat.ble 36 k) ((1, 0, 6384, [])) ((0, 10, 38, [36, 0, 37, 38, 0, 0, 0, 0, 39, 40, 0, 0, 0, 0, 0, 0, 0, 0, 0, 0, 0, 0, 0, 0, 41, 42, 0, 43, 44, 0, 0, 45, 46, 47, 0, 0, 48, 0]))) ((1, 0, 8, []))) (cond (Nat.ble 32 k) (cond (Nat.ble 33 k) ((1, 0, 16, [])) ((1, 0, 16, []))) ((0, 3, 6, [0, 32, 33, 30, 30, 30])))) (cond (Nat.ble 28 k) (cond (Nat.ble 29 k) (cond (Nat.ble 30 k) ((0, 4, 8, [0, 0, 0, 0, 0, 0, 0, 0])) ((1, 0, 256, []))) ((0, 8, 2, [0, 29]))) (cond (Nat.ble 26 k) (cond (Nat.ble 27 k) ((1, 0, 120, [])) ((1, 0, 30, []))) ((0, 0, 3, [0, 26, 27])))))) (cond (Nat.ble 12 k) (cond (Nat.ble 18 k) (cond (Nat.ble 21 k) (cond (Nat.ble 23 k) (cond (Nat.ble 24 k) ((1, 0, 500, [])) ((0, 6, 6, [0, 0, 0, 0, 0, 24]))) (cond (Nat.ble 22 k) ((1, 1, 2, [])) ((2, 4, 2, [2])))) (cond (Nat.ble 19 k) (cond (Nat.ble 20 k) ((2, 4, 12, [2])) ((0, 2, 3, [0, 0, 20]))) ((1, 0, 12, [])))) (cond (Nat.ble 15 k) (cond (Nat.ble 16 k) (cond (Nat.ble 17 k) ((1, 0, 12, [])) ((1, 0, 12, []))) ((1, 0, 12, []))) (cond (Nat.ble 13 k) (cond (Nat.ble 14 k) ((0, 7, 6, [0, 0, 15, 16, 17, 18])) ((1, 0, 40, []))) ((1, 0, 40, []))))) (cond (Nat.ble 6 k) (cond (Nat.ble 9 k) (cond (Nat.ble 10 k) (cond (Nat.ble 11 k) ((1, 0, 40, [])) ((1, 0, 8, []))) ((1, 0, 8, []))) (cond (Nat.ble 7 k) (cond (Nat.ble 8 k) ((1, 0, 8, [])) ((1, 0, 8, []))) ((1, 0, 8, [])))) (cond (Nat.ble 3 k) (cond (Nat.ble 4 k) (cond (Nat.ble 5 k) ((1, 0, 8, [])) ((0, 1, 11, [0, 0, 5, 6, 7, 8, 9, 10, 11, 12, 13]))) ((2, 3, 4, [14]))) (cond (Nat.ble 1 k) (cond (Nat.ble 2 k) ((0, 5, 4, [0, 0, 3, 4])) ((0, 9, 15, [2, 2, 19, 21, 22, 23, 25, 28, 30, 30, 31, 31, 34, 0, 0]))) ((9, 0, 0, []))))))
def aa_all : Nat := 36
def aa_ivA (k : Nat) : Option (Int × Int) := cond (Nat.ble 27 k) (cond (Nat.ble 39 k) (cond (Nat.ble 44 k) (cond (Nat.ble 47 k) (cond (Nat.ble 48 k) (cond (Nat.ble 49 k) (none) (some (-128, 127))) (some (-99999, 99999))) (cond (Nat.ble 45 k) (cond (Nat.ble 46 k) (some (-2147483648, 2147483647)) (some (-2147483648, 2147483647))) (some (-2147483648, 2147483647)))) (cond (Nat.ble 41 k) (cond (Nat.ble 42 k) (cond (Nat.ble 43 k) (some (-2147483648, 2147483647)) (some (0, 7))) (some (-2147483648, 2147483647))) (cond (Nat.ble 40 k) (some (0, 200255)) (some (-1, 3599))))) (cond (Nat.ble 33 k) (cond (Nat.ble 35 k) (cond (Nat.ble 37 k) (cond (Nat.ble 38 k) (some (-128, 127)) (some (0, 1))) (none)) (cond (Nat.ble 34 k) (some (-2147483648, 2147483647)) (some (0, 7)))) (cond (Nat.ble 29 k) (cond (Nat.ble 30 k) (cond (Nat.ble 32 k) (some (-2147483648, 2147483647)) (none)) (some (0, 120))) (cond (Nat.ble 28 k) (none) (some (-99999, 99999)))))) (cond (Nat.ble 14 k) (cond (Nat.ble 19 k) (cond (Nat.ble 24 k) (cond (Nat.ble 25 k) (cond (Nat.ble 26 k) (some (-1, 255)) (none)) (some (0, 255))) (cond (Nat.ble 22 k) (cond (Nat.ble 23 k) (none) (some (0, 1))) (none))) (cond (Nat.ble 16 k) (cond (Nat.ble 17 k) (cond (Nat.ble 18 k) (some (-99999, 99999)) (some (-99999, 99999))) (some (-99999, 99999))) (cond (Nat.ble 15 k) (some (-99999, 99999)) (none)))) (cond (Nat.ble 9 k) (cond (Nat.ble 11 k) (cond (Nat.ble 12 k) (cond (Nat.ble 13 k) (some (-99999, 99999)) (some (0, 139))) (some (0, 2147483647))) (cond (Nat.ble 10 k) (some (-2147483648, 2147483647)) (some (0, 40)))) (cond (Nat.ble 6 k) (cond (Nat.ble 7 k) (cond (Nat.ble 8 k) (some (-99999, 99999)) (some (-99999, 99999))) (some (-99999, 99999))) (cond (Nat.ble 5 k) (some (0, 1)) (none)))))
def aa_ivO (k : Nat) : List (Int × Int) := cond (Nat.ble 23 k) (cond (Nat.ble 29 k) (cond (Nat.ble 32 k) (cond (Nat.ble 35 k) (cond (Nat.ble 36 k) ([]) ([(-2147483648, 2147483647), (0, 12), (-2147483648, 2147483647), (-2147483648, 2147483647), (0, 500), (0, 500), (-1, 500), (-2147483648, 2147483647), (-2147483648, 2147483647), (-2147483648, 2147483647), (0, 8), (0, 140), (0, 40), (-1, 1), (-1, 86399), (-1, 86399), (-1, 11), (-2147483648, 2147483647), (-2147483648, 2147483647), (0, 1), (-2147483648, 2147483647), (-2147483648, 2147483647), (-2147483648, 2147483647), (-2147483648, 2147483647), (-2147483648, 2147483647), (-2147483648, 2147483647), (0, 16), (-2147483648, 2147483647), (-2147483648, 2147483647), (-2147483648, 2147483647), (-2147483648, 2147483647), (-2147483648, 2147483647), (-2147483648, 2147483647), (-2147483648, 2147483647), (0, 30), (-1, 29), (-2147483648, 2147483647), (0, 260)])) ([])) (cond (Nat.ble 30 k) (cond (Nat.ble 31 k) ([(0, 16), (-2147483648, 2147483647), (-2147483648, 2147483647), (-2147483648, 2147483647), (-2147483648, 2147483647), (-2147483648, 2147483647)]) ([(0, 1), (-2147483648, 2147483647), (0, 1), (-2147483648, 2147483647), (-2147483648, 2147483647), (-99999, 99999), (-2147483648, 2147483647), (-2147483648, 2147483647)])) ([]))) (cond (Nat.ble 25 k) (cond (Nat.ble 26 k) (cond (Nat.ble 28 k) ([(0, 256), (-2147483648, 2147483647)]) ([])) ([(0, 30), (-2147483648, 2147483647), (-2147483648, 2147483647)])) (cond (Nat.ble 24 k) ([]) ([(0, 500), (-2147483648, 2147483647), (-1, 255), (-2147483648, 2147483647), (-2147483648, 2147483647), (-2147483648, 2147483647)])))) (cond (Nat.ble 5 k) (cond (Nat.ble 15 k) (cond (Nat.ble 19 k) (cond (Nat.ble 20 k) ([]) ([(0, 12), (0, 11), (-2147483648, 2147483647)])) ([])) (cond (Nat.ble 14 k) ([(-99999, 99999), (0, 12), (-2147483648, 2147483647), (-2147483648, 2147483647), (-2147483648, 2147483647), (-2147483648, 2147483647)]) ([]))) (cond (Nat.ble 2 k) (cond (Nat.ble 3 k) (cond (Nat.ble 4 k) ([(0, 8), (0, 40), (-2147483648, 2147483647), (-2147483648, 2147483647), (-2147483648, 2147483647), (-2147483648, 2147483647), (-2147483648, 2147483647), (-2147483648, 2147483647), (-2147483648, 2147483647), (-2147483648, 2147483647), (-2147483648, 2147483647)]) ([])) ([(0, 4), (1, 3600), (-2147483648, 2147483647), (-2147483648, 2147483647)])) (cond (Nat.ble 1 k) ([(-2147483648, 2147483647), (-2147483648, 2147483647), (-2147483648, 2147483647), (-2147483648, 2147483647), (-2147483648, 2147483647), (-2147483648, 2147483647), (-2147483648, 2147483647), (-2147483648, 2147483647), (-2147483648, 2147483647), (-2147483648, 2147483647), (-2147483648, 2147483647), (-2147483648, 2147483647), (-2147483648, 2147483647), (-2147483648, 2147483647), (-1, 2147483647)]) ([]))))
def aa_town (o : Nat) : Int × Int := if Nat.beq o 0 = true then (-43200, 43200) else if Nat.beq o 1 = true then (0, 12) else (match (o - 2) % 4 with
  | 0 => (0, 359)
  | 1 => (-1, 86399)
  | 2 => (-1, 86399)
  | _ => (-1, 1))
def aa_bell (o : Nat) : Int × Int := match o with
  | 0 => (0, 1)
  | 1 => (0, 11)
  | 2 => (0, 3599)
  | 3 => (0, 24)
  | 4 => (0, 40)
  | 5 => (0, 140)
  | _ => (0, 140)
def aa_place (r q : Nat) : Int × Int := if Nat.ble 259 q = true then (0, 200255) else if Nat.ble 203 q = true then aa_bell ((q - 203) % 7) else if Nat.ble 3 q = true then aa_town ((q - 3) % 50) else (match q with
  | 0 => (0, 4)
  | 1 => if Nat.beq r 0 = true then (1, 3600) else (0, 3600)
  | _ => (0, 8))
def aa_iv (k j : Nat) : Int × Int := match aa_ivA k with
  | some q => q
  | none => if Nat.beq k aa_all = true then aa_place (j / 399) (j % 399) else (match (aa_ivO k)[j]? with
    | some q => q
    | none => (-2147483648, 2147483647))
def aa_flat (k : Nat) : Bool := (aa_ivA k).isSome
theorem aa_flat_ok {k : Nat} (h : aa_flat k = true) (a b : Nat) : aa_iv k a = aa_iv k b := by
  unfold aa_flat at h
  unfold aa_iv
  cases e : aa_ivA k with
  | none => rw [e] at h; cases h
  | some q => rfl
def aa_slots : List Nat → List (Option (Option Nat)) → Bool
  | [], [] => true
  | 0 :: ts, none :: fs => aa_slots ts fs
  | (t + 1) :: ts, some (some q) :: fs => Nat.beq (aa_gc q) (t + 1) && aa_slots ts fs
  | _, _ => false
def aa_fit (q : zz_L) (i : Nat × Nat × Nat × List Nat) : Bool := match i with
  | (0, c, _, ts) => (match q with
    | .inr (.inr (d, fs)) => Nat.beq d c && aa_slots ts fs
    | _ => false)
  | (1, t, n, _) => (match q with
    | .inl (d, l) => Nat.beq d t && Nat.beq l n
    | _ => false)
  | (2, t, n, tg :: _) => (match q with
    | .inr (.inl (d, rs)) => Nat.beq d t && (Nat.beq rs.length n && ((Nat.beq t 3 || Nat.beq t 4) && rs.all (fun r => match r with
        | some q => Nat.beq (aa_gc q) tg
        | none => false)))
    | _ => false)
  | _ => false
set_option maxRecDepth 100000 in
theorem aa_fit_all : (List.range (zz_hs.1.1 + 1)).all (fun k => Nat.beq (aa_gc k) 0 || aa_fit (zz_ly k) (aa_gi (aa_gc k))) = true := by decide +kernel
end
section
/-! A CELL THAT IS NOT THERE: how deep the pile would stand behind the codes of the COND that is being read. It has the number 600, its group 900. -/
def aa_rst (w : Int32) (d : Int) : Int := if w.toInt < 200000 then (if d < 0 then -1 else if 43 < d then -1 else if 100004 < w.toInt then -1 else d + 1) else (if d < 2 then -1 else d - 1)
def aa_run (c : Nat → Int32) : Nat → Nat → Int → Int
  | 0, _, d => d
  | n + 1, k, d => aa_run c n (k + 1) (aa_rst (c k) d)
/-- where the codes of the BELL that is being read begin -/
def aa_beg (g : Nat → Nat → Int32) : Nat := (g 544 (7 * (g 540 10).toInt.toNat + 5)).toInt.toNat
def aa_dep (g : Nat → Nat → Int32) : Int := if (g 540 11).toInt.toNat < aa_beg g then -1 else aa_run (g 545) ((g 540 11).toInt.toNat - aa_beg g) (aa_beg g) 0
/-- cell 601: the bytes of the model's tape, 0 to 255 -/
def aa_rd (g : Nat → Nat → Int32) (k j : Nat) : Int := if Nat.beq k 600 = true then aa_dep g else if Nat.beq k 601 = true then (g 543 j).toInt % 256 else (g k j).toInt
theorem aa_rd_of {g : Nat → Nat → Int32} {k j : Nat} (h : aa_gc k ≠ 0) : aa_rd g k j = (g k j).toInt := by
  unfold aa_rd
  split
  · rename_i hk
    have e := Nat.eq_of_beq_eq_true hk
    subst e
    exact absurd rfl h
  · split
    · rename_i hk
      have e := Nat.eq_of_beq_eq_true hk
      subst e
      exact absurd rfl h
    · rfl
theorem aa_dep_eq {g g' : Nat → Nat → Int32} (h1 : g' 540 10 = g 540 10) (h2 : g' 540 11 = g 540 11) (h3 : g' 544 = g 544) (h4 : g' 545 = g 545) : aa_dep g' = aa_dep g := by
  unfold aa_dep aa_beg
  rw [h1, h2, h3, h4]
/-- a write there may change it -/
def aa_vdep (gr : Nat) (lo hi : Int) : Bool := if Nat.beq gr 35 = true then decide (lo ≤ 11 ∧ 10 ≤ hi) else Nat.beq gr 39 || Nat.beq gr 40
theorem aa_vdep_no' {k : Nat} (h : aa_vdep (aa_gc k) 0 0 = false) (h0 : aa_gi (aa_gc k) ≠ aa_gi 35) : k ≠ 540 ∧ k ≠ 544 ∧ k ≠ 545 := by
  refine ⟨?_, ?_, ?_⟩
  · rintro rfl
    exact h0 rfl
  · rintro rfl
    cases h
  · rintro rfl
    cases h
theorem aa_vdep_no {k : Nat} {j : Int} {lo hi : Int} (h : aa_vdep (aa_gc k) lo hi = false) (h1 : lo ≤ j) (h2 : j ≤ hi) : ¬ (k = 540 ∧ (j = 10 ∨ j = 11)) ∧ k ≠ 544 ∧ k ≠ 545 := by
  refine ⟨?_, ?_, ?_⟩
  · rintro ⟨rfl, hj⟩
    have h : decide (lo ≤ 11 ∧ 10 ≤ hi) = false := h
    have := of_decide_eq_false h
    omega
  · rintro rfl
    cases h
  · rintro rfl
    cases h
end
section
/-! AN ANALYSER OF METHODS: numbers by names (forms), their bounds -/
abbrev aa_F : Type := Int × List (Nat × Int)
abbrev aa_I : Type := Int × Int × Nat
def aa_tm (ν : List Int) : List (Nat × Int) → Option Int
  | [] => some 0
  | (i, c) :: r => match ν[i]?, aa_tm ν r with
    | some v, some x => some (c * v + x)
    | _, _ => none
def aa_ev (ν : List Int) (f : aa_F) : Option Int := match aa_tm ν f.2 with
  | some x => some (f.1 + x)
  | none => none
theorem aa_tm_cons {ν : List Int} {i : Nat} {c x : Int} {r : List (Nat × Int)} : aa_tm ν ((i, c) :: r) = some x ↔ ∃ v y, ν[i]? = some v ∧ aa_tm ν r = some y ∧ x = c * v + y := by
  rw [aa_tm]
  constructor
  · intro h
    split at h
    · rename_i v y h1 h2
      cases h
      exact ⟨v, y, h1, h2, rfl⟩
    · cases h
  · rintro ⟨v, y, h1, h2, rfl⟩
    rw [h1, h2]
theorem aa_ev_some {ν : List Int} {f : aa_F} {x : Int} : aa_ev ν f = some x ↔ ∃ y, aa_tm ν f.2 = some y ∧ x = f.1 + y := by
  rw [aa_ev]
  constructor
  · intro h
    split at h
    · rename_i y h1
      cases h
      exact ⟨y, h1, rfl⟩
    · cases h
  · rintro ⟨y, h1, rfl⟩
    rw [h1]
def aa_ins (i : Nat) (c : Int) : List (Nat × Int) → List (Nat × Int)
  | [] => if c = 0 then [] else [(i, c)]
  | (j, d) :: r => if Nat.beq i j = true then (if c + d = 0 then r else (j, c + d) :: r) else if Nat.blt i j = true then (if c = 0 then (j, d) :: r else (i, c) :: (j, d) :: r) else (j, d) :: aa_ins i c r
theorem aa_ins_tm {ν : List Int} {i : Nat} {c v : Int} (hv : ν[i]? = some v) : ∀ (l : List (Nat × Int)) (x : Int), aa_tm ν l = some x → aa_tm ν (aa_ins i c l) = some (c * v + x)
  | [], x, h => by
    cases h
    rw [aa_ins]
    split
    · rename_i h0
      rw [h0]
      show some (0 : Int) = some (0 * v + 0)
      rw [Int.zero_mul]
      rfl
    · exact aa_tm_cons.mpr ⟨v, 0, hv, rfl, rfl⟩
  | (j, d) :: r, x, h => by
    obtain ⟨w, y, h1, h2, rfl⟩ := aa_tm_cons.mp h
    rw [aa_ins]
    split
    · rename_i hb
      have e := Nat.eq_of_beq_eq_true hb
      subst e
      rw [hv] at h1
      cases h1
      have e2 : c * v + (d * v + y) = (c + d) * v + y := by rw [Int.add_mul, Int.add_assoc]
      rw [e2]
      split
      · rename_i h0
        rw [h0, Int.zero_mul, Int.zero_add]
        exact h2
      · exact aa_tm_cons.mpr ⟨v, y, hv, h2, rfl⟩
    · split
      · split
        · rename_i h0
          rw [h0, Int.zero_mul, Int.zero_add]
          exact h
        · exact aa_tm_cons.mpr ⟨v, _, hv, h, rfl⟩
      · refine aa_tm_cons.mpr ⟨w, _, h1, aa_ins_tm hv r y h2, ?_⟩
        omega
def aa_addT (k : Int) : List (Nat × Int) → List (Nat × Int) → List (Nat × Int)
  | a, [] => a
  | a, (i, c) :: r => aa_addT k (aa_ins i (k * c) a) r
theorem aa_addT_tm {ν : List Int} {k : Int} : ∀ (b a : List (Nat × Int)) (x y : Int), aa_tm ν a = some x → aa_tm ν b = some y → aa_tm ν (aa_addT k a b) = some (x + k * y)
  | [], a, x, y, h1, h2 => by
    cases h2
    rw [aa_addT, Int.mul_zero, Int.add_zero]
    exact h1
  | (i, c) :: r, a, x, y, h1, h2 => by
    obtain ⟨v, z, h3, h4, rfl⟩ := aa_tm_cons.mp h2
    rw [aa_addT, aa_addT_tm r _ _ z (aa_ins_tm h3 a x h1) h4, Int.mul_add, Int.mul_assoc]
    congr 1
    omega
/-- f + k g -/
def aa_add (f g : aa_F) (k : Int) : aa_F := (f.1 + k * g.1, aa_addT k f.2 g.2)
theorem aa_add_ev {ν : List Int} {f g : aa_F} {k x y : Int} (h1 : aa_ev ν f = some x) (h2 : aa_ev ν g = some y) : aa_ev ν (aa_add f g k) = some (x + k * y) := by
  obtain ⟨a, ha, rfl⟩ := aa_ev_some.mp h1
  obtain ⟨b, hb, rfl⟩ := aa_ev_some.mp h2
  refine aa_ev_some.mpr ⟨a + k * b, aa_addT_tm _ _ _ _ ha hb, ?_⟩
  show _ = (f.1 + k * g.1) + _
  rw [Int.mul_add]
  omega
def aa_c (n : Int) : aa_F := (n, [])
def aa_id (i : Nat) : aa_F := (0, [(i, 1)])
def aa_plus (f : aa_F) (n : Int) : aa_F := (f.1 + n, f.2)
def aa_scale (f : aa_F) (k : Int) : aa_F := aa_add (aa_c 0) f k
theorem aa_c_ev {ν : List Int} {n : Int} : aa_ev ν (aa_c n) = some n := by
  refine aa_ev_some.mpr ⟨0, rfl, ?_⟩
  show n = n + 0
  omega
theorem aa_id_ev {ν : List Int} {i : Nat} {v : Int} (h : ν[i]? = some v) : aa_ev ν (aa_id i) = some v := by
  refine aa_ev_some.mpr ⟨v, aa_tm_cons.mpr ⟨v, 0, h, rfl, ?_⟩, ?_⟩
  · omega
  · show v = 0 + v
    omega
theorem aa_plus_ev {ν : List Int} {f : aa_F} {n x : Int} (h : aa_ev ν f = some x) : aa_ev ν (aa_plus f n) = some (x + n) := by
  obtain ⟨a, ha, rfl⟩ := aa_ev_some.mp h
  refine aa_ev_some.mpr ⟨a, ha, ?_⟩
  show _ = (f.1 + n) + a
  omega
theorem aa_scale_ev {ν : List Int} {f : aa_F} {k x : Int} (h : aa_ev ν f = some x) : aa_ev ν (aa_scale f k) = some (k * x) := by
  have := aa_add_ev (k := k) (aa_c_ev (ν := ν) (n := 0)) h
  rwa [Int.zero_add] at this
theorem aa_tm_app {ν ρ : List Int} : ∀ (l : List (Nat × Int)) (x : Int), aa_tm ν l = some x → aa_tm (ν ++ ρ) l = some x
  | [], x, h => h
  | (i, c) :: r, x, h => by
    obtain ⟨v, y, h1, h2, rfl⟩ := aa_tm_cons.mp h
    refine aa_tm_cons.mpr ⟨v, y, ?_, aa_tm_app r y h2, rfl⟩
    rw [List.getElem?_append_left (List.getElem?_eq_some_iff.mp h1).1]
    exact h1
theorem aa_ev_app {ν ρ : List Int} {f : aa_F} {x : Int} (h : aa_ev ν f = some x) : aa_ev (ν ++ ρ) f = some x := by
  obtain ⟨a, ha, rfl⟩ := aa_ev_some.mp h
  exact aa_ev_some.mpr ⟨a, aa_tm_app _ _ ha, rfl⟩
/-- names stand for numbers within their bounds, or for cells of their group -/
def aa_vb (iv : List aa_I) (ν : List Int) : Prop := ν.length = iv.length ∧ ∀ (i : Nat) (q : aa_I) (v : Int), iv[i]? = some q → ν[i]? = some v → q.1 ≤ v ∧ v ≤ q.2.1 ∧ (q.2.2 ≠ 0 → 0 ≤ v ∧ aa_gc v.toNat = q.2.2)
def aa_lbT (iv : List aa_I) : List (Nat × Int) → Int
  | [] => 0
  | (i, c) :: r => (match iv[i]? with
    | some q => if 0 ≤ c then c * q.1 else c * q.2.1
    | none => 0) + aa_lbT iv r
def aa_lb (iv : List aa_I) (f : aa_F) : Int := f.1 + aa_lbT iv f.2
theorem aa_lbT_ok {iv : List aa_I} {ν : List Int} (hb : aa_vb iv ν) : ∀ (l : List (Nat × Int)) (x : Int), aa_tm ν l = some x → aa_lbT iv l ≤ x
  | [], x, h => by cases h; exact Int.le_refl 0
  | (i, c) :: r, x, h => by
    obtain ⟨v, y, h1, h2, rfl⟩ := aa_tm_cons.mp h
    have ih := aa_lbT_ok hb r y h2
    have hi : i < iv.length := by rw [← hb.1]; exact (List.getElem?_eq_some_iff.mp h1).1
    rw [aa_lbT, List.getElem?_eq_getElem hi]
    have q := hb.2 i _ v (List.getElem?_eq_getElem hi) h1
    dsimp only
    split
    · rename_i hc
      have := Int.mul_le_mul_of_nonneg_left q.1 hc
      omega
    · rename_i hc
      have := Int.mul_le_mul_of_nonpos_left (a := c) (by omega) q.2.1
      omega
theorem aa_lb_ok {iv : List aa_I} {ν : List Int} (hb : aa_vb iv ν) {f : aa_F} {x : Int} (h : aa_ev ν f = some x) : aa_lb iv f ≤ x := by
  obtain ⟨a, ha, rfl⟩ := aa_ev_some.mp h
  have := aa_lbT_ok hb _ _ ha
  rw [aa_lb]
  omega
def aa_vc (cs : List aa_F) (ν : List Int) : Prop := ∀ f ∈ cs, ∃ x, aa_ev ν f = some x ∧ 0 ≤ x
/-- below f by what is known: the last name goes, by its bounds or by a form that is not below 0 -/
def aa_loN (iv : List aa_I) (cs : List aa_F) : Nat → aa_F → Int
  | 0, f => aa_lb iv f
  | n + 1, f => match f.2.getLast? with
    | none => f.1
    | some (i, c) => cs.foldl (fun a H => match H.2.getLast? with
        | none => a
        | some (j, d) => if Nat.beq j i = true then (let k := if 0 < d then c / d else (-c) / (-d)
            if 0 < k then (let z := aa_loN iv cs n (aa_add f H (-k)); if a < z then z else a) else a) else a)
        ((match iv[i]? with
          | some q => if 0 ≤ c then c * q.1 else c * q.2.1
          | none => 0) + aa_loN iv cs n (aa_add f (0, [(i, c)]) (-1)))
def aa_lo (iv : List aa_I) (cs : List aa_F) (f : aa_F) : Int := aa_loN iv cs 12 f
def aa_hi (iv : List aa_I) (cs : List aa_F) (f : aa_F) : Int := - aa_lo iv cs (aa_scale f (-1))
theorem aa_tm_all {ν : List Int} : ∀ (l : List (Nat × Int)) (x : Int), aa_tm ν l = some x → ∀ q ∈ l, ∃ v, ν[q.1]? = some v
  | (i, c) :: r, x, h, q, hq => by
    obtain ⟨v, y, h1, h2, rfl⟩ := aa_tm_cons.mp h
    rcases List.mem_cons.mp hq with rfl | hq
    · exact ⟨v, h1⟩
    · exact aa_tm_all r y h2 q hq
theorem aa_fold_le {cs : List aa_F} {F : Int → aa_F → Int} {x : Int} (hF : ∀ a, ∀ H ∈ cs, a ≤ x → F a H ≤ x) : ∀ a, a ≤ x → cs.foldl F a ≤ x := by
  induction cs with
  | nil => exact fun a h => h
  | cons H cs ih => exact fun a h => ih (fun a H hH => hF a H (List.mem_cons_of_mem _ hH)) _ (hF a H List.mem_cons_self h)
theorem aa_loN_ok {iv : List aa_I} {cs : List aa_F} {ν : List Int} (hb : aa_vb iv ν) (hc : aa_vc cs ν) : ∀ (n : Nat) {f : aa_F} {x : Int}, aa_ev ν f = some x → aa_loN iv cs n f ≤ x
  | 0, f, x, h => aa_lb_ok hb h
  | n + 1, f, x, h => by
    rw [aa_loN]
    obtain ⟨y, hy, hxy⟩ := aa_ev_some.mp h
    split
    · rename_i h0
      have h0 : f.2 = [] := List.getLast?_eq_none_iff.mp h0
      rw [h0] at hy
      cases hy
      omega
    · rename_i i c hl
      have hm : (i, c) ∈ f.2 := List.mem_of_getLast? hl
      obtain ⟨v, hv⟩ := aa_tm_all _ _ hy _ hm
      have hv : ν[i]? = some v := hv
      have hi : i < iv.length := by rw [← hb.1]; exact (List.getElem?_eq_some_iff.mp hv).1
      have hq := hb.2 i _ v (List.getElem?_eq_getElem hi) hv
      have e1 : aa_ev ν ((0, [(i, c)]) : aa_F) = some (c * v) := by
        refine aa_ev_some.mpr ⟨c * v, aa_tm_cons.mpr ⟨v, 0, hv, rfl, by omega⟩, ?_⟩
        show c * v = 0 + c * v
        omega
      refine aa_fold_le ?_ _ ?_
      · intro a H hH ha
        dsimp only
        split
        · exact ha
        · rename_i j d hj
          split
          · generalize (if 0 < d then c / d else (-c) / (-d)) = k
            split
            · rename_i hk
              obtain ⟨w, hw, w0⟩ := hc H hH
              have ih := aa_loN_ok hb hc n (aa_add_ev (k := -k) h hw)
              have := Int.mul_nonneg (show 0 ≤ k by omega) w0
              rw [Int.neg_mul] at ih
              split <;> omega
            · exact ha
          · exact ha
      · have ih := aa_loN_ok hb hc n (aa_add_ev (k := -1) h e1)
        rw [List.getElem?_eq_getElem hi]
        dsimp only
        split
        · rename_i hc0
          have := Int.mul_le_mul_of_nonneg_left hq.1 hc0
          omega
        · rename_i hc0
          have := Int.mul_le_mul_of_nonpos_left (a := c) (by omega) hq.2.1
          omega
theorem aa_lo_ok {iv : List aa_I} {cs : List aa_F} {ν : List Int} (hb : aa_vb iv ν) (hc : aa_vc cs ν) {f : aa_F} {x : Int} (h : aa_ev ν f = some x) : aa_lo iv cs f ≤ x := aa_loN_ok hb hc 12 h
theorem aa_hi_ok {iv : List aa_I} {cs : List aa_F} {ν : List Int} (hb : aa_vb iv ν) (hc : aa_vc cs ν) {f : aa_F} {x : Int} (h : aa_ev ν f = some x) : x ≤ aa_hi iv cs f := by
  have := aa_lo_ok hb hc (aa_scale_ev (k := -1) h)
  rw [aa_hi]
  omega
/-- f is not below 0: the bounds of its names by that -/
def aa_nar (f : aa_F) : List (Nat × Int) → List aa_I → Option (List aa_I)
  | [], iv => some iv
  | (i, c) :: r, iv => match iv[i]? with
    | none => none
    | some q =>
      let hr := - aa_lb iv (aa_scale (aa_add f (0, [(i, c)]) (-1)) (-1))
      let lo := if 0 < c then (if q.1 < -(hr / c) then -(hr / c) else q.1) else q.1
      let hi := if c < 0 then (if hr / (-c) < q.2.1 then hr / (-c) else q.2.1) else q.2.1
      if hi < lo then none else aa_nar f r (iv.set i (lo, hi, q.2.2))
theorem aa_vb_set {iv : List aa_I} {ν : List Int} (hb : aa_vb iv ν) {i : Nat} {q : aa_I} {v : Int} (hq : iv[i]? = some q) (hv : ν[i]? = some v) {lo hi : Int} (h1 : lo ≤ v) (h2 : v ≤ hi) : aa_vb (iv.set i (lo, hi, q.2.2)) ν := by
  refine ⟨by rw [List.length_set]; exact hb.1, fun j p w hp hw => ?_⟩
  by_cases hj : i = j
  · subst hj
    rw [List.getElem?_set_self (List.getElem?_eq_some_iff.mp hq).1] at hp
    cases hp
    rw [hv] at hw
    cases hw
    exact ⟨h1, h2, (hb.2 i q v hq hv).2.2⟩
  · rw [List.getElem?_set_ne hj] at hp
    exact hb.2 j p w hp hw
theorem aa_nar_ok {ν : List Int} {f : aa_F} {x : Int} (h : aa_ev ν f = some x) (hx : 0 ≤ x) : ∀ (l : List (Nat × Int)) (iv : List aa_I), aa_vb iv ν → (∀ q ∈ l, ∃ v, ν[q.1]? = some v) → ∃ iv', aa_nar f l iv = some iv' ∧ aa_vb iv' ν
  | [], iv, hb, _ => ⟨iv, rfl, hb⟩
  | (i, c) :: r, iv, hb, hl => by
    obtain ⟨v, hv⟩ := hl (i, c) List.mem_cons_self
    have hv : ν[i]? = some v := hv
    have hi : i < iv.length := by rw [← hb.1]; exact (List.getElem?_eq_some_iff.mp hv).1
    have hq := List.getElem?_eq_getElem hi
    have hbq := hb.2 i _ v hq hv
    have e1 : aa_ev ν ((0, [(i, c)]) : aa_F) = some (c * v) := by
      refine aa_ev_some.mpr ⟨c * v, aa_tm_cons.mpr ⟨v, 0, hv, rfl, by omega⟩, ?_⟩
      show c * v = 0 + c * v
      omega
    have e2 := aa_lb_ok hb (aa_scale_ev (k := -1) (aa_add_ev (k := -1) h e1))
    rw [aa_nar, hq]
    dsimp only
    generalize hhr : - aa_lb iv (aa_scale (aa_add f (0, [(i, c)]) (-1)) (-1)) = hr
    have e3 : x - c * v ≤ hr := by omega
    have e4 : 0 < c → -(hr / c) ≤ v := fun hc => by
      have : -v ≤ hr / c := (Int.le_ediv_iff_mul_le hc).mpr (by rw [Int.mul_comm, Int.mul_neg]; omega)
      omega
    have e5 : c < 0 → v ≤ hr / (-c) := fun hc => by
      refine (Int.le_ediv_iff_mul_le (by omega)).mpr ?_
      rw [Int.mul_comm, Int.neg_mul]
      omega
    have e6 : (if 0 < c then (if (iv[i]).1 < -(hr / c) then -(hr / c) else (iv[i]).1) else (iv[i]).1) ≤ v := by
      split
      · split
        · exact e4 (by assumption)
        · exact hbq.1
      · exact hbq.1
    have e7 : v ≤ (if c < 0 then (if hr / (-c) < (iv[i]).2.1 then hr / (-c) else (iv[i]).2.1) else (iv[i]).2.1) := by
      split
      · split
        · exact e5 (by assumption)
        · exact hbq.2.1
      · exact hbq.2.1
    rw [if_neg (by omega)]
    exact aa_nar_ok h hx r _ (aa_vb_set hb hq hv e6 e7) (fun q hq => hl q (List.mem_cons_of_mem _ hq))
end
section
/-! AN ANALYSER OF METHODS: what is known at a place -/
abbrev aa_A : Type := Nat × aa_F
abbrev aa_C : Type := List ((aa_F × aa_F) × aa_F)
abbrev aa_S : Type := (List aa_I × List aa_F) × (aa_C × (List aa_A × List aa_A))
abbrev aa_G : Type := Nat → Nat → Int32
/-- what a kind of value says: 0 nothing, 1 an int, 2 a long, 3 a reference, 4 null -/
def aa_mv (ν : List Int) (a : aa_A) (v : Option Value) : Prop := match a.1 with
  | 0 => True
  | 1 => ∃ w : Int32, v = some (.int w) ∧ aa_ev ν a.2 = some w.toInt
  | 2 => ∃ w : Int64, v = some (.long w) ∧ aa_ev ν a.2 = some w.toInt
  | 3 => ∃ k : Nat, v = some (.ref k) ∧ aa_ev ν a.2 = some (k : Int)
  | 4 => v = some .null
  | _ => False
def aa_ml (ν : List Int) : List aa_A → zz_V → Prop
  | [], [] => True
  | a :: r, v :: q => aa_mv ν a v ∧ aa_ml ν r q
  | _, _ => False
def aa_ms (ν : List Int) : List aa_A → List Value → Prop
  | [], [] => True
  | a :: r, v :: q => (a.1 ≠ 0 ∧ aa_mv ν a (some v)) ∧ aa_ms ν r q
  | _, _ => False
def aa_vh (ch : aa_C) (ν : List Int) (g : aa_G) : Prop := ∀ q ∈ ch, ∃ (a b : Nat) (x : Int), aa_ev ν q.1.1 = some (a : Int) ∧ aa_ev ν q.1.2 = some (b : Int) ∧ aa_ev ν q.2 = some x ∧ aa_rd g a b = x
def aa_ok (s : aa_S) (ν : List Int) (g : aa_G) (lv : zz_V) (st : List Value) : Prop := aa_vb s.1.1 ν ∧ aa_vc s.1.2 ν ∧ aa_vh s.2.1 ν g ∧ aa_ml ν s.2.2.1 lv ∧ aa_ms ν s.2.2.2 st
theorem aa_mv_app {ν ρ : List Int} {a : aa_A} {v : Option Value} (h : aa_mv ν a v) : aa_mv (ν ++ ρ) a v := by
  obtain ⟨k, f⟩ := a
  unfold aa_mv at h ⊢
  dsimp only at h ⊢
  split at h
  · trivial
  · obtain ⟨w, h1, h2⟩ := h
    exact ⟨w, h1, aa_ev_app h2⟩
  · obtain ⟨w, h1, h2⟩ := h
    exact ⟨w, h1, aa_ev_app h2⟩
  · obtain ⟨w, h1, h2⟩ := h
    exact ⟨w, h1, aa_ev_app h2⟩
  · exact h
  · exact h.elim
theorem aa_ml_app {ν ρ : List Int} : ∀ {l : List aa_A} {q : zz_V}, aa_ml ν l q → aa_ml (ν ++ ρ) l q
  | [], [], _ => trivial
  | a :: l, v :: q, h => ⟨aa_mv_app h.1, aa_ml_app h.2⟩
  | [], _ :: _, h => h.elim
  | _ :: _, [], h => h.elim
theorem aa_ms_app {ν ρ : List Int} : ∀ {l : List aa_A} {q : List Value}, aa_ms ν l q → aa_ms (ν ++ ρ) l q
  | [], [], _ => trivial
  | a :: l, v :: q, h => ⟨⟨h.1.1, aa_mv_app h.1.2⟩, aa_ms_app h.2⟩
  | [], _ :: _, h => h.elim
  | _ :: _, [], h => h.elim
theorem aa_vc_app {ν ρ : List Int} {cs : List aa_F} (h : aa_vc cs ν) : aa_vc cs (ν ++ ρ) := fun f hf => by
  obtain ⟨x, h1, h2⟩ := h f hf
  exact ⟨x, aa_ev_app h1, h2⟩
theorem aa_vh_app {ν ρ : List Int} {ch : aa_C} {g : aa_G} (h : aa_vh ch ν g) : aa_vh ch (ν ++ ρ) g := fun q hq => by
  obtain ⟨a, b, x, h1, h2, h3, h4⟩ := h q hq
  exact ⟨a, b, x, aa_ev_app h1, aa_ev_app h2, aa_ev_app h3, h4⟩
theorem aa_vb_app {iv jv : List aa_I} {ν ρ : List Int} (h : aa_vb iv ν) (hl : ρ.length = jv.length) (h2 : ∀ (i : Nat) (q : aa_I) (v : Int), jv[i]? = some q → ρ[i]? = some v → q.1 ≤ v ∧ v ≤ q.2.1 ∧ (q.2.2 ≠ 0 → 0 ≤ v ∧ aa_gc v.toNat = q.2.2)) : aa_vb (iv ++ jv) (ν ++ ρ) := by
  refine ⟨by rw [List.length_append, List.length_append, h.1, hl], fun i q v hq hv => ?_⟩
  by_cases hi : i < iv.length
  · rw [List.getElem?_append_left hi] at hq
    rw [List.getElem?_append_left (by rw [h.1]; exact hi)] at hv
    exact h.2 i q v hq hv
  · rw [List.getElem?_append_right (by omega)] at hq
    rw [List.getElem?_append_right (by rw [h.1]; omega), h.1] at hv
    exact h2 _ q v hq hv
theorem aa_vb_new {iv : List aa_I} {ν : List Int} (h : aa_vb iv ν) {lo hi v : Int} {gr : Nat} (h1 : lo ≤ v) (h2 : v ≤ hi) (h3 : gr ≠ 0 → 0 ≤ v ∧ aa_gc v.toNat = gr) : aa_vb (iv ++ [(lo, hi, gr)]) (ν ++ [v]) := by
  refine aa_vb_app h rfl fun i q w hq hw => ?_
  cases i with
  | zero =>
    cases hq
    cases hw
    exact ⟨h1, h2, h3⟩
  | succ i => cases hq
theorem aa_ev_new {iv : List aa_I} {ν : List Int} (h : aa_vb iv ν) {v : Int} : aa_ev (ν ++ [v]) (aa_id iv.length) = some v := aa_id_ev (by rw [← h.1, List.getElem?_append_right (Nat.le_refl _), Nat.sub_self]; rfl)
theorem aa_ok_new {s : aa_S} {ν : List Int} {g : aa_G} {lv : zz_V} {st : List Value} (h : aa_ok s ν g lv st) {lo hi v : Int} {gr : Nat} (h1 : lo ≤ v) (h2 : v ≤ hi) (h3 : gr ≠ 0 → 0 ≤ v ∧ aa_gc v.toNat = gr) : aa_ok ((s.1.1 ++ [(lo, hi, gr)], s.1.2), s.2) (ν ++ [v]) g lv st := ⟨aa_vb_new h.1 h1 h2 h3, aa_vc_app h.2.1, aa_vh_app h.2.2.1, aa_ml_app h.2.2.2.1, aa_ms_app h.2.2.2.2⟩
theorem aa_ms_cons {ν : List Int} {a : aa_A} {l : List aa_A} {q : List Value} : aa_ms ν (a :: l) q → ∃ v r, q = v :: r ∧ a.1 ≠ 0 ∧ aa_mv ν a (some v) ∧ aa_ms ν l r := by
  intro h
  cases q with
  | nil => exact h.elim
  | cons v r => exact ⟨v, r, rfl, h.1.1, h.1.2, h.2⟩
theorem aa_ms_int {ν : List Int} {f : aa_F} {l : List aa_A} {q : List Value} (h : aa_ms ν ((1, f) :: l) q) : ∃ (w : Int32) (r : List Value), q = .int w :: r ∧ aa_ev ν f = some w.toInt ∧ aa_ms ν l r := by
  obtain ⟨v, r, rfl, -, ⟨w, h1, h2⟩, h3⟩ := aa_ms_cons h
  cases h1
  exact ⟨w, r, rfl, h2, h3⟩
theorem aa_ms_long {ν : List Int} {f : aa_F} {l : List aa_A} {q : List Value} (h : aa_ms ν ((2, f) :: l) q) : ∃ (w : Int64) (r : List Value), q = .long w :: r ∧ aa_ev ν f = some w.toInt ∧ aa_ms ν l r := by
  obtain ⟨v, r, rfl, -, ⟨w, h1, h2⟩, h3⟩ := aa_ms_cons h
  cases h1
  exact ⟨w, r, rfl, h2, h3⟩
theorem aa_ms_ref {ν : List Int} {f : aa_F} {l : List aa_A} {q : List Value} (h : aa_ms ν ((3, f) :: l) q) : ∃ (k : Nat) (r : List Value), q = .ref k :: r ∧ aa_ev ν f = some (k : Int) ∧ aa_ms ν l r := by
  obtain ⟨v, r, rfl, -, ⟨w, h1, h2⟩, h3⟩ := aa_ms_cons h
  cases h1
  exact ⟨w, r, rfl, h2, h3⟩
theorem aa_ms_null {ν : List Int} {f : aa_F} {l : List aa_A} {q : List Value} (h : aa_ms ν ((4, f) :: l) q) : ∃ (r : List Value), q = .null :: r ∧ aa_ms ν l r := by
  obtain ⟨v, r, rfl, -, h1, h3⟩ := aa_ms_cons h
  cases h1
  exact ⟨r, rfl, h3⟩
theorem aa_ml_get {ν : List Int} : ∀ {l : List aa_A} {q : zz_V}, aa_ml ν l q → ∀ {k : Nat} {a : aa_A}, l[k]? = some a → ∃ v, q[k]? = some v ∧ aa_mv ν a v
  | a :: l, v :: q, h, 0, b, hk => by
    cases hk
    exact ⟨v, rfl, h.1⟩
  | a :: l, v :: q, h, k + 1, b, hk => aa_ml_get (l := l) (q := q) h.2 (k := k) hk
  | [], [], _, k, b, hk => by cases hk
  | [], _ :: _, h, _, _, _ => h.elim
  | _ :: _, [], h, _, _, _ => h.elim
theorem aa_ml_set {ν : List Int} : ∀ {l : List aa_A} {q : zz_V}, aa_ml ν l q → ∀ {a : aa_A} {v : Option Value} (k : Nat), aa_mv ν a v → aa_ml ν (l.set k a) (q.set k v)
  | a :: l, v :: q, h, b, w, 0, hk => ⟨hk, h.2⟩
  | a :: l, v :: q, h, b, w, k + 1, hk => ⟨h.1, aa_ml_set h.2 k hk⟩
  | [], [], _, _, _, k, hk => trivial
  | [], _ :: _, h, _, _, _, _ => h.elim
  | _ :: _, [], h, _, _, _, _ => h.elim
theorem aa_ml_len {ν : List Int} : ∀ {l : List aa_A} {q : zz_V}, aa_ml ν l q → q.length = l.length
  | a :: l, v :: q, h => by rw [List.length_cons, List.length_cons, aa_ml_len h.2]
  | [], [], _ => rfl
  | [], _ :: _, h => h.elim
  | _ :: _, [], h => h.elim
/-- a local is laid: a long whose half goes is not known any more -/
def aa_pre (lv : List aa_A) : Nat → List aa_A
  | 0 => lv
  | i + 1 => match lv[i]? with
    | some (2, _) => lv.set i (0, aa_c 0)
    | _ => lv
theorem aa_ml_forget {ν : List Int} : ∀ {l : List aa_A} {q : zz_V}, aa_ml ν l q → ∀ {i : Nat} {f : aa_F}, l[i]? = some (0, f) → aa_ml ν l (q.set i none)
  | a :: l, v :: q, h, 0, f, hk => by
    cases hk
    exact ⟨trivial, h.2⟩
  | a :: l, v :: q, h, i + 1, f, hk => ⟨h.1, aa_ml_forget (l := l) (q := q) h.2 (i := i) hk⟩
  | [], [], _, i, f, hk => by cases hk
  | [], _ :: _, h, _, _, _ => h.elim
  | _ :: _, [], h, _, _, _ => h.elim
theorem aa_pre_ok {ν : List Int} {l : List aa_A} {q : zz_V} (h : aa_ml ν l q) (i : Nat) : aa_ml ν (aa_pre l i) (zz_pre q i) := by
  cases i with
  | zero => exact h
  | succ i =>
    unfold aa_pre zz_pre
    dsimp only
    cases ha : l[i]? with
    | none =>
      have : q[i]? = none := by
        rw [List.getElem?_eq_none_iff, aa_ml_len h]
        exact List.getElem?_eq_none_iff.mp ha
      rw [this]
      exact h
    | some a =>
      obtain ⟨v, hv, hm⟩ := aa_ml_get h ha
      rw [hv]
      have hset : ∀ b : aa_A, aa_mv ν b none → aa_ml ν (l.set i b) (q.set i none) := fun b hb => aa_ml_set h i hb
      obtain ⟨k, f⟩ := a
      match k, hm with
      | 0, hm =>
        show aa_ml ν l (match some v with
          | some (some w) => if w.category = 2 then q.set i none else q
          | _ => q)
        cases v with
        | none => exact h
        | some w =>
          show aa_ml ν l (if w.category = 2 then q.set i none else q)
          split
          · exact aa_ml_forget h ha
          · exact h
      | 1, hm =>
        obtain ⟨w, rfl, hw⟩ := hm
        exact h
      | 2, hm =>
        obtain ⟨w, rfl, hw⟩ := hm
        exact hset (0, aa_c 0) trivial
      | 3, hm =>
        obtain ⟨w, rfl, hw⟩ := hm
        exact h
      | 4, hm =>
        have hm : v = some .null := hm
        subst hm
        exact h
      | k + 5, hm => exact hm.elim
theorem aa_st1_ok {ν : List Int} {l : List aa_A} {q : zz_V} (h : aa_ml ν l q) (i : Nat) {a : aa_A} {v : Value} (hv : aa_mv ν a (some v)) : aa_ml ν ((aa_pre l i).set i a) (zz_st1 q i v) := aa_ml_set (aa_pre_ok h i) i hv
theorem aa_st2_ok {ν : List Int} {l : List aa_A} {q : zz_V} (h : aa_ml ν l q) (i : Nat) {a : aa_A} {v : Value} (hv : aa_mv ν a (some v)) : aa_ml ν (((aa_pre l i).set i a).set (i + 1) (0, aa_c 0)) (zz_st2 q i v) := aa_ml_set (aa_ml_set (aa_pre_ok h i) i hv) (i + 1) trivial
/-- a form is not below 0: what is known with that; none: it can't be -/
def aa_as (s : aa_S) (f : aa_F) : Option aa_S :=
  if aa_hi s.1.1 s.1.2 f < 0 then none else if 0 ≤ aa_lb s.1.1 f then some s else match aa_nar f f.2 s.1.1 with
    | none => none
    | some iv => some ((iv, match f.2 with
      | [] => s.1.2
      | [_] => s.1.2
      | _ => f :: s.1.2), s.2)
theorem aa_as_ok {s : aa_S} {ν : List Int} {g : aa_G} {lv : zz_V} {st : List Value} (h : aa_ok s ν g lv st) {f : aa_F} {x : Int} (hf : aa_ev ν f = some x) (hx : 0 ≤ x) : ∃ s', aa_as s f = some s' ∧ aa_ok s' ν g lv st := by
  have h1 := aa_hi_ok h.1 h.2.1 hf
  unfold aa_as
  rw [if_neg (by omega)]
  split
  · exact ⟨s, rfl, h⟩
  · obtain ⟨y, hy, -⟩ := aa_ev_some.mp hf
    obtain ⟨iv, e, hb⟩ := aa_nar_ok hf hx f.2 s.1.1 h.1 (aa_tm_all _ _ hy)
    rw [e]
    refine ⟨_, rfl, hb, ?_, h.2.2.1, h.2.2.2.1, h.2.2.2.2⟩
    dsimp only
    split
    · exact h.2.1
    · exact h.2.1
    · intro f' hf'
      rcases List.mem_cons.mp hf' with rfl | hf'
      · exact ⟨x, hf, hx⟩
      · exact h.2.1 f' hf'
def aa_as2 (s : aa_S) (f : aa_F) : Option aa_S := match aa_as s f with
  | none => none
  | some s' => aa_as s' (aa_scale f (-1))
theorem aa_as2_ok {s : aa_S} {ν : List Int} {g : aa_G} {lv : zz_V} {st : List Value} (h : aa_ok s ν g lv st) {f : aa_F} (hf : aa_ev ν f = some 0) : ∃ s', aa_as2 s f = some s' ∧ aa_ok s' ν g lv st := by
  obtain ⟨s1, e1, h1⟩ := aa_as_ok h hf (Int.le_refl 0)
  unfold aa_as2
  rw [e1]
  exact aa_as_ok h1 (aa_scale_ev (k := -1) hf) (by decide)
/-- the group of a reference -/
def aa_gp (iv : List aa_I) (f : aa_F) : Nat := match f.2 with
  | [] => aa_gc f.1.toNat
  | [(i, c)] => if f.1 = 0 ∧ c = 1 then (match iv[i]? with
    | some q => q.2.2
    | none => 0) else 0
  | _ => 0
theorem aa_gp_ok {iv : List aa_I} {ν : List Int} (hb : aa_vb iv ν) {f : aa_F} {k : Nat} (h : aa_ev ν f = some (k : Int)) (h0 : aa_gp iv f ≠ 0) : aa_gc k = aa_gp iv f := by
  obtain ⟨a, ha, hx⟩ := aa_ev_some.mp h
  obtain ⟨c0, l⟩ := f
  unfold aa_gp at h0 ⊢
  dsimp only at ha hx h0 ⊢
  match l, ha, h0 with
  | [], ha, h0 =>
    cases ha
    dsimp only
    rw [show c0 = (k : Int) by omega]
    rfl
  | [(i, c)], ha, h0 =>
    dsimp only at h0 ⊢
    split at h0
    · rename_i hc
      rw [if_pos hc]
      obtain ⟨v, y, h1, h2, e⟩ := aa_tm_cons.mp ha
      cases h2
      have hv : v = (k : Int) := by rw [hc.1] at hx; rw [e, hc.2] at hx; omega
      subst hv
      cases hq : iv[i]? with
      | none => rw [hq] at h0; exact absurd rfl h0
      | some q =>
        rw [hq] at h0
        exact ((hb.2 i q _ hq h1).2.2 h0).2
    · exact absurd rfl h0
  | _ :: _ :: _, ha, h0 => exact absurd rfl h0
end
section
/-! AN ANALYSER OF METHODS: cells -/
abbrev aa_W : Type := List (Nat × Int × Int)
def aa_H (g : aa_G) : zz_H := (zz_hs.1, (zz_ly, g))
theorem aa_fit_at {k : Nat} (h : aa_gc k ≠ 0) : k ≤ zz_hs.1.1 ∧ k ≠ 0 ∧ aa_fit (zz_ly k) (aa_gi (aa_gc k)) = true := by
  have h1 : k ≤ zz_hs.1.1 := by
    by_cases hk : k ≤ zz_hs.1.1
    · exact hk
    · refine absurd ?_ h
      unfold aa_gc
      rw [show Nat.ble k 553 = false from by
        cases e : Nat.ble k 553 with
        | false => rfl
        | true => exact absurd (Nat.le_of_ble_eq_true e) hk]
      rfl
  refine ⟨h1, fun e => h (by rw [e]; rfl), ?_⟩
  have h2 := List.all_eq_true.mp aa_fit_all k (List.mem_range.mpr (Nat.lt_succ_of_le h1))
  rw [Bool.or_eq_true] at h2
  rcases h2 with h2 | h2
  · exact absurd (Nat.eq_of_beq_eq_true h2) h
  · exact h2
theorem aa_lay_at {k : Nat} (g : aa_G) (h : aa_gc k ≠ 0) : zz_lay (aa_H g) k = some (zz_ly k) := by
  unfold zz_lay
  exact if_pos (aa_fit_at h).1
theorem aa_slots_ok : ∀ {ts : List Nat} {fs : List (Option (Option Nat))}, aa_slots ts fs = true → ∀ (y : Nat), (ts[y]? = some 0 → fs[y]? = some none) ∧ (∀ t, ts[y]? = some (t + 1) → ∃ q, fs[y]? = some (some (some q)) ∧ aa_gc q = t + 1)
  | [], [], _, y => ⟨fun h => (by cases h), fun t h => (by cases h)⟩
  | [], _ :: _, h, _ => by cases h
  | t :: ts, [], h, _ => by cases t <;> cases h
  | 0 :: ts, some _ :: fs, h, _ => by cases h
  | (t + 1) :: ts, none :: fs, h, _ => by cases h
  | (t + 1) :: ts, some none :: fs, h, _ => by cases h
  | 0 :: ts, none :: fs, h, 0 => ⟨fun _ => rfl, fun t h => by cases h⟩
  | 0 :: ts, none :: fs, h, y + 1 => aa_slots_ok (ts := ts) (fs := fs) h y
  | (t + 1) :: ts, some (some q) :: fs, h, 0 => by
    have h : (Nat.beq (aa_gc q) (t + 1) && aa_slots ts fs) = true := h
    rw [Bool.and_eq_true] at h
    refine ⟨fun h => (by cases h), fun u hu => ⟨q, rfl, ?_⟩⟩
    cases hu
    exact Nat.eq_of_beq_eq_true h.1
  | (t + 1) :: ts, some (some q) :: fs, h, y + 1 => by
    have h : (Nat.beq (aa_gc q) (t + 1) && aa_slots ts fs) = true := h
    rw [Bool.and_eq_true] at h
    exact aa_slots_ok (ts := ts) (fs := fs) h.2 y
theorem aa_obj {k c : Nat} {n : Nat} {ts : List Nat} (g : aa_G) (h0 : aa_gc k ≠ 0) (h : aa_gi (aa_gc k) = (0, c, n, ts)) : ∃ fs, zz_ly k = .inr (.inr (c, fs)) ∧ zz_obj (aa_H g) k c = some fs ∧ aa_slots ts fs = true := by
  have h1 := (aa_fit_at h0).2.2
  rw [h] at h1
  have h2 := aa_lay_at g h0
  unfold zz_obj
  rw [h2]
  revert h1
  cases hq : zz_ly k with
  | inl q => intro h1; cases h1
  | inr q =>
    cases q with
    | inl q => intro h1; cases h1
    | inr q =>
      obtain ⟨d, fs⟩ := q
      intro h1
      have h1 : (Nat.beq d c && aa_slots ts fs) = true := h1
      rw [Bool.and_eq_true] at h1
      have e := Nat.eq_of_beq_eq_true h1.1
      subst e
      exact ⟨fs, rfl, by dsimp only; rw [if_pos rfl], h1.2⟩
theorem aa_arr {k t n : Nat} {ts : List Nat} (g : aa_G) (h0 : aa_gc k ≠ 0) (h : aa_gi (aa_gc k) = (1, t, n, ts)) : zz_ly k = .inl (t, n) ∧ zz_lay (aa_H g) k = some (.inl (t, n)) ∧ zz_arr (aa_H g) k t = some n ∧ ∀ u, u ≠ t → zz_arr (aa_H g) k u = none := by
  have h1 := (aa_fit_at h0).2.2
  rw [h] at h1
  have h2 := aa_lay_at g h0
  unfold zz_arr
  rw [h2]
  revert h1
  cases hq : zz_ly k with
  | inr q =>
    cases q with
    | inl q => intro h1; cases h1
    | inr q => intro h1; cases h1
  | inl q =>
    obtain ⟨d, l⟩ := q
    intro h1
    have h1 : (Nat.beq d t && Nat.beq l n) = true := h1
    rw [Bool.and_eq_true] at h1
    have e := Nat.eq_of_beq_eq_true h1.1
    have e2 := Nat.eq_of_beq_eq_true h1.2
    subst e
    subst e2
    exact ⟨rfl, rfl, by dsimp only; rw [if_pos rfl], fun u hu => by dsimp only; rw [if_neg (Ne.symm hu)]⟩
theorem aa_rar {k t n : Nat} {tg : Nat} {ts : List Nat} (g : aa_G) (h0 : aa_gc k ≠ 0) (h : aa_gi (aa_gc k) = (2, t, n, tg :: ts)) : ∃ rs, zz_rar (aa_H g) k = some (t, rs) ∧ rs.length = n ∧ (t = 3 ∨ t = 4) ∧ ∀ r ∈ rs, ∃ q, r = some q ∧ aa_gc q = tg := by
  have h1 := (aa_fit_at h0).2.2
  rw [h] at h1
  have h2 := aa_lay_at g h0
  unfold zz_rar
  rw [h2]
  revert h1
  cases hq : zz_ly k with
  | inl q => intro h1; cases h1
  | inr q =>
    cases q with
    | inr q => intro h1; cases h1
    | inl q =>
      obtain ⟨d, rs⟩ := q
      intro h1
      have h1 : (Nat.beq d t && (Nat.beq rs.length n && ((Nat.beq t 3 || Nat.beq t 4) && rs.all (fun r => match r with
        | some q => Nat.beq (aa_gc q) tg
        | none => false)))) = true := h1
      simp only [Bool.and_eq_true, Bool.or_eq_true] at h1
      have e := Nat.eq_of_beq_eq_true h1.1
      subst e
      refine ⟨rs, rfl, Nat.eq_of_beq_eq_true h1.2.1, h1.2.2.1.imp Nat.eq_of_beq_eq_true Nat.eq_of_beq_eq_true, fun r hr => ?_⟩
      have h3 := List.all_eq_true.mp h1.2.2.2 r hr
      cases r with
      | none => cases h3
      | some q => exact ⟨q, rfl, Nat.eq_of_beq_eq_true h3⟩
def aa_inv (g : aa_G) : Prop := ∀ k j, (aa_iv (aa_gc k) j).1 ≤ (g k j).toInt ∧ (g k j).toInt ≤ (aa_iv (aa_gc k) j).2
/-- only cells of these places have changed -/
def aa_fr (ws : aa_W) (g g' : aa_G) : Prop := (∀ (k j : Nat), g' k j = g k j ∨ ∃ w ∈ ws, w.1 = aa_gc k ∧ w.2.1 ≤ (j : Int) ∧ (j : Int) ≤ w.2.2) ∧ (aa_dep g' = aa_dep g ∨ ∃ w ∈ ws, w.1 = 900)
theorem aa_fr.rf {ws : aa_W} {g : aa_G} : aa_fr ws g g := ⟨fun _ _ => .inl rfl, .inl rfl⟩
theorem aa_fr.tr {ws : aa_W} {g g1 g2 : aa_G} (h1 : aa_fr ws g g1) (h2 : aa_fr ws g1 g2) : aa_fr ws g g2 := by
  refine ⟨fun k j => ?_, ?_⟩
  · rcases h2.1 k j with h | h
    · rcases h1.1 k j with q | q
      · exact .inl (h.trans q)
      · exact .inr q
    · exact .inr h
  · rcases h2.2 with h | h
    · rcases h1.2 with q | q
      · exact .inl (h.trans q)
      · exact .inr q
    · exact .inr h
def aa_eqT : List (Nat × Int) → List (Nat × Int) → Bool
  | [], [] => true
  | (i, c) :: r, (j, d) :: q => Nat.beq i j && (decide (c = d) && aa_eqT r q)
  | _, _ => false
theorem aa_eqT_ok : ∀ {a b : List (Nat × Int)}, aa_eqT a b = true → a = b
  | [], [], _ => rfl
  | [], _ :: _, h => by cases h
  | _ :: _, [], h => by cases h
  | (i, c) :: r, (j, d) :: q, h => by
    have h : (Nat.beq i j && (decide (c = d) && aa_eqT r q)) = true := h
    simp only [Bool.and_eq_true, decide_eq_true_eq] at h
    rw [Nat.eq_of_beq_eq_true h.1, h.2.1, aa_eqT_ok h.2.2]
def aa_eqf (f g : aa_F) : Bool := decide (f.1 = g.1) && aa_eqT f.2 g.2
theorem aa_eqf_ok {f g : aa_F} (h : aa_eqf f g = true) : f = g := by
  unfold aa_eqf at h
  rw [Bool.and_eq_true, decide_eq_true_eq] at h
  obtain ⟨a, b⟩ := f
  obtain ⟨c, d⟩ := g
  have e1 : a = c := h.1
  have e2 : b = d := aa_eqT_ok h.2
  rw [e1, e2]
def aa_lk (r sl : aa_F) : aa_C → Option aa_F
  | [] => none
  | q :: l => if (aa_eqf q.1.1 r && aa_eqf q.1.2 sl) = true then some q.2 else aa_lk r sl l
theorem aa_lk_ok {r sl f : aa_F} : ∀ {l : aa_C}, aa_lk r sl l = some f → ((r, sl), f) ∈ l
  | q :: l, h => by
    rw [aa_lk] at h
    split at h
    · rename_i h0
      cases h
      rw [Bool.and_eq_true] at h0
      obtain ⟨⟨a, b⟩, c⟩ := q
      have e1 : a = r := aa_eqf_ok h0.1
      have e2 : b = sl := aa_eqf_ok h0.2
      rw [e1, e2]
      exact List.mem_cons_self
    · exact List.mem_cons_of_mem _ (aa_lk_ok h)
/-- the numbers that a form can be -/
def aa_vals (iv : List aa_I) : List (Nat × Int) → List Int → Option (List Int)
  | [], acc => some acc
  | (i, c) :: r, acc => match iv[i]? with
    | none => none
    | some q => if 6000 < (q.2.1 - q.1 + 1) * acc.length then none else aa_vals iv r (acc.flatMap fun v => (List.range (q.2.1 - q.1 + 1).toNat).map fun (j : Nat) => v + c * (q.1 + (j : Int)))
theorem aa_vals_ok {iv : List aa_I} {ν : List Int} (hb : aa_vb iv ν) : ∀ (l : List (Nat × Int)) (acc : List Int) (x a : Int) (vs : List Int), aa_tm ν l = some x → a ∈ acc → aa_vals iv l acc = some vs → a + x ∈ vs
  | [], acc, x, a, vs, h, ha, hv => by
    cases h
    cases hv
    rw [Int.add_zero]
    exact ha
  | (i, c) :: r, acc, x, a, vs, h, ha, hv => by
    obtain ⟨v, y, h1, h2, rfl⟩ := aa_tm_cons.mp h
    rw [aa_vals] at hv
    split at hv
    · cases hv
    · rename_i q hq
      split at hv
      · cases hv
      · have hbq := hb.2 i q v hq h1
        have := aa_vals_ok hb r _ y (a + c * v) vs h2 ?_ hv
        · rwa [Int.add_assoc] at this
        · refine List.mem_flatMap.mpr ⟨a, ha, List.mem_map.mpr ⟨(v - q.1).toNat, List.mem_range.mpr (by omega), ?_⟩⟩
          rw [show q.1 + (((v - q.1).toNat : Nat) : Int) = v by omega]
/-- bounds of what stands at these places of a group's cells -/
def aa_hullL (gr : Nat) : List Int → Int × Int → Int × Int
  | [], a => a
  | v :: r, a => let q := aa_iv gr v.toNat; aa_hullL gr r (if q.1 < a.1 then q.1 else a.1, if a.2 < q.2 then q.2 else a.2)
theorem aa_hullL_ok {gr : Nat} {x : Int} : ∀ (vs : List Int) (a : Int × Int), (a.1 ≤ x ∧ x ≤ a.2) ∨ (∃ v ∈ vs, (aa_iv gr v.toNat).1 ≤ x ∧ x ≤ (aa_iv gr v.toNat).2) → (aa_hullL gr vs a).1 ≤ x ∧ x ≤ (aa_hullL gr vs a).2
  | [], a, h => by
    rcases h with h | ⟨v, hv, -⟩
    · exact h
    · cases hv
  | v :: r, a, h => by
    rw [aa_hullL]
    refine aa_hullL_ok r _ ?_
    rcases h with h | ⟨w, hw, h1, h2⟩
    · left
      dsimp only
      constructor
      · split <;> omega
      · split <;> omega
    · rcases List.mem_cons.mp hw with rfl | hw
      · left
        dsimp only
        constructor
        · split <;> omega
        · split <;> omega
      · exact .inr ⟨w, hw, h1, h2⟩
def aa_hull (gr : Nat) (iv : List aa_I) (f : aa_F) : Option (Int × Int) := if Nat.beq gr aa_all = true ∨ f.2 = [] then (match aa_vals iv f.2 [f.1] with
    | some (v :: r) => some (aa_hullL gr r (aa_iv gr v.toNat))
    | _ => none) else if aa_flat gr = true then some (aa_iv gr 0) else none
theorem aa_hull_ok {gr : Nat} {iv : List aa_I} {ν : List Int} (hb : aa_vb iv ν) {f : aa_F} {j : Nat} (hf : aa_ev ν f = some (j : Int)) {q : Int × Int} (h : aa_hull gr iv f = some q) {x : Int} (hx : (aa_iv gr j).1 ≤ x ∧ x ≤ (aa_iv gr j).2) : q.1 ≤ x ∧ x ≤ q.2 := by
  unfold aa_hull at h
  split at h
  · obtain ⟨y, hy, e⟩ := aa_ev_some.mp hf
    split at h
    · rename_i v r hv
      cases h
      have hm := aa_vals_ok hb f.2 [f.1] y f.1 _ hy List.mem_cons_self hv
      rw [← e] at hm
      refine aa_hullL_ok r _ ?_
      rcases List.mem_cons.mp hm with hm | hm
      · left
        rw [← hm]
        exact hx
      · exact .inr ⟨_, hm, hx⟩
    · cases h
  · split at h
    · rename_i hfl
      cases h
      rw [aa_flat_ok hfl 0 j]
      exact hx
    · cases h
def aa_vir (r : aa_F) : Bool := match r.2 with
  | [] => decide (r.1 = 600)
  | _ => false
theorem aa_vir_ok {r : aa_F} (h : aa_vir r = true) : r = aa_c 600 := by
  obtain ⟨a, b⟩ := r
  unfold aa_vir at h
  dsimp only at h
  split at h
  · have := of_decide_eq_true h
    subst this
    rfl
  · cases h
/-- the group whose writes touch a cell -/
def aa_gk (iv : List aa_I) (r : aa_F) : Nat := match r.2 with
  | [] => if r.1 = 601 then 38 else aa_gp iv r
  | _ => aa_gp iv r
theorem aa_gk_ok {iv : List aa_I} {ν : List Int} (hb : aa_vb iv ν) {r : aa_F} {a : Nat} (h : aa_ev ν r = some (a : Int)) (h0 : aa_gk iv r ≠ 0) : ∃ a', aa_gc a' = aa_gk iv r ∧ ((a' = a ∧ aa_gc a ≠ 0) ∨ (a = 601 ∧ a' = 543)) ∧ ∀ (g g' : aa_G) (b : Nat), g' a' b = g a' b → aa_rd g' a b = aa_rd g a b := by
  unfold aa_gk at h0 ⊢
  split at h0
  · rename_i hr
    split at h0
    · rename_i h1
      rw [if_pos h1]
      obtain ⟨y, hy, e⟩ := aa_ev_some.mp h
      rw [hr] at hy
      cases hy
      have ha : a = 601 := by omega
      subst ha
      refine ⟨543, rfl, .inr ⟨rfl, rfl⟩, fun g g' b hg => ?_⟩
      show (g' 543 b).toInt % 256 = (g 543 b).toInt % 256
      rw [hg]
    · rename_i h1
      rw [if_neg h1]
      have hg := aa_gp_ok hb h h0
      have hn : aa_gc a ≠ 0 := by rw [hg]; exact h0
      exact ⟨a, hg, .inl ⟨rfl, hn⟩, fun g g' b hgg => by rw [aa_rd_of hn, aa_rd_of hn, hgg]⟩
  · have hg := aa_gp_ok hb h h0
    have hn : aa_gc a ≠ 0 := by rw [hg]; exact h0
    exact ⟨a, hg, .inl ⟨rfl, hn⟩, fun g g' b hgg => by rw [aa_rd_of hn, aa_rd_of hn, hgg]⟩
/-- no codes yet: no depth -/
def aa_ldv (s : aa_S) (sl : aa_F) : Option (aa_F × aa_S) := match aa_lk (aa_c 540) (aa_c 10) s.2.1, aa_lk (aa_c 540) (aa_c 11) s.2.1 with
  | some nb, some b => (match aa_lk (aa_c 544) (aa_plus (aa_scale nb 7) 5) s.2.1 with
    | some a => if aa_eqf a b = true ∧ 0 ≤ aa_lo s.1.1 s.1.2 nb then some (aa_c 0, (s.1, (((aa_c 600, sl), aa_c 0) :: s.2.1, s.2.2))) else none
    | none => none)
  | _, _ => none
def aa_ld (s : aa_S) (r sl : aa_F) : Option (aa_F × aa_S) := match aa_lk r sl s.2.1 with
  | some f => some (f, s)
  | none => if aa_vir r = true then aa_ldv s sl else if Nat.beq (aa_gp s.1.1 r) 0 = true then none else match aa_hull (aa_gp s.1.1 r) s.1.1 sl with
    | none => none
    | some q => if q.1 = q.2 then some (aa_c q.1, (s.1, (((r, sl), aa_c q.1) :: s.2.1, s.2.2))) else some (aa_id s.1.1.length, ((s.1.1 ++ [(q.1, q.2, 0)], s.1.2), (((r, sl), aa_id s.1.1.length) :: s.2.1, s.2.2)))
theorem aa_vh_cons {ch : aa_C} {ν : List Int} {g : aa_G} (h : aa_vh ch ν g) {r sl f : aa_F} {a b : Nat} {x : Int} (h1 : aa_ev ν r = some (a : Int)) (h2 : aa_ev ν sl = some (b : Int)) (h3 : aa_ev ν f = some x) (h4 : aa_rd g a b = x) : aa_vh (((r, sl), f) :: ch) ν g := fun q hq => by
  rcases List.mem_cons.mp hq with rfl | hq
  · exact ⟨a, b, x, h1, h2, h3, h4⟩
  · exact h q hq
theorem aa_ld_ok {s : aa_S} {ν : List Int} {g : aa_G} {lv : zz_V} {st : List Value} (h : aa_ok s ν g lv st) (hi : aa_inv g) {r sl f : aa_F} {s' : aa_S} (e : aa_ld s r sl = some (f, s')) {k j : Nat} (hr : aa_ev ν r = some (k : Int)) (hs : aa_ev ν sl = some (j : Int)) : s'.2.2 = s.2.2 ∧ ∃ ρ, aa_ok s' (ν ++ ρ) g lv st ∧ aa_ev (ν ++ ρ) f = some (aa_rd g k j) := by
  unfold aa_ld at e
  split at e
  · rename_i f0 hl
    cases e
    obtain ⟨a, b, x, h1, h2, h3, h4⟩ := h.2.2.1 _ (aa_lk_ok hl)
    have h1 : aa_ev ν r = some (a : Int) := h1
    have h2 : aa_ev ν sl = some (b : Int) := h2
    rw [hr] at h1
    rw [hs] at h2
    have e1 : k = a := Int.ofNat.inj (Option.some.inj h1)
    have e2 : j = b := Int.ofNat.inj (Option.some.inj h2)
    refine ⟨rfl, [], by rw [List.append_nil]; exact h, ?_⟩
    rw [List.append_nil, e1, e2, h4]
    exact h3
  · split at e
    · rename_i hv
      have hv := aa_vir_ok hv
      subst hv
      rw [aa_c_ev] at hr
      have hk : k = 600 := by
        have := Option.some.inj hr
        omega
      subst hk
      unfold aa_ldv at e
      split at e
      · rename_i nb b hnb hb
        split at e
        · rename_i a ha
          split at e
          · rename_i hc
            obtain ⟨hc, hc0⟩ := hc
            have hc := aa_eqf_ok hc
            subst hc
            cases e
            have read : ∀ {r0 s0 f0 : aa_F} {k0 : Int}, aa_lk r0 s0 s.2.1 = some f0 → r0 = aa_c k0 → k0 = 540 ∨ k0 = 544 → ∀ y : Int, aa_ev ν s0 = some y → ∃ x, aa_ev ν f0 = some x ∧ (g k0.toNat y.toNat).toInt = x := by
              intro r0 s0 f0 k0 hl hr0 hk0 y hy
              obtain ⟨a1, b1, x1, h1, h2, h3, h4⟩ := h.2.2.1 _ (aa_lk_ok hl)
              subst hr0
              have h1 : aa_ev ν (aa_c k0) = some (a1 : Int) := h1
              have h2 : aa_ev ν s0 = some (b1 : Int) := h2
              rw [aa_c_ev] at h1
              rw [hy] at h2
              have e1 := Option.some.inj h1
              have e2 := Option.some.inj h2
              have e3 : a1 = 540 ∨ a1 = 544 := by omega
              refine ⟨x1, h3, ?_⟩
              rw [show k0.toNat = a1 by omega, show y.toNat = b1 by omega, ← h4]
              refine (aa_rd_of ?_).symm
              rcases e3 with rfl | rfl <;> exact Nat.succ_ne_zero _
            obtain ⟨x1, n1, n2⟩ := read hnb rfl (.inl rfl) 10 aa_c_ev
            obtain ⟨x2, n3, n4⟩ := read hb rfl (.inl rfl) 11 aa_c_ev
            have c0 := aa_lo_ok h.1 h.2.1 n1
            obtain ⟨x3, n5, n6⟩ := read ha rfl (.inr rfl) (7 * x1 + 5) (aa_plus_ev (aa_scale_ev n1))
            rw [n3] at n5
            cases n5
            have n2 : (g 540 10).toInt = x1 := n2
            have n4 : (g 540 11).toInt = x2 := n4
            have n6 : (g 544 (7 * x1 + 5).toNat).toInt = x2 := n6
            have hd : aa_dep g = 0 := by
              have hb : aa_beg g = x2.toNat := by
                unfold aa_beg
                rw [n2, show 7 * x1.toNat + 5 = (7 * x1 + 5).toNat by omega, n6]
              unfold aa_dep
              rw [hb, n4, Nat.sub_self, if_neg (Nat.lt_irrefl _)]
              rfl
            refine ⟨rfl, [], ?_, ?_⟩
            · rw [List.append_nil]
              exact ⟨h.1, h.2.1, aa_vh_cons h.2.2.1 (b := j) (a := 600) aa_c_ev hs aa_c_ev hd, h.2.2.2.1, h.2.2.2.2⟩
            · rw [List.append_nil]
              show aa_ev ν (aa_c 0) = some (aa_dep g)
              rw [hd]
              exact aa_c_ev
          · cases e
        · cases e
      · cases e
    · split at e
      · cases e
      · rename_i hg
        have hg : aa_gp s.1.1 r ≠ 0 := fun q => hg (by rw [q]; rfl)
        split at e
        · cases e
        · rename_i q hq
          have hgc := aa_gp_ok h.1 hr hg
          have hrd : aa_rd g k j = (g k j).toInt := aa_rd_of (by rw [hgc]; exact hg)
          rw [hrd]
          have hv := aa_hull_ok h.1 hs hq (x := (g k j).toInt) (by rw [← hgc]; exact hi k j)
          split at e
          · rename_i hqe
            cases e
            have hx : (g k j).toInt = q.1 := by omega
            refine ⟨rfl, [], ?_, ?_⟩
            · rw [List.append_nil]
              exact ⟨h.1, h.2.1, aa_vh_cons h.2.2.1 hr hs aa_c_ev (hrd.trans hx), h.2.2.2.1, h.2.2.2.2⟩
            · rw [List.append_nil, hx]
              exact aa_c_ev
          · cases e
            have hn := aa_ok_new h hv.1 hv.2 (gr := 0) (fun q => absurd rfl q)
            exact ⟨rfl, [(g k j).toInt], ⟨hn.1, hn.2.1, aa_vh_cons hn.2.2.1 (aa_ev_app hr) (aa_ev_app hs) (aa_ev_new h.1) hrd, hn.2.2.2.1, hn.2.2.2.2⟩, aa_ev_new h.1⟩
theorem aa_ld_at {s : aa_S} {ν : List Int} {g : aa_G} {lv : zz_V} {st : List Value} (h : aa_ok s ν g lv st) (hi : aa_inv g) {r sl f : aa_F} {s' : aa_S} (e : aa_ld s r sl = some (f, s')) {k j : Nat} (hr : aa_ev ν r = some (k : Int)) (hs : aa_ev ν sl = some (j : Int)) (hk : aa_gc k ≠ 0) : s'.2.2 = s.2.2 ∧ ∃ ρ, aa_ok s' (ν ++ ρ) g lv st ∧ aa_ev (ν ++ ρ) f = some (g k j).toInt := by
  have := aa_ld_ok h hi e hr hs
  rwa [aa_rd_of hk] at this
/-- a place that these writes may touch -/
def aa_inw (gr : Nat) (lo hi : Int) : aa_W → Bool
  | [] => false
  | w :: r => (Nat.beq w.1 gr && (decide (w.2.1 ≤ lo) && decide (hi ≤ w.2.2))) || aa_inw gr lo hi r
theorem aa_inw_ok {gr : Nat} {lo hi : Int} : ∀ {ws : aa_W}, aa_inw gr lo hi ws = true → ∃ w ∈ ws, w.1 = gr ∧ w.2.1 ≤ lo ∧ hi ≤ w.2.2
  | w :: r, h => by
    rw [aa_inw, Bool.or_eq_true] at h
    rcases h with h | h
    · simp only [Bool.and_eq_true, decide_eq_true_eq] at h
      exact ⟨w, List.mem_cons_self, Nat.eq_of_beq_eq_true h.1, h.2⟩
    · obtain ⟨v, hv, q⟩ := aa_inw_ok h
      exact ⟨v, List.mem_cons_of_mem _ hv, q⟩
/-- within the bounds of every place -/
def aa_fitL (gr : Nat) (lo hi : Int) : List Int → Bool
  | [] => true
  | v :: r => (decide ((aa_iv gr v.toNat).1 ≤ lo) && decide (hi ≤ (aa_iv gr v.toNat).2)) && aa_fitL gr lo hi r
theorem aa_fitL_ok {gr : Nat} {lo hi : Int} : ∀ {vs : List Int}, aa_fitL gr lo hi vs = true → ∀ v ∈ vs, (aa_iv gr v.toNat).1 ≤ lo ∧ hi ≤ (aa_iv gr v.toNat).2
  | v :: r, h, w, hw => by
    rw [aa_fitL] at h
    simp only [Bool.and_eq_true, decide_eq_true_eq] at h
    rcases List.mem_cons.mp hw with rfl | hw
    · exact h.1
    · exact aa_fitL_ok h.2 w hw
def aa_fits (gr : Nat) (iv : List aa_I) (sl : aa_F) (lo hi : Int) : Bool := if Nat.beq gr aa_all = true ∨ sl.2 = [] then (match aa_vals iv sl.2 [sl.1] with
    | some vs => aa_fitL gr lo hi vs
    | none => false) else aa_flat gr && aa_fitL gr lo hi [0]
theorem aa_fits_ok {gr : Nat} {iv : List aa_I} {ν : List Int} (hb : aa_vb iv ν) {sl : aa_F} {j : Nat} (hs : aa_ev ν sl = some (j : Int)) {lo hi : Int} (h : aa_fits gr iv sl lo hi = true) : (aa_iv gr j).1 ≤ lo ∧ hi ≤ (aa_iv gr j).2 := by
  unfold aa_fits at h
  split at h
  · obtain ⟨y, hy, e⟩ := aa_ev_some.mp hs
    split at h
    · rename_i vs hv
      have hm := aa_vals_ok hb sl.2 [sl.1] y sl.1 _ hy List.mem_cons_self hv
      rw [← e] at hm
      exact aa_fitL_ok h _ hm
    · cases h
  · rw [Bool.and_eq_true] at h
    rw [← aa_flat_ok h.1 0 j]
    exact aa_fitL_ok h.2 0 List.mem_cons_self
/-- this write leaves the ghost as it is -/
def aa_vst (iv : List aa_I) (cs : List aa_F) (ch : aa_C) (gr : Nat) (sl : aa_F) : Bool := !(aa_vdep gr (aa_lo iv cs sl) (aa_hi iv cs sl)) || (Nat.beq gr 39 && (match aa_lk (aa_c 540) (aa_c 10) ch with
  | some nb => decide (0 ≤ aa_lo iv cs nb) && (decide (0 < aa_lo iv cs (aa_add sl (aa_plus (aa_scale nb 7) 5) (-1))) || decide (aa_hi iv cs (aa_add sl (aa_plus (aa_scale nb 7) 5) (-1)) < 0))
  | none => false))
def aa_kp (iv : List aa_I) (cs : List aa_F) (ch : aa_C) (gr : Nat) (r sl : aa_F) (q : (aa_F × aa_F) × aa_F) : Bool :=
  let p := aa_gk iv q.1.1
  if aa_vir q.1.1 = true then aa_vst iv cs ch gr sl else !(Nat.beq p 0) && (!(Nat.beq p gr) || (decide (0 < aa_lo iv cs (aa_add q.1.2 sl (-1))) || (decide (aa_hi iv cs (aa_add q.1.2 sl (-1)) < 0) || (match r.2, q.1.1.2 with
    | [], [] => decide (r.1 ≠ q.1.1.1) && decide (q.1.1.1 ≠ 601)
    | _, _ => false))))
/-- every place that a form can be is one that may be written -/
def aa_inwF (gr : Nat) (iv : List aa_I) (cs : List aa_F) (sl : aa_F) (ws : aa_W) : Bool := if Nat.beq gr aa_all = true then (match aa_vals iv sl.2 [sl.1] with
  | some vs => vs.all fun v => aa_inw gr v v ws
  | none => false) else aa_inw gr (aa_lo iv cs sl) (aa_hi iv cs sl) ws
theorem aa_inwF_ok {gr : Nat} {iv : List aa_I} {cs : List aa_F} {ν : List Int} (hb : aa_vb iv ν) (hc : aa_vc cs ν) {sl : aa_F} {j : Nat} (hs : aa_ev ν sl = some (j : Int)) {ws : aa_W} (h : aa_inwF gr iv cs sl ws = true) : ∃ w ∈ ws, w.1 = gr ∧ w.2.1 ≤ (j : Int) ∧ (j : Int) ≤ w.2.2 := by
  unfold aa_inwF at h
  split at h
  · obtain ⟨y, hy, e⟩ := aa_ev_some.mp hs
    split at h
    · rename_i vs hv
      have hm := aa_vals_ok hb sl.2 [sl.1] y sl.1 _ hy List.mem_cons_self hv
      rw [← e] at hm
      exact aa_inw_ok (List.all_eq_true.mp h _ hm)
    · cases h
  · have c1 := aa_lo_ok hb hc hs
    have c2 := aa_hi_ok hb hc hs
    obtain ⟨w, hw, w1, w2, w3⟩ := aa_inw_ok h
    exact ⟨w, hw, w1, by omega, by omega⟩
/-- what may be written outside 'fr': told by a test of what is known there -/
abbrev aa_Hk : Type := aa_S → aa_F → aa_F → aa_F → Bool
def aa_sto (ws fr : aa_W) (hk : aa_Hk) (s : aa_S) (r sl f : aa_F) : Option aa_S :=
  let gr := aa_gp s.1.1 r
  if (!(Nat.beq gr 0) && (aa_fits gr s.1.1 sl (aa_lo s.1.1 s.1.2 f) (aa_hi s.1.1 s.1.2 f) && (aa_inwF gr s.1.1 s.1.2 sl ws && ((aa_inwF gr s.1.1 s.1.2 sl fr && (!(aa_vdep gr (aa_lo s.1.1 s.1.2 sl) (aa_hi s.1.1 s.1.2 sl)) || aa_inw 900 0 0 fr) || hk s r sl f) && (!(aa_vdep gr (aa_lo s.1.1 s.1.2 sl) (aa_hi s.1.1 s.1.2 sl)) || aa_inw 900 0 0 ws))))) = true then some (s.1, (((r, sl), f) :: s.2.1.filter (aa_kp s.1.1 s.1.2 s.2.1 gr r sl), s.2.2)) else none
theorem aa_w_at (g : aa_G) (k j : Nat) (v : Int32) : zz_w g k j v k j = v := by
  rw [zz_w_self]
  unfold upd
  rw [if_pos rfl]
theorem aa_w_ne (g : aa_G) {k j a b : Nat} (v : Int32) (h : ¬ (a = k ∧ b = j)) : zz_w g k j v a b = g a b := by
  by_cases hc : a = k
  · subst hc
    rw [zz_w_self]
    unfold upd
    rw [if_neg fun e => h ⟨rfl, e⟩]
  · rw [zz_w_other _ _ _ hc]
/-- Φ bears what is written in 'fr', and what the test lets through -/
def aa_good (Φ : aa_G → Prop) (fr : aa_W) (hk : aa_Hk) : Prop := (∀ g g', Φ g → aa_fr fr g g' → Φ g') ∧ (∀ (s : aa_S) (ν : List Int) (g : aa_G) (lv : zz_V) (st : List Value) (r sl f : aa_F) (k j : Nat) (v : Int32), aa_ok s ν g lv st → aa_inv g → Φ g → aa_ev ν r = some (k : Int) → aa_ev ν sl = some (j : Int) → aa_ev ν f = some v.toInt → aa_gc k = aa_gp s.1.1 r → hk s r sl f = true → Φ (zz_w g k j v))
theorem aa_dep_w {g : aa_G} {k j : Nat} {v : Int32} (h : ¬ (k = 540 ∧ ((j : Int) = 10 ∨ (j : Int) = 11)) ∧ k ≠ 544 ∧ k ≠ 545) : aa_dep (zz_w g k j v) = aa_dep g := by
  obtain ⟨h1, h2, h3⟩ := h
  refine aa_dep_eq (aa_w_ne _ _ fun e => h1 ⟨e.1.symm, by omega⟩) (aa_w_ne _ _ fun e => h1 ⟨e.1.symm, by omega⟩) (zz_w_other _ _ _ (Ne.symm h2)) (zz_w_other _ _ _ (Ne.symm h3))
theorem aa_gc39 {k : Nat} (h : aa_gc k = 39) : k = 544 := by
  have h1 := (aa_fit_at (k := k) (by rw [h]; exact Nat.succ_ne_zero _)).1
  have h2 : (List.range 554).all (fun k => !(Nat.beq (aa_gc k) 39) || Nat.beq k 544) = true := by decide +kernel
  have h3 := List.all_eq_true.mp h2 k (List.mem_range.mpr (Nat.lt_succ_of_le h1))
  rw [h] at h3
  exact Nat.eq_of_beq_eq_true h3
theorem aa_vst_ok {iv : List aa_I} {cs : List aa_F} {ch : aa_C} {gr k j : Nat} {sl : aa_F} {ν : List Int} {g : aa_G} {v : Int32} (hb : aa_vb iv ν) (hc : aa_vc cs ν) (hh : aa_vh ch ν g) (hs : aa_ev ν sl = some (j : Int)) (hg : aa_gc k = gr) (h : aa_vst iv cs ch gr sl = true) : aa_dep (zz_w g k j v) = aa_dep g := by
  have s1 := aa_lo_ok hb hc hs
  have s2 := aa_hi_ok hb hc hs
  unfold aa_vst at h
  rw [Bool.or_eq_true] at h
  rcases h with h | h
  · rw [Bool.not_eq_true', ← hg] at h
    exact aa_dep_w (aa_vdep_no h s1 s2)
  · rw [Bool.and_eq_true] at h
    have e := Nat.eq_of_beq_eq_true h.1
    rw [e] at hg
    have hk := aa_gc39 hg
    subst hk
    have h2 := h.2
    split at h2
    · rename_i nb hnb
      simp only [Bool.and_eq_true, Bool.or_eq_true, decide_eq_true_eq] at h2
      obtain ⟨a, b, x, e1, e2, e3, e4⟩ := hh _ (aa_lk_ok hnb)
      have e1 : aa_ev ν (aa_c 540) = some (a : Int) := e1
      have e2 : aa_ev ν (aa_c 10) = some (b : Int) := e2
      have e3 : aa_ev ν nb = some x := e3
      rw [aa_c_ev] at e1 e2
      have ha : a = 540 := by have := Option.some.inj e1; omega
      have hb' : b = 10 := by have := Option.some.inj e2; omega
      subst ha
      subst hb'
      have e4 : (g 540 10).toInt = x := e4
      have c0 := aa_lo_ok hb hc e3
      have hd := aa_add_ev (k := -1) hs (aa_plus_ev (n := 5) (aa_scale_ev (k := 7) e3))
      have d1 := aa_lo_ok hb hc hd
      have d2 := aa_hi_ok hb hc hd
      have hj : j ≠ 7 * x.toNat + 5 := by
        rcases h2.2 with z | z
        · omega
        · omega
      have e5 : (zz_w g 544 j v) 540 = g 540 := zz_w_other _ _ _ (by decide)
      have e6 : (zz_w g 544 j v) 545 = g 545 := zz_w_other _ _ _ (by decide)
      have hbeg : aa_beg (zz_w g 544 j v) = aa_beg g := by
        unfold aa_beg
        rw [e5, e4, aa_w_ne _ _ (fun z => hj z.2.symm)]
      unfold aa_dep
      rw [hbeg, e5, e6]
    · cases h2
theorem aa_sto_ok {Φ : aa_G → Prop} {ws fr : aa_W} {hk : aa_Hk} (hG : aa_good Φ fr hk) {s : aa_S} {ν : List Int} {g : aa_G} {lv : zz_V} {st : List Value} (h : aa_ok s ν g lv st) (hi : aa_inv g) {r sl f : aa_F} {s' : aa_S} (e : aa_sto ws fr hk s r sl f = some s') {k j : Nat} {v : Int32} (hr : aa_ev ν r = some (k : Int)) (hs : aa_ev ν sl = some (j : Int)) (hf : aa_ev ν f = some v.toInt) : s'.2.2 = s.2.2 ∧ aa_ok s' ν (zz_w g k j v) lv st ∧ aa_inv (zz_w g k j v) ∧ aa_fr ws g (zz_w g k j v) ∧ (Φ g → Φ (zz_w g k j v)) := by
  unfold aa_sto at e
  dsimp only at e
  split at e
  · rename_i hc
    simp only [Bool.and_eq_true, Bool.or_eq_true, Bool.not_eq_true'] at hc
    obtain ⟨hg, hfit, hw1, hw2, hw3⟩ := hc
    have hg : aa_gp s.1.1 r ≠ 0 := fun q => by rw [q] at hg; cases hg
    have hgc := aa_gp_ok h.1 hr hg
    have hfit := aa_fits_ok h.1 hs hfit
    have b1 := aa_lo_ok h.1 h.2.1 hf
    have b2 := aa_hi_ok h.1 h.2.1 hf
    have s1 := aa_lo_ok h.1 h.2.1 hs
    have s2 := aa_hi_ok h.1 h.2.1 hs
    have hvd : aa_vdep (aa_gp s.1.1 r) (aa_lo s.1.1 s.1.2 sl) (aa_hi s.1.1 s.1.2 sl) = false → aa_dep (zz_w g k j v) = aa_dep g := fun q => by
      rw [← hgc] at q
      exact aa_dep_w (aa_vdep_no q s1 s2)
    have hfr : ∀ w : aa_W, aa_inwF (aa_gp s.1.1 r) s.1.1 s.1.2 sl w = true → (aa_vdep (aa_gp s.1.1 r) (aa_lo s.1.1 s.1.2 sl) (aa_hi s.1.1 s.1.2 sl) = false ∨ aa_inw 900 0 0 w = true) → aa_fr w g (zz_w g k j v) := fun w hw hv => by
      refine ⟨fun a b => ?_, ?_⟩
      · by_cases hab : a = k ∧ b = j
        · obtain ⟨rfl, rfl⟩ := hab
          obtain ⟨z, hz, z1, z2, z3⟩ := aa_inwF_ok h.1 h.2.1 hs hw
          exact .inr ⟨z, hz, by rw [z1, hgc], z2, z3⟩
        · exact .inl (aa_w_ne _ _ hab)
      · rcases hv with hv | hv
        · exact .inl (hvd hv)
        · obtain ⟨z, hz, z1, -⟩ := aa_inw_ok hv
          exact .inr ⟨z, hz, z1⟩
    cases e
    refine ⟨rfl, ⟨h.1, h.2.1, aa_vh_cons ?_ hr hs hf (by rw [aa_rd_of (by rw [hgc]; exact hg), aa_w_at]), h.2.2.2.1, h.2.2.2.2⟩, fun a b => ?_, hfr _ hw1 hw3, fun hφ => ?_⟩
    · intro q hq
      obtain ⟨hq, hk⟩ := List.mem_filter.mp hq
      obtain ⟨a, b, x, h1, h2, h3, h4⟩ := h.2.2.1 q hq
      refine ⟨a, b, x, h1, h2, h3, ?_⟩
      unfold aa_kp at hk
      dsimp only at hk
      split at hk
      · rename_i hv
        have hv := aa_vir_ok hv
        rw [hv, aa_c_ev] at h1
        have ha : a = 600 := by
          have := Option.some.inj h1
          omega
        subst ha
        rw [← h4]
        exact aa_vst_ok h.1 h.2.1 h.2.2.1 hs hgc hk
      · rename_i hv
        simp only [Bool.or_eq_true, Bool.and_eq_true, Bool.not_eq_true', decide_eq_true_eq] at hk
        obtain ⟨k1, hk⟩ := hk
        have k1 : aa_gk s.1.1 q.1.1 ≠ 0 := fun z => by rw [z] at k1; cases k1
        obtain ⟨a', hga, hcase, hrd⟩ := aa_gk_ok h.1 h1 k1
        have hd := aa_add_ev (k := -1) h2 hs
        have d1 := aa_lo_ok h.1 h.2.1 hd
        have d2 := aa_hi_ok h.1 h.2.1 hd
        have hne : ¬ (a' = k ∧ b = j) := by
          rintro ⟨rfl, rfl⟩
          rcases hk with k2 | k1 | k1 | k1
          · rw [hgc] at hga
            rw [hga] at k2
            rw [show Nat.beq (aa_gk s.1.1 q.1.1) (aa_gk s.1.1 q.1.1) = true from Nat.beq_refl _] at k2
            cases k2
          · omega
          · omega
          · split at k1
            · rename_i e1 e2
              obtain ⟨y1, hy1, z1⟩ := aa_ev_some.mp hr
              obtain ⟨y2, hy2, z2⟩ := aa_ev_some.mp h1
              rw [e1] at hy1
              rw [e2] at hy2
              cases hy1
              cases hy2
              rw [Bool.and_eq_true] at k1
              have := of_decide_eq_true k1.1
              have := of_decide_eq_true k1.2
              rcases hcase with ⟨c1, c2⟩ | ⟨c1, c2⟩
              · omega
              · omega
            · cases k1
        rw [← h4]
        exact hrd _ _ _ (aa_w_ne _ _ hne)
    · by_cases hab : a = k ∧ b = j
      · obtain ⟨rfl, rfl⟩ := hab
        rw [aa_w_at, hgc]
        omega
      · rw [aa_w_ne _ _ hab]
        exact hi a b
    · rcases hw2 with ⟨w2, w3⟩ | w2
      · exact hG.1 _ _ hφ (hfr fr w2 w3)
      · exact hG.2 s ν g lv st r sl f k j v h hi hφ hr hs hf hgc w2
  · cases e
/-- what a call that writes these places leaves of the known cells -/
def aa_kl (iv : List aa_I) (cs : List aa_F) (ws : aa_W) (q : (aa_F × aa_F) × aa_F) : Bool :=
  let p := aa_gk iv q.1.1
  if aa_vir q.1.1 = true then ws.all (fun w => !(Nat.beq w.1 900)) else !(Nat.beq p 0) && ws.all (fun w => !(Nat.beq w.1 p) || (decide (aa_hi iv cs q.1.2 < w.2.1) || decide (w.2.2 < aa_lo iv cs q.1.2)))
theorem aa_kl_ok {iv : List aa_I} {cs : List aa_F} {ws : aa_W} {ν : List Int} (hb : aa_vb iv ν) (hc : aa_vc cs ν) {ch : aa_C} {g g' : aa_G} (h : aa_vh ch ν g) (hf : aa_fr ws g g') : aa_vh (ch.filter (aa_kl iv cs ws)) ν g' := fun q hq => by
  obtain ⟨hq, hk⟩ := List.mem_filter.mp hq
  obtain ⟨a, b, x, h1, h2, h3, h4⟩ := h q hq
  refine ⟨a, b, x, h1, h2, h3, ?_⟩
  unfold aa_kl at hk
  dsimp only at hk
  split at hk
  · rename_i hv
    have hv := aa_vir_ok hv
    rw [hv, aa_c_ev] at h1
    have ha : a = 600 := by
      have := Option.some.inj h1
      omega
    subst ha
    rcases hf.2 with e | ⟨w, hw, e⟩
    · rw [← h4]; exact e
    · have := List.all_eq_true.mp hk w hw
      rw [e] at this
      cases this
  rw [Bool.and_eq_true, Bool.not_eq_true'] at hk
  have hp : aa_gk iv q.1.1 ≠ 0 := fun z => by rw [z] at hk; cases hk.1
  obtain ⟨a', e, -, hrd⟩ := aa_gk_ok hb h1 hp
  rw [← h4]
  refine hrd _ _ _ ?_
  rcases hf.1 a' b with e' | ⟨w, hw, w1, w2, w3⟩
  · exact e'
  · have := List.all_eq_true.mp hk.2 w hw
    simp only [Bool.or_eq_true, Bool.not_eq_true', decide_eq_true_eq] at this
    have d1 := aa_lo_ok hb hc h2
    have d2 := aa_hi_ok hb hc h2
    rcases this with z | z | z
    · rw [w1, e, show Nat.beq (aa_gk iv q.1.1) (aa_gk iv q.1.1) = true from Nat.beq_refl _] at z
      cases z
    · omega
    · omega
end
section
/-! AN ANALYSER OF METHODS: one instruction -/
def aa_sn (s : aa_S) : List aa_A := s.2.2.2
def aa_lv (s : aa_S) : List aa_A := s.2.2.1
/-- another pile -/
def aa_wst (s : aa_S) (st : List aa_A) : aa_S := (s.1, (s.2.1, (s.2.2.1, st)))
def aa_wlv (s : aa_S) (lv st : List aa_A) : aa_S := (s.1, (s.2.1, (lv, st)))
def aa_pi (s : aa_S) (st : List aa_A) (f : aa_F) : aa_S := aa_wst s ((1, f) :: st)
/-- a new int within bounds -/
def aa_pf (s : aa_S) (st : List aa_A) (lo hi : Int) : aa_S := ((s.1.1 ++ [(lo, hi, 0)], s.1.2), (s.2.1, (s.2.2.1, (1, aa_id s.1.1.length) :: st)))
def aa_pfl (s : aa_S) (st : List aa_A) (lo hi : Int) : aa_S := ((s.1.1 ++ [(lo, hi, 0)], s.1.2), (s.2.1, (s.2.2.1, (2, aa_id s.1.1.length) :: st)))
def aa_ar (s : aa_S) (st : List aa_A) (f : aa_F) : aa_S := if (-2147483648) ≤ aa_lo s.1.1 s.1.2 f ∧ aa_hi s.1.1 s.1.2 f ≤ 2147483647 then aa_pi s st f else aa_pf s st (-2147483648) 2147483647
def aa_arl (s : aa_S) (st : List aa_A) (f : aa_F) : aa_S := if (-9223372036854775808) ≤ aa_lo s.1.1 s.1.2 f ∧ aa_hi s.1.1 s.1.2 f ≤ 9223372036854775807 then aa_wst s ((2, f) :: st) else aa_pfl s st (-9223372036854775808) 9223372036854775807
/-- the machine goes on in one of these -/
def aa_res (l : List (Nat × aa_S)) (ν : List Int) (g : aa_G) (pc : Nat) (lv : zz_V) (st : List Value) : Prop := ∃ s' ρ, (pc, s') ∈ l ∧ aa_ok s' (ν ++ ρ) g lv st
theorem aa_res1 {ν ρ : List Int} {g : aa_G} {pc : Nat} {lv : zz_V} {st : List Value} {s' : aa_S} (h : aa_ok s' (ν ++ ρ) g lv st) : aa_res [(pc, s')] ν g pc lv st := ⟨s', ρ, List.mem_cons_self, h⟩
theorem aa_res0 {ν : List Int} {g : aa_G} {pc : Nat} {lv : zz_V} {st : List Value} {s' : aa_S} (h : aa_ok s' ν g lv st) : aa_res [(pc, s')] ν g pc lv st := ⟨s', [], List.mem_cons_self, by rw [List.append_nil]; exact h⟩
section AS
variable {s : aa_S} {ν : List Int} {g : aa_G} {lv : zz_V} {st st' : List Value} {l : List aa_A} {pc : Nat}
theorem aa_pi_ok (h : aa_ok s ν g lv st) (h2 : aa_ms ν l st') {f : aa_F} {w : Int32} (hf : aa_ev ν f = some w.toInt) : aa_ok (aa_pi s l f) ν g lv (.int w :: st') := ⟨h.1, h.2.1, h.2.2.1, h.2.2.2.1, ⟨⟨Nat.one_ne_zero, w, rfl, hf⟩, h2⟩⟩
theorem aa_pf_ok (h : aa_ok s ν g lv st) (h2 : aa_ms ν l st') {lo hi : Int} {w : Int32} (h3 : lo ≤ w.toInt) (h4 : w.toInt ≤ hi) : aa_res [(pc, aa_pf s l lo hi)] ν g pc lv (.int w :: st') := by
  have hn := aa_ok_new h h3 h4 (gr := 0) (fun q => absurd rfl q)
  exact aa_res1 ⟨hn.1, hn.2.1, hn.2.2.1, hn.2.2.2.1, ⟨⟨Nat.one_ne_zero, w, rfl, aa_ev_new h.1⟩, aa_ms_app h2⟩⟩
theorem aa_pff_ok (h : aa_ok s ν g lv st) (h2 : aa_ms ν l st') {w : Int32} : aa_res [(pc, aa_pf s l (-2147483648) 2147483647)] ν g pc lv (.int w :: st') := by
  have h3 := w.le_toInt
  have h4 := w.toInt_lt
  exact aa_pf_ok h h2 (by omega) (by omega)
theorem aa_pfl_ok (h : aa_ok s ν g lv st) (h2 : aa_ms ν l st') {lo hi : Int} {w : Int64} (h3 : lo ≤ w.toInt) (h4 : w.toInt ≤ hi) : aa_res [(pc, aa_pfl s l lo hi)] ν g pc lv (.long w :: st') := by
  have hn := aa_ok_new h h3 h4 (gr := 0) (fun q => absurd rfl q)
  exact aa_res1 ⟨hn.1, hn.2.1, hn.2.2.1, hn.2.2.2.1, ⟨⟨Nat.succ_ne_zero _, w, rfl, aa_ev_new h.1⟩, aa_ms_app h2⟩⟩
theorem aa_pffl_ok (h : aa_ok s ν g lv st) (h2 : aa_ms ν l st') {w : Int64} : aa_res [(pc, aa_pfl s l (-9223372036854775808) 9223372036854775807)] ν g pc lv (.long w :: st') := by
  have h3 := w.le_toInt
  have h4 := w.toInt_lt
  exact aa_pfl_ok h h2 (by omega) (by omega)
theorem aa_bm {x : Int} (h1 : (-2147483648) ≤ x) (h2 : x ≤ 2147483647) : x.bmod (2 ^ 32) = x := Int.bmod_eq_of_le (by omega) (by omega)
theorem aa_bml {x : Int} (h1 : (-9223372036854775808) ≤ x) (h2 : x ≤ 9223372036854775807) : x.bmod (2 ^ 64) = x := Int.bmod_eq_of_le (by omega) (by omega)
theorem aa_ar_ok (h : aa_ok s ν g lv st) (h2 : aa_ms ν l st') {f : aa_F} {x : Int} (hf : aa_ev ν f = some x) {w : Int32} (hw : w.toInt = x.bmod (2 ^ 32)) : aa_res [(pc, aa_ar s l f)] ν g pc lv (.int w :: st') := by
  unfold aa_ar
  split
  · rename_i hc
    have b1 := aa_lo_ok h.1 h.2.1 hf
    have b2 := aa_hi_ok h.1 h.2.1 hf
    rw [aa_bm (by omega) (by omega)] at hw
    exact aa_res0 (aa_pi_ok h h2 (by rw [hw]; exact hf))
  · exact aa_pff_ok h h2
theorem aa_arl_ok (h : aa_ok s ν g lv st) (h2 : aa_ms ν l st') {f : aa_F} {x : Int} (hf : aa_ev ν f = some x) {w : Int64} (hw : w.toInt = x.bmod (2 ^ 64)) : aa_res [(pc, aa_arl s l f)] ν g pc lv (.long w :: st') := by
  unfold aa_arl
  split
  · rename_i hc
    have b1 := aa_lo_ok h.1 h.2.1 hf
    have b2 := aa_hi_ok h.1 h.2.1 hf
    rw [aa_bml (by omega) (by omega)] at hw
    exact aa_res0 ⟨h.1, h.2.1, h.2.2.1, h.2.2.2.1, ⟨⟨Nat.succ_ne_zero _, w, rfl, by rw [hw]; exact hf⟩, h2⟩⟩
  · exact aa_pffl_ok h h2
end AS
/-- the product's bounds -/
def aa_mul (a b c d : Int) : Int × Int :=
  let p := a * c
  let q := a * d
  let r := b * c
  let t := b * d
  (min (min p q) (min r t), max (max p q) (max r t))
theorem aa_mul_ok {a b c d x y : Int} (h1 : a ≤ x) (h2 : x ≤ b) (h3 : c ≤ y) (h4 : y ≤ d) : (aa_mul a b c d).1 ≤ x * y ∧ x * y ≤ (aa_mul a b c d).2 := by
  have key : ∀ z : Int, (min (a * z) (b * z) ≤ x * z ∧ x * z ≤ max (a * z) (b * z)) := fun z => by
    rcases Int.le_total 0 z with hz | hz
    · have k1 := Int.mul_le_mul_of_nonneg_right h1 hz
      have k2 := Int.mul_le_mul_of_nonneg_right h2 hz
      omega
    · have k1 := Int.mul_le_mul_of_nonpos_right h1 hz
      have k2 := Int.mul_le_mul_of_nonpos_right h2 hz
      omega
  have key2 : ∀ z : Int, (min (z * c) (z * d) ≤ z * y ∧ z * y ≤ max (z * c) (z * d)) := fun z => by
    rcases Int.le_total 0 z with hz | hz
    · have k1 := Int.mul_le_mul_of_nonneg_left h3 hz
      have k2 := Int.mul_le_mul_of_nonneg_left h4 hz
      omega
    · have k1 := Int.mul_le_mul_of_nonpos_left hz h3
      have k2 := Int.mul_le_mul_of_nonpos_left hz h4
      omega
  have k1 := key y
  have k2 := key2 a
  have k3 := key2 b
  show min (min (a * c) (a * d)) (min (b * c) (b * d)) ≤ x * y ∧ x * y ≤ max (max (a * c) (a * d)) (max (b * c) (b * d))
  omega
/-- the quotient's bounds, by a divisor above 0 -/
def aa_div (a b c d : Int) : Int × Int := (if 0 ≤ a then a / d else -((-a) / c), if 0 ≤ b then b / c else -((-b) / d))
theorem aa_tdiv_nonneg {x y : Int} (h : 0 ≤ x) : x.tdiv y = x / y := Int.tdiv_eq_ediv_of_nonneg h
theorem aa_ediv_mono {x y z : Int} (hz : 0 < z) (h : x ≤ y) : x / z ≤ y / z := Int.ediv_le_ediv hz h
theorem aa_ediv_anti {x c d : Int} (hx : 0 ≤ x) (hc : 0 < c) (h : c ≤ d) : x / d ≤ x / c := by
  refine (Int.le_ediv_iff_mul_le hc).mpr ?_
  have h1 : x / d * d ≤ x := Int.ediv_mul_le x (by omega)
  have h2 : 0 ≤ x / d := Int.ediv_nonneg hx (by omega)
  have h3 := Int.mul_le_mul_of_nonneg_left h h2
  omega
theorem aa_div_ok {a b c d x y : Int} (h1 : a ≤ x) (h2 : x ≤ b) (h3 : c ≤ y) (h4 : y ≤ d) (hc : 1 ≤ c) : (aa_div a b c d).1 ≤ x.tdiv y ∧ x.tdiv y ≤ (aa_div a b c d).2 := by
  have hn : ∀ z : Int, (-z).tdiv y = -(z.tdiv y) := fun z => Int.neg_tdiv z y
  have n0 : ∀ z : Int, 0 ≤ z → 0 ≤ z / y := fun z hz => Int.ediv_nonneg hz (by omega)
  unfold aa_div
  dsimp only
  rcases Int.le_total 0 x with hx | hx
  · rw [aa_tdiv_nonneg hx]
    have e0 := n0 x hx
    constructor
    · split
      · rename_i ha
        have := aa_ediv_mono (z := d) (by omega) h1
        have := aa_ediv_anti hx (show 0 < y by omega) h4
        omega
      · rename_i ha
        have : 0 ≤ (-a) / c := Int.ediv_nonneg (by omega) (by omega)
        omega
    · rw [if_pos (by omega)]
      have := aa_ediv_mono (z := c) (by omega) h2
      have := aa_ediv_anti hx (show 0 < c by omega) h3
      omega
  · have e : x.tdiv y = -((-x) / y) := by
      have := hn (-x)
      rw [Int.neg_neg] at this
      rw [this, aa_tdiv_nonneg (by omega)]
    rw [e]
    have e0 := n0 (-x) (by omega)
    constructor
    · split
      · rename_i ha
        have hx0 : x = 0 := by omega
        have ha0 : a = 0 := by omega
        subst hx0
        subst ha0
        rw [show -(0 : Int) = 0 from rfl, Int.zero_ediv, Int.zero_ediv]
        exact Int.le_refl 0
      · have := aa_ediv_mono (z := c) (by omega) (show -x ≤ -a by omega)
        have := aa_ediv_anti (show 0 ≤ -x by omega) (show 0 < c by omega) h3
        omega
    · split
      · have : 0 ≤ b / c := Int.ediv_nonneg (by omega) (by omega)
        omega
      · have := aa_ediv_mono (z := d) (by omega) (show -b ≤ -x by omega)
        have := aa_ediv_anti (show 0 ≤ -x by omega) (show 0 < y by omega) h4
        omega
theorem aa_emod_le {x y : Int} (hx : 0 ≤ x) (hy : 0 < y) : x % y ≤ x := by
  have h1 := Int.emod_def x y
  have h2 := Int.mul_nonneg (show 0 ≤ y by omega) (Int.ediv_nonneg hx (show 0 ≤ y by omega))
  omega
def aa_rem (a b d : Int) : Int × Int := (if 0 ≤ a then 0 else (if a < -(d - 1) then -(d - 1) else a), if 0 ≤ b then (if b < d - 1 then b else d - 1) else 0)
theorem aa_rem_ok {a b d x y : Int} (h1 : a ≤ x) (h2 : x ≤ b) (h3 : 1 ≤ y) (h4 : y ≤ d) : (aa_rem a b d).1 ≤ x.tmod y ∧ x.tmod y ≤ (aa_rem a b d).2 := by
  have e : x.tmod y = x - y * x.tdiv y := Int.tmod_def x y
  have k1 : x.tmod y < y := Int.tmod_lt_of_pos x (by omega)
  have k2 : -y < x.tmod y := by
    have := Int.tmod_lt_of_pos (-x) (show 0 < y by omega)
    rw [Int.neg_tmod] at this
    omega
  have k3 : 0 ≤ x → 0 ≤ x.tmod y ∧ x.tmod y ≤ x := fun hx => by
    have q1 := Int.tmod_nonneg y hx
    rw [Int.tmod_eq_emod_of_nonneg hx] at q1 ⊢
    exact ⟨q1, aa_emod_le hx (by omega)⟩
  have k4 : x ≤ 0 → x.tmod y ≤ 0 ∧ x ≤ x.tmod y := fun hx => by
    have q1 := Int.tmod_nonneg y (show 0 ≤ -x by omega)
    have q2 : (-x).tmod y ≤ -x := by
      rw [Int.tmod_eq_emod_of_nonneg (by omega)]
      exact aa_emod_le (by omega) (by omega)
    rw [Int.neg_tmod] at q1 q2
    omega
  unfold aa_rem
  dsimp only
  rcases Int.le_total 0 x with hx | hx
  · have := k3 hx
    constructor
    · split
      · omega
      · split <;> omega
    · rw [if_pos (by omega)]
      split <;> omega
  · have := k4 hx
    constructor
    · split
      · omega
      · split <;> omega
    · split
      · split <;> omega
      · omega
end
section
/-! AN ANALYSER OF METHODS: the instructions -/
abbrev aa_Q : Type := Option (List (Nat × aa_S))
def aa_t1 : List aa_A → Option (aa_F × List aa_A)
  | (1, f) :: r => some (f, r)
  | _ => none
def aa_t2 : List aa_A → Option (aa_F × aa_F × List aa_A)
  | (1, b) :: (1, a) :: r => some (a, b, r)
  | _ => none
def aa_tl1 : List aa_A → Option (aa_F × List aa_A)
  | (2, f) :: r => some (f, r)
  | _ => none
def aa_tl2 : List aa_A → Option (aa_F × aa_F × List aa_A)
  | (2, b) :: (2, a) :: r => some (a, b, r)
  | _ => none
def aa_tr : List aa_A → Option (aa_F × List aa_A)
  | (3, f) :: r => some (f, r)
  | _ => none
section AI
variable {ν : List Int} {l r : List aa_A} {st : List Value} {f f2 : aa_F}
theorem aa_t1_ok (h : aa_t1 l = some (f, r)) (hm : aa_ms ν l st) : ∃ (w : Int32) (q : List Value), st = .int w :: q ∧ aa_ev ν f = some w.toInt ∧ aa_ms ν r q := by
  unfold aa_t1 at h
  split at h
  · cases h
    exact aa_ms_int hm
  · cases h
theorem aa_t2_ok (h : aa_t2 l = some (f, f2, r)) (hm : aa_ms ν l st) : ∃ (a b : Int32) (q : List Value), st = .int b :: .int a :: q ∧ aa_ev ν f = some a.toInt ∧ aa_ev ν f2 = some b.toInt ∧ aa_ms ν r q := by
  unfold aa_t2 at h
  split at h
  · cases h
    obtain ⟨w, q, rfl, h1, h2⟩ := aa_ms_int hm
    obtain ⟨w2, q2, rfl, h3, h4⟩ := aa_ms_int h2
    exact ⟨w2, w, q2, rfl, h3, h1, h4⟩
  · cases h
theorem aa_tl1_ok (h : aa_tl1 l = some (f, r)) (hm : aa_ms ν l st) : ∃ (w : Int64) (q : List Value), st = .long w :: q ∧ aa_ev ν f = some w.toInt ∧ aa_ms ν r q := by
  unfold aa_tl1 at h
  split at h
  · cases h
    exact aa_ms_long hm
  · cases h
theorem aa_tl2_ok (h : aa_tl2 l = some (f, f2, r)) (hm : aa_ms ν l st) : ∃ (a b : Int64) (q : List Value), st = .long b :: .long a :: q ∧ aa_ev ν f = some a.toInt ∧ aa_ev ν f2 = some b.toInt ∧ aa_ms ν r q := by
  unfold aa_tl2 at h
  split at h
  · cases h
    obtain ⟨w, q, rfl, h1, h2⟩ := aa_ms_long hm
    obtain ⟨w2, q2, rfl, h3, h4⟩ := aa_ms_long h2
    exact ⟨w2, w, q2, rfl, h3, h1, h4⟩
  · cases h
theorem aa_tr_ok (h : aa_tr l = some (f, r)) (hm : aa_ms ν l st) : ∃ (k : Nat) (q : List Value), st = .ref k :: q ∧ aa_ev ν f = some (k : Int) ∧ aa_ms ν r q := by
  unfold aa_tr at h
  split at h
  · cases h
    exact aa_ms_ref hm
  · cases h
end AI
def aa_cd : Jvm.ClassFile.Cond → Int → Prop
  | .eq, x => x = 0
  | .ne, x => x ≠ 0
  | .lt, x => x < 0
  | .ge, x => 0 ≤ x
  | .gt, x => 0 < x
  | .le, x => x ≤ 0
def aa_neg : Jvm.ClassFile.Cond → Jvm.ClassFile.Cond
  | .eq => .ne
  | .ne => .eq
  | .lt => .ge
  | .ge => .lt
  | .gt => .le
  | .le => .gt
theorem aa_neg_ok {c : Jvm.ClassFile.Cond} {x : Int} (h : ¬ aa_cd c x) : aa_cd (aa_neg c) x := by
  cases c <;> simp only [aa_cd, aa_neg] at h ⊢ <;> omega
def aa_br (c : Jvm.ClassFile.Cond) (sp : Bool) (s : aa_S) (f : aa_F) : List aa_S := match c with
  | .ge => (aa_as s f).toList
  | .gt => (aa_as s (aa_plus f (-1))).toList
  | .le => (aa_as s (aa_scale f (-1))).toList
  | .lt => (aa_as s (aa_plus (aa_scale f (-1)) (-1))).toList
  | .eq => (aa_as2 s f).toList
  | .ne => if sp = true ∨ 0 ≤ aa_lo s.1.1 s.1.2 f ∨ aa_hi s.1.1 s.1.2 f ≤ 0 then (aa_as s (aa_plus f (-1))).toList ++ (aa_as s (aa_plus (aa_scale f (-1)) (-1))).toList else [s]
theorem aa_br_ok {c : Jvm.ClassFile.Cond} {sp : Bool} {s : aa_S} {ν : List Int} {g : aa_G} {lv : zz_V} {st : List Value} (h : aa_ok s ν g lv st) {f : aa_F} {x : Int} (hf : aa_ev ν f = some x) (hc : aa_cd c x) : ∃ s' ∈ aa_br c sp s f, aa_ok s' ν g lv st := by
  have e1 := aa_plus_ev (n := -1) hf
  have e2 := aa_scale_ev (k := -1) hf
  have e3 := aa_plus_ev (n := -1) e2
  cases c with
  | ge =>
    obtain ⟨s', e, k⟩ := aa_as_ok h hf hc
    exact ⟨s', by show s' ∈ (aa_as s f).toList; rw [e]; exact List.mem_cons_self, k⟩
  | gt =>
    have hc : 0 < x := hc
    obtain ⟨s', e, k⟩ := aa_as_ok h e1 (by omega)
    exact ⟨s', by show s' ∈ (aa_as s _).toList; rw [e]; exact List.mem_cons_self, k⟩
  | le =>
    have hc : x ≤ 0 := hc
    obtain ⟨s', e, k⟩ := aa_as_ok h e2 (by omega)
    exact ⟨s', by show s' ∈ (aa_as s _).toList; rw [e]; exact List.mem_cons_self, k⟩
  | lt =>
    have hc : x < 0 := hc
    obtain ⟨s', e, k⟩ := aa_as_ok h e3 (by omega)
    exact ⟨s', by show s' ∈ (aa_as s _).toList; rw [e]; exact List.mem_cons_self, k⟩
  | eq =>
    have hc : x = 0 := hc
    subst hc
    obtain ⟨s', e, k⟩ := aa_as2_ok h hf
    exact ⟨s', by show s' ∈ (aa_as2 s f).toList; rw [e]; exact List.mem_cons_self, k⟩
  | ne =>
    have hc : x ≠ 0 := hc
    unfold aa_br
    dsimp only
    split
    · rcases Int.lt_or_gt_of_ne hc with hx | hx
      · obtain ⟨s', e, k⟩ := aa_as_ok h e3 (by omega)
        exact ⟨s', List.mem_append.mpr (.inr (by rw [e]; exact List.mem_cons_self)), k⟩
      · obtain ⟨s', e, k⟩ := aa_as_ok h e1 (by omega)
        exact ⟨s', List.mem_append.mpr (.inl (by rw [e]; exact List.mem_cons_self)), k⟩
    · exact ⟨s, List.mem_cons_self, h⟩
theorem aa_i32_zero (a : Int32) : a = 0 ↔ a.toInt = 0 := ⟨fun h => by rw [h]; rfl, fun h => Int32.toInt_inj.mp h⟩
theorem aa_cond (c : Jvm.ClassFile.Cond) (a : Int32) : zz_cond c a = true ↔ aa_cd c a.toInt := by
  have e0 : (0 : Int32).toInt = 0 := rfl
  cases c <;> simp only [zz_cond, aa_cd, decide_eq_true_eq, Int32.lt_iff_toInt_lt, Int32.le_iff_toInt_le, e0, ne_eq, aa_i32_zero]
theorem aa_cmp (c : Jvm.ClassFile.Cond) (a b : Int32) : zz_cmp c a b = true ↔ aa_cd c (a.toInt - b.toInt) := by
  cases c <;> simp only [zz_cmp, aa_cd, decide_eq_true_eq, Int32.lt_iff_toInt_lt, Int32.le_iff_toInt_le, ne_eq, ← Int32.toInt_inj] <;> omega
def aa_two (t1 t2 : Nat) (c : Jvm.ClassFile.Cond) (sp : Bool) (s : aa_S) (f : aa_F) : List (Nat × aa_S) := (aa_br c sp s f).map (fun q => (t1, q)) ++ (aa_br (aa_neg c) sp s f).map (fun q => (t2, q))
section AJ
variable {Φ : aa_G → Prop} {ws : aa_W} {s : aa_S} {ν : List Int} {g : aa_G} {lv : zz_V} {st : List Value} {pc : Nat}
theorem aa_two_ok {t1 t2 : Nat} {c : Jvm.ClassFile.Cond} {sp : Bool} (h : aa_ok s ν g lv st) {f : aa_F} {x : Int} (hf : aa_ev ν f = some x) : (aa_cd c x → aa_res (aa_two t1 t2 c sp s f) ν g t1 lv st) ∧ (¬ aa_cd c x → aa_res (aa_two t1 t2 c sp s f) ν g t2 lv st) := by
  constructor
  · intro hc
    obtain ⟨s', hm, k⟩ := aa_br_ok (sp := sp) h hf hc
    exact ⟨s', [], List.mem_append.mpr (.inl (List.mem_map.mpr ⟨s', hm, rfl⟩)), by rw [List.append_nil]; exact k⟩
  · intro hc
    obtain ⟨s', hm, k⟩ := aa_br_ok (sp := sp) h hf (aa_neg_ok hc)
    exact ⟨s', [], List.mem_append.mpr (.inr (List.mem_map.mpr ⟨s', hm, rfl⟩)), by rw [List.append_nil]; exact k⟩
/-- an instruction is well told: the machine goes on, in one of the states that were laid -/
def aa_snd (Φ : aa_G → Prop) (ws : aa_W) (o : aa_Q) (ν : List Int) (g : aa_G) (z : Option zz_O) : Prop := ∀ l, o = some l → ∃ pc' lv' st' g', z = some (.inl (pc', lv', st', aa_H g')) ∧ aa_res l ν g' pc' lv' st' ∧ aa_inv g' ∧ aa_fr ws g g' ∧ (Φ g → Φ g')
theorem aa_snd.go {o : aa_Q} {z : Option zz_O} (hi : aa_inv g) (h : ∀ l, o = some l → ∃ pc' lv' st', z = some (.inl (pc', lv', st', aa_H g)) ∧ aa_res l ν g pc' lv' st') : aa_snd Φ ws o ν g z := fun l hl => by
  obtain ⟨p, a, b, h1, h2⟩ := h l hl
  exact ⟨p, a, b, g, h1, h2, hi, aa_fr.rf, fun q => q⟩
theorem aa_wst_ok (h : aa_ok s ν g lv st) {l : List aa_A} {q : List Value} (hq : aa_ms ν l q) : aa_ok (aa_wst s l) ν g lv q := ⟨h.1, h.2.1, h.2.2.1, h.2.2.2.1, hq⟩
/-- two ints are taken -/
def aa_w2 (s : aa_S) (k : aa_F → aa_F → List aa_A → aa_Q) : aa_Q := match aa_t2 s.2.2.2 with
  | some (a, b, r) => k a b r
  | none => none
theorem aa_w2_ok {k : aa_F → aa_F → List aa_A → aa_Q} (h : aa_ok s ν g lv st) {l : List (Nat × aa_S)} (e : aa_w2 s k = some l) : ∃ (a b : aa_F) (r : List aa_A) (x y : Int32) (q : List Value), st = .int y :: .int x :: q ∧ k a b r = some l ∧ aa_ev ν a = some x.toInt ∧ aa_ev ν b = some y.toInt ∧ aa_ms ν r q := by
  unfold aa_w2 at e
  split at e
  · rename_i a b r h1
    obtain ⟨x, y, q, h2, h3, h4, h5⟩ := aa_t2_ok h1 h.2.2.2.2
    exact ⟨a, b, r, x, y, q, h2, e, h3, h4, h5⟩
  · cases e
theorem aa_i2_ok {F : Int32 → Int32 → Int32} {k : aa_F → aa_F → List aa_A → aa_Q} (h : aa_ok s ν g lv st) (hi : aa_inv g) (hk : ∀ a b r l x y q, k a b r = some l → aa_ev ν a = some x.toInt → aa_ev ν b = some y.toInt → aa_ms ν r q → aa_res l ν g (pc + 1) lv (.int (F x y) :: q)) : aa_snd Φ ws (aa_w2 s k) ν g (zz_i2 F pc lv st (aa_H g)) := aa_snd.go hi fun l hl => by
  obtain ⟨a, b, r, x, y, q, rfl, h1, h2, h3, h4⟩ := aa_w2_ok h hl
  exact ⟨_, _, _, rfl, hk a b r l x y q h1 h2 h3 h4⟩
def aa_w1 (s : aa_S) (k : aa_F → List aa_A → aa_Q) : aa_Q := match aa_t1 s.2.2.2 with
  | some (a, r) => k a r
  | none => none
theorem aa_w1_ok {k : aa_F → List aa_A → aa_Q} (h : aa_ok s ν g lv st) {l : List (Nat × aa_S)} (e : aa_w1 s k = some l) : ∃ (a : aa_F) (r : List aa_A) (x : Int32) (q : List Value), st = .int x :: q ∧ k a r = some l ∧ aa_ev ν a = some x.toInt ∧ aa_ms ν r q := by
  unfold aa_w1 at e
  split at e
  · rename_i a r h1
    obtain ⟨x, q, h2, h3, h4⟩ := aa_t1_ok h1 h.2.2.2.2
    exact ⟨a, r, x, q, h2, e, h3, h4⟩
  · cases e
def aa_wl2 (s : aa_S) (k : aa_F → aa_F → List aa_A → aa_Q) : aa_Q := match aa_tl2 s.2.2.2 with
  | some (a, b, r) => k a b r
  | none => none
theorem aa_wl2_ok {k : aa_F → aa_F → List aa_A → aa_Q} (h : aa_ok s ν g lv st) {l : List (Nat × aa_S)} (e : aa_wl2 s k = some l) : ∃ (a b : aa_F) (r : List aa_A) (x y : Int64) (q : List Value), st = .long y :: .long x :: q ∧ k a b r = some l ∧ aa_ev ν a = some x.toInt ∧ aa_ev ν b = some y.toInt ∧ aa_ms ν r q := by
  unfold aa_wl2 at e
  split at e
  · rename_i a b r h1
    obtain ⟨x, y, q, h2, h3, h4, h5⟩ := aa_tl2_ok h1 h.2.2.2.2
    exact ⟨a, b, r, x, y, q, h2, e, h3, h4, h5⟩
  · cases e
theorem aa_l2_ok {F : Int64 → Int64 → Int64} {k : aa_F → aa_F → List aa_A → aa_Q} (h : aa_ok s ν g lv st) (hi : aa_inv g) (hk : ∀ a b r l x y q, k a b r = some l → aa_ev ν a = some x.toInt → aa_ev ν b = some y.toInt → aa_ms ν r q → aa_res l ν g (pc + 1) lv (.long (F x y) :: q)) : aa_snd Φ ws (aa_wl2 s k) ν g (zz_l2 F pc lv st (aa_H g)) := aa_snd.go hi fun l hl => by
  obtain ⟨a, b, r, x, y, q, rfl, h1, h2, h3, h4⟩ := aa_wl2_ok h hl
  exact ⟨_, _, _, rfl, hk a b r l x y q h1 h2 h3 h4⟩
def aa_wl1 (s : aa_S) (k : aa_F → List aa_A → aa_Q) : aa_Q := match aa_tl1 s.2.2.2 with
  | some (a, r) => k a r
  | none => none
theorem aa_wl1_ok {k : aa_F → List aa_A → aa_Q} (h : aa_ok s ν g lv st) {l : List (Nat × aa_S)} (e : aa_wl1 s k = some l) : ∃ (a : aa_F) (r : List aa_A) (x : Int64) (q : List Value), st = .long x :: q ∧ k a r = some l ∧ aa_ev ν a = some x.toInt ∧ aa_ms ν r q := by
  unfold aa_wl1 at e
  split at e
  · rename_i a r h1
    obtain ⟨x, q, h2, h3, h4⟩ := aa_tl1_ok h1 h.2.2.2.2
    exact ⟨a, r, x, q, h2, e, h3, h4⟩
  · cases e
def aa_wr (s : aa_S) (k : aa_F → List aa_A → aa_Q) : aa_Q := match aa_tr s.2.2.2 with
  | some (a, r) => k a r
  | none => none
theorem aa_wr_ok {k : aa_F → List aa_A → aa_Q} (h : aa_ok s ν g lv st) {l : List (Nat × aa_S)} (e : aa_wr s k = some l) : ∃ (a : aa_F) (r : List aa_A) (x : Nat) (q : List Value), st = .ref x :: q ∧ k a r = some l ∧ aa_ev ν a = some (x : Int) ∧ aa_ms ν r q := by
  unfold aa_wr at e
  split at e
  · rename_i a r h1
    obtain ⟨x, q, h2, h3, h4⟩ := aa_tr_ok h1 h.2.2.2.2
    exact ⟨a, r, x, q, h2, e, h3, h4⟩
  · cases e
end AJ
end
section
/-! AN ANALYSER OF METHODS: a step -/
def aa_lohi (s : aa_S) (f : aa_F) : Int × Int := (aa_lo s.1.1 s.1.2 f, aa_hi s.1.1 s.1.2 f)
def aa_kmul (pc : Nat) (s : aa_S) (a b : aa_F) (r : List aa_A) : aa_Q := match b.2, a.2 with
  | [], _ => some [(pc, aa_ar s r (aa_scale a b.1))]
  | _, [] => some [(pc, aa_ar s r (aa_scale b a.1))]
  | _, _ =>
    let q := aa_mul (aa_lohi s a).1 (aa_lohi s a).2 (aa_lohi s b).1 (aa_lohi s b).2
    some [(pc, if (-2147483648) ≤ q.1 ∧ q.2 ≤ 2147483647 then aa_pf s r q.1 q.2 else aa_pf s r (-2147483648) 2147483647)]
def aa_kdiv (pc : Nat) (s : aa_S) (a b : aa_F) (r : List aa_A) : aa_Q :=
  if 1 ≤ (aa_lohi s b).1 then (let q := aa_div (aa_lohi s a).1 (aa_lohi s a).2 (aa_lohi s b).1 (aa_lohi s b).2; some [(pc, aa_pf s r q.1 q.2)])
  else if (aa_lohi s b).2 < 0 then some [(pc, aa_pf s r (-2147483648) 2147483647)] else none
def aa_krem (pc : Nat) (s : aa_S) (a b : aa_F) (r : List aa_A) : aa_Q :=
  if 1 ≤ (aa_lohi s b).1 then (if 0 ≤ (aa_lohi s a).1 ∧ (aa_lohi s a).2 < (aa_lohi s b).1 then some [(pc, aa_pi s r a)] else
    let q := aa_rem (aa_lohi s a).1 (aa_lohi s a).2 (aa_lohi s b).2
    match aa_as (aa_pf s r q.1 q.2) (aa_plus (aa_add b (aa_id s.1.1.length) (-1)) (-1)) with
    | some p => some [(pc, p)]
    | none => none)
  else if (aa_lohi s b).2 < 0 then some [(pc, aa_pf s r (-2147483648) 2147483647)] else none
def aa_kand (pc : Nat) (s : aa_S) (_a b : aa_F) (r : List aa_A) : aa_Q := match b.2 with
  | [] => if 0 ≤ b.1 then some [(pc, aa_pf s r 0 b.1)] else some [(pc, aa_pf s r (-2147483648) 2147483647)]
  | _ => some [(pc, aa_pf s r (-2147483648) 2147483647)]
def aa_klmul (pc : Nat) (s : aa_S) (a b : aa_F) (r : List aa_A) : aa_Q := match b.2, a.2 with
  | [], _ => some [(pc, aa_arl s r (aa_scale a b.1))]
  | _, [] => some [(pc, aa_arl s r (aa_scale b a.1))]
  | _, _ =>
    let q := aa_mul (aa_lohi s a).1 (aa_lohi s a).2 (aa_lohi s b).1 (aa_lohi s b).2
    some [(pc, if (-9223372036854775808) ≤ q.1 ∧ q.2 ≤ 9223372036854775807 then aa_pfl s r q.1 q.2 else aa_pfl s r (-9223372036854775808) 9223372036854775807)]
def aa_kldiv (pc : Nat) (s : aa_S) (a b : aa_F) (r : List aa_A) : aa_Q :=
  if 1 ≤ (aa_lohi s b).1 then (let q := aa_div (aa_lohi s a).1 (aa_lohi s a).2 (aa_lohi s b).1 (aa_lohi s b).2; some [(pc, aa_pfl s r q.1 q.2)])
  else if (aa_lohi s b).2 < 0 then some [(pc, aa_pfl s r (-9223372036854775808) 9223372036854775807)] else none
section AK
variable {ws fr : aa_W} {s : aa_S} {ν : List Int} {g : aa_G} {lv : zz_V} {st : List Value} {pc : Nat} {a b : aa_F} {r : List aa_A} {l : List (Nat × aa_S)} {q : List Value}
theorem aa_ev_nil {n : Int} {f : aa_F} (h : f.2 = []) (hf : aa_ev ν f = some n) : f.1 = n := by
  obtain ⟨y, hy, e⟩ := aa_ev_some.mp hf
  rw [h] at hy
  cases hy
  omega
theorem aa_kmul_ok (h : aa_ok s ν g lv st) {x y : Int32} (e : aa_kmul pc s a b r = some l) (ha : aa_ev ν a = some x.toInt) (hb : aa_ev ν b = some y.toInt) (hq : aa_ms ν r q) : aa_res l ν g pc lv (.int (x * y) :: q) := by
  unfold aa_kmul at e
  split at e
  · rename_i h0
    cases e
    have e1 := aa_ev_nil h0 hb
    refine aa_ar_ok h hq (aa_scale_ev ha) ?_
    rw [Int32.toInt_mul, e1, Int.mul_comm]
  · rename_i h0 hx
    cases e
    have e1 := aa_ev_nil h0 ha
    refine aa_ar_ok h hq (aa_scale_ev hb) ?_
    rw [Int32.toInt_mul, e1]
  · cases e
    have b1 := aa_lo_ok h.1 h.2.1 ha
    have b2 := aa_hi_ok h.1 h.2.1 ha
    have b3 := aa_lo_ok h.1 h.2.1 hb
    have b4 := aa_hi_ok h.1 h.2.1 hb
    have b5 := aa_mul_ok b1 b2 b3 b4
    split
    · rename_i hc
      have hc : (-2147483648) ≤ (aa_mul (aa_lo s.1.1 s.1.2 a) (aa_hi s.1.1 s.1.2 a) (aa_lo s.1.1 s.1.2 b) (aa_hi s.1.1 s.1.2 b)).1 ∧ (aa_mul (aa_lo s.1.1 s.1.2 a) (aa_hi s.1.1 s.1.2 a) (aa_lo s.1.1 s.1.2 b) (aa_hi s.1.1 s.1.2 b)).2 ≤ 2147483647 := hc
      have e1 : (x * y).toInt = x.toInt * y.toInt := by
        rw [Int32.toInt_mul, aa_bm (by omega) (by omega)]
      exact aa_pf_ok h hq (by rw [e1]; exact b5.1) (by rw [e1]; exact b5.2)
    · exact aa_pff_ok h hq
theorem aa_klmul_ok (h : aa_ok s ν g lv st) {x y : Int64} (e : aa_klmul pc s a b r = some l) (ha : aa_ev ν a = some x.toInt) (hb : aa_ev ν b = some y.toInt) (hq : aa_ms ν r q) : aa_res l ν g pc lv (.long (x * y) :: q) := by
  unfold aa_klmul at e
  split at e
  · rename_i h0
    cases e
    have e1 := aa_ev_nil h0 hb
    refine aa_arl_ok h hq (aa_scale_ev ha) ?_
    rw [Int64.toInt_mul, e1, Int.mul_comm]
  · rename_i h0 hx
    cases e
    have e1 := aa_ev_nil h0 ha
    refine aa_arl_ok h hq (aa_scale_ev hb) ?_
    rw [Int64.toInt_mul, e1]
  · cases e
    have b1 := aa_lo_ok h.1 h.2.1 ha
    have b2 := aa_hi_ok h.1 h.2.1 ha
    have b3 := aa_lo_ok h.1 h.2.1 hb
    have b4 := aa_hi_ok h.1 h.2.1 hb
    have b5 := aa_mul_ok b1 b2 b3 b4
    split
    · rename_i hc
      have hc : (-9223372036854775808) ≤ (aa_mul (aa_lo s.1.1 s.1.2 a) (aa_hi s.1.1 s.1.2 a) (aa_lo s.1.1 s.1.2 b) (aa_hi s.1.1 s.1.2 b)).1 ∧ (aa_mul (aa_lo s.1.1 s.1.2 a) (aa_hi s.1.1 s.1.2 a) (aa_lo s.1.1 s.1.2 b) (aa_hi s.1.1 s.1.2 b)).2 ≤ 9223372036854775807 := hc
      have e1 : (x * y).toInt = x.toInt * y.toInt := by
        rw [Int64.toInt_mul, aa_bml (by omega) (by omega)]
      exact aa_pfl_ok h hq (by rw [e1]; exact b5.1) (by rw [e1]; exact b5.2)
    · exact aa_pffl_ok h hq
theorem aa_one_ne {y : Int32} (h : 1 ≤ y.toInt) : y ≠ -1 := fun e => by
  rw [e] at h
  exact absurd h (by decide)
theorem aa_one_nel {y : Int64} (h : 1 ≤ y.toInt) : y ≠ -1 := fun e => by
  rw [e] at h
  exact absurd h (by decide)
theorem aa_kdiv_ok (h : aa_ok s ν g lv st) {x y : Int32} (e : aa_kdiv pc s a b r = some l) (ha : aa_ev ν a = some x.toInt) (hb : aa_ev ν b = some y.toInt) (hq : aa_ms ν r q) : y ≠ 0 ∧ aa_res l ν g pc lv (.int (x / y) :: q) := by
  have b1 := aa_lo_ok h.1 h.2.1 ha
  have b2 := aa_hi_ok h.1 h.2.1 ha
  have b3 := aa_lo_ok h.1 h.2.1 hb
  have b4 := aa_hi_ok h.1 h.2.1 hb
  unfold aa_kdiv at e
  split at e
  · rename_i hc
    have hc : 1 ≤ aa_lo s.1.1 s.1.2 b := hc
    cases e
    have b5 := aa_div_ok b1 b2 b3 b4 hc
    have e1 : (x / y).toInt = x.toInt.tdiv y.toInt := Int32.toInt_div_of_ne_right _ _ (aa_one_ne (by omega))
    exact ⟨fun z => by rw [(aa_i32_zero y).mp z] at b3; omega, aa_pf_ok h hq (by rw [e1]; exact b5.1) (by rw [e1]; exact b5.2)⟩
  · split at e
    · rename_i hc
      have hc : aa_hi s.1.1 s.1.2 b < 0 := hc
      cases e
      exact ⟨fun z => by rw [(aa_i32_zero y).mp z] at b4; omega, aa_pff_ok h hq⟩
    · cases e
theorem aa_kldiv_ok (h : aa_ok s ν g lv st) {x y : Int64} (e : aa_kldiv pc s a b r = some l) (ha : aa_ev ν a = some x.toInt) (hb : aa_ev ν b = some y.toInt) (hq : aa_ms ν r q) : y ≠ 0 ∧ aa_res l ν g pc lv (.long (x / y) :: q) := by
  have b1 := aa_lo_ok h.1 h.2.1 ha
  have b2 := aa_hi_ok h.1 h.2.1 ha
  have b3 := aa_lo_ok h.1 h.2.1 hb
  have b4 := aa_hi_ok h.1 h.2.1 hb
  have z0 : y = 0 → y.toInt = 0 := fun z => by rw [z]; rfl
  unfold aa_kldiv at e
  split at e
  · rename_i hc
    have hc : 1 ≤ aa_lo s.1.1 s.1.2 b := hc
    cases e
    have b5 := aa_div_ok b1 b2 b3 b4 hc
    have e1 : (x / y).toInt = x.toInt.tdiv y.toInt := Int64.toInt_div_of_ne_right _ _ (aa_one_nel (by omega))
    exact ⟨fun z => by rw [z0 z] at b3; omega, aa_pfl_ok h hq (by rw [e1]; exact b5.1) (by rw [e1]; exact b5.2)⟩
  · split at e
    · rename_i hc
      have hc : aa_hi s.1.1 s.1.2 b < 0 := hc
      cases e
      exact ⟨fun z => by rw [z0 z] at b4; omega, aa_pffl_ok h hq⟩
    · cases e
theorem aa_krem_ok (h : aa_ok s ν g lv st) {x y : Int32} (e : aa_krem pc s a b r = some l) (ha : aa_ev ν a = some x.toInt) (hb : aa_ev ν b = some y.toInt) (hq : aa_ms ν r q) : y ≠ 0 ∧ aa_res l ν g pc lv (.int (x - x / y * y) :: q) := by
  have b1 := aa_lo_ok h.1 h.2.1 ha
  have b2 := aa_hi_ok h.1 h.2.1 ha
  have b3 := aa_lo_ok h.1 h.2.1 hb
  have b4 := aa_hi_ok h.1 h.2.1 hb
  unfold aa_krem at e
  split at e
  · rename_i hc
    have hc : 1 ≤ aa_lo s.1.1 s.1.2 b := hc
    have e1 : (x / y).toInt = x.toInt.tdiv y.toInt := Int32.toInt_div_of_ne_right _ _ (aa_one_ne (by omega))
    have e3 : x.toInt.tmod y.toInt = x.toInt - x.toInt.tdiv y.toInt * y.toInt := by rw [Int.tmod_def, Int.mul_comm]
    have b5 := aa_rem_ok (a := x.toInt) (b := x.toInt) (d := y.toInt) (Int.le_refl _) (Int.le_refl _) (by omega) (Int.le_refl _)
    have hx1 := x.le_toInt
    have hx2 := x.toInt_lt
    have hy1 := y.le_toInt
    have hy2 := y.toInt_lt
    have k1 : x.toInt.tmod y.toInt < y.toInt := Int.tmod_lt_of_pos _ (by omega)
    have k2 : -y.toInt < x.toInt.tmod y.toInt := by
      have := Int.tmod_lt_of_pos (-x.toInt) (show 0 < y.toInt by omega)
      rw [Int.neg_tmod] at this
      omega
    have e2 : (x - x / y * y).toInt = x.toInt.tmod y.toInt := by
      rw [Int32.toInt_sub, Int32.toInt_mul, e1]
      have e4 : x.toInt.tdiv y.toInt * y.toInt = x.toInt - x.toInt.tmod y.toInt := by omega
      have e5 : (-2147483648) ≤ x.toInt - x.toInt.tmod y.toInt ∧ x.toInt - x.toInt.tmod y.toInt ≤ 2147483647 := by
        unfold aa_rem at b5
        dsimp only at b5
        split at b5 <;> split at b5 <;> omega
      rw [e4, aa_bm e5.1 e5.2, aa_bm (by omega) (by omega)]
      omega
    refine ⟨fun z => by rw [(aa_i32_zero y).mp z] at b3; omega, ?_⟩
    split at e
    · rename_i hd
      have hd : 0 ≤ aa_lo s.1.1 s.1.2 a ∧ aa_hi s.1.1 s.1.2 a < aa_lo s.1.1 s.1.2 b := hd
      cases e
      refine aa_res0 (aa_pi_ok h hq ?_)
      rw [e2, Int.tmod_eq_emod_of_nonneg (by omega), Int.emod_eq_of_lt (by omega) (by omega)]
      exact ha
    · have b6 := aa_rem_ok b1 b2 (show 1 ≤ y.toInt by omega) b4
      have hn := aa_ok_new h (lo := (aa_rem (aa_lo s.1.1 s.1.2 a) (aa_hi s.1.1 s.1.2 a) (aa_hi s.1.1 s.1.2 b)).1) (hi := (aa_rem (aa_lo s.1.1 s.1.2 a) (aa_hi s.1.1 s.1.2 a) (aa_hi s.1.1 s.1.2 b)).2) (v := (x - x / y * y).toInt) (by rw [e2]; exact b6.1) (by rw [e2]; exact b6.2) (gr := 0) (fun z => absurd rfl z)
      have hn : aa_ok (aa_pf s r (aa_rem (aa_lo s.1.1 s.1.2 a) (aa_hi s.1.1 s.1.2 a) (aa_hi s.1.1 s.1.2 b)).1 (aa_rem (aa_lo s.1.1 s.1.2 a) (aa_hi s.1.1 s.1.2 a) (aa_hi s.1.1 s.1.2 b)).2) (ν ++ [(x - x / y * y).toInt]) g lv (.int (x - x / y * y) :: q) := ⟨hn.1, hn.2.1, hn.2.2.1, hn.2.2.2.1, ⟨⟨Nat.one_ne_zero, _, rfl, aa_ev_new h.1⟩, aa_ms_app hq⟩⟩
      obtain ⟨s', e6, h6⟩ := aa_as_ok hn (aa_plus_ev (n := -1) (aa_add_ev (k := -1) (aa_ev_app hb) (aa_ev_new h.1))) (by rw [e2]; omega)
      unfold aa_lohi at e
      dsimp only at e
      rw [e6] at e
      cases e
      exact aa_res1 h6
  · split at e
    · rename_i hc
      have hc : aa_hi s.1.1 s.1.2 b < 0 := hc
      cases e
      exact ⟨fun z => by rw [(aa_i32_zero y).mp z] at b4; omega, aa_pff_ok h hq⟩
    · cases e
theorem aa_and_le (x y : Int32) (h : 0 ≤ y.toInt) : 0 ≤ (x &&& y).toInt ∧ (x &&& y).toInt ≤ y.toInt := by
  have e1 : (x &&& y).toInt = (x.toBitVec &&& y.toBitVec).toInt := rfl
  have e2 : y.toInt = y.toBitVec.toInt := rfl
  have hy : y.toBitVec.toNat < 2 ^ 31 := by
    rw [e2, BitVec.toInt_eq_toNat_cond] at h
    have := y.toBitVec.isLt
    split at h <;> omega
  have hn : (x.toBitVec &&& y.toBitVec).toNat ≤ y.toBitVec.toNat := by
    rw [BitVec.toNat_and]
    exact Nat.and_le_right
  rw [e1, e2, BitVec.toInt_eq_toNat_cond, BitVec.toInt_eq_toNat_cond, if_pos (by omega), if_pos (by omega)]
  omega
theorem aa_kand_ok (h : aa_ok s ν g lv st) {x y : Int32} (e : aa_kand pc s a b r = some l) (hb : aa_ev ν b = some y.toInt) (hq : aa_ms ν r q) : aa_res l ν g pc lv (.int (x &&& y) :: q) := by
  unfold aa_kand at e
  split at e
  · rename_i h0
    have e1 := aa_ev_nil h0 hb
    split at e
    · rename_i hc
      cases e
      have := aa_and_le x y (by omega)
      exact aa_pf_ok h hq this.1 (by omega)
    · cases e
      exact aa_pff_ok h hq
  · cases e
    exact aa_pff_ok h hq
end AK
end
section
/-! AN ANALYSER OF METHODS: all instructions but calls and returns -/
def aa_cat : List aa_A → Nat
  | [] => 0
  | a :: r => (if Nat.beq a.1 2 = true then 2 else 1) + aa_cat r
theorem aa_cat1 {ν : List Int} {a : aa_A} {v : Value} (h0 : a.1 ≠ 0) (h1 : aa_mv ν a (some v)) : v.category = if Nat.beq a.1 2 = true then 2 else 1 := by
  obtain ⟨k, f⟩ := a
  match k, h0, h1 with
  | 0, h0, _ => exact absurd rfl h0
  | 1, _, h1 => obtain ⟨w, e, -⟩ := h1; cases e; rfl
  | 2, _, h1 => obtain ⟨w, e, -⟩ := h1; cases e; rfl
  | 3, _, h1 => obtain ⟨w, e, -⟩ := h1; cases e; rfl
  | 4, _, h1 =>
    have h1 : some v = some Value.null := h1
    cases h1
    rfl
  | k + 5, _, h1 => exact h1.elim
theorem aa_cat_ok {ν : List Int} : ∀ {l : List aa_A} {q : List Value}, aa_ms ν l q → (q.map fun v => v.category).sum = aa_cat l
  | [], [], _ => rfl
  | [], _ :: _, h => h.elim
  | _ :: _, [], h => h.elim
  | a :: l, v :: q, h => by
    rw [List.map_cons, List.sum_cons, aa_cat, aa_cat_ok h.2, aa_cat1 h.1.1 h.1.2]
def aa_kv (pc : Nat) (s : aa_S) (v : Value) : aa_Q := match v with
  | .int a => some [(pc, aa_pi s s.2.2.2 (aa_c a.toInt))]
  | _ => none
def aa_kvl (pc : Nat) (s : aa_S) (v : Value) : aa_Q := match v with
  | .long a => some [(pc, aa_wst s ((2, aa_c a.toInt) :: s.2.2.2))]
  | _ => none
def aa_kld (t pc : Nat) (s : aa_S) (k : Nat) : aa_Q := match s.2.2.1[k]? with
  | some (t', f) => if Nat.beq t' t = true then some [(pc, aa_wst s ((t, f) :: s.2.2.2))] else none
  | none => none
def aa_kla (pc : Nat) (s : aa_S) (k : Nat) : aa_Q := match s.2.2.1[k]? with
  | some (3, f) => some [(pc, aa_wst s ((3, f) :: s.2.2.2))]
  | some (4, f) => some [(pc, aa_wst s ((4, f) :: s.2.2.2))]
  | _ => none
def aa_kis (pc : Nat) (s : aa_S) (k : Nat) : aa_Q := match s.2.2.2 with
  | (1, f) :: r => if k < s.2.2.1.length then some [(pc, aa_wlv s ((aa_pre s.2.2.1 k).set k (1, f)) r)] else none
  | _ => none
def aa_kls (pc : Nat) (s : aa_S) (k : Nat) : aa_Q := match s.2.2.2 with
  | (2, f) :: r => if k + 1 < s.2.2.1.length then some [(pc, aa_wlv s (((aa_pre s.2.2.1 k).set k (2, f)).set (k + 1) (0, aa_c 0)) r)] else none
  | _ => none
def aa_kas (pc : Nat) (s : aa_S) (k : Nat) : aa_Q := match s.2.2.2 with
  | (3, f) :: r => if k < s.2.2.1.length then some [(pc, aa_wlv s ((aa_pre s.2.2.1 k).set k (3, f)) r)] else none
  | (4, f) :: r => if k < s.2.2.1.length then some [(pc, aa_wlv s ((aa_pre s.2.2.1 k).set k (4, f)) r)] else none
  | _ => none
def aa_kii (pc : Nat) (s : aa_S) (k : Nat) (n : Int) : aa_Q := match s.2.2.1[k]? with
  | some (1, f) => aa_kis pc (aa_ar s s.2.2.2 (aa_plus f n)) k
  | _ => none
def aa_ksw (s : aa_S) (sw : List (Int × Nat)) (x : Nat) : aa_Q := aa_w1 s fun a r => match a.2 with
  | [] => some [(zz_sw sw x a.1, aa_wst s r)]
  | _ => some (sw.flatMap (fun q => (aa_as2 (aa_wst s r) (aa_plus a (-q.1))).toList.map fun t => (q.2, t)) ++ [(x, aa_wst s r)])
def aa_pr (s : aa_S) (st : List aa_A) (gr : Nat) : aa_S := ((s.1.1 ++ [(0, 553, gr)], s.1.2), (s.2.1, (s.2.2.1, (3, aa_id s.1.1.length) :: st)))
def aa_kgf (pc x y : Nat) (s : aa_S) : aa_Q := aa_wr s fun f r => if Nat.beq (aa_gp s.1.1 f) 0 = true then none else match aa_gi (aa_gp s.1.1 f) with
  | (0, c, _, ts) => if Nat.beq c x = true then (match ts[y]? with
    | some 0 => (match aa_ld (aa_wst s r) f (aa_c y) with
      | some (q, s') => some [(pc, aa_pi s' r q)]
      | none => none)
    | some (t + 1) => (match f.2 with
      | [] => (match zz_ly f.1.toNat with
        | .inr (.inr (_, fs)) => (match fs[y]? with
          | some (some (some q)) => some [(pc, aa_wst s ((3, aa_c q) :: r))]
          | _ => none)
        | _ => none)
      | _ => some [(pc, aa_pr s r (t + 1))])
    | none => none) else none
  | _ => none
def aa_kpf (ws fr : aa_W) (hk : aa_Hk) (pc x y u : Nat) (s : aa_S) : aa_Q := match s.2.2.2 with
  | (1, a) :: (3, f) :: r => if Nat.beq (aa_gp s.1.1 f) 0 = true then none else (match aa_gi (aa_gp s.1.1 f) with
    | (0, c, _, ts) => if Nat.beq c x = true ∧ ts[y]? = some 0 ∧ (u = 0 ∨ (u = 1 ∧ 0 ≤ aa_lo s.1.1 s.1.2 a ∧ aa_hi s.1.1 s.1.2 a ≤ 1)) then (match aa_sto ws fr hk (aa_wst s r) f (aa_c y) a with
      | some s' => some [(pc, s')]
      | none => none) else none
    | _ => none)
  | _ => none
def aa_kilc (b : Bool) (t : Nat) : Bool := match b with
  | true => Nat.beq t 1 || Nat.beq t 2
  | false => Nat.beq t 0
def aa_kil (pc : Nat) (byt : Bool) (s : aa_S) : aa_Q := match s.2.2.2 with
  | (1, i) :: (3, f) :: r => if Nat.beq (aa_gp s.1.1 f) 0 = true then none else (match aa_gi (aa_gp s.1.1 f) with
    | (1, t, n, _) => if aa_kilc byt t = true ∧ 0 ≤ aa_lo s.1.1 s.1.2 i ∧ aa_hi s.1.1 s.1.2 i < n then (match aa_ld (aa_wst s r) f i with
      | some (q, s') => some [(pc, aa_pi s' r q)]
      | none => none) else none
    | _ => none)
  | _ => none
def aa_kia (ws fr : aa_W) (hk : aa_Hk) (pc : Nat) (s : aa_S) : aa_Q := match s.2.2.2 with
  | (1, a) :: (1, i) :: (3, f) :: r => if Nat.beq (aa_gp s.1.1 f) 0 = true then none else (match aa_gi (aa_gp s.1.1 f) with
    | (1, t, n, _) => if t = 0 ∧ 0 ≤ aa_lo s.1.1 s.1.2 i ∧ aa_hi s.1.1 s.1.2 i < n then (match aa_sto ws fr hk (aa_wst s r) f i a with
      | some s' => some [(pc, s')]
      | none => none) else none
    | _ => none)
  | _ => none
def aa_kba (ws fr : aa_W) (hk : aa_Hk) (pc : Nat) (s : aa_S) : aa_Q := match s.2.2.2 with
  | (1, _) :: (1, i) :: (3, f) :: r => if Nat.beq (aa_gp s.1.1 f) 0 = true then none else (match aa_gi (aa_gp s.1.1 f) with
    | (1, t, n, _) => if (t = 1 ∨ t = 2) ∧ 0 ≤ aa_lo s.1.1 s.1.2 i ∧ aa_hi s.1.1 s.1.2 i < n then (match aa_sto ws fr hk ((s.1.1 ++ [if t = 1 then (0, 1, 0) else (-128, 127, 0)], s.1.2), (s.2.1, (s.2.2.1, r))) f i (aa_id s.1.1.length) with
      | some s' => some [(pc, s')]
      | none => none) else none
    | _ => none)
  | _ => none
def aa_kal (pc : Nat) (s : aa_S) : aa_Q := match s.2.2.2 with
  | (1, i) :: (3, f) :: r => if Nat.beq (aa_gp s.1.1 f) 0 = true then none else (match aa_gi (aa_gp s.1.1 f) with
    | (2, _, n, tg :: _) => if tg ≠ 0 ∧ 0 ≤ aa_lo s.1.1 s.1.2 i ∧ aa_hi s.1.1 s.1.2 i < n then some [(pc, aa_pr s r tg)] else none
    | _ => none)
  | _ => none
def aa_kle (pc : Nat) (s : aa_S) : aa_Q := aa_wr s fun f r => if Nat.beq (aa_gp s.1.1 f) 0 = true then none else match aa_gi (aa_gp s.1.1 f) with
  | (1, t, n, _) => if t < 5 then some [(pc, aa_pi s r (aa_c (Int32.ofNat n).toInt))] else none
  | _ => none
def aa_kcp (ws fr : aa_W) (_hk : aa_Hk) (pc : Nat) (s : aa_S) : aa_Q := match s.2.2.2 with
  | (1, n) :: (1, dp) :: (3, a) :: (1, sp) :: (3, b) :: r =>
    let ga := aa_gp s.1.1 a
    let gb := aa_gp s.1.1 b
    if Nat.beq ga 0 = true ∨ Nat.beq gb 0 = true then none else (match aa_gi ga, aa_gi gb with
    | (1, ta, na, _), (1, tb, nb, _) => if (ta = 0 ∧ tb = 0 ∧ aa_flat ga = true ∧ aa_flat gb = true) ∧ ((aa_iv ga 0).1 ≤ (aa_iv gb 0).1 ∧ (aa_iv gb 0).2 ≤ (aa_iv ga 0).2) ∧ (0 ≤ aa_lo s.1.1 s.1.2 n ∧ 0 ≤ aa_lo s.1.1 s.1.2 dp ∧ 0 ≤ aa_lo s.1.1 s.1.2 sp) ∧ (aa_hi s.1.1 s.1.2 (aa_add sp n 1) ≤ nb ∧ aa_hi s.1.1 s.1.2 (aa_add dp n 1) ≤ na) ∧ (aa_vdep ga 0 0 = false ∧ aa_cat r ≤ 8 ∧ aa_inw ga 0 ((na : Int) - 1) ws = true ∧ aa_inw ga 0 ((na : Int) - 1) fr = true) then
        some [(pc, (s.1, (s.2.1.filter (aa_kl s.1.1 s.1.2 [(ga, 0, (na : Int) - 1)]), (s.2.2.1, r))))] else none
    | _, _ => none)
  | _ => none
def aa_kmm (up : Bool) (pc : Nat) (s : aa_S) : aa_Q := aa_w2 s fun a b r => if aa_cat r ≤ 8 then
  (let p := if up = true then aa_pf s r (max (aa_lohi s a).1 (aa_lohi s b).1) (max (aa_lohi s a).2 (aa_lohi s b).2) else aa_pf s r (min (aa_lohi s a).1 (aa_lohi s b).1) (min (aa_lohi s a).2 (aa_lohi s b).2)
   let k : Int := if up = true then -1 else 1
   match aa_as p (aa_scale (aa_add a (aa_id s.1.1.length) (-1)) k) with
   | none => none
   | some p1 => match aa_as p1 (aa_scale (aa_add b (aa_id s.1.1.length) (-1)) k) with
     | none => none
     | some p2 => some [(pc, p2)]) else none
def aa_kab (pc : Nat) (s : aa_S) : aa_Q := aa_w1 s fun a r => if aa_cat r ≤ 8 then
  (if 0 ≤ (aa_lohi s a).1 then some [(pc, aa_pi s r a)] else if (-2147483648) < (aa_lohi s a).1 then some [(pc, aa_pf s r 0 (max (aa_lohi s a).2 (-(aa_lohi s a).1)))] else some [(pc, aa_pf s r (-2147483648) 2147483647)]) else none
def aa_one (t : Nat) : Bool := Nat.beq t 1 || (Nat.beq t 3 || Nat.beq t 4)
def aa_st (ws fr : aa_W) (hk : aa_Hk) (e : zz_I) (pc : Nat) (s : aa_S) : aa_Q := match e with
  | (i, (x, y, u, _), v, sw) => match i with
    | .iconst n => some [(pc + 1, aa_pi s s.2.2.2 (aa_c (Int32.ofInt n).toInt))]
    | .bipush n => some [(pc + 2, aa_pi s s.2.2.2 (aa_c (Int8.ofInt n).toInt32.toInt))]
    | .sipush n => some [(pc + 3, aa_pi s s.2.2.2 (aa_c (Int16.ofInt n).toInt32.toInt))]
    | .lconst n => some [(pc + 1, aa_wst s ((2, aa_c (Int64.ofNat (n : Nat)).toInt) :: s.2.2.2))]
    | .aconst_null => some [(pc + 1, aa_wst s ((4, aa_c 0) :: s.2.2.2))]
    | .ldc _ => aa_kv (pc + 2) s v
    | .ldc_w _ => aa_kv (pc + 3) s v
    | .ldc2_w _ => aa_kvl (pc + 3) s v
    | .iload k => aa_kld 1 (pc + 2) s k
    | .iload_n k => aa_kld 1 (pc + 1) s k
    | .lload k => aa_kld 2 (pc + 2) s k
    | .lload_n k => aa_kld 2 (pc + 1) s k
    | .aload k => aa_kla (pc + 2) s k
    | .aload_n k => aa_kla (pc + 1) s k
    | .istore k => aa_kis (pc + 2) s k
    | .istore_n k => aa_kis (pc + 1) s k
    | .lstore k => aa_kls (pc + 2) s k
    | .lstore_n k => aa_kls (pc + 1) s k
    | .astore k => aa_kas (pc + 2) s k
    | .astore_n k => aa_kas (pc + 1) s k
    | .iinc k n => aa_kii (pc + 3) s k (Int32.ofInt n).toInt
    | .iadd => aa_w2 s fun a b r => some [(pc + 1, aa_ar s r (aa_add a b 1))]
    | .isub => aa_w2 s fun a b r => some [(pc + 1, aa_ar s r (aa_add a b (-1)))]
    | .imul => aa_w2 s fun a b r => aa_kmul (pc + 1) s a b r
    | .iand => aa_w2 s fun a b r => aa_kand (pc + 1) s a b r
    | .ior => aa_w2 s fun _ _ r => some [(pc + 1, aa_pf s r (-2147483648) 2147483647)]
    | .ixor => aa_w2 s fun _ _ r => some [(pc + 1, aa_pf s r (-2147483648) 2147483647)]
    | .ishr => aa_w2 s fun _ _ r => some [(pc + 1, aa_pf s r (-2147483648) 2147483647)]
    | .iushr => aa_w2 s fun _ _ r => some [(pc + 1, aa_pf s r (-2147483648) 2147483647)]
    | .idiv => aa_w2 s fun a b r => aa_kdiv (pc + 1) s a b r
    | .irem => aa_w2 s fun a b r => aa_krem (pc + 1) s a b r
    | .ineg => aa_w1 s fun a r => some [(pc + 1, aa_ar s r (aa_scale a (-1)))]
    | .ladd => aa_wl2 s fun a b r => some [(pc + 1, aa_arl s r (aa_add a b 1))]
    | .lsub => aa_wl2 s fun a b r => some [(pc + 1, aa_arl s r (aa_add a b (-1)))]
    | .lmul => aa_wl2 s fun a b r => aa_klmul (pc + 1) s a b r
    | .ldiv => aa_wl2 s fun a b r => aa_kldiv (pc + 1) s a b r
    | .lcmp => aa_wl2 s fun _ _ r => some [(pc + 1, aa_pf s r (-1) 1)]
    | .i2l => aa_w1 s fun a r => some [(pc + 1, aa_wst s ((2, a) :: r))]
    | .l2i => aa_wl1 s fun a r => some [(pc + 1, aa_ar s r a)]
    | .i2b => aa_w1 s fun _ r => some [(pc + 1, aa_pf s r (-128) 127)]
    | .goto _ => some [(x, s)]
    | .ifCond c _ => aa_w1 s fun a r => some (aa_two x (pc + 3) c true (aa_wst s r) a)
    | .if_icmp c _ => aa_w2 s fun a b r => some (aa_two x (pc + 3) c false (aa_wst s r) (aa_add a b (-1)))
    | .ifnull _ => (match s.2.2.2 with
      | (3, _) :: r => some [(pc + 3, aa_wst s r)]
      | (4, _) :: r => some [(x, aa_wst s r)]
      | _ => none)
    | .ifnonnull _ => (match s.2.2.2 with
      | (3, _) :: r => some [(x, aa_wst s r)]
      | (4, _) :: r => some [(pc + 3, aa_wst s r)]
      | _ => none)
    | .tableswitch _ _ _ _ => aa_ksw s sw x
    | .lookupswitch _ _ => aa_ksw s sw x
    | .dup => (match s.2.2.2 with
      | a :: r => if aa_one a.1 = true then some [(pc + 1, aa_wst s (a :: a :: r))] else none
      | _ => none)
    | .dup2 => (match s.2.2.2 with
      | a :: b :: r => if aa_one a.1 = true ∧ aa_one b.1 = true then some [(pc + 1, aa_wst s (a :: b :: a :: b :: r))] else none
      | _ => none)
    | .pop => (match s.2.2.2 with
      | a :: r => if aa_one a.1 = true then some [(pc + 1, aa_wst s r)] else none
      | _ => none)
    | .dup_x1 => (match s.2.2.2 with
      | a :: b :: r => if aa_one a.1 = true ∧ aa_one b.1 = true then some [(pc + 1, aa_wst s (a :: b :: a :: r))] else none
      | _ => none)
    | .getfield _ => aa_kgf (pc + 3) x y s
    | .putfield _ => aa_kpf ws fr hk (pc + 3) x y u s
    | .iaload => aa_kil (pc + 1) false s
    | .baload => aa_kil (pc + 1) true s
    | .iastore => aa_kia ws fr hk (pc + 1) s
    | .bastore => aa_kba ws fr hk (pc + 1) s
    | .aaload => aa_kal (pc + 1) s
    | .arraylength => aa_kle (pc + 1) s
    | .invokestatic _ => if x < 100000 then none else if x = 100001 then aa_kcp ws fr hk (pc + 3) s else if x = 100002 then aa_kmm false (pc + 3) s else if x = 100003 then aa_kmm true (pc + 3) s else if x = 100004 then aa_kab (pc + 3) s else none
    | .invokespecial _ => if x = 100000 then aa_wr s fun _ r => (if aa_cat r ≤ 8 then some [(pc + 3, aa_wst s r)] else none) else none
    | _ => none
end
section
/-! AN ANALYSER OF METHODS: the instructions are well told -/
section AL
variable {Φ : aa_G → Prop} {ws fr : aa_W} {hk : aa_Hk} {s : aa_S} {ν : List Int} {g : aa_G} {lv : zz_V} {st : List Value} {pc : Nat}
theorem aa_kv_ok {v : Value} {z : Option zz_O} (h : aa_ok s ν g lv st) (hi : aa_inv g) (hz : ∀ a, v = .int a → z = zz_go pc lv (.int a :: st) (aa_H g)) : aa_snd Φ ws (aa_kv pc s v) ν g z := aa_snd.go hi fun l hl => by
  unfold aa_kv at hl
  split at hl
  · cases hl
    exact ⟨_, _, _, hz _ rfl, aa_res0 (aa_pi_ok h h.2.2.2.2 aa_c_ev)⟩
  · cases hl
theorem aa_kvl_ok {v : Value} {z : Option zz_O} (h : aa_ok s ν g lv st) (hi : aa_inv g) (hz : ∀ a, v = .long a → z = zz_go pc lv (.long a :: st) (aa_H g)) : aa_snd Φ ws (aa_kvl pc s v) ν g z := aa_snd.go hi fun l hl => by
  unfold aa_kvl at hl
  split at hl
  · cases hl
    exact ⟨_, _, _, hz _ rfl, aa_res0 (aa_wst_ok h ⟨⟨Nat.succ_ne_zero _, _, rfl, aa_c_ev⟩, h.2.2.2.2⟩)⟩
  · cases hl
theorem aa_zld {l : List aa_A} {k : Nat} {a : aa_A} (h : aa_ml ν l lv) (hk : l[k]? = some a) {v : Value} (hv : ∀ w, aa_mv ν a w → w = some v) : zz_ld lv k = some v := by
  obtain ⟨w, h1, h2⟩ := aa_ml_get h hk
  rw [hv w h2] at h1
  unfold zz_ld
  rw [h1]
theorem aa_kld1_ok {k : Nat} (h : aa_ok s ν g lv st) (hi : aa_inv g) : aa_snd Φ ws (aa_kld 1 pc s k) ν g (zz_int lv k pc st (aa_H g)) := aa_snd.go hi fun l hl => by
  unfold aa_kld at hl
  split at hl
  · rename_i t f hk
    split at hl
    · rename_i ht
      cases hl
      have e := Nat.eq_of_beq_eq_true ht
      subst e
      obtain ⟨w, h1, a, rfl, h2⟩ := aa_ml_get h.2.2.2.1 hk
      have e : zz_ld lv k = some (.int a) := by unfold zz_ld; rw [h1]
      refine ⟨pc, lv, .int a :: st, ?_, aa_res0 (aa_pi_ok h h.2.2.2.2 h2)⟩
      unfold zz_int
      rw [e]
      rfl
    · cases hl
  · cases hl
theorem aa_kld2_ok {k : Nat} (h : aa_ok s ν g lv st) (hi : aa_inv g) : aa_snd Φ ws (aa_kld 2 pc s k) ν g (zz_lng lv k pc st (aa_H g)) := aa_snd.go hi fun l hl => by
  unfold aa_kld at hl
  split at hl
  · rename_i t f hk
    split at hl
    · rename_i ht
      cases hl
      have e := Nat.eq_of_beq_eq_true ht
      subst e
      obtain ⟨w, h1, a, rfl, h2⟩ := aa_ml_get h.2.2.2.1 hk
      have e : zz_ld lv k = some (.long a) := by unfold zz_ld; rw [h1]
      refine ⟨pc, lv, .long a :: st, ?_, aa_res0 (aa_wst_ok h ⟨⟨Nat.succ_ne_zero _, a, rfl, h2⟩, h.2.2.2.2⟩)⟩
      unfold zz_lng
      rw [e]
      rfl
    · cases hl
  · cases hl
theorem aa_kla_ok {k : Nat} (h : aa_ok s ν g lv st) (hi : aa_inv g) : aa_snd Φ ws (aa_kla pc s k) ν g (zz_rfl lv k pc st (aa_H g)) := aa_snd.go hi fun l hl => by
  unfold aa_kla at hl
  split at hl
  · rename_i f hk
    cases hl
    obtain ⟨w, h1, a, rfl, h2⟩ := aa_ml_get h.2.2.2.1 hk
    have e : zz_ld lv k = some (.ref a) := by unfold zz_ld; rw [h1]
    refine ⟨pc, lv, .ref a :: st, ?_, aa_res0 (aa_wst_ok h ⟨⟨Nat.succ_ne_zero _, a, rfl, h2⟩, h.2.2.2.2⟩)⟩
    unfold zz_rfl
    rw [e]
    rfl
  · rename_i f hk
    cases hl
    obtain ⟨w, h1, h2⟩ := aa_ml_get h.2.2.2.1 hk
    have h2 : w = some .null := h2
    subst h2
    have e : zz_ld lv k = some .null := by unfold zz_ld; rw [h1]
    refine ⟨pc, lv, .null :: st, ?_, aa_res0 (aa_wst_ok h ⟨⟨Nat.succ_ne_zero _, rfl⟩, h.2.2.2.2⟩)⟩
    unfold zz_rfl
    rw [e]
    rfl
  · cases hl
theorem aa_wlv_ok (h : aa_ok s ν g lv st) {l2 : List aa_A} {q2 : zz_V} {l : List aa_A} {q : List Value} (h2 : aa_ml ν l2 q2) (hq : aa_ms ν l q) : aa_ok (aa_wlv s l2 l) ν g q2 q := ⟨h.1, h.2.1, h.2.2.1, h2, hq⟩
theorem aa_kis_at {k : Nat} (h : aa_ok s ν g lv st) {l : List (Nat × aa_S)} (hl : aa_kis pc s k = some l) : ∃ (a : Int32) (q : List Value), st = .int a :: q ∧ k < lv.length ∧ aa_res l ν g pc (zz_st1 lv k (.int a)) q := by
  unfold aa_kis at hl
  split at hl
  · rename_i f r hs
    split at hl
    · rename_i hk
      cases hl
      have hm := h.2.2.2.2
      rw [hs] at hm
      obtain ⟨w, q, rfl, h1, h2⟩ := aa_ms_int hm
      exact ⟨w, q, rfl, by rw [aa_ml_len h.2.2.2.1]; exact hk, aa_res0 (aa_wlv_ok h (aa_st1_ok h.2.2.2.1 k ⟨w, rfl, h1⟩) h2)⟩
    · cases hl
  · cases hl
theorem aa_kis_ok {k : Nat} (h : aa_ok s ν g lv st) (hi : aa_inv g) : aa_snd Φ ws (aa_kis pc s k) ν g (zz_is lv k pc st (aa_H g)) := aa_snd.go hi fun l hl => by
  obtain ⟨a, q, rfl, h1, h2⟩ := aa_kis_at h hl
  refine ⟨_, _, _, ?_, h2⟩
  unfold zz_is
  dsimp only
  rw [if_pos h1]
  rfl
theorem aa_kls_ok {k : Nat} (h : aa_ok s ν g lv st) (hi : aa_inv g) : aa_snd Φ ws (aa_kls pc s k) ν g (zz_ls lv k pc st (aa_H g)) := aa_snd.go hi fun l hl => by
  unfold aa_kls at hl
  split at hl
  · rename_i f r hs
    split at hl
    · rename_i hk
      cases hl
      have hm := h.2.2.2.2
      rw [hs] at hm
      obtain ⟨w, q, rfl, h1, h2⟩ := aa_ms_long hm
      refine ⟨pc, zz_st2 lv k (.long w), q, ?_, aa_res0 (aa_wlv_ok h (aa_st2_ok h.2.2.2.1 k ⟨w, rfl, h1⟩) h2)⟩
      unfold zz_ls
      dsimp only
      rw [if_pos (by rw [aa_ml_len h.2.2.2.1]; exact hk)]
      rfl
    · cases hl
  · cases hl
theorem aa_kas_ok {k : Nat} (h : aa_ok s ν g lv st) (hi : aa_inv g) : aa_snd Φ ws (aa_kas pc s k) ν g (zz_as lv k pc st (aa_H g)) := aa_snd.go hi fun l hl => by
  unfold aa_kas at hl
  split at hl
  · rename_i f r hs
    split at hl
    · rename_i hk
      cases hl
      have hm := h.2.2.2.2
      rw [hs] at hm
      obtain ⟨w, q, rfl, h1, h2⟩ := aa_ms_ref hm
      refine ⟨pc, zz_st1 lv k (.ref w), q, ?_, aa_res0 (aa_wlv_ok h (aa_st1_ok h.2.2.2.1 k ⟨w, rfl, h1⟩) h2)⟩
      unfold zz_as
      dsimp only
      rw [if_pos (by rw [aa_ml_len h.2.2.2.1]; exact hk)]
      rfl
    · cases hl
  · rename_i f r hs
    split at hl
    · rename_i hk
      cases hl
      have hm := h.2.2.2.2
      rw [hs] at hm
      obtain ⟨q, rfl, h2⟩ := aa_ms_null hm
      refine ⟨pc, zz_st1 lv k .null, q, ?_, aa_res0 (aa_wlv_ok h (aa_st1_ok (a := (4, f)) h.2.2.2.1 k rfl) h2)⟩
      unfold zz_as
      dsimp only
      rw [if_pos (by rw [aa_ml_len h.2.2.2.1]; exact hk)]
      rfl
    · cases hl
  · cases hl
theorem aa_kii_ok {k : Nat} {n : Int} (h : aa_ok s ν g lv st) (hi : aa_inv g) : aa_snd Φ ws (aa_kii pc s k (Int32.ofInt n).toInt) ν g (match zz_ld lv k with
      | some (.int a) => if k < lv.length then zz_go pc (zz_st1 lv k (.int (a + Int32.ofInt n))) st (aa_H g) else none
      | _ => none) := aa_snd.go hi fun l hl => by
  unfold aa_kii at hl
  split at hl
  · rename_i f hk
    obtain ⟨w, h1, a, rfl, h2⟩ := aa_ml_get h.2.2.2.1 hk
    have e : zz_ld lv k = some (.int a) := by unfold zz_ld; rw [h1]
    rw [e]
    dsimp only
    have hr := aa_ar_ok (pc := 0) h h.2.2.2.2 (aa_plus_ev (n := (Int32.ofInt n).toInt) h2) (w := a + Int32.ofInt n) (Int32.toInt_add _ _)
    obtain ⟨s', ρ, hm, hs⟩ := hr
    have hm : (0, s') = (0, aa_ar s s.2.2.2 (aa_plus f (Int32.ofInt n).toInt)) := List.mem_singleton.mp hm
    cases hm
    obtain ⟨b, q, e1, e2, s2, ρ2, e3, e4⟩ := aa_kis_at hs hl
    cases e1
    rw [if_pos e2]
    exact ⟨_, _, _, rfl, s2, ρ ++ ρ2, e3, by rw [← List.append_assoc]; exact e4⟩
  · cases hl
theorem aa_ksw_ok {sw : List (Int × Nat)} {x : Nat} {z : Option zz_O} (h : aa_ok s ν g lv st) (hi : aa_inv g) (hz : ∀ a r, st = .int a :: r → z = zz_go (zz_sw sw x a.toInt) lv r (aa_H g)) : aa_snd Φ ws (aa_ksw s sw x) ν g z := aa_snd.go hi fun l hl => by
  obtain ⟨a, r, w, q, rfl, h1, h2, h3⟩ := aa_w1_ok h hl
  refine ⟨_, _, _, hz w q rfl, ?_⟩
  have hw := aa_wst_ok h h3
  split at h1
  · rename_i h0
    cases h1
    rw [aa_ev_nil h0 h2]
    exact aa_res0 hw
  · cases h1
    have key : ∀ (sw : List (Int × Nat)), zz_sw sw x w.toInt = x ∨ ∃ q ∈ sw, q.1 = w.toInt ∧ q.2 = zz_sw sw x w.toInt := fun sw => by
      induction sw with
      | nil => exact .inl rfl
      | cons q sw ih =>
        obtain ⟨k, t⟩ := q
        unfold zz_sw
        split
        · rename_i e
          exact .inr ⟨(k, t), List.mem_cons_self, e.symm, rfl⟩
        · rcases ih with e | ⟨q, hq, e1, e2⟩
          · exact .inl e
          · exact .inr ⟨q, List.mem_cons_of_mem _ hq, e1, e2⟩
    rcases key sw with e | ⟨q, hq, e1, e2⟩
    · rw [e]
      exact ⟨_, [], List.mem_append.mpr (.inr (List.mem_singleton.mpr rfl)), by rw [List.append_nil]; exact hw⟩
    · obtain ⟨s', e3, k⟩ := aa_as2_ok hw (f := aa_plus a (-q.1)) (by rw [aa_plus_ev h2, e1, Int.add_right_neg])
      refine ⟨s', [], List.mem_append.mpr (.inl (List.mem_flatMap.mpr ⟨q, hq, List.mem_map.mpr ⟨s', by rw [e3]; exact List.mem_cons_self, by rw [e2]⟩⟩)), by rw [List.append_nil]; exact k⟩
theorem aa_pr_ok (h : aa_ok s ν g lv st) {l : List aa_A} {q : List Value} (hq : aa_ms ν l q) {gr k : Nat} (hg : gr ≠ 0) (hk : aa_gc k = gr) : aa_res [(pc, aa_pr s l gr)] ν g pc lv (.ref k :: q) := by
  have hb : k ≤ 553 := (aa_fit_at (by rw [hk]; exact hg)).1
  have hn := aa_ok_new h (lo := 0) (hi := 553) (v := (k : Int)) (gr := gr) (by omega) (by omega) (fun _ => ⟨by omega, hk⟩)
  exact aa_res1 ⟨hn.1, hn.2.1, hn.2.2.1, hn.2.2.2.1, ⟨⟨Nat.succ_ne_zero _, k, rfl, aa_ev_new h.1⟩, aa_ms_app hq⟩⟩
theorem aa_kgf_ok {x y : Nat} (h : aa_ok s ν g lv st) (hi : aa_inv g) : aa_snd Φ ws (aa_kgf (pc + 3) x y s) ν g (zz_get x y pc lv st (aa_H g)) := aa_snd.go hi fun l hl => by
  obtain ⟨f, r, k, q, rfl, h1, h2, h3⟩ := aa_wr_ok h hl
  split at h1
  · cases h1
  · rename_i hg
    have hg : aa_gp s.1.1 f ≠ 0 := fun z => hg (by rw [z]; rfl)
    have hgc := aa_gp_ok h.1 h2 hg
    have hk0 := (aa_fit_at (k := k) (by rw [hgc]; exact hg)).2.1
    split at h1
    · rename_i c n ts hgi
      split at h1
      · rename_i hc
        have e := Nat.eq_of_beq_eq_true hc
        subst e
        obtain ⟨fs, hly, hob, hsl⟩ := aa_obj g (k := k) (by rw [hgc]; exact hg) (by rw [hgc]; exact hgi)
        have hy := aa_slots_ok hsl y
        obtain ⟨k', rfl⟩ : ∃ k', k = k' + 1 := ⟨k - 1, by omega⟩
        have hz : ∀ w, fs[y]? = some w → zz_get c y pc lv (.ref (k' + 1) :: q) (aa_H g) = (match w with
          | none => zz_go (pc + 3) lv (.int (g (k' + 1) y) :: q) (aa_H g)
          | some p => zz_go (pc + 3) lv (zz_val p :: q) (aa_H g)) := fun w hw => by
          unfold zz_get
          dsimp only
          rw [hob]
          dsimp only
          rw [hw]
          cases w <;> rfl
        split at h1
        · rename_i hts
          split at h1
          · rename_i f2 s' hld
            cases h1
            obtain ⟨hs2, ρ, k1, k2⟩ := aa_ld_at (aa_wst_ok h h3) hi hld (j := y) h2 aa_c_ev (by rw [hgc]; exact hg)
            refine ⟨_, _, _, hz none (hy.1 hts), aa_res1 (ρ := ρ) ?_⟩
            refine aa_pi_ok k1 ?_ k2
            exact aa_ms_app h3
          · cases h1
        · rename_i t hts
          obtain ⟨p, hp, hpg⟩ := hy.2 t hts
          split at h1
          · rename_i hf
            have hfk := aa_ev_nil hf h2
            have hkn : f.1.toNat = k' + 1 := by omega
            rw [hkn, hly] at h1
            dsimp only at h1
            rw [hp] at h1
            cases h1
            exact ⟨_, _, _, hz _ hp, aa_res0 (aa_wst_ok h ⟨⟨Nat.succ_ne_zero _, p, rfl, aa_c_ev⟩, h3⟩)⟩
          · cases h1
            exact ⟨_, _, _, hz _ hp, aa_pr_ok h h3 (Nat.succ_ne_zero t) hpg⟩
        · cases h1
      · cases h1
    · cases h1
theorem aa_kpf_ok (hG : aa_good Φ fr hk) {x y u : Nat} (h : aa_ok s ν g lv st) (hi : aa_inv g) : aa_snd Φ ws (aa_kpf ws fr hk (pc + 3) x y u s) ν g (zz_put x y u pc lv st (aa_H g)) := fun l hl => by
  unfold aa_kpf at hl
  split at hl
  · rename_i a f r hst
    have hm := h.2.2.2.2
    rw [hst] at hm
    obtain ⟨v, q0, rfl, h1, hm2⟩ := aa_ms_int hm
    obtain ⟨k, q, rfl, h2, h3⟩ := aa_ms_ref hm2
    split at hl
    · cases hl
    · rename_i hg
      have hg : aa_gp s.1.1 f ≠ 0 := fun z => hg (by rw [z]; rfl)
      have hgc := aa_gp_ok h.1 h2 hg
      have hk0 := (aa_fit_at (k := k) (by rw [hgc]; exact hg)).2.1
      split at hl
      · rename_i c n ts hgi
        split at hl
        · rename_i hc
          obtain ⟨hc, hts, hu⟩ := hc
          have e := Nat.eq_of_beq_eq_true hc
          subst e
          obtain ⟨fs, hly, hob, hsl⟩ := aa_obj g (k := k) (by rw [hgc]; exact hg) (by rw [hgc]; exact hgi)
          have hy := (aa_slots_ok hsl y).1 hts
          obtain ⟨k', rfl⟩ : ∃ k', k = k' + 1 := ⟨k - 1, by omega⟩
          split at hl
          · rename_i s' hsto
            cases hl
            obtain ⟨e1, e2, e3, e4, e5⟩ := aa_sto_ok hG (aa_wst_ok h h3) hi hsto (j := y) h2 aa_c_ev h1
            have b1 := aa_lo_ok h.1 h.2.1 h1
            have b2 := aa_hi_ok h.1 h.2.1 h1
            have hu2 : u = 0 ∨ (u = 1 ∧ (v = 0 ∨ v = 1)) := by
              rcases hu with hu | ⟨hu, u1, u2⟩
              · exact .inl hu
              · refine .inr ⟨hu, ?_⟩
                rcases (show v.toInt = 0 ∨ v.toInt = 1 by omega) with z | z
                · exact .inl (Int32.toInt_inj.mp z)
                · exact .inr (Int32.toInt_inj.mp z)
            refine ⟨pc + 3, lv, q, _, ?_, aa_res0 e2, e3, e4, e5⟩
            unfold zz_put
            dsimp only
            rw [hob]
            dsimp only
            rw [hy]
            dsimp only
            rw [if_pos hu2]
            rfl
          · cases hl
        · cases hl
      · cases hl
  · cases hl
theorem aa_nat_of {i : Int32} {lo hi n : Int} (h1 : lo ≤ i.toInt) (h2 : i.toInt ≤ hi) (h3 : 0 ≤ lo) (h4 : hi < n) : ((i.toNatClampNeg : Nat) : Int) = i.toInt ∧ ∀ m : Nat, (m : Int) = n → zz_inb i m = true ∧ i.toNatClampNeg < m := by
  have e : i.toNatClampNeg = i.toInt.toNat := rfl
  have e2 : ((i.toNatClampNeg : Nat) : Int) = i.toInt := by rw [e]; omega
  refine ⟨e2, fun m hm => ⟨decide_eq_true ?_, by omega⟩⟩
  rintro (q | q)
  · have := Int32.lt_iff_toInt_lt.mp q
    rw [show (0 : Int32).toInt = 0 from rfl] at this
    omega
  · omega
theorem aa_kil_ok {b : Bool} (h : aa_ok s ν g lv st) (hi : aa_inv g) : aa_snd Φ ws (aa_kil (pc + 1) b s) ν g (if b = true then zz_bal pc lv st (aa_H g) else zz_ial none pc lv st (aa_H g)) := aa_snd.go hi fun l hl => by
  unfold aa_kil at hl
  split at hl
  · rename_i i f r hst
    have hm := h.2.2.2.2
    rw [hst] at hm
    obtain ⟨v, q0, rfl, h1, hm2⟩ := aa_ms_int hm
    obtain ⟨k, q, rfl, h2, h3⟩ := aa_ms_ref hm2
    split at hl
    · cases hl
    · rename_i hg
      have hg : aa_gp s.1.1 f ≠ 0 := fun z => hg (by rw [z]; rfl)
      have hgc := aa_gp_ok h.1 h2 hg
      have hk0 := (aa_fit_at (k := k) (by rw [hgc]; exact hg)).2.1
      split at hl
      · rename_i t n ts hgi
        split at hl
        · rename_i hc
          obtain ⟨hc, c1, c2⟩ := hc
          obtain ⟨hly, hlay, har, hno⟩ := aa_arr g (k := k) (by rw [hgc]; exact hg) (by rw [hgc]; exact hgi)
          obtain ⟨k', rfl⟩ : ∃ k', k = k' + 1 := ⟨k - 1, by omega⟩
          obtain ⟨n1, n2⟩ := aa_nat_of (aa_lo_ok h.1 h.2.1 h1) (aa_hi_ok h.1 h.2.1 h1) c1 c2
          obtain ⟨n2, n3⟩ := n2 n rfl
          split at hl
          · rename_i f2 s' hld
            cases hl
            obtain ⟨hs2, ρ, k1, k2⟩ := aa_ld_at (aa_wst_ok h h3) hi hld (j := v.toNatClampNeg) h2 (by rw [n1]; exact h1) (by rw [hgc]; exact hg)
            refine ⟨pc + 1, lv, .int (g (k' + 1) v.toNatClampNeg) :: q, ?_, aa_res1 (ρ := ρ) (aa_pi_ok k1 (aa_ms_app h3) k2)⟩
            cases b with
            | true =>
              rw [if_pos rfl]
              unfold zz_bal
              dsimp only
              have hc : (Nat.beq t 1 || Nat.beq t 2) = true := hc
              rw [Bool.or_eq_true] at hc
              rcases hc with hc | hc <;> have e := Nat.eq_of_beq_eq_true hc <;> subst e
              · rw [har]
                dsimp only
                rw [if_pos n2]
                rfl
              · rw [har, hno 1 (by decide)]
                dsimp only
                rw [if_pos n2]
                rfl
            | false =>
              rw [if_neg (by decide)]
              have e := Nat.eq_of_beq_eq_true hc
              subst e
              unfold zz_ial
              dsimp only
              rw [har]
              dsimp only
              rw [if_pos n2]
              rfl
          · cases hl
        · cases hl
      · cases hl
  · cases hl
theorem aa_kia_ok (hG : aa_good Φ fr hk) (h : aa_ok s ν g lv st) (hi : aa_inv g) : aa_snd Φ ws (aa_kia ws fr hk (pc + 1) s) ν g (zz_ias pc lv st (aa_H g)) := fun l hl => by
  unfold aa_kia at hl
  split at hl
  · rename_i a i f r hst
    have hm := h.2.2.2.2
    rw [hst] at hm
    obtain ⟨w, q1, rfl, h0, hm1⟩ := aa_ms_int hm
    obtain ⟨v, q0, rfl, h1, hm2⟩ := aa_ms_int hm1
    obtain ⟨k, q, rfl, h2, h3⟩ := aa_ms_ref hm2
    split at hl
    · cases hl
    · rename_i hg
      have hg : aa_gp s.1.1 f ≠ 0 := fun z => hg (by rw [z]; rfl)
      have hgc := aa_gp_ok h.1 h2 hg
      have hk0 := (aa_fit_at (k := k) (by rw [hgc]; exact hg)).2.1
      split at hl
      · rename_i t n ts hgi
        split at hl
        · rename_i hc
          obtain ⟨hc, c1, c2⟩ := hc
          subst hc
          obtain ⟨hly, hlay, har, hno⟩ := aa_arr g (k := k) (by rw [hgc]; exact hg) (by rw [hgc]; exact hgi)
          obtain ⟨k', rfl⟩ : ∃ k', k = k' + 1 := ⟨k - 1, by omega⟩
          obtain ⟨n1, n2⟩ := aa_nat_of (aa_lo_ok h.1 h.2.1 h1) (aa_hi_ok h.1 h.2.1 h1) c1 c2
          obtain ⟨n2, n3⟩ := n2 n rfl
          split at hl
          · rename_i s' hsto
            cases hl
            obtain ⟨e1, e2, e3, e4, e5⟩ := aa_sto_ok hG (aa_wst_ok h h3) hi hsto (j := v.toNatClampNeg) h2 (by rw [n1]; exact h1) h0
            refine ⟨pc + 1, lv, q, _, ?_, aa_res0 e2, e3, e4, e5⟩
            unfold zz_ias
            dsimp only
            rw [har]
            dsimp only
            rw [if_pos n2]
            rfl
          · cases hl
        · cases hl
      · cases hl
  · cases hl
theorem aa_nar_b (v : Int32) : 0 ≤ (vp_nar .boolean v).toInt ∧ (vp_nar .boolean v).toInt ≤ 1 := by
  have e : vp_nar .boolean v = v &&& 1 := rfl
  rw [e]
  exact aa_and_le v 1 (by decide)
theorem aa_nar_y (v : Int32) : -128 ≤ (vp_nar .byte v).toInt ∧ (vp_nar .byte v).toInt ≤ 127 := by
  have h1 := v.toInt8.le_toInt
  have h2 := v.toInt8.toInt_lt
  rw [vp_nar_byte, Int8.toInt_toInt32]
  omega
theorem aa_kba_ok (hG : aa_good Φ fr hk) (h : aa_ok s ν g lv st) (hi : aa_inv g) : aa_snd Φ ws (aa_kba ws fr hk (pc + 1) s) ν g (zz_bas pc lv st (aa_H g)) := fun l hl => by
  unfold aa_kba at hl
  split at hl
  · rename_i a i f r hst
    have hm := h.2.2.2.2
    rw [hst] at hm
    obtain ⟨w, q1, rfl, h0, hm1⟩ := aa_ms_int hm
    obtain ⟨v, q0, rfl, h1, hm2⟩ := aa_ms_int hm1
    obtain ⟨k, q, rfl, h2, h3⟩ := aa_ms_ref hm2
    split at hl
    · cases hl
    · rename_i hg
      have hg : aa_gp s.1.1 f ≠ 0 := fun z => hg (by rw [z]; rfl)
      have hgc := aa_gp_ok h.1 h2 hg
      have hk0 := (aa_fit_at (k := k) (by rw [hgc]; exact hg)).2.1
      split at hl
      · rename_i t n ts hgi
        split at hl
        · rename_i hc
          obtain ⟨hc, c1, c2⟩ := hc
          obtain ⟨hly, hlay, har, hno⟩ := aa_arr g (k := k) (by rw [hgc]; exact hg) (by rw [hgc]; exact hgi)
          obtain ⟨k', rfl⟩ : ∃ k', k = k' + 1 := ⟨k - 1, by omega⟩
          obtain ⟨n1, n2⟩ := aa_nat_of (aa_lo_ok h.1 h.2.1 h1) (aa_hi_ok h.1 h.2.1 h1) c1 c2
          obtain ⟨n2, n3⟩ := n2 n rfl
          split at hl
          · rename_i s' hsto
            cases hl
            rcases hc with rfl | rfl
            · have b := aa_nar_b w
              have hn := aa_ok_new (aa_wst_ok h h3) b.1 b.2 (gr := 0) (fun z => absurd rfl z)
              obtain ⟨e1, e2, e3, e4, e5⟩ := aa_sto_ok hG hn hi hsto (j := v.toNatClampNeg) (aa_ev_app h2) (by rw [n1]; exact aa_ev_app h1) (aa_ev_new h.1)
              refine ⟨pc + 1, lv, q, _, ?_, aa_res1 e2, e3, e4, e5⟩
              unfold zz_bas
              dsimp only
              rw [har]
              dsimp only
              rw [if_pos n2]
              rfl
            · have b := aa_nar_y w
              have hn := aa_ok_new (aa_wst_ok h h3) b.1 b.2 (gr := 0) (fun z => absurd rfl z)
              obtain ⟨e1, e2, e3, e4, e5⟩ := aa_sto_ok hG hn hi hsto (j := v.toNatClampNeg) (aa_ev_app h2) (by rw [n1]; exact aa_ev_app h1) (aa_ev_new h.1)
              refine ⟨pc + 1, lv, q, _, ?_, aa_res1 e2, e3, e4, e5⟩
              unfold zz_bas
              dsimp only
              rw [har, hno 1 (by decide)]
              dsimp only
              rw [if_pos n2]
              rfl
          · cases hl
        · cases hl
      · cases hl
  · cases hl
theorem aa_kal_ok (h : aa_ok s ν g lv st) (hi : aa_inv g) : aa_snd Φ ws (aa_kal (pc + 1) s) ν g (zz_aal pc lv st (aa_H g)) := aa_snd.go hi fun l hl => by
  unfold aa_kal at hl
  split at hl
  · rename_i i f r hst
    have hm := h.2.2.2.2
    rw [hst] at hm
    obtain ⟨v, q0, rfl, h1, hm2⟩ := aa_ms_int hm
    obtain ⟨k, q, rfl, h2, h3⟩ := aa_ms_ref hm2
    split at hl
    · cases hl
    · rename_i hg
      have hg : aa_gp s.1.1 f ≠ 0 := fun z => hg (by rw [z]; rfl)
      have hgc := aa_gp_ok h.1 h2 hg
      have hk0 := (aa_fit_at (k := k) (by rw [hgc]; exact hg)).2.1
      split at hl
      · rename_i t n tg ts hgi
        split at hl
        · rename_i hc
          obtain ⟨htg, c1, c2⟩ := hc
          cases hl
          obtain ⟨rs, hra, hln, ht, hall⟩ := aa_rar g (k := k) (by rw [hgc]; exact hg) (by rw [hgc]; exact hgi)
          obtain ⟨k', rfl⟩ : ∃ k', k = k' + 1 := ⟨k - 1, by omega⟩
          obtain ⟨n1, n2⟩ := aa_nat_of (aa_lo_ok h.1 h.2.1 h1) (aa_hi_ok h.1 h.2.1 h1) c1 c2
          obtain ⟨n2, n3⟩ := n2 n rfl
          have hlt : v.toNatClampNeg < rs.length := by rw [hln]; exact n3
          obtain ⟨p, hp, hpg⟩ := hall _ (List.getElem_mem hlt)
          refine ⟨pc + 1, lv, .ref p :: q, ?_, aa_pr_ok h h3 htg hpg⟩
          unfold zz_aal
          dsimp only
          rw [hra]
          dsimp only
          rw [if_pos ⟨by rw [hln]; exact n2, ht⟩, List.getElem?_eq_getElem hlt, hp]
          rfl
        · cases hl
      · cases hl
  · cases hl
theorem aa_kle_ok (h : aa_ok s ν g lv st) (hi : aa_inv g) : aa_snd Φ ws (aa_kle (pc + 1) s) ν g (zz_len none pc lv st (aa_H g)) := aa_snd.go hi fun l hl => by
  obtain ⟨f, r, k, q, rfl, h1, h2, h3⟩ := aa_wr_ok h hl
  split at h1
  · cases h1
  · rename_i hg
    have hg : aa_gp s.1.1 f ≠ 0 := fun z => hg (by rw [z]; rfl)
    have hgc := aa_gp_ok h.1 h2 hg
    have hk0 := (aa_fit_at (k := k) (by rw [hgc]; exact hg)).2.1
    split at h1
    · rename_i t n ts hgi
      split at h1
      · rename_i ht
        cases h1
        obtain ⟨hly, hlay, har, hno⟩ := aa_arr g (k := k) (by rw [hgc]; exact hg) (by rw [hgc]; exact hgi)
        obtain ⟨k', rfl⟩ : ∃ k', k = k' + 1 := ⟨k - 1, by omega⟩
        refine ⟨pc + 1, lv, .int (Int32.ofNat n) :: q, ?_, aa_res0 (aa_pi_ok h h3 aa_c_ev)⟩
        unfold zz_len
        dsimp only
        rw [hlay]
        dsimp only
        rw [if_pos ht]
        rfl
      · cases h1
    · cases h1
end AL
end
section
/-! AN ANALYSER OF METHODS: every instruction but calls and returns is well told -/
section AM
variable {Φ : aa_G → Prop} {ws fr : aa_W} {hk : aa_Hk} {s : aa_S} {ν : List Int} {g : aa_G} {lv : zz_V} {st : List Value} {pc : Nat}
theorem aa_kcp_ok (hG : aa_good Φ fr hk) (h : aa_ok s ν g lv st) (hi : aa_inv g) : aa_snd Φ ws (aa_kcp ws fr hk (pc + 3) s) ν g (zz_cpy pc lv st (aa_H g)) := fun l hl => by
  unfold aa_kcp at hl
  split at hl
  · rename_i n dp a sp b r hst
    have hm0 := h.2.2.2.2
    rw [hst] at hm0
    obtain ⟨wn, q1, rfl, h1, hm1⟩ := aa_ms_int hm0
    obtain ⟨wd, q2, rfl, h2, hm2⟩ := aa_ms_int hm1
    obtain ⟨ka, q3, rfl, h3, hm3⟩ := aa_ms_ref hm2
    obtain ⟨wsp, q4, rfl, h4, hm4⟩ := aa_ms_int hm3
    obtain ⟨kb, q, rfl, h5, hm⟩ := aa_ms_ref hm4
    dsimp only at hl
    split at hl
    · cases hl
    · rename_i hg
      have hga : aa_gp s.1.1 a ≠ 0 := fun z => hg (.inl (by rw [z]; rfl))
      have hgb : aa_gp s.1.1 b ≠ 0 := fun z => hg (.inr (by rw [z]; rfl))
      have hca := aa_gp_ok h.1 h3 hga
      have hcb := aa_gp_ok h.1 h5 hgb
      split at hl
      · rename_i ta na tsa tb nb tsb hgia hgib
        split at hl
        · rename_i hc
          obtain ⟨⟨t1, t2, f1, f2⟩, ⟨i1, i2⟩, ⟨p1, p2, p3⟩, ⟨p4, p5⟩, vd, p6, w1, w2⟩ := hc
          subst t1
          subst t2
          cases hl
          obtain ⟨-, -, hara, -⟩ := aa_arr g (k := ka) (by rw [hca]; exact hga) (by rw [hca]; exact hgia)
          obtain ⟨-, -, harb, -⟩ := aa_arr g (k := kb) (by rw [hcb]; exact hgb) (by rw [hcb]; exact hgib)
          have ka0 := (aa_fit_at (k := ka) (by rw [hca]; exact hga)).2.1
          have kb0 := (aa_fit_at (k := kb) (by rw [hcb]; exact hgb)).2.1
          obtain ⟨ka', rfl⟩ : ∃ k', ka = k' + 1 := ⟨ka - 1, by omega⟩
          obtain ⟨kb', rfl⟩ : ∃ k', kb = k' + 1 := ⟨kb - 1, by omega⟩
          have b1 := aa_lo_ok h.1 h.2.1 h1
          have b2 := aa_lo_ok h.1 h.2.1 h2
          have b3 := aa_lo_ok h.1 h.2.1 h4
          have b4 := aa_hi_ok h.1 h.2.1 (aa_add_ev (k := 1) h4 h1)
          have b5 := aa_hi_ok h.1 h.2.1 (aa_add_ev (k := 1) h2 h1)
          have e1 : wn.toNatClampNeg = wn.toInt.toNat := rfl
          have e2 : wd.toNatClampNeg = wd.toInt.toNat := rfl
          have e3 : wsp.toNatClampNeg = wsp.toInt.toNat := rfl
          have ng : ∀ w : Int32, 0 ≤ w.toInt → ¬ w < 0 := fun w hw z => by
            have := Int32.lt_iff_toInt_lt.mp z
            rw [show (0 : Int32).toInt = 0 from rfl] at this
            omega
          have hfr : ∀ w : aa_W, aa_inw (aa_gp s.1.1 a) 0 ((na : Int) - 1) w = true → aa_fr w g (zz_up g (ka' + 1) (va_cpy (g (kb' + 1)) (g (ka' + 1)) wsp.toNatClampNeg wd.toNatClampNeg wn.toNatClampNeg)) := fun w hw => ⟨fun k j => by
            by_cases hk : k = ka' + 1
            · subst hk
              rw [zz_up_self]
              by_cases hj : wd.toNatClampNeg ≤ j ∧ j < wd.toNatClampNeg + wn.toNatClampNeg
              · obtain ⟨z, hz, z1, z2, z3⟩ := aa_inw_ok hw
                exact .inr ⟨z, hz, by rw [z1, hca], by omega, by omega⟩
              · left
                unfold va_cpy
                rw [if_neg hj]
            · rw [zz_up_other _ _ hk]
              exact .inl rfl, .inl (by
            rw [← hca] at vd
            have vd := aa_vdep_no' vd (by rw [hca, hgia]; intro e; cases congrArg Prod.fst e)
            exact aa_dep_eq (by rw [zz_up_other _ _ (fun e => vd.1 e.symm)]) (by rw [zz_up_other _ _ (fun e => vd.1 e.symm)]) (by rw [zz_up_other _ _ (fun e => vd.2.1 e.symm)]) (by rw [zz_up_other _ _ (fun e => vd.2.2 e.symm)]))⟩
          have hf1 : aa_fr [(aa_gp s.1.1 a, 0, (na : Int) - 1)] g (zz_up g (ka' + 1) (va_cpy (g (kb' + 1)) (g (ka' + 1)) wsp.toNatClampNeg wd.toNatClampNeg wn.toNatClampNeg)) := hfr _ (by
            unfold aa_inw
            rw [Nat.beq_refl, decide_eq_true (Int.le_refl _), decide_eq_true (Int.le_refl _)]
            rfl)
          refine ⟨pc + 3, lv, q, _, ?_, aa_res0 ⟨h.1, h.2.1, aa_kl_ok h.1 h.2.1 h.2.2.1 hf1, h.2.2.2.1, hm⟩, ?_, hfr _ w1, fun hφ => hG.1 _ _ hφ (hfr _ w2)⟩
          · unfold zz_cpy
            dsimp only
            rw [hara, harb]
            dsimp only
            rw [if_pos ⟨ng _ (by omega), ng _ (by omega), ng _ (by omega), by omega, by omega, by rw [aa_cat_ok hm]; exact p6⟩]
            rfl
          · intro k j
            by_cases hk : k = ka' + 1
            · subst hk
              rw [zz_up_self]
              unfold va_cpy
              split
              · have := hi (kb' + 1) (wsp.toNatClampNeg + (j - wd.toNatClampNeg))
                rw [hca, aa_flat_ok f1 j 0]
                rw [hcb, aa_flat_ok f2 _ 0] at this
                omega
              · exact hi (ka' + 1) j
            · rw [zz_up_other _ _ hk]
              exact hi k j
        · cases hl
      · cases hl
  · cases hl
theorem aa_as_st {s s' : aa_S} {f : aa_F} (h : aa_as s f = some s') : s'.2 = s.2 := by
  unfold aa_as at h
  split at h
  · cases h
  · split at h
    · cases h
      rfl
    · split at h
      · cases h
      · cases h
        rfl
theorem aa_kmm_ok {up : Bool} {F : Int32 → Int32 → Int32} (hF : ∀ a d, (F a d).toInt = if up = true then max a.toInt d.toInt else min a.toInt d.toInt) (h : aa_ok s ν g lv st) (hi : aa_inv g) : aa_snd Φ ws (aa_kmm up (pc + 3) s) ν g (zz_mm F pc lv st (aa_H g)) := aa_snd.go hi fun l hl => by
  obtain ⟨a, b, r, x, y, q, rfl, h1, h2, h3, h4⟩ := aa_w2_ok h hl
  dsimp only at h1
  split at h1
  · rename_i hcat
    have hz : zz_mm F pc lv (.int y :: .int x :: q) (aa_H g) = zz_go (pc + 3) lv (.int (F x y) :: q) (aa_H g) := by
      unfold zz_mm
      dsimp only
      rw [if_pos (by rw [aa_cat_ok h4]; exact hcat)]
    refine ⟨pc + 3, lv, .int (F x y) :: q, hz, ?_⟩
    have b1 := aa_lo_ok h.1 h.2.1 h2
    have b2 := aa_hi_ok h.1 h.2.1 h2
    have b3 := aa_lo_ok h.1 h.2.1 h3
    have b4 := aa_hi_ok h.1 h.2.1 h3
    have e := hF x y
    have key : ∀ (lo hi k : Int) (p1 p2 : aa_S), lo ≤ (F x y).toInt → (F x y).toInt ≤ hi → 0 ≤ k * (x.toInt + -1 * (F x y).toInt) → 0 ≤ k * (y.toInt + -1 * (F x y).toInt) → aa_as (aa_pf s r lo hi) (aa_scale (aa_add a (aa_id s.1.1.length) (-1)) k) = some p1 → aa_as p1 (aa_scale (aa_add b (aa_id s.1.1.length) (-1)) k) = some p2 → aa_res [(pc + 3, p2)] ν g (pc + 3) lv (.int (F x y) :: q) := fun lo hi k p1 p2 c1 c2 c3 c4 c5 c6 => by
      have hn := aa_ok_new h c1 c2 (gr := 0) (fun q => absurd rfl q)
      have hn : aa_ok (aa_pf s r lo hi) (ν ++ [(F x y).toInt]) g lv (.int (F x y) :: q) := ⟨hn.1, hn.2.1, hn.2.2.1, hn.2.2.2.1, ⟨⟨Nat.one_ne_zero, _, rfl, aa_ev_new h.1⟩, aa_ms_app h4⟩⟩
      have v0 := aa_ev_new (v := (F x y).toInt) h.1
      obtain ⟨s1, e1, k1⟩ := aa_as_ok hn (aa_scale_ev (k := k) (aa_add_ev (k := -1) (aa_ev_app h2) v0)) c3
      rw [c5] at e1
      cases e1
      obtain ⟨s2, e2, k2⟩ := aa_as_ok k1 (aa_scale_ev (k := k) (aa_add_ev (k := -1) (aa_ev_app h3) v0)) c4
      rw [c6] at e2
      cases e2
      exact aa_res1 k2
    cases up with
    | true =>
      rw [if_pos rfl] at e
      rw [if_pos rfl, if_pos rfl] at h1
      split at h1
      · cases h1
      · rename_i p1 hp1
        split at h1
        · cases h1
        · rename_i p2 hp2
          cases h1
          exact key _ _ (-1) p1 _ (by unfold aa_lohi; dsimp only; omega) (by unfold aa_lohi; dsimp only; omega) (by omega) (by omega) hp1 hp2
    | false =>
      rw [if_neg (by decide)] at e
      rw [if_neg (by decide), if_neg (by decide)] at h1
      split at h1
      · cases h1
      · rename_i p1 hp1
        split at h1
        · cases h1
        · rename_i p2 hp2
          cases h1
          exact key _ _ 1 p1 _ (by unfold aa_lohi; dsimp only; omega) (by unfold aa_lohi; dsimp only; omega) (by omega) (by omega) hp1 hp2
  · cases h1
theorem aa_kab_ok (h : aa_ok s ν g lv st) (hi : aa_inv g) : aa_snd Φ ws (aa_kab (pc + 3) s) ν g (zz_ma pc lv st (aa_H g)) := aa_snd.go hi fun l hl => by
  obtain ⟨a, r, x, q, rfl, h1, h2, h3⟩ := aa_w1_ok h hl
  split at h1
  · rename_i hcat
    have hz : zz_ma pc lv (.int x :: q) (aa_H g) = zz_go (pc + 3) lv (.int (if 0 ≤ x then x else 0 - x) :: q) (aa_H g) := by
      unfold zz_ma
      dsimp only
      rw [if_pos (by rw [aa_cat_ok h3]; exact hcat)]
    refine ⟨pc + 3, lv, _, hz, ?_⟩
    have b1 := aa_lo_ok h.1 h.2.1 h2
    have b2 := aa_hi_ok h.1 h.2.1 h2
    have hx := x.toInt_lt
    have hp : 0 ≤ x ↔ 0 ≤ x.toInt := by rw [Int32.le_iff_toInt_le]; rfl
    split at h1
    · rename_i hc
      have hc : 0 ≤ aa_lo s.1.1 s.1.2 a := hc
      cases h1
      rw [if_pos (hp.mpr (by omega))]
      exact aa_res0 (aa_pi_ok h h3 h2)
    · split at h1
      · rename_i hc
        have hc : (-2147483648) < aa_lo s.1.1 s.1.2 a := hc
        cases h1
        have e : (if 0 ≤ x then x else 0 - x).toInt = if 0 ≤ x.toInt then x.toInt else - x.toInt := by
          by_cases z : 0 ≤ x
          · rw [if_pos z, if_pos (hp.mp z)]
          · rw [if_neg z, if_neg (fun w => z (hp.mpr w)), Int32.toInt_sub, show (0 : Int32).toInt = 0 from rfl, aa_bm (by omega) (by omega)]
            omega
        refine aa_pf_ok h h3 (by rw [e]; split <;> omega) ?_
        rw [e]
        unfold aa_lohi
        dsimp only
        split <;> omega
      · cases h1
        exact aa_pff_ok h h3
  · cases h1
theorem aa_one_ok {k : Nat} {f : aa_F} {v : Value} (h : aa_one k = true) (hm : aa_mv ν (k, f) (some v)) : k ≠ 0 ∧ v.category = 1 := by
  unfold aa_one at h
  simp only [Bool.or_eq_true] at h
  rcases h with h | h | h <;> have e := Nat.eq_of_beq_eq_true h <;> subst e
  · obtain ⟨w, e, -⟩ := hm
    cases e
    exact ⟨by decide, rfl⟩
  · obtain ⟨w, e, -⟩ := hm
    cases e
    exact ⟨by decide, rfl⟩
  · have hm : some v = some Value.null := hm
    cases hm
    exact ⟨by decide, rfl⟩
theorem aa_st_ok (hG : aa_good Φ fr hk) {rt : Nat} {e : zz_I} (h : aa_ok s ν g lv st) (hi : aa_inv g) : aa_snd Φ ws (aa_st ws fr hk e pc s) ν g (zz_step none zz_us rt e pc lv st (aa_H g)) := by
  obtain ⟨i, ⟨x, y, u, w⟩, v, sw⟩ := e
  have hn : aa_snd Φ ws none ν g (zz_step none zz_us rt (i, (x, y, u, w), v, sw) pc lv st (aa_H g)) := fun l hl => by cases hl
  have hst := h.2.2.2.2
  have hpush : ∀ (p : Nat) (a : Int32) (z : Option zz_O), z = zz_go p lv (.int a :: st) (aa_H g) → aa_snd Φ ws (some [(p, aa_pi s s.2.2.2 (aa_c a.toInt))]) ν g z := fun p a z hz => aa_snd.go hi fun l hl => by
    cases hl
    exact ⟨_, _, _, hz, aa_res0 (aa_pi_ok h hst aa_c_ev)⟩
  cases i with
  | iconst n => exact hpush _ _ _ rfl
  | bipush n => exact hpush _ _ _ rfl
  | sipush n => exact hpush _ _ _ rfl
  | lconst n =>
    refine aa_snd.go hi fun l hl => ?_
    cases hl
    exact ⟨_, _, _, rfl, aa_res0 (aa_wst_ok h ⟨⟨Nat.succ_ne_zero _, _, rfl, aa_c_ev⟩, hst⟩)⟩
  | aconst_null =>
    refine aa_snd.go hi fun l hl => ?_
    cases hl
    exact ⟨_, _, _, rfl, aa_res0 (aa_wst_ok h ⟨⟨Nat.succ_ne_zero _, rfl⟩, hst⟩)⟩
  | ldc n => exact aa_kv_ok h hi fun a e => by subst e; rfl
  | ldc_w n => exact aa_kv_ok h hi fun a e => by subst e; rfl
  | ldc2_w n => exact aa_kvl_ok h hi fun a e => by subst e; rfl
  | iload k => exact aa_kld1_ok h hi
  | iload_n k => exact aa_kld1_ok h hi
  | lload k => exact aa_kld2_ok h hi
  | lload_n k => exact aa_kld2_ok h hi
  | aload k => exact aa_kla_ok h hi
  | aload_n k => exact aa_kla_ok h hi
  | istore k => exact aa_kis_ok h hi
  | istore_n k => exact aa_kis_ok h hi
  | lstore k => exact aa_kls_ok h hi
  | lstore_n k => exact aa_kls_ok h hi
  | astore k => exact aa_kas_ok h hi
  | astore_n k => exact aa_kas_ok h hi
  | iinc k n => exact aa_kii_ok h hi
  | iadd =>
    refine aa_i2_ok h hi fun a b r l x y q h1 h2 h3 h4 => ?_
    cases h1
    have := aa_ar_ok (pc := pc + 1) (w := x + y) h h4 (aa_add_ev (k := 1) h2 h3) (by rw [Int32.toInt_add, Int.one_mul])
    exact this
  | isub =>
    refine aa_i2_ok h hi fun a b r l x y q h1 h2 h3 h4 => ?_
    cases h1
    exact aa_ar_ok (pc := pc + 1) (w := x - y) h h4 (aa_add_ev (k := -1) h2 h3) (by rw [Int32.toInt_sub]; congr 1; omega)
  | imul =>
    exact aa_i2_ok h hi fun a b r l x y q h1 h2 h3 h4 => aa_kmul_ok h h1 h2 h3 h4
  | iand =>
    exact aa_i2_ok h hi fun a b r l x y q h1 h2 h3 h4 => aa_kand_ok h h1 h3 h4
  | ior =>
    refine aa_i2_ok h hi fun a b r l x y q h1 h2 h3 h4 => ?_
    cases h1
    exact aa_pff_ok h h4
  | ixor =>
    refine aa_i2_ok h hi fun a b r l x y q h1 h2 h3 h4 => ?_
    cases h1
    exact aa_pff_ok h h4
  | ishr =>
    refine aa_i2_ok h hi fun a b r l x y q h1 h2 h3 h4 => ?_
    cases h1
    exact aa_pff_ok h h4
  | iushr =>
    refine aa_i2_ok h hi fun a b r l x y q h1 h2 h3 h4 => ?_
    cases h1
    exact aa_pff_ok h h4
  | idiv =>
    refine aa_snd.go hi fun l hl => ?_
    obtain ⟨a, b, r, x, y, q, rfl, h1, h2, h3, h4⟩ := aa_w2_ok h hl
    obtain ⟨k1, k2⟩ := aa_kdiv_ok h h1 h2 h3 h4
    refine ⟨_, _, _, ?_, k2⟩
    show (if y = 0 then none else _) = _
    rw [if_neg k1]
    rfl
  | irem =>
    refine aa_snd.go hi fun l hl => ?_
    obtain ⟨a, b, r, x, y, q, rfl, h1, h2, h3, h4⟩ := aa_w2_ok h hl
    obtain ⟨k1, k2⟩ := aa_krem_ok h h1 h2 h3 h4
    refine ⟨_, _, _, ?_, k2⟩
    show (if y = 0 then none else _) = _
    rw [if_neg k1]
    rfl
  | ineg =>
    refine aa_snd.go hi fun l hl => ?_
    obtain ⟨a, r, x, q, rfl, h1, h2, h3⟩ := aa_w1_ok h hl
    cases h1
    exact ⟨_, _, _, rfl, aa_ar_ok (w := -x) h h3 (aa_scale_ev (k := -1) h2) (by rw [Int32.toInt_neg]; congr 1; omega)⟩
  | ladd =>
    refine aa_l2_ok h hi fun a b r l x y q h1 h2 h3 h4 => ?_
    cases h1
    exact aa_arl_ok (pc := pc + 1) (w := x + y) h h4 (aa_add_ev (k := 1) h2 h3) (by rw [Int64.toInt_add, Int.one_mul])
  | lsub =>
    refine aa_l2_ok h hi fun a b r l x y q h1 h2 h3 h4 => ?_
    cases h1
    exact aa_arl_ok (pc := pc + 1) (w := x - y) h h4 (aa_add_ev (k := -1) h2 h3) (by rw [Int64.toInt_sub]; congr 1; omega)
  | lmul =>
    exact aa_l2_ok h hi fun a b r l x y q h1 h2 h3 h4 => aa_klmul_ok h h1 h2 h3 h4
  | ldiv =>
    refine aa_snd.go hi fun l hl => ?_
    obtain ⟨a, b, r, x, y, q, rfl, h1, h2, h3, h4⟩ := aa_wl2_ok h hl
    obtain ⟨k1, k2⟩ := aa_kldiv_ok h h1 h2 h3 h4
    refine ⟨_, _, _, ?_, k2⟩
    show (if y = 0 then none else _) = _
    rw [if_neg k1]
    rfl
  | lcmp =>
    refine aa_snd.go hi fun l hl => ?_
    obtain ⟨a, b, r, x, y, q, rfl, h1, h2, h3, h4⟩ := aa_wl2_ok h hl
    cases h1
    refine ⟨_, _, _, rfl, ?_⟩
    have e : (lg_cmp x y).toInt = 1 ∨ (lg_cmp x y).toInt = 0 ∨ (lg_cmp x y).toInt = -1 := by
      unfold lg_cmp
      split
      · exact .inl rfl
      · split
        · exact .inr (.inl rfl)
        · exact .inr (.inr rfl)
    exact aa_pf_ok h h4 (by omega) (by omega)
  | i2l =>
    refine aa_snd.go hi fun l hl => ?_
    obtain ⟨a, r, x, q, rfl, h1, h2, h3⟩ := aa_w1_ok h hl
    cases h1
    exact ⟨_, _, _, rfl, aa_res0 (aa_wst_ok h ⟨⟨Nat.succ_ne_zero _, _, rfl, by rw [Int32.toInt_toInt64]; exact h2⟩, h3⟩)⟩
  | l2i =>
    refine aa_snd.go hi fun l hl => ?_
    obtain ⟨a, r, x, q, rfl, h1, h2, h3⟩ := aa_wl1_ok h hl
    cases h1
    exact ⟨_, _, _, rfl, aa_ar_ok (w := x.toInt32) h h3 h2 (Int64.toInt_toInt32 x)⟩
  | i2b =>
    refine aa_snd.go hi fun l hl => ?_
    obtain ⟨a, r, x, q, rfl, h1, h2, h3⟩ := aa_w1_ok h hl
    cases h1
    have := aa_nar_y x
    rw [vp_nar_byte] at this
    exact ⟨_, _, _, rfl, aa_pf_ok h h3 this.1 this.2⟩
  | goto o =>
    refine aa_snd.go hi fun l hl => ?_
    cases hl
    exact ⟨_, _, _, rfl, aa_res0 h⟩
  | ifCond c o =>
    refine aa_snd.go hi fun l hl => ?_
    obtain ⟨a, r, x1, q, rfl, h1, h2, h3⟩ := aa_w1_ok h hl
    cases h1
    have k := aa_two_ok (t1 := x) (t2 := pc + 3) (c := c) (sp := true) (aa_wst_ok h h3) h2
    by_cases hc : zz_cond c x1 = true
    · refine ⟨x, lv, q, ?_, k.1 ((aa_cond c x1).mp hc)⟩
      show zz_if (zz_cond c) pc x lv (.int x1 :: q) (aa_H g) = _
      unfold zz_if
      dsimp only
      rw [if_pos hc]
      rfl
    · refine ⟨pc + 3, lv, q, ?_, k.2 (fun z => hc ((aa_cond c x1).mpr z))⟩
      show zz_if (zz_cond c) pc x lv (.int x1 :: q) (aa_H g) = _
      unfold zz_if
      dsimp only
      rw [if_neg hc]
      rfl
  | if_icmp c o =>
    refine aa_snd.go hi fun l hl => ?_
    obtain ⟨a, b, r, x1, y1, q, rfl, h1, h2, h3, h4⟩ := aa_w2_ok h hl
    cases h1
    have e := aa_add_ev (k := -1) h2 h3
    rw [show x1.toInt + -1 * y1.toInt = x1.toInt - y1.toInt by omega] at e
    have k := aa_two_ok (t1 := x) (t2 := pc + 3) (c := c) (sp := false) (aa_wst_ok h h4) e
    by_cases hc : zz_cmp c x1 y1 = true
    · refine ⟨x, lv, q, ?_, k.1 ((aa_cmp c x1 y1).mp hc)⟩
      show zz_ic (zz_cmp c) pc x lv (.int y1 :: .int x1 :: q) (aa_H g) = _
      unfold zz_ic
      dsimp only
      rw [if_pos hc]
      rfl
    · refine ⟨pc + 3, lv, q, ?_, k.2 (fun z => hc ((aa_cmp c x1 y1).mpr z))⟩
      show zz_ic (zz_cmp c) pc x lv (.int y1 :: .int x1 :: q) (aa_H g) = _
      unfold zz_ic
      dsimp only
      rw [if_neg hc]
      rfl
  | ifnull o =>
    refine aa_snd.go hi fun l hl => ?_
    have hl : (match s.2.2.2 with
      | (3, _) :: r => some [(pc + 3, aa_wst s r)]
      | (4, _) :: r => some [(x, aa_wst s r)]
      | _ => none) = some l := hl
    split at hl
    · rename_i f r he
      cases hl
      rw [he] at hst
      obtain ⟨k, q, rfl, h1, h2⟩ := aa_ms_ref hst
      exact ⟨_, _, _, rfl, aa_res0 (aa_wst_ok h h2)⟩
    · rename_i f r he
      cases hl
      rw [he] at hst
      obtain ⟨q, rfl, h2⟩ := aa_ms_null hst
      exact ⟨_, _, _, rfl, aa_res0 (aa_wst_ok h h2)⟩
    · cases hl
  | ifnonnull o =>
    refine aa_snd.go hi fun l hl => ?_
    have hl : (match s.2.2.2 with
      | (3, _) :: r => some [(x, aa_wst s r)]
      | (4, _) :: r => some [(pc + 3, aa_wst s r)]
      | _ => none) = some l := hl
    split at hl
    · rename_i f r he
      cases hl
      rw [he] at hst
      obtain ⟨k, q, rfl, h1, h2⟩ := aa_ms_ref hst
      exact ⟨_, _, _, rfl, aa_res0 (aa_wst_ok h h2)⟩
    · rename_i f r he
      cases hl
      rw [he] at hst
      obtain ⟨q, rfl, h2⟩ := aa_ms_null hst
      exact ⟨_, _, _, rfl, aa_res0 (aa_wst_ok h h2)⟩
    · cases hl
  | tableswitch a b c d => exact aa_ksw_ok h hi fun a r e => by subst e; rfl
  | lookupswitch a b => exact aa_ksw_ok h hi fun a r e => by subst e; rfl
  | dup =>
    refine aa_snd.go hi fun l hl => ?_
    have hl : (match s.2.2.2 with
      | a :: r => if aa_one a.1 = true then some [(pc + 1, aa_wst s (a :: a :: r))] else none
      | _ => none) = some l := hl
    split at hl
    · rename_i a r he
      split at hl
      · rename_i hc
        cases hl
        rw [he] at hst
        obtain ⟨v1, q, rfl, h0, h1, h2⟩ := aa_ms_cons hst
        obtain ⟨k0, k1⟩ := aa_one_ok hc h1
        refine ⟨pc + 1, lv, v1 :: v1 :: q, ?_, aa_res0 (aa_wst_ok h ⟨⟨h0, h1⟩, ⟨h0, h1⟩, h2⟩)⟩
        show (if v1.category = 1 then _ else none) = _
        rw [if_pos k1]
        rfl
      · cases hl
    · cases hl
  | dup2 =>
    refine aa_snd.go hi fun l hl => ?_
    have hl : (match s.2.2.2 with
      | a :: b :: r => if aa_one a.1 = true ∧ aa_one b.1 = true then some [(pc + 1, aa_wst s (a :: b :: a :: b :: r))] else none
      | _ => none) = some l := hl
    split at hl
    · rename_i a b r he
      split at hl
      · rename_i hc
        cases hl
        rw [he] at hst
        obtain ⟨v1, q1, rfl, h0, h1, h2⟩ := aa_ms_cons hst
        obtain ⟨v2, q, rfl, h3, h4, h5⟩ := aa_ms_cons h2
        obtain ⟨k0, k1⟩ := aa_one_ok hc.1 h1
        obtain ⟨k2, k3⟩ := aa_one_ok hc.2 h4
        refine ⟨pc + 1, lv, v1 :: v2 :: v1 :: v2 :: q, ?_, aa_res0 (aa_wst_ok h ⟨⟨h0, h1⟩, ⟨h3, h4⟩, ⟨h0, h1⟩, ⟨h3, h4⟩, h5⟩)⟩
        show (if v1.category = 1 ∧ v2.category = 1 then _ else none) = _
        rw [if_pos ⟨k1, k3⟩]
        rfl
      · cases hl
    · cases hl
  | pop =>
    refine aa_snd.go hi fun l hl => ?_
    have hl : (match s.2.2.2 with
      | a :: r => if aa_one a.1 = true then some [(pc + 1, aa_wst s r)] else none
      | _ => none) = some l := hl
    split at hl
    · rename_i a r he
      split at hl
      · rename_i hc
        cases hl
        rw [he] at hst
        obtain ⟨v1, q, rfl, h0, h1, h2⟩ := aa_ms_cons hst
        obtain ⟨k0, k1⟩ := aa_one_ok hc h1
        refine ⟨pc + 1, lv, q, ?_, aa_res0 (aa_wst_ok h h2)⟩
        show (if v1.category = 1 then _ else none) = _
        rw [if_pos k1]
        rfl
      · cases hl
    · cases hl
  | dup_x1 =>
    refine aa_snd.go hi fun l hl => ?_
    have hl : (match s.2.2.2 with
      | a :: b :: r => if aa_one a.1 = true ∧ aa_one b.1 = true then some [(pc + 1, aa_wst s (a :: b :: a :: r))] else none
      | _ => none) = some l := hl
    split at hl
    · rename_i a b r he
      split at hl
      · rename_i hc
        cases hl
        rw [he] at hst
        obtain ⟨v1, q1, rfl, h0, h1, h2⟩ := aa_ms_cons hst
        obtain ⟨v2, q, rfl, h3, h4, h5⟩ := aa_ms_cons h2
        obtain ⟨k0, k1⟩ := aa_one_ok hc.1 h1
        obtain ⟨k2, k3⟩ := aa_one_ok hc.2 h4
        refine ⟨pc + 1, lv, v1 :: v2 :: v1 :: q, ?_, aa_res0 (aa_wst_ok h ⟨⟨h0, h1⟩, ⟨h3, h4⟩, ⟨h0, h1⟩, h5⟩)⟩
        show (if v1.category = 1 ∧ v2.category = 1 then _ else none) = _
        rw [if_pos ⟨k1, k3⟩]
        rfl
      · cases hl
    · cases hl
  | getfield n => exact aa_kgf_ok h hi
  | putfield n => exact aa_kpf_ok hG h hi
  | iaload => exact aa_kil_ok (b := false) h hi
  | baload => exact aa_kil_ok (b := true) h hi
  | iastore => exact aa_kia_ok hG h hi
  | bastore => exact aa_kba_ok hG h hi
  | aaload => exact aa_kal_ok h hi
  | arraylength => exact aa_kle_ok h hi
  | invokestatic n =>
    show aa_snd Φ ws (if x < 100000 then none else if x = 100001 then aa_kcp ws fr hk (pc + 3) s else if x = 100002 then aa_kmm false (pc + 3) s else if x = 100003 then aa_kmm true (pc + 3) s else if x = 100004 then aa_kab (pc + 3) s else none) ν g (if x < 100000 then zz_cs x y st else if x = 100001 then zz_cpy pc lv st (aa_H g) else if x = 100002 then zz_mm (fun a d => if d < a then d else a) pc lv st (aa_H g) else if x = 100003 then zz_mm (fun a d => if a < d then d else a) pc lv st (aa_H g) else if x = 100004 then zz_ma pc lv st (aa_H g) else none)
    split
    · exact fun l hl => by cases hl
    · split
      · exact aa_kcp_ok hG h hi
      · split
        · refine aa_kmm_ok (fun a d => ?_) h hi
          rw [if_neg (show ¬ (false = true) by decide)]
          split
          · rename_i z
            have := Int32.lt_iff_toInt_lt.mp z
            omega
          · rename_i z
            have : ¬ d.toInt < a.toInt := fun q => z (Int32.lt_iff_toInt_lt.mpr q)
            omega
        · split
          · refine aa_kmm_ok (fun a d => ?_) h hi
            rw [if_pos rfl]
            split
            · rename_i z
              have := Int32.lt_iff_toInt_lt.mp z
              omega
            · rename_i z
              have : ¬ a.toInt < d.toInt := fun q => z (Int32.lt_iff_toInt_lt.mpr q)
              omega
          · split
            · exact aa_kab_ok h hi
            · exact fun l hl => by cases hl
  | invokespecial n =>
    refine aa_snd.go hi fun l hl => ?_
    have hl : (if x = 100000 then aa_wr s fun _ r => (if aa_cat r ≤ 8 then some [(pc + 3, aa_wst s r)] else none) else none) = some l := hl
    split at hl
    · rename_i hx
      obtain ⟨f, r, k, q, rfl, h1, h2, h3⟩ := aa_wr_ok h hl
      split at h1
      · rename_i hc
        cases h1
        refine ⟨pc + 3, lv, q, ?_, aa_res0 (aa_wst_ok h h3)⟩
        show (if x = 100000 then _ else _) = _
        rw [if_pos hx]
        show (if _ then _ else none) = _
        rw [if_pos (by rw [aa_cat_ok h3]; exact hc)]
        rfl
      · cases h1
    · cases hl
  | _ => exact hn
end AM
end
section
/-! AN ANALYSER OF METHODS: templates -/
abbrev aa_T : Type := (List aa_I × List aa_F) × (aa_C × List aa_A)
abbrev aa_Wh : Type := List (Nat × Nat)
def aa_subT (σ : List aa_F) : List (Nat × Int) → aa_F → Option aa_F
  | [], acc => some acc
  | (i, c) :: r, acc => match σ[i]? with
    | none => none
    | some h => aa_subT σ r (aa_add acc h c)
def aa_sub (σ : List aa_F) (f : aa_F) : Option aa_F := aa_subT σ f.2 (aa_c f.1)
def aa_evs (ν : List Int) (σ : List aa_F) (τ : List Int) : Prop := τ.length = σ.length ∧ ∀ (i : Nat) (f : aa_F), σ[i]? = some f → ∃ x, aa_ev ν f = some x ∧ τ[i]? = some x
theorem aa_subT_ok {ν τ : List Int} {σ : List aa_F} (h : aa_evs ν σ τ) : ∀ (l : List (Nat × Int)) (acc f : aa_F) (a : Int), aa_ev ν acc = some a → aa_subT σ l acc = some f → ∃ y, aa_tm τ l = some y ∧ aa_ev ν f = some (a + y)
  | [], acc, f, a, ha, hs => by
    cases hs
    exact ⟨0, rfl, by rw [Int.add_zero]; exact ha⟩
  | (i, c) :: r, acc, f, a, ha, hs => by
    rw [aa_subT] at hs
    split at hs
    · cases hs
    · rename_i z hz
      obtain ⟨x, h1, h2⟩ := h.2 i z hz
      obtain ⟨y, h3, h4⟩ := aa_subT_ok h r _ f _ (aa_add_ev (k := c) ha h1) hs
      exact ⟨c * x + y, aa_tm_cons.mpr ⟨x, y, h2, h3, rfl⟩, by rw [h4, Int.add_assoc]⟩
theorem aa_sub_ok {ν τ : List Int} {σ : List aa_F} (h : aa_evs ν σ τ) {f f' : aa_F} (hs : aa_sub σ f = some f') : ∃ x, aa_ev τ f = some x ∧ aa_ev ν f' = some x := by
  obtain ⟨y, h1, h2⟩ := aa_subT_ok h f.2 (aa_c f.1) f' f.1 aa_c_ev hs
  exact ⟨f.1 + y, aa_ev_some.mpr ⟨y, h1, rfl⟩, h2⟩
def aa_wf (n : Nat) (f : aa_F) : Bool := f.2.all fun q => Nat.blt q.1 n
theorem aa_wf_ok {ν : List Int} {f : aa_F} (h : aa_wf ν.length f = true) : ∃ x, aa_ev ν f = some x := by
  have key : ∀ l : List (Nat × Int), (l.all fun q => Nat.blt q.1 ν.length) = true → ∃ y, aa_tm ν l = some y := by
    intro l
    induction l with
    | nil => intro _; exact ⟨0, rfl⟩
    | cons q l ih =>
      intro hl
      rw [List.all_cons, Bool.and_eq_true] at hl
      obtain ⟨y, hy⟩ := ih hl.2
      have hq : q.1 < ν.length := Nat.le_of_ble_eq_true hl.1
      exact ⟨_, aa_tm_cons.mpr ⟨_, y, List.getElem?_eq_getElem hq, hy, rfl⟩⟩
  obtain ⟨y, hy⟩ := key f.2 h
  exact ⟨_, aa_ev_some.mpr ⟨y, hy, rfl⟩⟩
def aa_mb1 (s : aa_S) (q : aa_I) (f : aa_F) : Bool := aa_wf s.1.1.length f && (decide (q.1 ≤ aa_lo s.1.1 s.1.2 f) && (decide (aa_hi s.1.1 s.1.2 f ≤ q.2.1) && (Nat.beq q.2.2 0 || (Nat.beq (aa_gp s.1.1 f) q.2.2 && decide (0 ≤ q.1)))))
def aa_mbs (s : aa_S) : List aa_I → List aa_F → Bool
  | [], [] => true
  | q :: iv, f :: σ => aa_mb1 s q f && aa_mbs s iv σ
  | _, _ => false
theorem aa_vb_cons {iv : List aa_I} {ν : List Int} {q : aa_I} {v : Int} (h : aa_vb iv ν) (hq : q.1 ≤ v ∧ v ≤ q.2.1 ∧ (q.2.2 ≠ 0 → 0 ≤ v ∧ aa_gc v.toNat = q.2.2)) : aa_vb (q :: iv) (v :: ν) := by
  refine ⟨by rw [List.length_cons, List.length_cons, h.1], fun i p w hp hw => ?_⟩
  cases i with
  | zero =>
    cases hp
    cases hw
    exact hq
  | succ i => exact h.2 i p w hp hw
theorem aa_mbs_ok {s : aa_S} {ν : List Int} (hb : aa_vb s.1.1 ν) (hc : aa_vc s.1.2 ν) : ∀ {iv : List aa_I} {σ : List aa_F}, aa_mbs s iv σ = true → ∃ τ, aa_evs ν σ τ ∧ aa_vb iv τ
  | [], [], _ => ⟨[], ⟨rfl, fun i f h => by cases h⟩, ⟨rfl, fun i q v h _ => by cases h⟩⟩
  | [], _ :: _, h => by cases h
  | _ :: _, [], h => by cases h
  | q :: iv, f :: σ, h => by
    rw [aa_mbs, Bool.and_eq_true] at h
    obtain ⟨τ, h1, h2⟩ := aa_mbs_ok hb hc h.2
    have h0 := h.1
    unfold aa_mb1 at h0
    simp only [Bool.and_eq_true, Bool.or_eq_true, decide_eq_true_eq] at h0
    obtain ⟨k1, k2, k3, k4⟩ := h0
    rw [← hb.1] at k1
    obtain ⟨x, hx⟩ := aa_wf_ok k1
    have b1 := aa_lo_ok hb hc hx
    have b2 := aa_hi_ok hb hc hx
    refine ⟨x :: τ, ⟨by rw [List.length_cons, List.length_cons, h1.1], fun i f' hf' => ?_⟩, aa_vb_cons h2 ⟨by omega, by omega, fun hg => ?_⟩⟩
    · cases i with
      | zero =>
        cases hf'
        exact ⟨x, hx, rfl⟩
      | succ i => exact h1.2 i f' hf'
    · rcases k4 with k4 | ⟨k4, k5⟩
      · exact absurd (Nat.eq_of_beq_eq_true k4) hg
      · have e := Nat.eq_of_beq_eq_true k4
        have hx0 : 0 ≤ x := by omega
        refine ⟨hx0, ?_⟩
        rw [← e]
        exact aa_gp_ok hb (k := x.toNat) (by rw [hx, Int.toNat_of_nonneg hx0]) (by rw [e]; exact hg)
def aa_mcs (s : aa_S) (σ : List aa_F) : List aa_F → Bool
  | [] => true
  | f :: r => (match aa_sub σ f with
    | some f' => decide (0 ≤ aa_lo s.1.1 s.1.2 f')
    | none => false) && aa_mcs s σ r
theorem aa_mcs_ok {s : aa_S} {ν τ : List Int} {σ : List aa_F} (hb : aa_vb s.1.1 ν) (hc : aa_vc s.1.2 ν) (he : aa_evs ν σ τ) : ∀ {cs : List aa_F}, aa_mcs s σ cs = true → aa_vc cs τ
  | [], _ => fun f hf => by cases hf
  | f :: r, h => by
    rw [aa_mcs, Bool.and_eq_true] at h
    intro f' hf'
    rcases List.mem_cons.mp hf' with rfl | hf'
    · have h1 := h.1
      split at h1
      · rename_i f2 hf2
        obtain ⟨x, e1, e2⟩ := aa_sub_ok he hf2
        have := aa_lo_ok hb hc e2
        exact ⟨x, e1, by have := of_decide_eq_true h1; omega⟩
      · cases h1
    · exact aa_mcs_ok hb hc he h.2 f' hf'
def aa_mch (s : aa_S) (σ : List aa_F) : aa_C → Bool
  | [] => true
  | q :: r => (match aa_sub σ q.1.1, aa_sub σ q.1.2, aa_sub σ q.2 with
    | some a, some b, some v => (match aa_lk a b s.2.1 with
      | some w => aa_eqf w v
      | none => false)
    | _, _, _ => false) && aa_mch s σ r
theorem aa_mch_ok {s : aa_S} {ν τ : List Int} {σ : List aa_F} {g : aa_G} (hh : aa_vh s.2.1 ν g) (he : aa_evs ν σ τ) : ∀ {cs : aa_C}, aa_mch s σ cs = true → aa_vh cs τ g
  | [], _ => fun f hf => by cases hf
  | q :: r, h => by
    rw [aa_mch, Bool.and_eq_true] at h
    intro p hp
    rcases List.mem_cons.mp hp with rfl | hp
    · have h1 := h.1
      split at h1
      · rename_i a b v ha hb hv
        split at h1
        · rename_i w hw
          have e := aa_eqf_ok h1
          subst e
          obtain ⟨x1, c1, c2⟩ := aa_sub_ok he ha
          obtain ⟨x2, c3, c4⟩ := aa_sub_ok he hb
          obtain ⟨x3, c5, c6⟩ := aa_sub_ok he hv
          obtain ⟨k, j, x, d1, d2, d3, d4⟩ := hh _ (aa_lk_ok hw)
          have d1 : aa_ev ν a = some (k : Int) := d1
          have d2 : aa_ev ν b = some (j : Int) := d2
          have d3 : aa_ev ν w = some x := d3
          rw [c2] at d1
          rw [c4] at d2
          rw [c6] at d3
          cases d1
          cases d2
          cases d3
          exact ⟨k, j, x3, c1, c3, c5, d4⟩
        · cases h1
      · cases h1
    · exact aa_mch_ok hh he h.2 p hp
def aa_ma1 (σ : List aa_F) (t a : aa_A) : Bool := Nat.beq t.1 0 || (Nat.beq t.1 a.1 && (Nat.beq t.1 4 || (match aa_sub σ t.2 with
  | some f => aa_eqf f a.2
  | none => false)))
def aa_mav (σ : List aa_F) : List aa_A → List aa_A → Bool
  | [], [] => true
  | t :: r, a :: q => aa_ma1 σ t a && aa_mav σ r q
  | _, _ => false
theorem aa_ma1_ok {ν τ : List Int} {σ : List aa_F} (he : aa_evs ν σ τ) {t a : aa_A} (h : aa_ma1 σ t a = true) {v : Option Value} (hv : aa_mv ν a v) : aa_mv τ t v := by
  obtain ⟨k, f⟩ := t
  obtain ⟨k', f'⟩ := a
  unfold aa_ma1 at h
  simp only [Bool.or_eq_true, Bool.and_eq_true] at h
  rcases h with h | ⟨h, h2⟩
  · have e := Nat.eq_of_beq_eq_true h
    subst e
    trivial
  · have e := Nat.eq_of_beq_eq_true h
    subst e
    rcases h2 with h2 | h2
    · have e := Nat.eq_of_beq_eq_true h2
      subst e
      exact hv
    · split at h2
      · rename_i f2 hf2
        have e : f2 = f' := aa_eqf_ok h2
        subst e
        obtain ⟨x, c1, c2⟩ := aa_sub_ok he hf2
        match k, hv with
        | 0, _ => trivial
        | 1, hv =>
          obtain ⟨w, e1, e2⟩ := hv
          have e2 : aa_ev ν f2 = some w.toInt := e2
          rw [c2] at e2
          cases e2
          exact ⟨w, e1, c1⟩
        | 2, hv =>
          obtain ⟨w, e1, e2⟩ := hv
          have e2 : aa_ev ν f2 = some w.toInt := e2
          rw [c2] at e2
          cases e2
          exact ⟨w, e1, c1⟩
        | 3, hv =>
          obtain ⟨w, e1, e2⟩ := hv
          have e2 : aa_ev ν f2 = some (w : Int) := e2
          rw [c2] at e2
          cases e2
          exact ⟨w, e1, c1⟩
        | 4, hv => exact hv
        | k + 5, hv => exact hv.elim
      · cases h2
theorem aa_mav_ml {ν τ : List Int} {σ : List aa_F} (he : aa_evs ν σ τ) : ∀ {t a : List aa_A} {q : zz_V}, aa_mav σ t a = true → aa_ml ν a q → aa_ml τ t q
  | [], [], [], _, _ => trivial
  | [], [], _ :: _, _, hq => hq.elim
  | [], _ :: _, _, h, _ => by cases h
  | _ :: _, [], _, h, _ => by cases h
  | t :: r, a :: s, [], _, hq => hq.elim
  | t :: r, a :: s, v :: q, h, hq => by
    rw [aa_mav, Bool.and_eq_true] at h
    exact ⟨aa_ma1_ok he h.1 hq.1, aa_mav_ml he h.2 hq.2⟩
def aa_nz (l : List aa_A) : Bool := l.all fun a => !(Nat.beq a.1 0)
theorem aa_mav_ms {ν τ : List Int} {σ : List aa_F} (he : aa_evs ν σ τ) : ∀ {t a : List aa_A} {q : List Value}, aa_mav σ t a = true → aa_nz t = true → aa_ms ν a q → aa_ms τ t q
  | [], [], [], _, _, _ => trivial
  | [], [], _ :: _, _, _, hq => hq.elim
  | [], _ :: _, _, h, _, _ => by cases h
  | _ :: _, [], _, h, _, _ => by cases h
  | t :: r, a :: s, [], _, _, hq => hq.elim
  | t :: r, a :: s, v :: q, h, hz, hq => by
    rw [aa_mav, Bool.and_eq_true] at h
    unfold aa_nz at hz
    rw [List.all_cons, Bool.and_eq_true, Bool.not_eq_true'] at hz
    refine ⟨⟨fun e => ?_, aa_ma1_ok he h.1 hq.1.2⟩, aa_mav_ms he h.2 hz.2 hq.2⟩
    rw [e] at hz
    cases hz.1
def aa_mt (s : aa_S) (avs : List aa_A) (T : aa_T) (σ : List aa_F) : Bool := aa_mbs s T.1.1 σ && (aa_mcs s σ T.1.2 && (aa_mch s σ T.2.1 && aa_mav σ T.2.2 avs))
theorem aa_mt_ok {s : aa_S} {ν : List Int} {g : aa_G} (hb : aa_vb s.1.1 ν) (hc : aa_vc s.1.2 ν) (hh : aa_vh s.2.1 ν g) {avs : List aa_A} {T : aa_T} {σ : List aa_F} (h : aa_mt s avs T σ = true) : ∃ τ, aa_evs ν σ τ ∧ aa_vb T.1.1 τ ∧ aa_vc T.1.2 τ ∧ aa_vh T.2.1 τ g ∧ aa_mav σ T.2.2 avs = true := by
  unfold aa_mt at h
  simp only [Bool.and_eq_true] at h
  obtain ⟨τ, h1, h2⟩ := aa_mbs_ok hb hc h.1
  exact ⟨τ, h1, h2, aa_mcs_ok hb hc h1 h.2.1, aa_mch_ok hh h1 h.2.2.1, h.2.2.2⟩
/-- which form stands for which name of a template (it need not be right: the match is checked) -/
def aa_cod (w : Nat) (f : aa_F) : aa_F := match w with
  | 0 => f
  | 2 => ((f.1 - 5) / 50, (f.2.filter fun q => decide (q.2 % 50 = 0)).map fun q => (q.1, q.2 / 50))
  | 3 => (((f.1 - 5) % 50) / 4, (f.2.filter fun q => !(decide (q.2 % 50 = 0))).map fun q => (q.1, q.2 / 4))
  | 4 => ((f.1 - 3) / 50, f.2.map fun q => (q.1, q.2 / 50))
  | _ => ((f.1 - 203) / 7, f.2.map fun q => (q.1, q.2 / 7))
def aa_fnd (s : aa_S) (avs : List aa_A) (T : aa_T) : aa_Wh → List aa_F → List aa_F
  | [], σ => σ
  | (1, j) :: r, σ => (match T.2.1[j]? with
    | some q => (match aa_sub σ q.1.1, aa_sub σ q.1.2 with
      | some a, some b => (match aa_lk a b s.2.1 with
        | some w => aa_fnd s avs T r (σ ++ [w])
        | none => σ)
      | _, _ => σ)
    | none => σ)
  | (w, k) :: r, σ => (match avs[k]? with
    | some a => aa_fnd s avs T r (σ ++ [aa_cod w a.2])
    | none => σ)
def aa_ids (n k : Nat) : List aa_F := (List.range k).map fun j => aa_id (n + j)
def aa_pfx (e : Nat) (σ : List aa_F) : Bool := (List.range e).all fun i => match σ[i]? with
  | some f => aa_eqf f (aa_id i)
  | none => false
theorem aa_pfx_ok {ν0 ρ τ : List Int} {σ : List aa_F} (h : aa_pfx ν0.length σ = true) (he : aa_evs (ν0 ++ ρ) σ τ) : ∃ ρ', τ = ν0 ++ ρ' := by
  refine ⟨τ.drop ν0.length, ?_⟩
  have key : ∀ i, i < ν0.length → τ[i]? = ν0[i]? := fun i hi => by
    have h1 := List.all_eq_true.mp h i (List.mem_range.mpr hi)
    split at h1
    · rename_i f hf
      have e := aa_eqf_ok h1
      subst e
      obtain ⟨x, e1, e2⟩ := he.2 i _ hf
      have h2 : (ν0 ++ ρ)[i]? = some ν0[i] := by rw [List.getElem?_append_left hi]; exact List.getElem?_eq_getElem hi
      rw [aa_id_ev h2] at e1
      cases e1
      rw [e2]
      exact (List.getElem?_eq_getElem hi).symm
    · cases h1
  have hlen : ν0.length ≤ τ.length := by
    rcases Nat.eq_zero_or_pos ν0.length with h0 | h0
    · omega
    · have := key (ν0.length - 1) (by omega)
      rw [List.getElem?_eq_getElem (show ν0.length - 1 < ν0.length by omega)] at this
      have := (List.getElem?_eq_some_iff.mp this).1
      omega
  refine List.ext_getElem? fun i => ?_
  by_cases hi : i < ν0.length
  · rw [key i hi, List.getElem?_append_left hi]
  · rw [List.getElem?_append_right (by omega), List.getElem?_drop]
    congr 1
    omega
end
