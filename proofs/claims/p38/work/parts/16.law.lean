/-! THE LAW'S RUN, FROM THE MACHINE'S START -/
def zz_h0 : zz_H := ((0, 0), (fun _ => .inl (9, 0), fun _ _ => 0))
theorem zz_known {s : State} {args : Array Value} (hts : ∀ w ∈ lw_tbl, w.before args s = true) : ∃ (D : va_G) (cA : Nat → ClassId), va_K D zz_cl (zz_tys cA) s := by
  have hal : ∀ w ∈ zz_all, w.before args s = true := fun w hw => hts w (List.mem_filter.mp hw).1
  have h1 : ∀ k : Nat, ∃ y : ClassId × (Nat → Nat), ∀ q : vw_C, zz_cl[k]? = some q → u_Kn s q.1 q.2.1 q.2.2 y.1 y.2 := by
    intro k
    cases hk : zz_cl[k]? with
    | none => exact ⟨(0, fun _ => 0), fun q hq => by cases hq⟩
    | some q =>
      obtain ⟨C, T, N⟩ := q
      obtain ⟨g1, g2, -⟩ := zz_cls hk
      obtain ⟨cC, iS, hKn⟩ := u_known (C := C) (T := T) (N := N) (n := N) hal g1 (hal _ g2)
      exact ⟨(cC, iS), fun q hq => by cases hq; exact hKn⟩
  obtain ⟨f, hf⟩ := Classical.axiomOfChoice h1
  have h2 : ∀ t : Nat, ∃ y : ClassId, t < 5 → ArrOfT s y (zz_ty t) ∧ va_RA s y (zz_ty t) := by
    intro t
    have prim : ∀ ty : FieldType, (Jvm.Cond.arrayClass ty) ∈ lw_tbl → (∀ y : ClassId, s.vm.findClass ("[" ++ ty.toString) = some y → va_RA s y ty) → ∃ y : ClassId, t < 5 → ArrOfT s y ty ∧ va_RA s y ty := fun ty hw hra => by
      obtain ⟨c, k, comp, e1, e2, e3⟩ := Cond.arrayClass_spec (hts _ hw)
      exact ⟨c, fun _ => ⟨fun N z => ⟨(fun k h => by cases h), k, e2, comp, e3⟩, hra c e1⟩⟩
    have refs : ∀ C : String, (Jvm.Cond.arrayOver (.object C)) ∈ lw_tbl → ∃ y : ClassId, t < 5 → ArrOfT s y (.object C) ∧ va_RA s y (.object C) := fun C hw => by
      obtain ⟨comp, c, k, e1, e2, e3, e4, e5⟩ := Cond.arrayOver_spec (hts _ hw)
      exact ⟨c, fun _ => ⟨fun N z => ⟨(fun k h => by cases h), k, e3, comp, e4⟩, k, comp, e3, e4, e1, e5⟩⟩
    match t with
    | 0 => exact prim .int (List.mem_of_getElem? (i := 152) (by decide +kernel)) (fun _ h => h)
    | 1 => exact prim .boolean (List.mem_of_getElem? (i := 264) (by decide +kernel)) (fun _ h => h)
    | 2 => exact prim .byte (List.mem_of_getElem? (i := 1143) (by decide +kernel)) (fun _ h => h)
    | 3 => exact refs "UnequalHours$Town" (List.mem_of_getElem? (i := 104) (by decide +kernel))
    | 4 => exact refs "UnequalHours$State" (List.mem_of_getElem? (i := 218) (by decide +kernel))
    | t + 5 => exact ⟨0, fun h => absurd h (by omega)⟩
  obtain ⟨cA, hcA⟩ := Classical.axiomOfChoice h2
  refine ⟨(fun k => (f k).1, fun k => (f k).2), cA, fun k q hq => hf k q hq, fun k q hq => ?_⟩
  have hk : k < 5 := by
    have := (List.getElem?_eq_some_iff.mp hq).1
    simpa [zz_tys] using this
  rw [zz_tys_at cA hk] at hq
  cases hq
  exact hcA k hk
theorem zz_E_of {s : State} {args : Array Value} (hts : ∀ w ∈ lw_tbl, w.before args s = true) : zz_E s := by
  refine ⟨fun w hw => ?_, va_AO.of (hts _ (List.mem_of_getElem? (i := 104) (by decide +kernel))), va_AO.of (hts _ (List.mem_of_getElem? (i := 218) (by decide +kernel)))⟩
  have h1 := List.mem_filter.mp hw
  have h2 := h1.2
  have h3 := hts w h1.1
  cases w <;> first | exact va_Nw.of rfl h3 | (exact absurd (show false = true from h2) (by decide))
section ZR
variable {p : Program} {l : Launch} {e : Env} {s : State} {m : MethodId} {below : List Frame} {meth : Method} {c : Code} {D : va_G} {cA : Nat → ClassId} {z b : Nat} {X : zz_X}
/-- a run of the law that ends well is a run of the machine that ends well -/
theorem zz_law_fin {a : zz_S} (hr : meth.sig.returnType = ret) (hlocks : meth.locks = false) (hZ : zz_Zr a.2.2.2) (C : zz_C p room_1 s m #[Value.ref b] meth c D cA s.heap.size b 0 X 0)
    (k : zz_fin X 0 a (fun v h => v = some (.int 1) ∧ h.1.1 ≤ 600000 ∧ h.1.2 ≤ 7302250)) : zz_G p l e room_1 s m #[Value.ref b] below meth c D cA s.heap.size b 0 0 0 (lw_Z below #[Value.ref b] s) a := by
  obtain ⟨n, q, v, h, hw, hv, h1, h2⟩ := k
  refine zz_sim l D cA s.heap.size b X n p e room_1 s m _ below meth c (lw_Z below #[Value.ref b] s) 0 0 0 a _ (by decide +kernel) hw C hZ (Nat.zero_le _) (Nat.zero_le _) (by show h.1.1 - 0 ≤ 600000; omega) (by show h.1.2 - 0 ≤ 7302250; omega) ?_
  intro hk H locs ls hW hS
  have hv : v = some (.int 1) := hv
  subst hv
  rcases hk with ⟨hd, -⟩ | ⟨-, h3, -⟩ | ⟨-, h3, -⟩
  · refine va_forget (fun q hq => hS.2.2 q hq) ?_
    refine W.widen (k := 600000) (n := 7302250) (by show h.1.1 - 0 ≤ 600000; omega) (by show h.1.2 - 0 ≤ 7302250; omega) ?_
    exact lw_ret C.1 C.2.1 hr hlocks hd
  · exact absurd h3 (by decide +kernel)
  · exact absurd h3 (by decide +kernel)
/-- two heaps that hold the same as far as they reach -/
def zz_eqv (h h' : zz_H) : Prop := h.1 = h'.1 ∧ ∀ k, k < h.1.1 → h.2.1 (k + 1) = h'.2.1 (k + 1) ∧ (match h'.2.1 (k + 1) with
  | .inl (_, n) => ∀ j, j < n → h.2.2 (k + 1) j = h'.2.2 (k + 1) j
  | .inr (.inl _) => True
  | .inr (.inr (_, fs)) => ∀ j, j < fs.length → fs[j]? = some none → h.2.2 (k + 1) j = h'.2.2 (k + 1) j)
theorem zz_arrV {cI : ClassId} {N : Nat} {f g : Nat → Value} (h : ∀ j, j < N → f j = g j) : arrV cI N f = arrV cI N g := by
  unfold arrV
  rw [show (fun j : Fin N => f j.val) = (fun j : Fin N => g j.val) from funext fun j => h j.val j.isLt]
theorem zz_fv_eqv {g g' : Nat → Int32} {fs : List (Option (Option Nat))} (h : ∀ j, j < fs.length → fs[j]? = some none → g j = g' j) : zz_fv z b g 0 fs = zz_fv z b g' 0 fs := by
  apply List.ext_getElem?
  intro i
  rw [zz_fv_at, zz_fv_at]
  cases hi : fs[i]? with
  | none => rfl
  | some q =>
    cases q with
    | none =>
      have hl : i < fs.length := (List.getElem?_eq_some_iff.mp hi).1
      show some (Value.int (g (0 + i))) = some (Value.int (g' (0 + i)))
      rw [Nat.zero_add, h i hl hi]
    | some q => rfl
theorem zz_eqv.Wd {h h' : zz_H} {H : Heap} (q : zz_eqv h h') (hW : zz_Wd D cA z b h H) : zz_Wd D cA z b h' H := by
  obtain ⟨e1, e2⟩ := q
  intro k x hx
  obtain ⟨hk, rfl⟩ := zz_ws_inv hx
  rw [← e1] at hk
  have h1 := hW k _ (zz_ws_at hk)
  obtain ⟨f1, f2⟩ := e2 k hk
  rw [f1] at h1
  cases hl : h'.2.1 (k + 1) with
  | inl q =>
    obtain ⟨t, n⟩ := q
    rw [hl] at h1 f2
    have h1 : H[z + k]? = some (vp_cell (cA t) (n, .inl (h.2.2 (k + 1)))) := h1
    show H[z + k]? = some (vp_cell (cA t) (n, .inl (h'.2.2 (k + 1))))
    rw [h1, vp_cell_i, vp_cell_i]
    rw [zz_arrV fun j hj => by rw [f2 j hj]]
  | inr q =>
    cases q with
    | inl q => rw [hl] at h1; exact h1
    | inr q =>
      obtain ⟨ci, fs⟩ := q
      rw [hl] at h1 f2
      have h1 : va_at D zz_cl (z + k, .inr (ci, zz_fv z b (h.2.2 (k + 1)) 0 fs)) H := h1
      show va_at D zz_cl (z + k, .inr (ci, zz_fv z b (h'.2.2 (k + 1)) 0 fs)) H
      rw [← zz_fv_eqv f2]
      exact h1
end ZR
