/-! the steps, one by one -/
section ZY
variable {p : Program} {l : Launch} {e : Env} {R : Room} {s : State} {m : MethodId} {args : Array Value} {below : List Frame} {meth : Method} {c : Code} {Q : State → Prop} {D : va_G} {cA : Nat → ClassId} {z b n0 s0 md pc : Nat} {X : zz_X} {lv : zz_V} {st : List Value} {h : zz_H} {s' : zz_S}
theorem zz_cls {x : Nat} {C : String} {T : u_T} {N : Nat} (hc : zz_cl[x]? = some (C, T, N)) : (∀ w ∈ u_ws C T N, w ∈ zz_all) ∧ Jvm.Cond.instantiable C N ∈ zz_all ∧ Jvm.Cond.initialized C ∈ zz_all ∧ (zz_us x).length = N ∧ (∀ j, j < N → (T j).1 = C ∧ parseFieldDescriptor (T j).2.2.1 = some (zz_ft (T j).2.2.1) ∧ ∃ u, (zz_us x)[j]? = some u ∧ zz_ftk (zz_ft (T j).2.2.1) u = true) ∧ (∀ a, a < N → ∀ b, b < N → a ≠ b → (T a).2.1 ≠ (T b).2.1) := by
  have hx : x < 11 := (List.getElem?_eq_some_iff.mp hc).1
  have h0 := zz_allC x hx
  unfold zz_okC at h0
  rw [hc] at h0
  simp only [Bool.and_eq_true, decide_eq_true_eq] at h0
  obtain ⟨h1, h2, h3, h4, h5, h6⟩ := h0
  refine ⟨fun w hw => ?_, zz_all_of h2, zz_all_of h3, h4, fun j hj => ?_, fun a ha b hb hab => ?_⟩
  · have := List.all_eq_true.mp h1 w hw
    simp only [Bool.and_eq_true, decide_eq_true_eq] at this
    exact List.mem_filter.mpr this
  · have := List.all_eq_true.mp h5 j (List.mem_range.mpr hj)
    unfold zz_okF at this
    simp only [Bool.and_eq_true, decide_eq_true_eq] at this
    refine ⟨this.1, this.2.1, ?_⟩
    have h7 := this.2.2
    split at h7
    · exact ⟨_, by assumption, h7⟩
    · cases h7
  · have := List.all_eq_true.mp (List.all_eq_true.mp h6 a (List.mem_range.mpr ha)) b (List.mem_range.mpr hb)
    simp only [Bool.or_eq_true, decide_eq_true_eq] at this
    rcases this with q | q
    · exact absurd q hab
    · exact q
theorem zz_link {w : Nat} {q : Nat × Nat × Nat × Nat × Nat × Value} (h : zz_lt w = some q) (h3 : zz_is3 q = false) : zz_word q ∈ zz_all := by
  have g := zz_okL_at h
  unfold zz_okL at g
  rw [h] at g
  simp only [Bool.and_eq_true, Bool.or_eq_true, decide_eq_true_eq, h3] at g
  exact List.mem_filter.mpr ⟨List.mem_of_getElem? g.1, by simpa using g.2⟩
theorem zz_link3 {w o k x : Nat} (h : zz_lt w = some (3, o, k, x, 0, .null)) : Jvm.Cond.methodLinkNest (zz_cn o) k (zz_y x) "UnequalHours" ∈ zz_nest := by
  have g := zz_okL_at h
  unfold zz_okL at g
  rw [h] at g
  simp only [Bool.and_eq_true, decide_eq_true_eq] at g
  exact List.mem_filter.mpr ⟨List.mem_of_getElem? g.1, rfl⟩
theorem zz_lk1 {w o k x y : Nat} {C : String} {T : u_T} {N : Nat} (h : zz_lt w = some (1, o, k, x, y, .null)) (hc : zz_cl[x]? = some (C, T, N)) : Jvm.Cond.fieldLink (zz_cn o) k (T y).1 (T y).2.1 (T y).2.2.1 ∈ zz_all := by
  have g := zz_link h rfl
  unfold zz_word at g
  simp only [hc] at g
  exact g
theorem zz_lk4 {w o k x : Nat} {C : String} {T : u_T} {N : Nat} (h : zz_lt w = some (4, o, k, x, 0, .null)) (hc : zz_cl[x]? = some (C, T, N)) : Jvm.Cond.classLink (zz_cn o) k C ∈ zz_all := by
  have g := zz_link h rfl
  unfold zz_word at g
  simp only [hc] at g
  exact g
theorem zz_meth {m : Nat} (h0 : 0 < m) (hm : m < zz_nm) : Jvm.Cond.code (zz_y m) (zz_bc m) (zz_nl m) (zz_re m) ∈ zz_all ∧ Jvm.Cond.initialized (zz_y m).cls ∈ zz_all ∧ plainFor (zz_y m) = true ∧ (zz_y m).cls = zz_ow m ∧ zz_okR m = true ∧ ((zz_y m).cls ≠ "java/lang/invoke/MethodHandle" ∧ (zz_y m).cls ≠ "java/lang/invoke/VarHandle") ∧ (parseMethodDescriptor (zz_y m).desc).map (fun d => d.parameters.length) = some (zz_na m) ∧
    ((zz_mw m).1 = 0 → Jvm.Cond.static (zz_y m) ∈ zz_all) ∧ ((zz_mw m).1 = 1 → Jvm.Cond.instanceMethod (zz_y m) ∈ zz_all ∧ Jvm.Cond.selects (zz_y m).cls (zz_y m) (zz_y m) ∈ zz_all ∧ ∃ T N, zz_cl[zz_mc m]? = some ((zz_y m).cls, T, N)) ∧
    ((zz_mw m).1 = 2 → Jvm.Cond.instanceMethod (zz_y m) ∈ zz_all ∧ (zz_y m).name = "<init>" ∧ zz_rt m = 0 ∧ ∃ T N, zz_cl[zz_mc m]? = some ((zz_y m).cls, T, N)) := by
  have h := zz_allM h0 hm
  unfold zz_okM at h
  split at h
  rename_i t kc ks kl ki hw
  simp only [Bool.and_eq_true, decide_eq_true_eq] at h
  obtain ⟨a2, a3, a4, a5, a6, a7, a8⟩ := h
  rw [hw]
  refine ⟨List.mem_filter.mpr ⟨zz_code h0 hm, rfl⟩, zz_all_of a2, a3, a4, a5, a6, a7, fun e => ?_, fun e => ?_, fun e => ?_⟩
  · have e : t = 0 := e
    subst e
    exact zz_all_of a8
  · have e : t = 1 := e
    subst e
    simp only [Bool.and_eq_true] at a8
    refine ⟨zz_all_of a8.1, zz_all_of a8.2.1, ?_⟩
    have a9 := a8.2.2
    split at a9
    · rename_i C T N hc
      exact ⟨T, N, by rw [hc, of_decide_eq_true a9]⟩
    · cases a9
  · have e : t = 2 := e
    subst e
    simp only [Bool.and_eq_true, decide_eq_true_eq] at a8
    refine ⟨zz_all_of a8.1, a8.2.1, a8.2.2.1, ?_⟩
    have a9 := a8.2.2.2
    split at a9
    · rename_i C T N hc
      exact ⟨T, N, by rw [hc, of_decide_eq_true a9]⟩
    · cases a9
theorem zz_get_ok {x y : Nat} (hs : zz_get x y pc lv st h = some (.inl s')) : ∃ (k : Nat) (r : List Value) (fs : List (Option (Option Nat))) (q : Option (Option Nat)) (v : Value), st = .ref (k + 1) :: r ∧ zz_obj h (k + 1) x = some fs ∧ fs[y]? = some q ∧ zz_mv z b v = zz_fq z b (h.2.2 (k + 1)) y q ∧ s' = (pc + 3, lv, v :: r, h) := by
  unfold zz_get at hs
  repeat' split at hs
  all_goals first
    | (cases hs; done)
    | (cases hs; exact ⟨_, _, _, _, _, rfl, by assumption, by assumption, rfl, rfl⟩)
theorem zz_put_ok {x y u : Nat} (hs : zz_put x y u pc lv st h = some (.inl s')) : ∃ (k : Nat) (r : List Value) (fs : List (Option (Option Nat))), zz_obj h (k + 1) x = some fs ∧
    ((∃ a : Int32, st = .int a :: .ref (k + 1) :: r ∧ fs[y]? = some none ∧ (u = 0 ∨ (u = 1 ∧ (a = 0 ∨ a = 1))) ∧ s' = (pc + 3, lv, r, (h.1, (h.2.1, zz_w h.2.2 (k + 1) y a)))) ∨
     (∃ (q : Nat) (q0 : Option Nat), st = .ref q :: .ref (k + 1) :: r ∧ fs[y]? = some (some q0) ∧ u = 2 ∧ s' = (pc + 3, lv, r, (h.1, (zz_up h.2.1 (k + 1) (.inr (.inr (x, fs.set y (some (some q))))), h.2.2))))) := by
  unfold zz_put at hs
  repeat' split at hs
  all_goals first
    | (cases hs; done)
    | (cases hs; exact ⟨_, _, _, by assumption, Or.inl ⟨_, rfl, by assumption, by assumption, rfl⟩⟩)
    | (cases hs; exact ⟨_, _, _, by assumption, Or.inr ⟨_, _, rfl, by assumption, by assumption, rfl⟩⟩)
theorem zz_ial_ok (hs : zz_ial X pc lv st h = some (.inl s')) : ∃ (i : Int32) (r : List Value), (∃ (L : Nat) (xs : Nat → Int32), X = some (L, xs) ∧ st = .int i :: .ref 0 :: r ∧ vp_in i L ∧ s' = (pc + 1, lv, .int (xs i.toNatClampNeg) :: r, h)) ∨
    (∃ k n : Nat, st = .int i :: .ref (k + 1) :: r ∧ zz_arr h (k + 1) 0 = some n ∧ vp_in i n ∧ s' = (pc + 1, lv, .int (h.2.2 (k + 1) i.toNatClampNeg) :: r, h)) := by
  unfold zz_ial at hs
  repeat' split at hs
  all_goals first
    | (cases hs; done)
    | (cases hs; exact ⟨_, _, Or.inl ⟨_, _, by assumption, rfl, zz_inb_ok (by assumption), rfl⟩⟩)
    | (cases hs; exact ⟨_, _, Or.inl ⟨_, _, rfl, rfl, zz_inb_ok (by assumption), rfl⟩⟩)
    | (cases hs; exact ⟨_, _, Or.inr ⟨_, _, rfl, by assumption, zz_inb_ok (by assumption), rfl⟩⟩)
theorem zz_bal_ok (hs : zz_bal pc lv st h = some (.inl s')) : ∃ (i : Int32) (r : List Value) (k n t : Nat), (t = 1 ∨ t = 2) ∧ st = .int i :: .ref (k + 1) :: r ∧ zz_arr h (k + 1) t = some n ∧ vp_in i n ∧ s' = (pc + 1, lv, .int (h.2.2 (k + 1) i.toNatClampNeg) :: r, h) := by
  unfold zz_bal at hs
  repeat' split at hs
  all_goals first
    | (cases hs; done)
    | (cases hs; exact ⟨_, _, _, _, 1, Or.inl rfl, rfl, by assumption, zz_inb_ok (by assumption), rfl⟩)
    | (cases hs; exact ⟨_, _, _, _, 2, Or.inr rfl, rfl, by assumption, zz_inb_ok (by assumption), rfl⟩)
theorem zz_ias_ok (hs : zz_ias pc lv st h = some (.inl s')) : ∃ (a i : Int32) (r : List Value) (k n : Nat), st = .int a :: .int i :: .ref (k + 1) :: r ∧ zz_arr h (k + 1) 0 = some n ∧ vp_in i n ∧ s' = (pc + 1, lv, r, (h.1, (h.2.1, zz_w h.2.2 (k + 1) i.toNatClampNeg a))) := by
  unfold zz_ias at hs
  repeat' split at hs
  all_goals first
    | (cases hs; done)
    | (cases hs; exact ⟨_, _, _, _, _, rfl, by assumption, zz_inb_ok (by assumption), rfl⟩)
theorem zz_bas_ok (hs : zz_bas pc lv st h = some (.inl s')) : ∃ (a i : Int32) (r : List Value) (k n t : Nat), st = .int a :: .int i :: .ref (k + 1) :: r ∧ zz_arr h (k + 1) t = some n ∧ vp_in i n ∧
    ((t = 1 ∧ s' = (pc + 1, lv, r, (h.1, (h.2.1, zz_w h.2.2 (k + 1) i.toNatClampNeg (vp_nar .boolean a))))) ∨ (t = 2 ∧ s' = (pc + 1, lv, r, (h.1, (h.2.1, zz_w h.2.2 (k + 1) i.toNatClampNeg (vp_nar .byte a)))))) := by
  unfold zz_bas at hs
  repeat' split at hs
  all_goals first
    | (cases hs; done)
    | (cases hs; exact ⟨_, _, _, _, _, 1, rfl, by assumption, zz_inb_ok (by assumption), Or.inl ⟨rfl, rfl⟩⟩)
    | (cases hs; exact ⟨_, _, _, _, _, 2, rfl, by assumption, zz_inb_ok (by assumption), Or.inr ⟨rfl, rfl⟩⟩)
theorem zz_aal_ok (hs : zz_aal pc lv st h = some (.inl s')) : ∃ (i : Int32) (r : List Value) (k t : Nat) (rs : List (Option Nat)) (q : Option Nat), st = .int i :: .ref (k + 1) :: r ∧ zz_rar h (k + 1) = some (t, rs) ∧ vp_in i rs.length ∧ (t = 3 ∨ t = 4) ∧ rs[i.toNatClampNeg]? = some q ∧ s' = (pc + 1, lv, zz_val q :: r, h) := by
  unfold zz_aal at hs
  repeat' split at hs
  all_goals first
    | (cases hs; done)
    | (rename_i hc _ _; cases hs; exact ⟨_, _, _, _, _, _, rfl, by assumption, zz_inb_ok hc.1, hc.2, by assumption, rfl⟩)
    | (rename_i hc _ _ _; cases hs; exact ⟨_, _, _, _, _, _, rfl, by assumption, zz_inb_ok hc.1, hc.2, by assumption, rfl⟩)
theorem zz_aas_ok (hs : zz_aas pc lv st h = some (.inl s')) : ∃ (i : Int32) (r : List Value) (k q t : Nat) (rs : List (Option Nat)), st = .ref (q + 1) :: .int i :: .ref (k + 1) :: r ∧ zz_rar h (k + 1) = some (t, rs) ∧ vp_in i rs.length ∧ (t = 3 ∨ t = 4) ∧ (zz_obj h (q + 1) (zz_of t)).isSome = true ∧ s' = (pc + 1, lv, r, (h.1, (zz_up h.2.1 (k + 1) (.inr (.inl (t, rs.set i.toNatClampNeg (some (q + 1))))), h.2.2))) := by
  unfold zz_aas at hs
  repeat' split at hs
  all_goals first
    | (cases hs; done)
    | (rename_i hc; cases hs; exact ⟨_, _, _, _, _, _, rfl, by assumption, zz_inb_ok hc.1, hc.2.1, hc.2.2, rfl⟩)
theorem zz_len_ok (hs : zz_len X pc lv st h = some (.inl s')) : ∃ r : List Value, (∃ (L : Nat) (xs : Nat → Int32), X = some (L, xs) ∧ st = .ref 0 :: r ∧ s' = (pc + 1, lv, .int (Int32.ofNat L) :: r, h)) ∨
    (∃ k n t : Nat, st = .ref (k + 1) :: r ∧ zz_lay h (k + 1) = some (.inl (t, n)) ∧ t < 5 ∧ s' = (pc + 1, lv, .int (Int32.ofNat n) :: r, h)) := by
  unfold zz_len at hs
  repeat' split at hs
  all_goals first
    | (cases hs; done)
    | (cases hs; exact ⟨_, Or.inl ⟨_, _, rfl, rfl, rfl⟩⟩)
    | (cases hs; exact ⟨_, Or.inl ⟨_, _, by assumption, rfl, rfl⟩⟩)
    | (cases hs; exact ⟨_, Or.inr ⟨_, _, _, rfl, by assumption, by assumption, rfl⟩⟩)
theorem zz_nar_ok {t : Nat} (hs : zz_nar t pc lv st h = some (.inl s')) : ∃ (n : Int32) (r : List Value), st = .int n :: r ∧ ¬ n < 0 ∧ n.toNatClampNeg ≤ 100000 ∧ s' = (pc + 2, lv, .ref (h.1.1 + 1) :: r, zz_more h n.toNatClampNeg (.inl (t, n.toNatClampNeg))) := by
  unfold zz_nar at hs
  split at hs
  · split at hs
    · cases hs
    · rename_i hc
      cases hs
      exact ⟨_, _, rfl, fun q => hc (Or.inl q), Nat.not_lt.mp fun q => hc (Or.inr q), rfl⟩
  · cases hs
theorem zz_anr_ok {t : Nat} (hs : zz_anr t pc lv st h = some (.inl s')) : ∃ (n : Int32) (r : List Value), st = .int n :: r ∧ ¬ n < 0 ∧ n.toNatClampNeg ≤ 100000 ∧ s' = (pc + 3, lv, .ref (h.1.1 + 1) :: r, zz_more h n.toNatClampNeg (.inr (.inl (t, List.replicate n.toNatClampNeg none)))) := by
  unfold zz_anr at hs
  split at hs
  · split at hs
    · cases hs
    · rename_i hc
      cases hs
      exact ⟨_, _, rfl, fun q => hc (Or.inl q), Nat.not_lt.mp fun q => hc (Or.inr q), rfl⟩
  · cases hs
theorem zz_cpy_ok (hs : zz_cpy pc lv st h = some (.inl s')) : ∃ (n sp dp : Int32) (r : List Value) (a d na nb : Nat), st = .int n :: .int dp :: .ref (a + 1) :: .int sp :: .ref (d + 1) :: r ∧ zz_arr h (a + 1) 0 = some na ∧ zz_arr h (d + 1) 0 = some nb ∧ (¬ sp < 0 ∧ ¬ dp < 0 ∧ ¬ n < 0 ∧ sp.toNatClampNeg + n.toNatClampNeg ≤ nb ∧ dp.toNatClampNeg + n.toNatClampNeg ≤ na ∧ (r.map fun v => v.category).sum ≤ 8) ∧
    s' = (pc + 3, lv, r, (h.1, (h.2.1, zz_up h.2.2 (a + 1) (va_cpy (h.2.2 (d + 1)) (h.2.2 (a + 1)) sp.toNatClampNeg dp.toNatClampNeg n.toNatClampNeg)))) := by
  unfold zz_cpy at hs
  repeat' split at hs
  all_goals first
    | (cases hs; done)
    | (cases hs; exact ⟨_, _, _, _, _, _, _, _, rfl, by assumption, by assumption, by assumption, rfl⟩)
theorem zz_okd {i : Instr} {x y u w : Nat} {v : Value} {sw : List (Int × Nat)} (ok : zz_okI md pc (i, (x, y, u, w), v, sw) = true) : decode (zz_bc md) pc = .ok (i, zz_le i y) := by
  unfold zz_okI at ok
  exact of_decide_eq_true (Bool.and_eq_true_iff.mp ok).1
theorem zz_Wd.at {k : Nat} {H : Heap} (hk : k < h.1.1) : (zz_ws z b cA h)[k]? = some (z + k, zz_cell z b cA (h.2.1 (k + 1)) (h.2.2 (k + 1))) := zz_ws_at hk
theorem z1_get {k0 x y u w : Nat} {v : Value} {sw : List (Int × Nat)} (C : zz_C p R s m args meth c D cA z b n0 X md) (ok : zz_okI md pc (.getfield k0, (x, y, u, w), v, sw) = true) (hs : zz_get x y pc lv st h = some (.inl s')) (k : zz_G p l e R s m args below meth c D cA z b n0 s0 md Q s') : zz_G p l e R s m args below meth c D cA z b n0 s0 md Q (pc, lv, st, h) := by
  obtain ⟨hx, hb, hml, hown, hts, hK, hz, hbz, hXx, hin, hfr, hlo, hE⟩ := C
  have hd := zz_okd ok
  obtain ⟨j, r, fs, q, v1, rfl, ho, hq, hv, rfl⟩ := zz_get_ok (z := z) (b := b) hs
  obtain ⟨hle, hlay⟩ := zz_obj_ok ho
  simp only [zz_okI, Bool.and_eq_true, decide_eq_true_eq] at ok
  obtain ⟨-, ok1, ok⟩ := ok
  split at ok
  · rename_i C T N hc
    simp only [Nat.blt_eq] at ok
    intro H locs ls hW hS hl
    have hW : zz_Wd D cA z b h H := hW
    refine va_get (D := D) (ci := x) (fs := zz_fv z b (h.2.2 (j + 1)) 0 fs) (C := C) (T := T) (N := N) (ref := (T y).1) (v := zz_mv z b v1) hx hb hts (zz_cls hc).1 hown hK hW j (by rw [zz_ws_at (by omega), hlay]; rfl) hc y ok (hts _ (zz_lk1 ok1 hc)) (fun _ h9 => h9) ?_ hd (k H locs ls hW hS hl)
    rw [zz_fv_at, hq, hv]
    simp
  · cases ok
theorem zz_ft_int {f : FieldType} {u : Nat} (h : zz_ftk f u = true) : (f = .int ∧ u = 0) ∨ (f = .boolean ∧ u = 1) ∨ ((∃ n, f = .object n) ∧ u = 2) ∨ ((∃ t, f = .array t) ∧ u = 2) := by
  cases f <;> simp_all [zz_ftk]
theorem z1_put {k0 x y u w : Nat} {v : Value} {sw : List (Int × Nat)} (hmd : md < zz_nm) (C : zz_C p R s m args meth c D cA z b n0 X md) (ok : zz_okI md pc (.putfield k0, (x, y, u, w), v, sw) = true) (hs : zz_put x y u pc lv st h = some (.inl s')) (k : zz_G p l e R s m args below meth c D cA z b n0 s0 md Q s') : zz_G p l e R s m args below meth c D cA z b n0 s0 md Q (pc, lv, st, h) := by
  obtain ⟨hx, hb, hml, hown, hts, hK, hz, hbz, hXx, hin, hfr, hlo, hE⟩ := C
  have hd := zz_okd ok
  obtain ⟨j, r, fs, ho, hs⟩ := zz_put_ok hs
  obtain ⟨hle, hlay⟩ := zz_obj_ok ho
  simp only [zz_okI, Bool.and_eq_true, decide_eq_true_eq] at ok
  obtain ⟨-, ok1, oku, ok⟩ := ok
  split at ok
  · rename_i C T N hc
    simp only [Bool.and_eq_true, Bool.or_eq_true, Bool.not_eq_true', decide_eq_true_eq, Nat.blt_eq] at ok
    obtain ⟨hy, hfin⟩ := ok
    obtain ⟨g1, -, -, -, g5, g6⟩ := zz_cls hc
    obtain ⟨hdecl, hty, u1, hu1, hft⟩ := g5 y hy
    rw [oku] at hu1
    cases hu1
    have hft := zz_ft_int hft
    have hini : (zz_mw md).1 = 2 ∧ zz_mc md = x → (zz_y md).name = "<init>" ∧ (T y).1 = zz_ow md := fun q => by
      have h0 : 0 < md := by
        rcases Nat.eq_zero_or_pos md with e | e
        · rw [e] at q
          exact absurd q.1 (by decide +kernel)
        · exact e
      obtain ⟨-, -, -, m4, -, -, -, -, -, m9⟩ := zz_meth h0 hmd
      obtain ⟨-, m10, -, T2, N2, m11⟩ := m9 q.1
      rw [q.2, hc] at m11
      cases m11
      exact ⟨m10, by rw [hdecl, m4]⟩
    have hyf : ∀ q, fs[y]? = some q → y < (zz_fv z b (h.2.2 (j + 1)) 0 fs).length := fun q hq => by
      rw [zz_fv_len]; exact (List.getElem?_eq_some_iff.mp hq).1
    rcases hs with ⟨a, rfl, hq, hu, rfl⟩ | ⟨q, q0, rfl, hq, hu, rfl⟩
    · have hn : narrow (zz_ft (T y).2.2.1) (.int a) = .int a ∧ fits (zz_ft (T y).2.2.1) (.int a) = true := by
        rcases hft with ⟨e1, e2⟩ | ⟨e1, e2⟩ | ⟨-, e2⟩ | ⟨-, e2⟩
        · rw [e1]; exact ⟨rfl, rfl⟩
        · rw [e1]
          rcases hu with e3 | ⟨-, rfl | rfl⟩
          · omega
          · exact ⟨by decide, by decide⟩
          · exact ⟨by decide, by decide⟩
        · omega
        · omega
      intro H locs ls hW hS hl
      have hW : zz_Wd D cA z b h H := hW
      have fin : ∀ (H1 : Heap) (locs1 : List Loc), va_P D zz_cl ((zz_ws z b cA h).set j (z + j, .inr (x, (zz_fv z b (h.2.2 (j + 1)) 0 fs).set y (.int a)))) H1 → va_D (fun q => z ≤ q) ((zz_ws z b cA h).set j (z + j, .inr (x, (zz_fv z b (h.2.2 (j + 1)) 0 fs).set y (.int a)))) → va_S (fun q => z ≤ q) s.heap H1 locs1 → W p l e R s m args below meth c H1 locs1 (h.1.1 - n0) (h.1.2 - s0) Q (F0 m (pc + 3) ls (r.map (zz_mv z b))) := fun H1 locs1 hP1 hD1 hS1 => by
        rw [zz_ws_set (h := h) (h' := (h.1, (h.2.1, zz_w h.2.2 (j + 1) y a))) j rfl (by
          show zz_cell z b cA (h.2.1 (j + 1)) (zz_w h.2.2 (j + 1) y a (j + 1)) = _
          rw [hlay, zz_fv_seti z b _ fs y a hq]
          rw [zz_w_self]
          rfl) (fun i hi => ⟨rfl, zz_w_other _ _ _ hi⟩)] at hP1
        exact k H1 locs1 ls hP1 hS1 hl
      by_cases hfl : (T y).2.2.2 = true
      · rcases hfin with hf | hf
        · rw [hfl] at hf; cases hf
        · obtain ⟨hf1, hf2⟩ := hini hf
          exact va_putF (D := D) (ci := x) (fs := zz_fv z b (h.2.2 (j + 1)) 0 fs) (C := C) (T := T) (N := N) (ref := (T y).1) (v := .int a) (ty := zz_ft (T y).2.2.1) hx hb hts g1 (fun k => zz_ft (T k).2.2.1) (fun k hk => (g5 k hk).2.1) g6 hown hK hW (zz_ws_D z b cA h) hS j (by rw [zz_ws_at (by omega), hlay]; rfl) hc y hy (hts _ (zz_lk1 ok1 hc)) (fun _ h9 => h9) hfl (hin hf1) hf2 hty hn.1 hn.2 (hyf _ hq) hd fin
      · exact va_put (D := D) (ci := x) (fs := zz_fv z b (h.2.2 (j + 1)) 0 fs) (C := C) (T := T) (N := N) (ref := (T y).1) (v := .int a) (ty := zz_ft (T y).2.2.1) hx hb hts g1 (fun k => zz_ft (T k).2.2.1) (fun k hk => (g5 k hk).2.1) g6 hown hK hW (zz_ws_D z b cA h) hS j (by rw [zz_ws_at (by omega), hlay]; rfl) hc y hy (hts _ (zz_lk1 ok1 hc)) (fun _ h9 => h9) (by simpa using hfl) hty hn.1 hn.2 (hyf _ hq) hd fin
    · have hn : narrow (zz_ft (T y).2.2.1) (.ref (zz_ad z b q)) = .ref (zz_ad z b q) ∧ fits (zz_ft (T y).2.2.1) (.ref (zz_ad z b q)) = true := by
        rcases hft with ⟨e1, e2⟩ | ⟨e1, e2⟩ | ⟨⟨n1, e1⟩, e2⟩ | ⟨⟨n1, e1⟩, e2⟩
        · omega
        · omega
        · rw [e1]; exact ⟨rfl, rfl⟩
        · rw [e1]; exact ⟨rfl, rfl⟩
      intro H locs ls hW hS hl
      have hW : zz_Wd D cA z b h H := hW
      have hyl : y < fs.length := (List.getElem?_eq_some_iff.mp hq).1
      have fin : ∀ (H1 : Heap) (locs1 : List Loc), va_P D zz_cl ((zz_ws z b cA h).set j (z + j, .inr (x, (zz_fv z b (h.2.2 (j + 1)) 0 fs).set y (.ref (zz_ad z b q))))) H1 → va_D (fun q => z ≤ q) ((zz_ws z b cA h).set j (z + j, .inr (x, (zz_fv z b (h.2.2 (j + 1)) 0 fs).set y (.ref (zz_ad z b q))))) → va_S (fun q => z ≤ q) s.heap H1 locs1 → W p l e R s m args below meth c H1 locs1 (h.1.1 - n0) (h.1.2 - s0) Q (F0 m (pc + 3) ls (r.map (zz_mv z b))) := fun H1 locs1 hP1 hD1 hS1 => by
        rw [zz_ws_set (h := h) (h' := (h.1, (zz_up h.2.1 (j + 1) (.inr (.inr (x, fs.set y (some (some q))))), h.2.2))) j rfl (by
          show zz_cell z b cA (zz_up h.2.1 (j + 1) _ (j + 1)) (h.2.2 (j + 1)) = _
          rw [zz_fv_setr z b _ fs y q hyl]
          rw [zz_up_self]
          rfl) (fun i hi => ⟨zz_up_other _ _ hi, rfl⟩)] at hP1
        exact k H1 locs1 ls hP1 hS1 hl
      by_cases hfl : (T y).2.2.2 = true
      · rcases hfin with hf | hf
        · rw [hfl] at hf; cases hf
        · obtain ⟨hf1, hf2⟩ := hini hf
          exact va_putF (D := D) (ci := x) (fs := zz_fv z b (h.2.2 (j + 1)) 0 fs) (C := C) (T := T) (N := N) (ref := (T y).1) (v := .ref (zz_ad z b q)) (ty := zz_ft (T y).2.2.1) hx hb hts g1 (fun k => zz_ft (T k).2.2.1) (fun k hk => (g5 k hk).2.1) g6 hown hK hW (zz_ws_D z b cA h) hS j (by rw [zz_ws_at (by omega), hlay]; rfl) hc y hy (hts _ (zz_lk1 ok1 hc)) (fun _ h9 => h9) hfl (hin hf1) hf2 hty hn.1 hn.2 (hyf _ hq) hd fin
      · exact va_put (D := D) (ci := x) (fs := zz_fv z b (h.2.2 (j + 1)) 0 fs) (C := C) (T := T) (N := N) (ref := (T y).1) (v := .ref (zz_ad z b q)) (ty := zz_ft (T y).2.2.1) hx hb hts g1 (fun k => zz_ft (T k).2.2.1) (fun k hk => (g5 k hk).2.1) g6 hown hK hW (zz_ws_D z b cA h) hS j (by rw [zz_ws_at (by omega), hlay]; rfl) hc y hy (hts _ (zz_lk1 ok1 hc)) (fun _ h9 => h9) (by simpa using hfl) hty hn.1 hn.2 (hyf _ hq) hd fin
  · cases ok
end ZY
