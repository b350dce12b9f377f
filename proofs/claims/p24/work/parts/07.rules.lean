/-! ONE STEP OF THE SMALL MACHINE IS ONE STEP OF THE MACHINE -/
theorem zz_ld_len {lv : zz_V} {k : Nat} {v : Value} (h : zz_ld lv k = some v) : lv[k]? = some (some v) := by
  unfold zz_ld at h
  split at h
  · rename_i w hw
    rw [hw, h]
  · cases h
theorem zz_ld_pre {lv : zz_V} {i j : Nat} {v : Value} (h : zz_ld (zz_pre lv i) j = some v) : zz_ld lv j = some v ∧ ¬ (j + 1 = i ∧ v.category = 2) := by
  cases i with
  | zero => exact ⟨h, fun q => by omega⟩
  | succ i =>
    simp only [zz_pre] at h
    split at h
    · rename_i w hw
      split at h
      · rename_i hc
        have h1 := zz_ld_len h
        rw [List.getElem?_set] at h1
        by_cases hij : i = j
        · rw [if_pos hij] at h1
          split at h1 <;> cases h1
        · rw [if_neg hij] at h1
          refine ⟨by unfold zz_ld; rw [h1], fun q => by omega⟩
      · rename_i hc
        refine ⟨h, fun q => hc ?_⟩
        have hij : i = j := by omega
        subst hij
        have h1 := zz_ld_len h
        rw [hw] at h1
        cases h1
        exact q.2
    · rename_i hn
      refine ⟨h, fun q => ?_⟩
      have hij : i = j := by omega
      subst hij
      exact hn _ (zz_ld_len h)
theorem zz_pre_len (lv : zz_V) (i : Nat) : (zz_pre lv i).length = lv.length := by
  cases i with
  | zero => rfl
  | succ i =>
    simp only [zz_pre]
    split
    · split <;> simp
    · rfl
/-- the locals of a frame hold these values -/
def zz_lr (z b : Nat) (ls : Array Slot) (nL : Nat) (lv : zz_V) : Prop := ls.size = nL ∧ lv_wf ls ∧ lv.length = nL ∧ ∀ (i : Nat) (v : Value), zz_ld lv i = some v → ls[i]? = some (.val (zz_mv z b v))
def zz_al (z b : Nat) (lv : zz_V) (nL : Nat) : List (Nat × Value) := (List.range nL).filterMap fun i => (zz_ld lv i).map fun v => (i, zz_mv z b v)
theorem zz_al_mem {z b nL : Nat} {lv : zz_V} {i : Nat} {v : Value} (hl : lv.length = nL) (h : zz_ld lv i = some v) : (i, zz_mv z b v) ∈ zz_al z b lv nL := by
  have h1 := zz_ld_len h
  have h2 : i < lv.length := (List.getElem?_eq_some_iff.mp h1).1
  exact List.mem_filterMap.mpr ⟨i, List.mem_range.mpr (by omega), by rw [h]; rfl⟩
theorem zz_lr.has {z b nL : Nat} {ls : Array Slot} {lv : zz_V} (h : zz_lr z b ls nL lv) : lv_has ls nL (zz_al z b lv nL) := by
  refine ⟨h.1, h.2.1, fun q hq => ?_⟩
  obtain ⟨i, -, hi⟩ := List.mem_filterMap.mp hq
  cases hv : zz_ld lv i with
  | none => rw [hv] at hi; cases hi
  | some v =>
    rw [hv] at hi
    cases hi
    exact h.2.2.2 i v hv
theorem zz_lr.st1 {z b nL i : Nat} {ls ls' : Array Slot} {lv : zz_V} {v : Value} (h : zz_lr z b ls nL lv) (hi : i < lv.length) (h' : lv_has ls' nL ((i, zz_mv z b v) :: (zz_al z b lv nL).filter (fun q => !(q.1 == i) && !(q.1 + 1 == i && q.2.category == 2)))) : zz_lr z b ls' nL (zz_st1 lv i v) := by
  refine ⟨h'.1, h'.2.1, by simp [zz_st1, zz_pre_len, h.2.2.1], fun j w hj => ?_⟩
  have h1 := zz_ld_len hj
  unfold zz_st1 at h1
  rw [List.getElem?_set] at h1
  by_cases hij : i = j
  · subst hij
    rw [if_pos rfl, if_pos (by rw [zz_pre_len]; exact hi)] at h1
    cases h1
    exact h'.2.2 _ List.mem_cons_self
  · rw [if_neg hij] at h1
    obtain ⟨h2, h3⟩ := zz_ld_pre (i := i) (j := j) (v := w) (lv := lv) (by unfold zz_ld; rw [h1])
    refine h'.2.2 (j, zz_mv z b w) (List.mem_cons_of_mem _ (List.mem_filter.mpr ⟨zz_al_mem h.2.2.1 h2, ?_⟩))
    simp only [Bool.and_eq_true, Bool.not_eq_true', beq_eq_false_iff_ne, Bool.and_eq_false_iff, zz_mv_cat]
    refine ⟨Ne.symm hij, ?_⟩
    by_cases hq : j + 1 = i
    · exact Or.inr fun e => h3 ⟨hq, e⟩
    · exact Or.inl hq
theorem zz_lr.st2 {z b nL i : Nat} {ls ls' : Array Slot} {lv : zz_V} {v : Value} (h : zz_lr z b ls nL lv) (hi : i + 1 < lv.length) (h' : lv_has ls' nL ((i, zz_mv z b v) :: (zz_al z b lv nL).filter (fun q => !(q.1 == i) && (!(q.1 == i + 1) && !(q.1 + 1 == i && q.2.category == 2))))) : zz_lr z b ls' nL (zz_st2 lv i v) := by
  refine ⟨h'.1, h'.2.1, by simp [zz_st2, zz_pre_len, h.2.2.1], fun j w hj => ?_⟩
  have h1 := zz_ld_len hj
  unfold zz_st2 at h1
  rw [List.getElem?_set, List.length_set, zz_pre_len] at h1
  by_cases hij2 : i + 1 = j
  · rw [if_pos hij2] at h1
    split at h1 <;> cases h1
  rw [if_neg hij2, List.getElem?_set] at h1
  by_cases hij : i = j
  · subst hij
    rw [if_pos rfl, if_pos (by rw [zz_pre_len]; omega)] at h1
    cases h1
    exact h'.2.2 _ List.mem_cons_self
  · rw [if_neg hij] at h1
    obtain ⟨h2, h3⟩ := zz_ld_pre (i := i) (j := j) (v := w) (lv := lv) (by unfold zz_ld; rw [h1])
    refine h'.2.2 (j, zz_mv z b w) (List.mem_cons_of_mem _ (List.mem_filter.mpr ⟨zz_al_mem h.2.2.1 h2, ?_⟩))
    simp only [Bool.and_eq_true, Bool.not_eq_true', beq_eq_false_iff_ne, Bool.and_eq_false_iff, zz_mv_cat]
    refine ⟨Ne.symm hij, Ne.symm hij2, ?_⟩
    by_cases hq : j + 1 = i
    · exact Or.inr fun e => h3 ⟨hq, e⟩
    · exact Or.inl hq
def zz_Wd (D : va_G) (cA : Nat → ClassId) (z b : Nat) (h : zz_H) (H : Heap) : Prop := va_P D zz_cl (zz_ws z b cA h) H
def zz_Xx (b : Nat) (X : zz_X) (U : State) : Prop := match X with
  | none => True
  | some (L, xs) => va_X b L xs U U.heap
section ZZ
variable {p : Program} {l : Launch} {e : Env} {R : Room} {s : State} {m : MethodId} {args : Array Value} {below : List Frame} {meth : Method} {c : Code} {Q : State → Prop} {D : va_G} {cA : Nat → ClassId} {z b n0 s0 md pc : Nat} {X : zz_X} {lv : zz_V} {st : List Value} {h : zz_H} {s' : zz_S}
def zz_C (p : Program) (R : Room) (s : State) (m : MethodId) (args : Array Value) (meth : Method) (c : Code) (D : va_G) (cA : Nat → ClassId) (z b n0 : Nat) (X : zz_X) (md : Nat) : Prop :=
  p.tables.exec = Jvm.exec ∧ c.code = zz_bc md ∧ c.maxLocals = zz_nl md ∧ s.vm.findClass (zz_ow md) = some m.cls ∧ (∀ w ∈ zz_all, w.before args s = true) ∧ va_K D zz_cl (zz_tys cA) s ∧ s.heap.size = z + n0 ∧ b < z ∧ zz_Xx b X s ∧ ((zz_y md).name = "<init>" → meth.name = "<init>") ∧ zz_fr md ≤ R.frames ∧ zz_lo md ≤ R.locals ∧ zz_E s
/-- from here on it goes well, whatever the heap and the locals that hold these numbers -/
def zz_G (p : Program) (l : Launch) (e : Env) (R : Room) (s : State) (m : MethodId) (args : Array Value) (below : List Frame) (meth : Method) (c : Code) (D : va_G) (cA : Nat → ClassId) (z b n0 s0 md : Nat) (Q : State → Prop) (s' : zz_S) : Prop :=
  ∀ (H : Heap) (locs : List Loc) (ls : Array Slot), zz_Wd D cA z b s'.2.2.2 H → va_S (fun q => z ≤ q) s.heap H locs → zz_lr z b ls (zz_nl md) s'.2.1 → W p l e R s m args below meth c H locs (s'.2.2.2.1.1 - n0) (s'.2.2.2.1.2 - s0) Q (F0 m s'.1 ls (s'.2.2.1.map (zz_mv z b)))
/-- how many cells the heap has: no more than are counted, no fewer than are told -/
theorem zz_sized {H : Heap} {locs : List Loc} {sl : Nat} {g : JFrame} (hz : s.heap.size = z + n0) (hn : n0 ≤ h.1.1) (hW : zz_Wd D cA z b h H) (hS : va_S (fun q => z ≤ q) s.heap H locs)
    (k : H.size = z + h.1.1 → W p l e R s m args below meth c H locs (h.1.1 - n0) sl Q g) : W p l e R s m args below meth c H locs (h.1.1 - n0) sl Q g := by
  intro T hT X
  refine k ?_ T hT X
  have h1 := X.same.2.2.1
  have h2 : (T.setVm s.vm).heap = H := hT
  rw [h2] at h1
  have h3 : z + h.1.1 ≤ H.size := by
    rcases Nat.eq_zero_or_pos h.1.1 with q | q
    · rw [q]
      have := hS.1
      omega
    · have h4 := (hW (h.1.1 - 1) _ (zz_ws_at (by omega))).lt
      have h4 : z + (h.1.1 - 1) < H.size := h4
      omega
  omega
theorem zz_i2_ok {f : Int32 → Int32 → Int32} (hs : zz_i2 f pc lv st h = some (.inl s')) : ∃ (a d : Int32) (r : List Value), st = .int d :: .int a :: r ∧ s' = (pc + 1, lv, .int (f a d) :: r, h) := by
  unfold zz_i2 at hs
  split at hs
  · cases hs
    exact ⟨_, _, _, rfl, rfl⟩
  · cases hs
theorem zz_l2_ok {f : Int64 → Int64 → Int64} (hs : zz_l2 f pc lv st h = some (.inl s')) : ∃ (a d : Int64) (r : List Value), st = .long d :: .long a :: r ∧ s' = (pc + 1, lv, .long (f a d) :: r, h) := by
  unfold zz_l2 at hs
  split at hs
  · cases hs
    exact ⟨_, _, _, rfl, rfl⟩
  · cases hs
theorem zz_int_ok {k : Nat} (hs : zz_int lv k pc st h = some (.inl s')) : ∃ a : Int32, zz_ld lv k = some (.int a) ∧ s' = (pc, lv, .int a :: st, h) := by
  unfold zz_int at hs
  split at hs
  · cases hs
    exact ⟨_, by assumption, rfl⟩
  · cases hs
theorem zz_lng_ok {k : Nat} (hs : zz_lng lv k pc st h = some (.inl s')) : ∃ a : Int64, zz_ld lv k = some (.long a) ∧ s' = (pc, lv, .long a :: st, h) := by
  unfold zz_lng at hs
  split at hs
  · cases hs
    exact ⟨_, by assumption, rfl⟩
  · cases hs
theorem zz_rfl_ok {k : Nat} (hs : zz_rfl lv k pc st h = some (.inl s')) : (∃ a : Nat, zz_ld lv k = some (.ref a) ∧ s' = (pc, lv, .ref a :: st, h)) ∨ (zz_ld lv k = some .null ∧ s' = (pc, lv, .null :: st, h)) := by
  unfold zz_rfl at hs
  split at hs
  · cases hs
    exact Or.inl ⟨_, by assumption, rfl⟩
  · cases hs
    exact Or.inr ⟨by assumption, rfl⟩
  · cases hs
theorem zz_is_ok {k : Nat} (hs : zz_is lv k pc st h = some (.inl s')) : ∃ (a : Int32) (r : List Value), st = .int a :: r ∧ k < lv.length ∧ s' = (pc, zz_st1 lv k (.int a), r, h) := by
  unfold zz_is at hs
  split at hs
  · split at hs
    · cases hs
      exact ⟨_, _, rfl, by assumption, rfl⟩
    · cases hs
  · cases hs
theorem zz_ls_ok {k : Nat} (hs : zz_ls lv k pc st h = some (.inl s')) : ∃ (a : Int64) (r : List Value), st = .long a :: r ∧ k + 1 < lv.length ∧ s' = (pc, zz_st2 lv k (.long a), r, h) := by
  unfold zz_ls at hs
  split at hs
  · split at hs
    · cases hs
      exact ⟨_, _, rfl, by assumption, rfl⟩
    · cases hs
  · cases hs
theorem zz_as_ok {k : Nat} (hs : zz_as lv k pc st h = some (.inl s')) : (∃ (a : Nat) (r : List Value), st = .ref a :: r ∧ k < lv.length ∧ s' = (pc, zz_st1 lv k (.ref a), r, h)) ∨ (∃ r : List Value, st = .null :: r ∧ k < lv.length ∧ s' = (pc, zz_st1 lv k .null, r, h)) := by
  unfold zz_as at hs
  split at hs
  · split at hs
    · cases hs
      exact Or.inl ⟨_, _, rfl, by assumption, rfl⟩
    · cases hs
  · split at hs
    · cases hs
      exact Or.inr ⟨_, rfl, by assumption, rfl⟩
    · cases hs
  · cases hs
theorem zz_if_ok {P : Int32 → Bool} {t : Nat} (hs : zz_if P pc t lv st h = some (.inl s')) : ∃ (a : Int32) (r : List Value), st = .int a :: r ∧ ((P a = true ∧ s' = (t, lv, r, h)) ∨ (¬ P a = true ∧ s' = (pc + 3, lv, r, h))) := by
  unfold zz_if at hs
  split at hs
  · split at hs
    · cases hs
      exact ⟨_, _, rfl, Or.inl ⟨by assumption, rfl⟩⟩
    · cases hs
      exact ⟨_, _, rfl, Or.inr ⟨by assumption, rfl⟩⟩
  · cases hs
theorem zz_ic_ok {P : Int32 → Int32 → Bool} {t : Nat} (hs : zz_ic P pc t lv st h = some (.inl s')) : ∃ (a d : Int32) (r : List Value), st = .int d :: .int a :: r ∧ ((P a d = true ∧ s' = (t, lv, r, h)) ∨ (¬ P a d = true ∧ s' = (pc + 3, lv, r, h))) := by
  unfold zz_ic at hs
  split at hs
  · split at hs
    · cases hs
      exact ⟨_, _, _, rfl, Or.inl ⟨by assumption, rfl⟩⟩
    · cases hs
      exact ⟨_, _, _, rfl, Or.inr ⟨by assumption, rfl⟩⟩
  · cases hs
theorem zz_obj_ok {k ci : Nat} {fs : List (Option (Option Nat))} (ho : zz_obj h k ci = some fs) : k ≤ h.1.1 ∧ h.2.1 k = .inr (.inr (ci, fs)) := by
  unfold zz_obj zz_lay at ho
  split at ho
  · rename_i c' fs' h1
    split at h1
    · split at ho
      · rename_i h2 h3
        cases ho
        subst h3
        exact ⟨h2, Option.some.inj h1⟩
      · cases ho
    · cases h1
  · cases ho
theorem zz_arr_ok {k t n : Nat} (ho : zz_arr h k t = some n) : k ≤ h.1.1 ∧ h.2.1 k = .inl (t, n) := by
  unfold zz_arr zz_lay at ho
  split at ho
  · rename_i c' fs' h1
    split at h1
    · split at ho
      · rename_i h2 h3
        cases ho
        subst h3
        exact ⟨h2, Option.some.inj h1⟩
      · cases ho
    · cases h1
  · cases ho
theorem zz_rar_ok {k : Nat} {q : Nat × List (Option Nat)} (ho : zz_rar h k = some q) : k ≤ h.1.1 ∧ h.2.1 k = .inr (.inl q) := by
  unfold zz_rar zz_lay at ho
  split at ho
  · rename_i q' h1
    split at h1
    · rename_i h2
      cases ho
      exact ⟨h2, Option.some.inj h1⟩
    · cases h1
  · cases ho
theorem zz_inb_ok {i : Int32} {n : Nat} (hi : zz_inb i n = true) : vp_in i n := by
  unfold zz_inb at hi
  rw [decide_eq_true_eq] at hi
  exact hi
end ZZ
