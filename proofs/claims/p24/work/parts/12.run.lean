/-! any run -/
section ZV
variable {p : Program} {l : Launch} {e : Env} {R : Room} {s : State} {m : MethodId} {args : Array Value} {below : List Frame} {meth : Method} {c : Code} {Q : State → Prop} {D : va_G} {cA : Nat → ClassId} {z b n0 s0 md pc : Nat} {X : zz_X} {lv : zz_V} {st : List Value} {h : zz_H} {s' : zz_S}
/-- how a method may end -/
def zz_rk (md q : Nat) (v : Option Value) : Prop := (decode (zz_bc md) q = .ok (.ireturn, 1) ∧ ∃ a, v = some (.int a) ∧ (zz_rt md = 1 ∨ (zz_rt md = 2 ∧ (a = 0 ∨ a = 1)))) ∨ (decode (zz_bc md) q = .ok (.areturn, 1) ∧ zz_rt md = 3 ∧ (v = some .null ∨ ∃ k, v = some (.ref k))) ∨ (decode (zz_bc md) q = .ok (.return_, 1) ∧ zz_rt md = 0 ∧ v = none)
def zz_N (p : Program) (l : Launch) (e : Env) (R : Room) (s : State) (m : MethodId) (args : Array Value) (below : List Frame) (meth : Method) (c : Code) (D : va_G) (cA : Nat → ClassId) (z b n0 s0 md : Nat) (Q : State → Prop) (r : zz_R) : Prop :=
  zz_rk md r.1 r.2.1 → ∀ (H : Heap) (locs : List Loc) (ls : Array Slot), zz_Wd D cA z b r.2.2 H → va_S (fun q => z ≤ q) s.heap H locs → W p l e R s m args below meth c H locs (r.2.2.1.1 - n0) (r.2.2.1.2 - s0) Q (F0 m r.1 ls (r.2.1.toList.map (zz_mv z b)))
def zz_K (p : Program) (l : Launch) (e : Env) (R : Room) (s : State) (m : MethodId) (args : Array Value) (below : List Frame) (meth : Method) (c : Code) (D : va_G) (cA : Nat → ClassId) (z b n0 s0 md : Nat) (Q : State → Prop) : zz_S ⊕ zz_R → Prop
  | .inl s' => zz_G p l e R s m args below meth c D cA z b n0 s0 md Q s'
  | .inr r => zz_N p l e R s m args below meth c D cA z b n0 s0 md Q r
def zz_Sim (l : Launch) (D : va_G) (cA : Nat → ClassId) (z b : Nat) (X : zz_X) (n : Nat) : Prop :=
  ∀ (p : Program) (e : Env) (R : Room) (s : State) (m : MethodId) (args : Array Value) (below : List Frame) (meth : Method) (c : Code) (Q : State → Prop) (n0 s0 md : Nat) (a : zz_S) (r : zz_S ⊕ zz_R), md < zz_nm → zz_walk zz_Q zz_us X n md a = some r → zz_C p R s m args meth c D cA z b n0 X md → zz_Zr a.2.2.2 → n0 ≤ a.2.2.2.1.1 → s0 ≤ a.2.2.2.1.2 → (zz_rn r).1 - n0 ≤ R.cells → (zz_rn r).2 - s0 ≤ R.slots →
    zz_K p l e R s m args below meth c D cA z b n0 s0 md Q r → zz_G p l e R s m args below meth c D cA z b n0 s0 md Q a
theorem zz_Xx.moved {U : State} {H : Heap} {locs : List Loc} (hbz : b < z) (hz : z ≤ s.heap.size) (hS : va_S (fun q => z ≤ q) s.heap H locs) (hU : U.heap = H) (hvm : s.vm.Alike U.vm) (h : zz_Xx b X s) : zz_Xx b X U := by
  unfold zz_Xx at h ⊢
  split at h
  · trivial
  · have h1 := va_X.moved hvm h
    exact va_X.kept h1 (by rw [hU]; exact hS.2.1 b (by omega) (by show ¬ z ≤ b; omega))
def zz_Pc (D : va_G) (cA : Nat → ClassId) (z b : Nat) (X : zz_X) (h : zz_H) (U : State) : Prop := zz_Wd D cA z b h U.heap ∧ U.heap.size = z + h.1.1 ∧ va_K D zz_cl (zz_tys cA) U ∧ b < z ∧ zz_Xx b X U ∧ zz_E U
def zz_Qc (D : va_G) (cA : Nat → ClassId) (z b : Nat) (v : Option Value) (h : zz_H) : Array Value → State → Outcome → State → Prop := fun _ st o t => o = .returned (v.map (zz_mv z b)) ∧ zz_Wd D cA z b h t.heap ∧ va_F (fun q => z ≤ q) st t
theorem zz_Pc_blind (as : List Value) : FrameBlind (va_Pc as (zz_Pc D cA z b X h)) := by
  intro a U g mk q
  obtain ⟨q0, q1, q2, q3, q4, q5, q6⟩ := q
  refine ⟨q0, q1, q2, va_K.moved (u := U) (U := U.calling g mk a) (Vm.Alike.refl U.vm) q3, q4, ?_, zz_E.same (u := U) (U := U.calling g mk a) rfl q6⟩
  unfold zz_Xx at q5 ⊢
  split at q5
  · trivial
  · exact va_X.moved (u := U) (U := U.calling g mk a) (Vm.Alike.refl U.vm) q5
theorem zz_in_flat (as : List Value) (n : Nat) : zz_in as n = (as.flatMap fun v => if v.category = 2 then [some v, none] else [some v]) ++ List.replicate (n - (as.flatMap fun v => if v.category = 2 then [some v, none] else [some v]).length) none := rfl
theorem zz_in_args : ∀ (as : List Value) (tl : zz_V) (j i : Nat) (v : Value), (∀ q : Nat, zz_ld tl q = none) → zz_ld ((as.flatMap fun v => if v.category = 2 then [some v, none] else [some v]) ++ tl) i = some v → (j + i, zz_mv z b v) ∈ lv_args j (as.map (zz_mv z b))
  | [], tl, j, i, v, ht, hv => by
    rw [List.flatMap_nil, List.nil_append] at hv
    rw [ht] at hv
    cases hv
  | w :: as, tl, j, i, v, ht, hv => by
    rw [List.flatMap_cons, List.append_assoc] at hv
    rw [List.map_cons]
    unfold lv_args
    rw [zz_mv_cat]
    by_cases hc : w.category = 2
    · rw [if_pos hc] at hv ⊢
      match i, hv with
      | 0, hv =>
        have hv : some w = some v := hv
        cases hv
        exact List.mem_cons_self
      | 1, hv =>
        have hv : (none : Option Value) = some v := hv
        cases hv
      | i + 2, hv =>
        have := zz_in_args as tl (j + 2) i v ht hv
        rw [show j + (i + 2) = j + 2 + i by omega]
        exact List.mem_cons_of_mem _ this
    · rw [if_neg hc] at hv ⊢
      match i, hv with
      | 0, hv =>
        have hv : some w = some v := hv
        cases hv
        exact List.mem_cons_self
      | i + 1, hv =>
        have := zz_in_args as tl (j + 1) i v ht hv
        rw [show j + (i + 1) = j + 1 + i by omega]
        exact List.mem_cons_of_mem _ this
theorem zz_sl_len : ∀ as : List Value, (lg_sl (as.map (zz_mv z b))).length = (as.flatMap fun v => if v.category = 2 then [some v, (none : Option Value)] else [some v]).length
  | [] => rfl
  | w :: as => by
    have ih := zz_sl_len as
    unfold lg_sl at ih ⊢
    rw [List.map_cons, List.flatMap_cons, List.flatMap_cons, List.length_append, List.length_append, ih, zz_mv_cat]
    by_cases hc : w.category = 2 <;> simp [hc]
theorem zz_entry {as : List Value} {n : Nat} (hf : (zz_in as 0).length ≤ n) : zz_lr z b ((lg_sl (as.map (zz_mv z b)) ++ List.replicate (n - (lg_sl (as.map (zz_mv z b))).length) Slot.unset).toArray) n (zz_in as n) := by
  have hl : (lg_sl (as.map (zz_mv z b))).length ≤ n := by
    rw [zz_sl_len]
    rw [zz_in_flat] at hf
    simp only [List.length_append, List.length_replicate] at hf
    omega
  have h1 := lv_entry (as.map (zz_mv z b)) hl
  refine ⟨h1.1, h1.2.1, ?_, fun i v hv => ?_⟩
  · rw [zz_in_flat] at hf ⊢
    simp only [List.length_append, List.length_replicate] at hf ⊢
    omega
  · rw [zz_in_flat] at hv
    have h2 := zz_in_args (z := z) (b := b) as _ 0 i v (fun q => by
      unfold zz_ld
      rw [List.getElem?_replicate]
      split <;> first | rfl | (rename_i w hw; split at hw <;> cases hw)) hv
    rw [Nat.zero_add] at h2
    exact h1.2.2 _ h2
theorem zz_rt1 (h : zz_okR md = true) (h1 : zz_rt md = 1) : zz_re md = some .int := by
  unfold zz_okR at h
  rw [h1] at h
  split at h <;> first | (cases h; done) | simp_all
theorem zz_rt2 (h : zz_okR md = true) (h1 : zz_rt md = 2) : zz_re md = some .boolean := by
  unfold zz_okR at h
  rw [h1] at h
  split at h <;> first | (cases h; done) | simp_all
theorem zz_rt3 (h : zz_okR md = true) (h1 : zz_rt md = 3) : ∃ n, zz_re md = some (.object n) := by
  unfold zz_okR at h
  rw [h1] at h
  split at h <;> first | (cases h; done) | simp_all
theorem zz_rt0 (h : zz_okR md = true) (h1 : zz_rt md = 0) : zz_re md = none := by
  unfold zz_okR at h
  rw [h1] at h
  split at h <;> first | (cases h; done) | simp_all
/-- the contract that a run gives -/
theorem zz_met {n m2 q : Nat} {as : List Value} {v : Option Value} {h' : zz_H} (hZ : zz_Zr h) (ih : zz_Sim l D cA z b X n) (hm0 : 0 < m2) (hm : m2 < zz_nm) (hf : (zz_in as 0).length ≤ zz_nl m2) (hw : zz_walk zz_Q zz_us X n m2 (0, zz_in as (zz_nl m2), [], h) = some (.inr (q, v, h'))) :
    Met l (zz_y m2) (.code (zz_y m2) (zz_bc m2) (zz_nl m2) (zz_re m2) :: zz_all) { frames := zz_fr m2, cells := h'.1.1 - h.1.1, slots := h'.1.2 - h.1.2, locals := zz_lo m2 } (va_Pc (as.map (zz_mv z b)) (zz_Pc D cA z b X h)) (zz_Qc D cA z b v h') (h'.1.1 - h.1.1) (h'.1.2 - h.1.2) (fun q => z ≤ q) := by
  obtain ⟨-, -, mp, mc, mr, -, -, -, -, -⟩ := zz_meth hm0 hm
  refine va_MetF (cc := zz_bc m2) (maxL := zz_nl m2) (ret := zz_re m2) mp rfl ?_
  intro p e s m args below meth c s₁ B hml hv
  obtain ⟨rfl, hW, hsz, hK, hbz, hX, hE⟩ := hv
  have hx := B.exec
  have hb := B.bytes
  have hr := B.returns
  have hts := atoms_spec (ws := .code (zz_y m2) (zz_bc m2) (zz_nl m2) (zz_re m2) :: zz_all) B.pre
  have hown : s.vm.findClass (zz_y m2).cls = some m.cls := findClass_of_methodNamed B.named
  have hlocks := B.notSynchronized
  have hin : meth.name = (zz_y m2).name := (name_of_methodNamed B.named B.method).1
  rw [lg_entry_eq]
  have C : zz_C p (headSpec (.code (zz_y m2) (zz_bc m2) (zz_nl m2) (zz_re m2) :: zz_all) { frames := zz_fr m2, cells := h'.1.1 - h.1.1, slots := h'.1.2 - h.1.2, locals := zz_lo m2 }).room s m (as.map (zz_mv z b)).toArray meth c D cA z b h.1.1 X m2 :=
    ⟨hx, hb, hml, by rw [← mc]; exact hown, fun w hw => hts w (List.mem_cons_of_mem _ hw), hK, hsz, hbz, hX, fun e => hin.trans e, Nat.le_refl _, Nat.le_refl _, hE⟩
  have hmore := zz_walk_more n m2 _ _ hw
  have k := ih p e _ s m _ below meth c (MQ below (zz_Qc D cA z b v h') (as.map (zz_mv z b)).toArray s (h'.1.1 - h.1.1) (h'.1.2 - h.1.2) (fun q => z ≤ q)) h.1.1 h.1.2 m2 _ _ hm hw C hZ (Nat.le_refl _) (Nat.le_refl _) (Nat.le_refl _) (Nat.le_refl _) (by
    intro hk H locs ls hW' hS'
    have hQ : ∀ t : State, t.heap = H → s.WarmedH t.vm → zz_Qc D cA z b v h' (as.map (zz_mv z b)).toArray s (.returned (v.map (zz_mv z b))) t := fun t ht _ => ⟨rfl, by rw [ht]; exact hW', hS'.F ht⟩
    rcases hk with ⟨hd, a, rfl, hk⟩ | ⟨hd, h3, hk⟩ | ⟨hd, h3, rfl⟩
    · rcases hk with h1 | ⟨h2, h3⟩
      · exact W.iret (v := a) hx hb (hr.trans (zz_rt1 mr h1)) hQ hS'.2.2 hd
      · exact W.zret (v := a) (ty := .boolean) hx hb (hr.trans (zz_rt2 mr h2)) (by rcases h3 with rfl | rfl <;> decide) hQ hS'.2.2 hd
    · obtain ⟨nm, hnm⟩ := zz_rt3 mr h3
      rcases hk with rfl | ⟨k, rfl⟩
      · exact W.aret (v := .null) (rt := .object nm) hx hb (hr.trans hnm) (Or.inl ⟨_, rfl⟩) (Or.inl rfl) hQ hS'.2.2 hd
      · exact W.aret (v := .ref (zz_ad z b k)) (rt := .object nm) hx hb (hr.trans hnm) (Or.inl ⟨_, rfl⟩) (Or.inr ⟨_, rfl⟩) hQ hS'.2.2 hd
    · exact W.vret hx hb (hr.trans (zz_rt0 mr h3)) hQ hS'.2.2 hd)
  have k1 := k s.heap [] _ hW va_S.rf (zz_entry hf)
  have a1 : h.1.1 - h.1.1 = 0 := Nat.sub_self _
  have a2 : h.1.2 - h.1.2 = 0 := Nat.sub_self _
  rw [show ((0, zz_in as (zz_nl m2), ([] : List Value), h) : zz_S).2.2.2.1.1 - h.1.1 = 0 from a1, show ((0, zz_in as (zz_nl m2), ([] : List Value), h) : zz_S).2.2.2.1.2 - h.1.2 = 0 from a2] at k1
  exact k1
theorem zz_after {mc ms : Nat} {h' : zz_H} {v : Option Value} {rest st0 : List Value} {H : Heap} {locs : List Loc} {ls : Array Slot} {cells slots : Nat} (hr : va_Run p l e R s m args below meth c H locs cells slots mc ms (F0 m pc ls st0) rest (fun st o t => o = .returned v ∧ zz_Wd D cA z b h' t.heap ∧ va_F (fun q => z ≤ q) st t) (fun q => z ≤ q)) (hS : va_S (fun q => z ≤ q) s.heap H locs)
    (kk : ∀ (H1 : Heap) (locs1 : List Loc), zz_Wd D cA z b h' H1 → va_S (fun q => z ≤ q) s.heap H1 locs1 → W p l e R s m args below meth c H1 locs1 (cells + mc) (slots + ms) Q (F0 m (pc + 3) ls (v.toList ++ rest))) : W p l e R s m args below meth c H locs cells slots Q (F0 m pc ls st0) := by
  intro T hT X
  obtain ⟨v', st₀, t, T', L, h0, X', hL, e1, e2, ⟨hv, hW, hz, hk⟩, st⟩ := hr T hT X
  cases hv
  rw [h0] at hz hk
  obtain ⟨t2, a1, b1⟩ := kk T'.heap (locs ++ L) (by rw [e1]; exact hW) ⟨Nat.le_trans hS.1 (by rw [e1]; exact hz), fun q h1 h2 => by rw [e1, hk q (Nat.lt_of_lt_of_le h1 hS.1) h2]; exact hS.2.1 q h1 h2, fun q hq => by
      rcases List.mem_append.mp hq with h | h
      · exact hS.2.2 q h
      · exact hL q h⟩ T' rfl X'
  exact ⟨t2, st t2 a1, b1⟩
end ZV
