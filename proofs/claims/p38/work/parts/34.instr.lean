/-! AN ANALYSER OF METHODS: the instructions -/
abbrev aa_Q : Type := Option (List (Nat × aa_S))
def aa_t1 : List aa_A → Option (aa_F × List aa_A)
  | (1, f) :: r => some (f, r)
  | _ => none
def aa_t2 : List aa_A → Option (aa_F × aa_F × List aa_A)
  | (1, b) :: (1, a) :: r => some (a, b, r)
  | _ => none
def aa_tl1 : List aa_A → Option (aa_F × List aa_A)
  | (2, f) :: r => some (f, r)
  | _ => none
def aa_tl2 : List aa_A → Option (aa_F × aa_F × List aa_A)
  | (2, b) :: (2, a) :: r => some (a, b, r)
  | _ => none
def aa_tr : List aa_A → Option (aa_F × List aa_A)
  | (3, f) :: r => some (f, r)
  | _ => none
section AI
variable {ν : List Int} {l r : List aa_A} {st : List Value} {f f2 : aa_F}
theorem aa_t1_ok (h : aa_t1 l = some (f, r)) (hm : aa_ms ν l st) : ∃ (w : Int32) (q : List Value), st = .int w :: q ∧ aa_ev ν f = some w.toInt ∧ aa_ms ν r q := by
  unfold aa_t1 at h
  split at h
  · cases h
    exact aa_ms_int hm
  · cases h
theorem aa_t2_ok (h : aa_t2 l = some (f, f2, r)) (hm : aa_ms ν l st) : ∃ (a b : Int32) (q : List Value), st = .int b :: .int a :: q ∧ aa_ev ν f = some a.toInt ∧ aa_ev ν f2 = some b.toInt ∧ aa_ms ν r q := by
  unfold aa_t2 at h
  split at h
  · cases h
    obtain ⟨w, q, rfl, h1, h2⟩ := aa_ms_int hm
    obtain ⟨w2, q2, rfl, h3, h4⟩ := aa_ms_int h2
    exact ⟨w2, w, q2, rfl, h3, h1, h4⟩
  · cases h
theorem aa_tl1_ok (h : aa_tl1 l = some (f, r)) (hm : aa_ms ν l st) : ∃ (w : Int64) (q : List Value), st = .long w :: q ∧ aa_ev ν f = some w.toInt ∧ aa_ms ν r q := by
  unfold aa_tl1 at h
  split at h
  · cases h
    exact aa_ms_long hm
  · cases h
theorem aa_tl2_ok (h : aa_tl2 l = some (f, f2, r)) (hm : aa_ms ν l st) : ∃ (a b : Int64) (q : List Value), st = .long b :: .long a :: q ∧ aa_ev ν f = some a.toInt ∧ aa_ev ν f2 = some b.toInt ∧ aa_ms ν r q := by
  unfold aa_tl2 at h
  split at h
  · cases h
    obtain ⟨w, q, rfl, h1, h2⟩ := aa_ms_long hm
    obtain ⟨w2, q2, rfl, h3, h4⟩ := aa_ms_long h2
    exact ⟨w2, w, q2, rfl, h3, h1, h4⟩
  · cases h
theorem aa_tr_ok (h : aa_tr l = some (f, r)) (hm : aa_ms ν l st) : ∃ (k : Nat) (q : List Value), st = .ref k :: q ∧ aa_ev ν f = some (k : Int) ∧ aa_ms ν r q := by
  unfold aa_tr at h
  split at h
  · cases h
    exact aa_ms_ref hm
  · cases h
end AI
def aa_cd : Jvm.ClassFile.Cond → Int → Prop
  | .eq, x => x = 0
  | .ne, x => x ≠ 0
  | .lt, x => x < 0
  | .ge, x => 0 ≤ x
  | .gt, x => 0 < x
  | .le, x => x ≤ 0
def aa_neg : Jvm.ClassFile.Cond → Jvm.ClassFile.Cond
  | .eq => .ne
  | .ne => .eq
  | .lt => .ge
  | .ge => .lt
  | .gt => .le
  | .le => .gt
theorem aa_neg_ok {c : Jvm.ClassFile.Cond} {x : Int} (h : ¬ aa_cd c x) : aa_cd (aa_neg c) x := by
  cases c <;> simp only [aa_cd, aa_neg] at h ⊢ <;> omega
def aa_br (c : Jvm.ClassFile.Cond) (sp : Bool) (s : aa_S) (f : aa_F) : List aa_S := match c with
  | .ge => (aa_as s f).toList
  | .gt => (aa_as s (aa_plus f (-1))).toList
  | .le => (aa_as s (aa_scale f (-1))).toList
  | .lt => (aa_as s (aa_plus (aa_scale f (-1)) (-1))).toList
  | .eq => (aa_as2 s f).toList
  | .ne => if sp = true ∨ 0 ≤ aa_lo s.1.1 s.1.2 f ∨ aa_hi s.1.1 s.1.2 f ≤ 0 then (aa_as s (aa_plus f (-1))).toList ++ (aa_as s (aa_plus (aa_scale f (-1)) (-1))).toList else [s]
theorem aa_br_ok {c : Jvm.ClassFile.Cond} {sp : Bool} {s : aa_S} {ν : List Int} {g : aa_G} {lv : zz_V} {st : List Value} (h : aa_ok s ν g lv st) {f : aa_F} {x : Int} (hf : aa_ev ν f = some x) (hc : aa_cd c x) : ∃ s' ∈ aa_br c sp s f, aa_ok s' ν g lv st := by
  have e1 := aa_plus_ev (n := -1) hf
  have e2 := aa_scale_ev (k := -1) hf
  have e3 := aa_plus_ev (n := -1) e2
  cases c with
  | ge =>
    obtain ⟨s', e, k⟩ := aa_as_ok h hf hc
    exact ⟨s', by show s' ∈ (aa_as s f).toList; rw [e]; exact List.mem_cons_self, k⟩
  | gt =>
    have hc : 0 < x := hc
    obtain ⟨s', e, k⟩ := aa_as_ok h e1 (by omega)
    exact ⟨s', by show s' ∈ (aa_as s _).toList; rw [e]; exact List.mem_cons_self, k⟩
  | le =>
    have hc : x ≤ 0 := hc
    obtain ⟨s', e, k⟩ := aa_as_ok h e2 (by omega)
    exact ⟨s', by show s' ∈ (aa_as s _).toList; rw [e]; exact List.mem_cons_self, k⟩
  | lt =>
    have hc : x < 0 := hc
    obtain ⟨s', e, k⟩ := aa_as_ok h e3 (by omega)
    exact ⟨s', by show s' ∈ (aa_as s _).toList; rw [e]; exact List.mem_cons_self, k⟩
  | eq =>
    have hc : x = 0 := hc
    subst hc
    obtain ⟨s', e, k⟩ := aa_as2_ok h hf
    exact ⟨s', by show s' ∈ (aa_as2 s f).toList; rw [e]; exact List.mem_cons_self, k⟩
  | ne =>
    have hc : x ≠ 0 := hc
    unfold aa_br
    dsimp only
    split
    · rcases Int.lt_or_gt_of_ne hc with hx | hx
      · obtain ⟨s', e, k⟩ := aa_as_ok h e3 (by omega)
        exact ⟨s', List.mem_append.mpr (.inr (by rw [e]; exact List.mem_cons_self)), k⟩
      · obtain ⟨s', e, k⟩ := aa_as_ok h e1 (by omega)
        exact ⟨s', List.mem_append.mpr (.inl (by rw [e]; exact List.mem_cons_self)), k⟩
    · exact ⟨s, List.mem_cons_self, h⟩
theorem aa_i32_zero (a : Int32) : a = 0 ↔ a.toInt = 0 := ⟨fun h => by rw [h]; rfl, fun h => Int32.toInt_inj.mp h⟩
theorem aa_cond (c : Jvm.ClassFile.Cond) (a : Int32) : zz_cond c a = true ↔ aa_cd c a.toInt := by
  have e0 : (0 : Int32).toInt = 0 := rfl
  cases c <;> simp only [zz_cond, aa_cd, decide_eq_true_eq, Int32.lt_iff_toInt_lt, Int32.le_iff_toInt_le, e0, ne_eq, aa_i32_zero]
theorem aa_cmp (c : Jvm.ClassFile.Cond) (a b : Int32) : zz_cmp c a b = true ↔ aa_cd c (a.toInt - b.toInt) := by
  cases c <;> simp only [zz_cmp, aa_cd, decide_eq_true_eq, Int32.lt_iff_toInt_lt, Int32.le_iff_toInt_le, ne_eq, ← Int32.toInt_inj] <;> omega
def aa_two (t1 t2 : Nat) (c : Jvm.ClassFile.Cond) (sp : Bool) (s : aa_S) (f : aa_F) : List (Nat × aa_S) := (aa_br c sp s f).map (fun q => (t1, q)) ++ (aa_br (aa_neg c) sp s f).map (fun q => (t2, q))
section AJ
variable {Φ : aa_G → Prop} {ws : aa_W} {s : aa_S} {ν : List Int} {g : aa_G} {lv : zz_V} {st : List Value} {pc : Nat}
theorem aa_two_ok {t1 t2 : Nat} {c : Jvm.ClassFile.Cond} {sp : Bool} (h : aa_ok s ν g lv st) {f : aa_F} {x : Int} (hf : aa_ev ν f = some x) : (aa_cd c x → aa_res (aa_two t1 t2 c sp s f) ν g t1 lv st) ∧ (¬ aa_cd c x → aa_res (aa_two t1 t2 c sp s f) ν g t2 lv st) := by
  constructor
  · intro hc
    obtain ⟨s', hm, k⟩ := aa_br_ok (sp := sp) h hf hc
    exact ⟨s', [], List.mem_append.mpr (.inl (List.mem_map.mpr ⟨s', hm, rfl⟩)), by rw [List.append_nil]; exact k⟩
  · intro hc
    obtain ⟨s', hm, k⟩ := aa_br_ok (sp := sp) h hf (aa_neg_ok hc)
    exact ⟨s', [], List.mem_append.mpr (.inr (List.mem_map.mpr ⟨s', hm, rfl⟩)), by rw [List.append_nil]; exact k⟩
/-- an instruction is well told: the machine goes on, in one of the states that were laid -/
def aa_snd (Φ : aa_G → Prop) (ws : aa_W) (o : aa_Q) (ν : List Int) (g : aa_G) (z : Option zz_O) : Prop := ∀ l, o = some l → ∃ pc' lv' st' g', z = some (.inl (pc', lv', st', aa_H g')) ∧ aa_res l ν g' pc' lv' st' ∧ aa_inv g' ∧ aa_fr ws g g' ∧ (Φ g → Φ g')
theorem aa_snd.go {o : aa_Q} {z : Option zz_O} (hi : aa_inv g) (h : ∀ l, o = some l → ∃ pc' lv' st', z = some (.inl (pc', lv', st', aa_H g)) ∧ aa_res l ν g pc' lv' st') : aa_snd Φ ws o ν g z := fun l hl => by
  obtain ⟨p, a, b, h1, h2⟩ := h l hl
  exact ⟨p, a, b, g, h1, h2, hi, aa_fr.rf, fun q => q⟩
theorem aa_wst_ok (h : aa_ok s ν g lv st) {l : List aa_A} {q : List Value} (hq : aa_ms ν l q) : aa_ok (aa_wst s l) ν g lv q := ⟨h.1, h.2.1, h.2.2.1, h.2.2.2.1, hq⟩
/-- two ints are taken -/
def aa_w2 (s : aa_S) (k : aa_F → aa_F → List aa_A → aa_Q) : aa_Q := match aa_t2 s.2.2.2 with
  | some (a, b, r) => k a b r
  | none => none
theorem aa_w2_ok {k : aa_F → aa_F → List aa_A → aa_Q} (h : aa_ok s ν g lv st) {l : List (Nat × aa_S)} (e : aa_w2 s k = some l) : ∃ (a b : aa_F) (r : List aa_A) (x y : Int32) (q : List Value), st = .int y :: .int x :: q ∧ k a b r = some l ∧ aa_ev ν a = some x.toInt ∧ aa_ev ν b = some y.toInt ∧ aa_ms ν r q := by
  unfold aa_w2 at e
  split at e
  · rename_i a b r h1
    obtain ⟨x, y, q, h2, h3, h4, h5⟩ := aa_t2_ok h1 h.2.2.2.2
    exact ⟨a, b, r, x, y, q, h2, e, h3, h4, h5⟩
  · cases e
theorem aa_i2_ok {F : Int32 → Int32 → Int32} {k : aa_F → aa_F → List aa_A → aa_Q} (h : aa_ok s ν g lv st) (hi : aa_inv g) (hk : ∀ a b r l x y q, k a b r = some l → aa_ev ν a = some x.toInt → aa_ev ν b = some y.toInt → aa_ms ν r q → aa_res l ν g (pc + 1) lv (.int (F x y) :: q)) : aa_snd Φ ws (aa_w2 s k) ν g (zz_i2 F pc lv st (aa_H g)) := aa_snd.go hi fun l hl => by
  obtain ⟨a, b, r, x, y, q, rfl, h1, h2, h3, h4⟩ := aa_w2_ok h hl
  exact ⟨_, _, _, rfl, hk a b r l x y q h1 h2 h3 h4⟩
def aa_w1 (s : aa_S) (k : aa_F → List aa_A → aa_Q) : aa_Q := match aa_t1 s.2.2.2 with
  | some (a, r) => k a r
  | none => none
theorem aa_w1_ok {k : aa_F → List aa_A → aa_Q} (h : aa_ok s ν g lv st) {l : List (Nat × aa_S)} (e : aa_w1 s k = some l) : ∃ (a : aa_F) (r : List aa_A) (x : Int32) (q : List Value), st = .int x :: q ∧ k a r = some l ∧ aa_ev ν a = some x.toInt ∧ aa_ms ν r q := by
  unfold aa_w1 at e
  split at e
  · rename_i a r h1
    obtain ⟨x, q, h2, h3, h4⟩ := aa_t1_ok h1 h.2.2.2.2
    exact ⟨a, r, x, q, h2, e, h3, h4⟩
  · cases e
def aa_wl2 (s : aa_S) (k : aa_F → aa_F → List aa_A → aa_Q) : aa_Q := match aa_tl2 s.2.2.2 with
  | some (a, b, r) => k a b r
  | none => none
theorem aa_wl2_ok {k : aa_F → aa_F → List aa_A → aa_Q} (h : aa_ok s ν g lv st) {l : List (Nat × aa_S)} (e : aa_wl2 s k = some l) : ∃ (a b : aa_F) (r : List aa_A) (x y : Int64) (q : List Value), st = .long y :: .long x :: q ∧ k a b r = some l ∧ aa_ev ν a = some x.toInt ∧ aa_ev ν b = some y.toInt ∧ aa_ms ν r q := by
  unfold aa_wl2 at e
  split at e
  · rename_i a b r h1
    obtain ⟨x, y, q, h2, h3, h4, h5⟩ := aa_tl2_ok h1 h.2.2.2.2
    exact ⟨a, b, r, x, y, q, h2, e, h3, h4, h5⟩
  · cases e
theorem aa_l2_ok {F : Int64 → Int64 → Int64} {k : aa_F → aa_F → List aa_A → aa_Q} (h : aa_ok s ν g lv st) (hi : aa_inv g) (hk : ∀ a b r l x y q, k a b r = some l → aa_ev ν a = some x.toInt → aa_ev ν b = some y.toInt → aa_ms ν r q → aa_res l ν g (pc + 1) lv (.long (F x y) :: q)) : aa_snd Φ ws (aa_wl2 s k) ν g (zz_l2 F pc lv st (aa_H g)) := aa_snd.go hi fun l hl => by
  obtain ⟨a, b, r, x, y, q, rfl, h1, h2, h3, h4⟩ := aa_wl2_ok h hl
  exact ⟨_, _, _, rfl, hk a b r l x y q h1 h2 h3 h4⟩
def aa_wl1 (s : aa_S) (k : aa_F → List aa_A → aa_Q) : aa_Q := match aa_tl1 s.2.2.2 with
  | some (a, r) => k a r
  | none => none
theorem aa_wl1_ok {k : aa_F → List aa_A → aa_Q} (h : aa_ok s ν g lv st) {l : List (Nat × aa_S)} (e : aa_wl1 s k = some l) : ∃ (a : aa_F) (r : List aa_A) (x : Int64) (q : List Value), st = .long x :: q ∧ k a r = some l ∧ aa_ev ν a = some x.toInt ∧ aa_ms ν r q := by
  unfold aa_wl1 at e
  split at e
  · rename_i a r h1
    obtain ⟨x, q, h2, h3, h4⟩ := aa_tl1_ok h1 h.2.2.2.2
    exact ⟨a, r, x, q, h2, e, h3, h4⟩
  · cases e
def aa_wr (s : aa_S) (k : aa_F → List aa_A → aa_Q) : aa_Q := match aa_tr s.2.2.2 with
  | some (a, r) => k a r
  | none => none
theorem aa_wr_ok {k : aa_F → List aa_A → aa_Q} (h : aa_ok s ν g lv st) {l : List (Nat × aa_S)} (e : aa_wr s k = some l) : ∃ (a : aa_F) (r : List aa_A) (x : Nat) (q : List Value), st = .ref x :: q ∧ k a r = some l ∧ aa_ev ν a = some (x : Int) ∧ aa_ms ν r q := by
  unfold aa_wr at e
  split at e
  · rename_i a r h1
    obtain ⟨x, q, h2, h3, h4⟩ := aa_tr_ok h1 h.2.2.2.2
    exact ⟨a, r, x, q, h2, e, h3, h4⟩
  · cases e
end AJ
