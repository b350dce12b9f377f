/-! AN ANALYSER OF METHODS: what is known at a place -/
abbrev aa_A : Type := Nat × aa_F
abbrev aa_C : Type := List ((aa_F × aa_F) × aa_F)
abbrev aa_S : Type := (List aa_I × List aa_F) × (aa_C × (List aa_A × List aa_A))
abbrev aa_G : Type := Nat → Nat → Int32
/-- what a kind of value says: 0 nothing, 1 an int, 2 a long, 3 a reference, 4 null -/
def aa_mv (ν : List Int) (a : aa_A) (v : Option Value) : Prop := match a.1 with
  | 0 => True
  | 1 => ∃ w : Int32, v = some (.int w) ∧ aa_ev ν a.2 = some w.toInt
  | 2 => ∃ w : Int64, v = some (.long w) ∧ aa_ev ν a.2 = some w.toInt
  | 3 => ∃ k : Nat, v = some (.ref k) ∧ aa_ev ν a.2 = some (k : Int)
  | 4 => v = some .null
  | _ => False
def aa_ml (ν : List Int) : List aa_A → zz_V → Prop
  | [], [] => True
  | a :: r, v :: q => aa_mv ν a v ∧ aa_ml ν r q
  | _, _ => False
def aa_ms (ν : List Int) : List aa_A → List Value → Prop
  | [], [] => True
  | a :: r, v :: q => (a.1 ≠ 0 ∧ aa_mv ν a (some v)) ∧ aa_ms ν r q
  | _, _ => False
def aa_vh (ch : aa_C) (ν : List Int) (g : aa_G) : Prop := ∀ q ∈ ch, ∃ (a b : Nat) (x : Int), aa_ev ν q.1.1 = some (a : Int) ∧ aa_ev ν q.1.2 = some (b : Int) ∧ aa_ev ν q.2 = some x ∧ aa_rd g a b = x
def aa_ok (s : aa_S) (ν : List Int) (g : aa_G) (lv : zz_V) (st : List Value) : Prop := aa_vb s.1.1 ν ∧ aa_vc s.1.2 ν ∧ aa_vh s.2.1 ν g ∧ aa_ml ν s.2.2.1 lv ∧ aa_ms ν s.2.2.2 st
theorem aa_mv_app {ν ρ : List Int} {a : aa_A} {v : Option Value} (h : aa_mv ν a v) : aa_mv (ν ++ ρ) a v := by
  obtain ⟨k, f⟩ := a
  unfold aa_mv at h ⊢
  dsimp only at h ⊢
  split at h
  · trivial
  · obtain ⟨w, h1, h2⟩ := h
    exact ⟨w, h1, aa_ev_app h2⟩
  · obtain ⟨w, h1, h2⟩ := h
    exact ⟨w, h1, aa_ev_app h2⟩
  · obtain ⟨w, h1, h2⟩ := h
    exact ⟨w, h1, aa_ev_app h2⟩
  · exact h
  · exact h.elim
theorem aa_ml_app {ν ρ : List Int} : ∀ {l : List aa_A} {q : zz_V}, aa_ml ν l q → aa_ml (ν ++ ρ) l q
  | [], [], _ => trivial
  | a :: l, v :: q, h => ⟨aa_mv_app h.1, aa_ml_app h.2⟩
  | [], _ :: _, h => h.elim
  | _ :: _, [], h => h.elim
theorem aa_ms_app {ν ρ : List Int} : ∀ {l : List aa_A} {q : List Value}, aa_ms ν l q → aa_ms (ν ++ ρ) l q
  | [], [], _ => trivial
  | a :: l, v :: q, h => ⟨⟨h.1.1, aa_mv_app h.1.2⟩, aa_ms_app h.2⟩
  | [], _ :: _, h => h.elim
  | _ :: _, [], h => h.elim
theorem aa_vc_app {ν ρ : List Int} {cs : List aa_F} (h : aa_vc cs ν) : aa_vc cs (ν ++ ρ) := fun f hf => by
  obtain ⟨x, h1, h2⟩ := h f hf
  exact ⟨x, aa_ev_app h1, h2⟩
theorem aa_vh_app {ν ρ : List Int} {ch : aa_C} {g : aa_G} (h : aa_vh ch ν g) : aa_vh ch (ν ++ ρ) g := fun q hq => by
  obtain ⟨a, b, x, h1, h2, h3, h4⟩ := h q hq
  exact ⟨a, b, x, aa_ev_app h1, aa_ev_app h2, aa_ev_app h3, h4⟩
theorem aa_vb_app {iv jv : List aa_I} {ν ρ : List Int} (h : aa_vb iv ν) (hl : ρ.length = jv.length) (h2 : ∀ (i : Nat) (q : aa_I) (v : Int), jv[i]? = some q → ρ[i]? = some v → q.1 ≤ v ∧ v ≤ q.2.1 ∧ (q.2.2 ≠ 0 → 0 ≤ v ∧ aa_gc v.toNat = q.2.2)) : aa_vb (iv ++ jv) (ν ++ ρ) := by
  refine ⟨by rw [List.length_append, List.length_append, h.1, hl], fun i q v hq hv => ?_⟩
  by_cases hi : i < iv.length
  · rw [List.getElem?_append_left hi] at hq
    rw [List.getElem?_append_left (by rw [h.1]; exact hi)] at hv
    exact h.2 i q v hq hv
  · rw [List.getElem?_append_right (by omega)] at hq
    rw [List.getElem?_append_right (by rw [h.1]; omega), h.1] at hv
    exact h2 _ q v hq hv
theorem aa_vb_new {iv : List aa_I} {ν : List Int} (h : aa_vb iv ν) {lo hi v : Int} {gr : Nat} (h1 : lo ≤ v) (h2 : v ≤ hi) (h3 : gr ≠ 0 → 0 ≤ v ∧ aa_gc v.toNat = gr) : aa_vb (iv ++ [(lo, hi, gr)]) (ν ++ [v]) := by
  refine aa_vb_app h rfl fun i q w hq hw => ?_
  cases i with
  | zero =>
    cases hq
    cases hw
    exact ⟨h1, h2, h3⟩
  | succ i => cases hq
theorem aa_ev_new {iv : List aa_I} {ν : List Int} (h : aa_vb iv ν) {v : Int} : aa_ev (ν ++ [v]) (aa_id iv.length) = some v := aa_id_ev (by rw [← h.1, List.getElem?_append_right (Nat.le_refl _), Nat.sub_self]; rfl)
theorem aa_ok_new {s : aa_S} {ν : List Int} {g : aa_G} {lv : zz_V} {st : List Value} (h : aa_ok s ν g lv st) {lo hi v : Int} {gr : Nat} (h1 : lo ≤ v) (h2 : v ≤ hi) (h3 : gr ≠ 0 → 0 ≤ v ∧ aa_gc v.toNat = gr) : aa_ok ((s.1.1 ++ [(lo, hi, gr)], s.1.2), s.2) (ν ++ [v]) g lv st := ⟨aa_vb_new h.1 h1 h2 h3, aa_vc_app h.2.1, aa_vh_app h.2.2.1, aa_ml_app h.2.2.2.1, aa_ms_app h.2.2.2.2⟩
theorem aa_ms_cons {ν : List Int} {a : aa_A} {l : List aa_A} {q : List Value} : aa_ms ν (a :: l) q → ∃ v r, q = v :: r ∧ a.1 ≠ 0 ∧ aa_mv ν a (some v) ∧ aa_ms ν l r := by
  intro h
  cases q with
  | nil => exact h.elim
  | cons v r => exact ⟨v, r, rfl, h.1.1, h.1.2, h.2⟩
theorem aa_ms_int {ν : List Int} {f : aa_F} {l : List aa_A} {q : List Value} (h : aa_ms ν ((1, f) :: l) q) : ∃ (w : Int32) (r : List Value), q = .int w :: r ∧ aa_ev ν f = some w.toInt ∧ aa_ms ν l r := by
  obtain ⟨v, r, rfl, -, ⟨w, h1, h2⟩, h3⟩ := aa_ms_cons h
  cases h1
  exact ⟨w, r, rfl, h2, h3⟩
theorem aa_ms_long {ν : List Int} {f : aa_F} {l : List aa_A} {q : List Value} (h : aa_ms ν ((2, f) :: l) q) : ∃ (w : Int64) (r : List Value), q = .long w :: r ∧ aa_ev ν f = some w.toInt ∧ aa_ms ν l r := by
  obtain ⟨v, r, rfl, -, ⟨w, h1, h2⟩, h3⟩ := aa_ms_cons h
  cases h1
  exact ⟨w, r, rfl, h2, h3⟩
theorem aa_ms_ref {ν : List Int} {f : aa_F} {l : List aa_A} {q : List Value} (h : aa_ms ν ((3, f) :: l) q) : ∃ (k : Nat) (r : List Value), q = .ref k :: r ∧ aa_ev ν f = some (k : Int) ∧ aa_ms ν l r := by
  obtain ⟨v, r, rfl, -, ⟨w, h1, h2⟩, h3⟩ := aa_ms_cons h
  cases h1
  exact ⟨w, r, rfl, h2, h3⟩
theorem aa_ms_null {ν : List Int} {f : aa_F} {l : List aa_A} {q : List Value} (h : aa_ms ν ((4, f) :: l) q) : ∃ (r : List Value), q = .null :: r ∧ aa_ms ν l r := by
  obtain ⟨v, r, rfl, -, h1, h3⟩ := aa_ms_cons h
  cases h1
  exact ⟨r, rfl, h3⟩
theorem aa_ml_get {ν : List Int} : ∀ {l : List aa_A} {q : zz_V}, aa_ml ν l q → ∀ {k : Nat} {a : aa_A}, l[k]? = some a → ∃ v, q[k]? = some v ∧ aa_mv ν a v
  | a :: l, v :: q, h, 0, b, hk => by
    cases hk
    exact ⟨v, rfl, h.1⟩
  | a :: l, v :: q, h, k + 1, b, hk => aa_ml_get (l := l) (q := q) h.2 (k := k) hk
  | [], [], _, k, b, hk => by cases hk
  | [], _ :: _, h, _, _, _ => h.elim
  | _ :: _, [], h, _, _, _ => h.elim
theorem aa_ml_set {ν : List Int} : ∀ {l : List aa_A} {q : zz_V}, aa_ml ν l q → ∀ {a : aa_A} {v : Option Value} (k : Nat), aa_mv ν a v → aa_ml ν (l.set k a) (q.set k v)
  | a :: l, v :: q, h, b, w, 0, hk => ⟨hk, h.2⟩
  | a :: l, v :: q, h, b, w, k + 1, hk => ⟨h.1, aa_ml_set h.2 k hk⟩
  | [], [], _, _, _, k, hk => trivial
  | [], _ :: _, h, _, _, _, _ => h.elim
  | _ :: _, [], h, _, _, _, _ => h.elim
theorem aa_ml_len {ν : List Int} : ∀ {l : List aa_A} {q : zz_V}, aa_ml ν l q → q.length = l.length
  | a :: l, v :: q, h => by rw [List.length_cons, List.length_cons, aa_ml_len h.2]
  | [], [], _ => rfl
  | [], _ :: _, h => h.elim
  | _ :: _, [], h => h.elim
/-- a local is laid: a long whose half goes is not known any more -/
def aa_pre (lv : List aa_A) : Nat → List aa_A
  | 0 => lv
  | i + 1 => match lv[i]? with
    | some (2, _) => lv.set i (0, aa_c 0)
    | _ => lv
theorem aa_ml_forget {ν : List Int} : ∀ {l : List aa_A} {q : zz_V}, aa_ml ν l q → ∀ {i : Nat} {f : aa_F}, l[i]? = some (0, f) → aa_ml ν l (q.set i none)
  | a :: l, v :: q, h, 0, f, hk => by
    cases hk
    exact ⟨trivial, h.2⟩
  | a :: l, v :: q, h, i + 1, f, hk => ⟨h.1, aa_ml_forget (l := l) (q := q) h.2 (i := i) hk⟩
  | [], [], _, i, f, hk => by cases hk
  | [], _ :: _, h, _, _, _ => h.elim
  | _ :: _, [], h, _, _, _ => h.elim
theorem aa_pre_ok {ν : List Int} {l : List aa_A} {q : zz_V} (h : aa_ml ν l q) (i : Nat) : aa_ml ν (aa_pre l i) (zz_pre q i) := by
  cases i with
  | zero => exact h
  | succ i =>
    unfold aa_pre zz_pre
    dsimp only
    cases ha : l[i]? with
    | none =>
      have : q[i]? = none := by
        rw [List.getElem?_eq_none_iff, aa_ml_len h]
        exact List.getElem?_eq_none_iff.mp ha
      rw [this]
      exact h
    | some a =>
      obtain ⟨v, hv, hm⟩ := aa_ml_get h ha
      rw [hv]
      have hset : ∀ b : aa_A, aa_mv ν b none → aa_ml ν (l.set i b) (q.set i none) := fun b hb => aa_ml_set h i hb
      obtain ⟨k, f⟩ := a
      match k, hm with
      | 0, hm =>
        show aa_ml ν l (match some v with
          | some (some w) => if w.category = 2 then q.set i none else q
          | _ => q)
        cases v with
        | none => exact h
        | some w =>
          show aa_ml ν l (if w.category = 2 then q.set i none else q)
          split
          · exact aa_ml_forget h ha
          · exact h
      | 1, hm =>
        obtain ⟨w, rfl, hw⟩ := hm
        exact h
      | 2, hm =>
        obtain ⟨w, rfl, hw⟩ := hm
        exact hset (0, aa_c 0) trivial
      | 3, hm =>
        obtain ⟨w, rfl, hw⟩ := hm
        exact h
      | 4, hm =>
        have hm : v = some .null := hm
        subst hm
        exact h
      | k + 5, hm => exact hm.elim
theorem aa_st1_ok {ν : List Int} {l : List aa_A} {q : zz_V} (h : aa_ml ν l q) (i : Nat) {a : aa_A} {v : Value} (hv : aa_mv ν a (some v)) : aa_ml ν ((aa_pre l i).set i a) (zz_st1 q i v) := aa_ml_set (aa_pre_ok h i) i hv
theorem aa_st2_ok {ν : List Int} {l : List aa_A} {q : zz_V} (h : aa_ml ν l q) (i : Nat) {a : aa_A} {v : Value} (hv : aa_mv ν a (some v)) : aa_ml ν (((aa_pre l i).set i a).set (i + 1) (0, aa_c 0)) (zz_st2 q i v) := aa_ml_set (aa_ml_set (aa_pre_ok h i) i hv) (i + 1) trivial
/-- a form is not below 0: what is known with that; none: it can't be -/
def aa_as (s : aa_S) (f : aa_F) : Option aa_S :=
  if aa_hi s.1.1 s.1.2 f < 0 then none else if 0 ≤ aa_lb s.1.1 f then some s else match aa_nar f f.2 s.1.1 with
    | none => none
    | some iv => some ((iv, match f.2 with
      | [] => s.1.2
      | [_] => s.1.2
      | _ => f :: s.1.2), s.2)
theorem aa_as_ok {s : aa_S} {ν : List Int} {g : aa_G} {lv : zz_V} {st : List Value} (h : aa_ok s ν g lv st) {f : aa_F} {x : Int} (hf : aa_ev ν f = some x) (hx : 0 ≤ x) : ∃ s', aa_as s f = some s' ∧ aa_ok s' ν g lv st := by
  have h1 := aa_hi_ok h.1 h.2.1 hf
  unfold aa_as
  rw [if_neg (by omega)]
  split
  · exact ⟨s, rfl, h⟩
  · obtain ⟨y, hy, -⟩ := aa_ev_some.mp hf
    obtain ⟨iv, e, hb⟩ := aa_nar_ok hf hx f.2 s.1.1 h.1 (aa_tm_all _ _ hy)
    rw [e]
    refine ⟨_, rfl, hb, ?_, h.2.2.1, h.2.2.2.1, h.2.2.2.2⟩
    dsimp only
    split
    · exact h.2.1
    · exact h.2.1
    · intro f' hf'
      rcases List.mem_cons.mp hf' with rfl | hf'
      · exact ⟨x, hf, hx⟩
      · exact h.2.1 f' hf'
def aa_as2 (s : aa_S) (f : aa_F) : Option aa_S := match aa_as s f with
  | none => none
  | some s' => aa_as s' (aa_scale f (-1))
theorem aa_as2_ok {s : aa_S} {ν : List Int} {g : aa_G} {lv : zz_V} {st : List Value} (h : aa_ok s ν g lv st) {f : aa_F} (hf : aa_ev ν f = some 0) : ∃ s', aa_as2 s f = some s' ∧ aa_ok s' ν g lv st := by
  obtain ⟨s1, e1, h1⟩ := aa_as_ok h hf (Int.le_refl 0)
  unfold aa_as2
  rw [e1]
  exact aa_as_ok h1 (aa_scale_ev (k := -1) hf) (by decide)
/-- the group of a reference -/
def aa_gp (iv : List aa_I) (f : aa_F) : Nat := match f.2 with
  | [] => aa_gc f.1.toNat
  | [(i, c)] => if f.1 = 0 ∧ c = 1 then (match iv[i]? with
    | some q => q.2.2
    | none => 0) else 0
  | _ => 0
theorem aa_gp_ok {iv : List aa_I} {ν : List Int} (hb : aa_vb iv ν) {f : aa_F} {k : Nat} (h : aa_ev ν f = some (k : Int)) (h0 : aa_gp iv f ≠ 0) : aa_gc k = aa_gp iv f := by
  obtain ⟨a, ha, hx⟩ := aa_ev_some.mp h
  obtain ⟨c0, l⟩ := f
  unfold aa_gp at h0 ⊢
  dsimp only at ha hx h0 ⊢
  match l, ha, h0 with
  | [], ha, h0 =>
    cases ha
    dsimp only
    rw [show c0 = (k : Int) by omega]
    rfl
  | [(i, c)], ha, h0 =>
    dsimp only at h0 ⊢
    split at h0
    · rename_i hc
      rw [if_pos hc]
      obtain ⟨v, y, h1, h2, e⟩ := aa_tm_cons.mp ha
      cases h2
      have hv : v = (k : Int) := by rw [hc.1] at hx; rw [e, hc.2] at hx; omega
      subst hv
      cases hq : iv[i]? with
      | none => rw [hq] at h0; exact absurd rfl h0
      | some q =>
        rw [hq] at h0
        exact ((hb.2 i q _ hq h1).2.2 h0).2
    · exact absurd rfl h0
  | _ :: _ :: _, ha, h0 => exact absurd rfl h0
