/-! BELLS: what a COND says, by the class's row of THINGS and by the model's codes; the two ways are one -/
/-- weekday, YDAY, length, TOWN, DAY -/
abbrev ev_E : Type := Int32 × (Int32 × (Int32 × (Int32 × Int32)))
def ev_t (E : ev_E) (kv : Int32 × Int32) : Int32 := if kv.1 = 119 then E.1 else if kv.1 = 121 then E.2.1 else if kv.1 = 108 then E.2.2.1 else if kv.1 = 116 then E.2.2.2.1 else if kv.1 = 122 then E.2.2.2.2 else kv.2
def ev_v (E : ev_E) (i : Int32) : Option Int32 := if i = 0 then some E.1 else if i = 1 then some E.2.1 else if i = 2 then some E.2.2.1 else if i = 3 then some E.2.2.2.1 else if i = 4 then some E.2.2.2.2 else none
/-- a product goes on -/
def ev_P (E : ev_E) : Int32 → List fl_T → Int32
  | v, [] => v
  | v, t :: r => if pd_o1 t.1 = true then ev_P E (if t.1 = 42 then v * ev_t E t.2 else if ev_t E t.2 = 0 then 0 else v / ev_t E t.2) r else v
/-- a sum goes on -/
def ev_S (E : ev_E) : Int32 → List fl_T → Int32
  | a, [] => a
  | a, t :: r => if pd_o1 t.1 = true then ev_S E a r else if pd_o2 t.1 = true then ev_S E (if t.1 = 45 then a - ev_P E (ev_t E t.2) r else a + ev_P E (ev_t E t.2) r) r else a
def ev_sum (E : ev_E) : List fl_T → Int32
  | [] => 0
  | t :: r => ev_S E (ev_P E (ev_t E t.2) r) r
def ev_cmp (x c y : Int32) : Bool := if c = 60 then decide (x < y) else if c = 62 then decide (y < x) else decide (x = y)
/-- the whole row -/
def ev_H (E : ev_E) : Bool → List fl_T → List fl_T → Bool
  | a, _, [] => a
  | a, L, t :: r => if t.1 = 124 ∧ a = true then true else
    ev_H E (if pd_ot t.1 = true then (a || decide (t.1 = 124)) && ev_cmp (ev_sum E (if fl_j t.1 = true then t :: r else L)) t.1 (ev_sum E (t :: r)) else a || decide (t.1 = 124)) (if fl_j t.1 = true then t :: r else L) r
/-- the codes, on a pile -/
noncomputable def cd_step (E : ev_E) (c : Int32) (st : List Int32) : Option (List Int32) := if 200000 ≤ c then (match st with
  | y :: x :: r => some (fn_215 (c - 200000) x y :: r)
  | _ => none) else if 100000 ≤ c then (match ev_v E (c - 100000) with
  | some v => some (v :: st)
  | none => none) else some (c :: st)
noncomputable def cd_run (E : ev_E) : List Int32 → List Int32 → Option (List Int32)
  | [], st => some st
  | c :: cs, st => (match cd_step E c st with
    | some st' => cd_run E cs st'
    | none => none)
theorem cd_app (E : ev_E) (b : List Int32) : ∀ (a st st' : List Int32), cd_run E a st = some st' → cd_run E (a ++ b) st = cd_run E b st'
  | [], st, st', h => by
    cases h
    rfl
  | c :: a, st, st', h => by
    show cd_run E (c :: (a ++ b)) st = _
    rw [cd_run] at h ⊢
    cases hs : cd_step E c st with
    | none =>
      rw [hs] at h
      cases h
    | some st1 =>
      rw [hs] at h
      exact cd_app E b a st1 st' h
def dn (E : ev_E) (cs : List Int32) (v : Int32) : Prop := ∀ st, cd_run E cs st = some (v :: st)
theorem dn_op {E : ev_E} {a b : List Int32} {x y c : Int32} (ha : dn E a x) (hb : dn E b y) (h : 200000 ≤ 200000 + c) (h2 : 200000 + c - 200000 = c) : dn E (a ++ b ++ [200000 + c]) (fn_215 c x y) := by
  intro st
  have e1 : cd_run E (a ++ b) st = some (y :: x :: st) := (cd_app E b a st (x :: st) (ha st)).trans (hb (x :: st))
  rw [cd_app E [200000 + c] (a ++ b) st _ e1, cd_run]
  have e2 : cd_step E (200000 + c) (y :: x :: st) = some (fn_215 c x y :: st) := by
    unfold cd_step
    rw [if_pos h, h2]
  rw [e2]
  rfl
theorem dn_1 {E : ev_E} {c v : Int32} (h : ∀ st, cd_step E c st = some (v :: st)) : dn E [c] v := by
  intro st
  rw [cd_run, h st]
  rfl
def b_i (B : Bool) : Int32 := if B = true then 1 else 0
/-! pieces of a COND -/
def rl_thing (s : Int32) (ts : List fl_T) (cs : List Int32) : Prop := ∃ kv, ts = [(s, kv)] ∧ ∀ E, dn E cs (ev_t E kv)
def rl_prod (s : Int32) (ts : List fl_T) (cs : List Int32) : Prop := ∃ kv r, ts = (s, kv) :: r ∧ (∀ t ∈ r, pd_o1 t.1 = true) ∧ ∀ E, dn E cs (ev_P E (ev_t E kv) r)
def rl_sum (s : Int32) (ts : List fl_T) (cs : List Int32) : Prop := ∃ kv r, ts = (s, kv) :: r ∧ (∀ t ∈ r, fl_h t.1 = true) ∧ ∀ E, dn E cs (ev_S E (ev_P E (ev_t E kv) r) r)
/-- what comes behind a TEST -/
def tl_ok (ts : List fl_T) : Prop := ts = [] ∨ ∃ t r, ts = t :: r ∧ fl_j t.1 = true
def rl_test (s : Int32) (ts : List fl_T) (cs : List Int32) : Prop := (∃ kv r, ts = (s, kv) :: r) ∧ (pd_ot s = false → ∀ E, ∃ B : Bool, dn E cs (b_i B) ∧ ∀ (a : Bool) (L tail : List fl_T), tl_ok tail → ¬ (s = 124 ∧ a = true) → (fl_j s = true ∨ L = ts ++ tail) → ∃ L', ev_H E a L (ts ++ tail) = ev_H E ((a || decide (s = 124)) && B) L' tail)
def rl_cond (s : Int32) (ts : List fl_T) (cs : List Int32) : Prop := (∃ kv r, ts = (s, kv) :: r) ∧ (s = 0 → ∀ E, ∃ A B : Bool, dn E cs (b_i (A || B)) ∧ ∀ tail : List fl_T, tl_ok tail → ∃ L', ev_H E true (ts ++ tail) (ts ++ tail) = if A = true then true else ev_H E B L' tail)
theorem nh_1 {c : Int32} (h : pd_o1 c = true) : fl_h c = true := by
  unfold fl_h
  rw [h]
  rfl
theorem nh_o {c : Int32} (h : fl_h c = false) : pd_o1 c = false ∧ pd_o2 c = false := by
  unfold fl_h at h
  revert h
  cases pd_o1 c <;> cases pd_o2 c <;> decide
theorem nh_h {c : Int32} (h : fl_h c = true) : pd_ot c = false ∧ fl_j c = false ∧ c ≠ 124 ∧ (pd_o1 c = true ∨ (pd_o1 c = false ∧ pd_o2 c = true)) := by
  unfold fl_h at h
  cases h1 : pd_o1 c with
  | true =>
    rcases pd_o1_c h1 with rfl | rfl <;> exact ⟨by decide, by decide, by decide, .inl rfl⟩
  | false =>
    rw [h1] at h
    have h : pd_o2 c = true := h
    rcases pd_o2_c h with rfl | rfl <;> exact ⟨by decide, by decide, by decide, .inr ⟨rfl, by decide⟩⟩
theorem nh_j {c : Int32} (h : fl_j c = true) : fl_h c = false := by
  unfold fl_j at h
  rw [Bool.or_eq_true] at h
  rcases h with h | h
  · have h : c = 38 := of_decide_eq_true h
    subst h
    decide
  · have h : c = 124 := of_decide_eq_true h
    subst h
    decide
theorem nh_t {c : Int32} (h : pd_ot c = true) : fl_h c = false ∧ fl_j c = false ∧ c ≠ 124 := by
  rcases pd_ot_c h with rfl | rfl | rfl <;> decide
/-- what a product, a sum stops at -/
def st_1 (ts : List fl_T) : Prop := ts = [] ∨ ∃ t r, ts = t :: r ∧ pd_o1 t.1 = false
def st_h (ts : List fl_T) : Prop := ts = [] ∨ ∃ t r, ts = t :: r ∧ fl_h t.1 = false
theorem st_h1 {ts : List fl_T} (h : st_h ts) : st_1 ts := h.elim .inl fun ⟨t, r, e, k⟩ => .inr ⟨t, r, e, (nh_o k).1⟩
theorem st_tl {ts : List fl_T} (h : tl_ok ts) : st_h ts := h.elim .inl fun ⟨t, r, e, k⟩ => .inr ⟨t, r, e, nh_j k⟩
theorem ev_P_stop (E : ev_E) {ts : List fl_T} (h : st_1 ts) : ∀ (r : List fl_T) (v : Int32), ev_P E v (r ++ ts) = ev_P E v r
  | [], v => by
    rcases h with rfl | ⟨t, r, rfl, k⟩
    · rfl
    · show ev_P E v (t :: r) = v
      rw [ev_P, if_neg (by rw [k]; decide)]
  | t :: r, v => by
    show ev_P E v (t :: (r ++ ts)) = ev_P E v (t :: r)
    rw [ev_P, ev_P]
    by_cases z : pd_o1 t.1 = true
    · rw [if_pos z, if_pos z]
      exact ev_P_stop E h r _
    · rw [if_neg z, if_neg z]
theorem ev_P_app (E : ev_E) (ts : List fl_T) : ∀ (r : List fl_T) (v : Int32), (∀ t ∈ r, pd_o1 t.1 = true) → ev_P E v (r ++ ts) = ev_P E (ev_P E v r) ts
  | [], v, _ => rfl
  | t :: r, v, h => by
    show ev_P E v (t :: (r ++ ts)) = ev_P E (ev_P E v (t :: r)) ts
    rw [ev_P, ev_P, if_pos (h t List.mem_cons_self), if_pos (h t List.mem_cons_self)]
    exact ev_P_app E ts r _ fun t ht => h t (List.mem_cons_of_mem _ ht)
theorem ev_S_skip (E : ev_E) (ts : List fl_T) : ∀ (r : List fl_T) (a : Int32), (∀ t ∈ r, pd_o1 t.1 = true) → ev_S E a (r ++ ts) = ev_S E a ts
  | [], a, _ => rfl
  | t :: r, a, h => by
    show ev_S E a (t :: (r ++ ts)) = _
    rw [ev_S, if_pos (h t List.mem_cons_self)]
    exact ev_S_skip E ts r a fun t ht => h t (List.mem_cons_of_mem _ ht)
theorem ev_S_nil (E : ev_E) {r : List fl_T} {a : Int32} (h : ∀ t ∈ r, pd_o1 t.1 = true) : ev_S E a r = a := by
  have k := ev_S_skip E [] r a h
  rw [List.append_nil] at k
  exact k
theorem ev_S_app (E : ev_E) {ts : List fl_T} (hs : st_1 ts) : ∀ (r : List fl_T) (a : Int32), (∀ t ∈ r, fl_h t.1 = true) → ev_S E a (r ++ ts) = ev_S E (ev_S E a r) ts
  | [], a, _ => rfl
  | t :: r, a, h => by
    show ev_S E a (t :: (r ++ ts)) = ev_S E (ev_S E a (t :: r)) ts
    have ih := fun a => ev_S_app E hs r a fun t ht => h t (List.mem_cons_of_mem _ ht)
    rw [ev_S, ev_S]
    rcases (nh_h (h t List.mem_cons_self)).2.2.2 with z | ⟨z, y⟩
    · rw [if_pos z, if_pos z]
      exact ih a
    · have z' : ¬ pd_o1 t.1 = true := by rw [z]; decide
      rw [if_neg z', if_neg z', if_pos y, if_pos y, ev_P_stop E hs]
      exact ih _
theorem ev_S_stop (E : ev_E) {ts : List fl_T} (hs : st_h ts) {r : List fl_T} {a : Int32} (h : ∀ t ∈ r, fl_h t.1 = true) : ev_S E a (r ++ ts) = ev_S E a r := by
  rw [ev_S_app E (st_h1 hs) r a h]
  rcases hs with rfl | ⟨t, r', rfl, k⟩
  · rfl
  · rw [ev_S, if_neg (by rw [(nh_o k).1]; decide), if_neg (by rw [(nh_o k).2]; decide)]
theorem ev_H_skip (E : ev_E) (ts L : List fl_T) (a : Bool) : ∀ (r : List fl_T), (∀ t ∈ r, fl_h t.1 = true) → ev_H E a L (r ++ ts) = ev_H E a L ts
  | [], _ => rfl
  | t :: r, h => by
    show ev_H E a L (t :: (r ++ ts)) = _
    obtain ⟨h1, h2, h3, -⟩ := nh_h (h t List.mem_cons_self)
    rw [ev_H, if_neg (fun z => h3 z.1), h1, h2, if_neg (by decide), if_neg (by decide), show decide (t.1 = 124) = false from decide_eq_false h3, Bool.or_false]
    exact ev_H_skip E ts L a r fun t ht => h t (List.mem_cons_of_mem _ ht)
/-! steps -/
theorem rs_prod {s : Int32} {t1 t2 : List fl_T} {c1 c2 : List Int32} {c : Int32} (hc : pd_o1 c = true) (h1 : rl_prod s t1 c1) (h2 : rl_thing c t2 c2) : rl_prod s (t1 ++ t2) (c1 ++ c2 ++ [200000 + c]) := by
  obtain ⟨kv, r, rfl, k1, k2⟩ := h1
  obtain ⟨kv2, rfl, k3⟩ := h2
  refine ⟨kv, r ++ [(c, kv2)], rfl, fun t ht => ?_, fun E => ?_⟩
  · rcases List.mem_append.mp ht with ht | ht
    · exact k1 t ht
    · rw [List.mem_singleton.mp ht]
      exact hc
  · rw [ev_P_app E _ r _ k1]
    show dn E _ (ev_P E (ev_P E (ev_t E kv) r) ((c, kv2) :: []))
    rw [ev_P, if_pos hc, ev_P]
    have k := fun h h' => dn_op (c := c) (k2 E) (k3 E) h h'
    dsimp only
    rcases pd_o1_c hc with rfl | rfl
    · have k := k (by decide) (by decide)
      unfold fn_215 at k
      rw [if_neg (by decide), if_neg (by decide), if_neg (by decide), if_neg (by decide), if_pos (by decide)] at k
      rw [if_pos rfl]
      exact k
    · have k := k (by decide) (by decide)
      unfold fn_215 at k
      rw [if_neg (by decide), if_neg (by decide), if_neg (by decide), if_neg (by decide), if_neg (by decide), if_neg (by decide), if_neg (by decide), if_neg (by decide), if_neg (by decide), if_pos (by decide)] at k
      rw [if_neg (by decide)]
      by_cases z : ev_t E kv2 = 0
      · rw [if_pos z]
        rw [if_neg (c := ev_t E kv2 ≠ 0) (fun h => h z)] at k
        exact k
      · rw [if_neg z]
        rw [if_pos (c := ev_t E kv2 ≠ 0) z] at k
        exact k
theorem rb_sum {s : Int32} {ts : List fl_T} {cs : List Int32} (h : rl_prod s ts cs) : rl_sum s ts cs := by
  obtain ⟨kv, r, rfl, k1, k2⟩ := h
  exact ⟨kv, r, rfl, fun t ht => nh_1 (k1 t ht), fun E => by rw [ev_S_nil E k1]; exact k2 E⟩
theorem rs_sum {s : Int32} {t1 t2 : List fl_T} {c1 c2 : List Int32} {c : Int32} (hc : pd_o2 c = true) (h1 : rl_sum s t1 c1) (h2 : rl_prod c t2 c2) : rl_sum s (t1 ++ t2) (c1 ++ c2 ++ [200000 + c]) := by
  obtain ⟨kv, r, rfl, k1, k2⟩ := h1
  obtain ⟨kv2, r2, rfl, k3, k4⟩ := h2
  have hn : pd_o1 c = false := by rcases pd_o2_c hc with rfl | rfl <;> decide
  have hs : st_1 ((c, kv2) :: r2) := .inr ⟨_, _, rfl, hn⟩
  refine ⟨kv, r ++ (c, kv2) :: r2, rfl, fun t ht => ?_, fun E => ?_⟩
  · rcases List.mem_append.mp ht with ht | ht
    · exact k1 t ht
    · rcases List.mem_cons.mp ht with rfl | ht
      · show (pd_o1 c || pd_o2 c) = true
        rw [hc, Bool.or_true]
      · exact nh_1 (k3 t ht)
  · rw [ev_P_stop E hs, ev_S_app E hs r _ k1, ev_S, if_neg (by show ¬ pd_o1 c = true; rw [hn]; decide), if_pos (show pd_o2 (c, kv2).1 = true from hc), ev_S_nil E k3]
    have k := fun h h' => dn_op (c := c) (k2 E) (k4 E) h h'
    dsimp only
    rcases pd_o2_c hc with rfl | rfl
    · have k := k (by decide) (by decide)
      unfold fn_215 at k
      rw [if_neg (by decide), if_neg (by decide), if_neg (by decide), if_neg (by decide), if_neg (by decide), if_pos (by decide)] at k
      rw [if_neg (by decide)]
      exact k
    · have k := k (by decide) (by decide)
      unfold fn_215 at k
      rw [if_neg (by decide), if_neg (by decide), if_neg (by decide), if_neg (by decide), if_neg (by decide), if_neg (by decide), if_neg (by decide), if_pos (by decide)] at k
      rw [if_pos rfl]
      exact k
theorem fc_215 {c x y : Int32} (hc : pd_ot c = true) : fn_215 c x y = b_i (ev_cmp x c y) := by
  unfold ev_cmp b_i
  rcases pd_ot_c hc with rfl | rfl | rfl
  · have e : fn_215 60 x y = if y ≤ x then 0 else 1 := by
      unfold fn_215
      rw [if_neg (by decide), if_neg (by decide), if_neg (by decide), if_neg (by decide), if_neg (by decide), if_neg (by decide), if_neg (by decide), if_neg (by decide), if_neg (by decide), if_neg (by decide), if_neg (by decide), if_neg (by decide), if_neg (by decide), if_neg (by decide), if_neg (by decide), if_neg (by decide), if_neg (by decide), if_neg (by decide), if_neg (by decide), if_neg (by decide), if_neg (by decide), if_neg (by decide), if_pos (by decide)]
    rw [e, if_pos rfl]
    by_cases z : y ≤ x
    · rw [if_pos z, if_neg (c := decide (x < y) = true) (fun h => Int32.not_le.mpr (of_decide_eq_true h) z)]
    · rw [if_neg z, if_pos (c := decide (x < y) = true) (decide_eq_true (Int32.not_le.mp z))]
  · have e : fn_215 62 x y = if x ≤ y then 0 else 1 := by
      unfold fn_215
      rw [if_neg (by decide), if_neg (by decide), if_neg (by decide), if_neg (by decide), if_neg (by decide), if_neg (by decide), if_neg (by decide), if_neg (by decide), if_neg (by decide), if_neg (by decide), if_neg (by decide), if_neg (by decide), if_neg (by decide), if_neg (by decide), if_neg (by decide), if_neg (by decide), if_neg (by decide), if_neg (by decide), if_neg (by decide), if_neg (by decide), if_neg (by decide), if_neg (by decide), if_neg (by decide), if_neg (by decide), if_pos (by decide)]
    rw [e, if_neg (c := (62 : Int32) = 60) (by decide), if_pos (c := (62 : Int32) = 62) rfl]
    by_cases z : x ≤ y
    · rw [if_pos z, if_neg (c := decide (y < x) = true) (fun h => Int32.not_le.mpr (of_decide_eq_true h) z)]
    · rw [if_neg z, if_pos (c := decide (y < x) = true) (decide_eq_true (Int32.not_le.mp z))]
  · have e : fn_215 61 x y = if x ≠ y then 0 else 1 := by
      unfold fn_215
      rw [if_neg (by decide), if_neg (by decide), if_neg (by decide), if_neg (by decide), if_neg (by decide), if_neg (by decide), if_neg (by decide), if_neg (by decide), if_neg (by decide), if_neg (by decide), if_neg (by decide), if_neg (by decide), if_neg (by decide), if_neg (by decide), if_neg (by decide), if_neg (by decide), if_neg (by decide), if_neg (by decide), if_neg (by decide), if_neg (by decide), if_neg (by decide), if_neg (by decide), if_neg (by decide), if_pos (by decide)]
    rw [e, if_neg (c := (61 : Int32) = 60) (by decide), if_neg (c := (61 : Int32) = 62) (by decide)]
    by_cases z : x = y
    · rw [if_neg (c := x ≠ y) (fun h => h z), if_pos (c := decide (x = y) = true) (decide_eq_true z)]
    · rw [if_pos (c := x ≠ y) z, if_neg (c := decide (x = y) = true) (fun h => z (of_decide_eq_true h))]
theorem rs_test {s : Int32} {t1 t2 : List fl_T} {c1 c2 : List Int32} {c : Int32} (hc : pd_ot c = true) (h1 : rl_sum s t1 c1) (h2 : rl_sum c t2 c2) : rl_test s (t1 ++ t2) (c1 ++ c2 ++ [200000 + c]) := by
  obtain ⟨kv, r, rfl, k1, k2⟩ := h1
  obtain ⟨kv2, r2, rfl, k3, k4⟩ := h2
  obtain ⟨n1, n2, n3⟩ := nh_t hc
  refine ⟨⟨kv, _, rfl⟩, fun hs E => ⟨ev_cmp (ev_S E (ev_P E (ev_t E kv) r) r) c (ev_S E (ev_P E (ev_t E kv2) r2) r2), ?_, fun a L tail ht na hL => ?_⟩⟩
  · rw [← fc_215 hc]
    exact dn_op (k2 E) (k4 E) (by rcases pd_ot_c hc with rfl | rfl | rfl <;> decide) (by rcases pd_ot_c hc with rfl | rfl | rfl <;> decide)
  · have hst : st_h ((c, kv2) :: (r2 ++ tail)) := .inr ⟨_, _, rfl, n1⟩
    have eW : ((s, kv) :: r ++ (c, kv2) :: r2) ++ tail = (s, kv) :: (r ++ (c, kv2) :: (r2 ++ tail)) := by
      rw [List.append_assoc]
      rfl
    rw [eW] at hL ⊢
    refine ⟨(s, kv) :: (r ++ (c, kv2) :: (r2 ++ tail)), ?_⟩
    have eL : (if fl_j s = true then (s, kv) :: (r ++ (c, kv2) :: (r2 ++ tail)) else L) = (s, kv) :: (r ++ (c, kv2) :: (r2 ++ tail)) := by
      by_cases z : fl_j s = true
      · rw [if_pos z]
      · rw [if_neg z]
        exact hL.resolve_left z
    rw [ev_H, if_neg na]
    dsimp only
    rw [eL, if_neg (by rw [hs]; decide), ev_H_skip E _ _ _ r k1, ev_H, if_neg (fun z => n3 z.1)]
    dsimp only
    rw [if_pos hc, n2, if_neg (by decide), show decide (c = 124) = false from decide_eq_false n3, Bool.or_false, ev_H_skip E _ _ _ r2 k3]
    have v1 : ev_sum E ((s, kv) :: (r ++ (c, kv2) :: (r2 ++ tail))) = ev_S E (ev_P E (ev_t E kv) r) r := by
      unfold ev_sum
      dsimp only
      rw [ev_P_stop E (st_h1 hst), ev_S_stop E hst k1]
    have v2 : ev_sum E ((c, kv2) :: (r2 ++ tail)) = ev_S E (ev_P E (ev_t E kv2) r2) r2 := by
      unfold ev_sum
      dsimp only
      rw [ev_P_stop E (st_h1 (st_tl ht)), ev_S_stop E (st_tl ht) k3]
    rw [v1, v2]
theorem b_and (A B : Bool) : fn_215 38 (b_i A) (b_i B) = b_i (A && B) := by cases A <;> cases B <;> decide +kernel
theorem b_or (A B : Bool) : fn_215 124 (b_i A) (b_i B) = b_i (A || B) := by cases A <;> cases B <;> decide +kernel
theorem rs_both {s : Int32} {t1 t2 : List fl_T} {c1 c2 : List Int32} {c : Int32} (hc : pd_o3 c = true) (h1 : rl_test s t1 c1) (h2 : rl_test c t2 c2) : rl_test s (t1 ++ t2) (c1 ++ c2 ++ [200000 + c]) := by
  have hc : c = 38 := of_decide_eq_true hc
  subst hc
  obtain ⟨⟨kv, r, e1⟩, k1⟩ := h1
  obtain ⟨⟨kv2, r2, e2⟩, k2⟩ := h2
  refine ⟨⟨kv, r ++ t2, by rw [e1]; rfl⟩, fun hs E => ?_⟩
  obtain ⟨B1, d1, m1⟩ := k1 hs E
  obtain ⟨B2, d2, m2⟩ := k2 (by decide) E
  refine ⟨B1 && B2, ?_, fun a L tail ht na hL => ?_⟩
  · rw [← b_and]
    exact dn_op d1 d2 (by decide) (by decide)
  · rw [List.append_assoc] at hL ⊢
    obtain ⟨L1, q1⟩ := m1 a L (t2 ++ tail) (.inr ⟨(38, kv2), r2 ++ tail, by rw [e2]; rfl, by show fl_j 38 = true; decide⟩) na hL
    obtain ⟨L2, q2⟩ := m2 ((a || decide (s = 124)) && B1) L1 tail ht (fun z => absurd z.1 (by decide)) (.inl (by decide))
    refine ⟨L2, ?_⟩
    rw [q1, q2, show decide ((38 : Int32) = 124) = false from by decide, Bool.or_false, Bool.and_assoc]
theorem rb_cond {s : Int32} {ts : List fl_T} {cs : List Int32} (h : rl_test s ts cs) : rl_cond s ts cs := by
  refine ⟨h.1, fun hs E => ?_⟩
  subst hs
  obtain ⟨-, k⟩ := h
  obtain ⟨B, d, m⟩ := k (by decide) E
  refine ⟨false, B, d, fun tail ht => ?_⟩
  obtain ⟨L', q⟩ := m true (ts ++ tail) tail ht (fun z => absurd z.1 (by decide)) (.inr rfl)
  exact ⟨L', q⟩
theorem rs_cond {s : Int32} {t1 t2 : List fl_T} {c1 c2 : List Int32} {c : Int32} (hc : pd_o4 c = true) (h1 : rl_cond s t1 c1) (h2 : rl_test c t2 c2) : rl_cond s (t1 ++ t2) (c1 ++ c2 ++ [200000 + c]) := by
  have hc : c = 124 := of_decide_eq_true hc
  subst hc
  obtain ⟨⟨kv, r, e1⟩, k1⟩ := h1
  refine ⟨⟨kv, r ++ t2, by rw [e1]; rfl⟩, fun hs E => ?_⟩
  obtain ⟨A, B, d1, m1⟩ := k1 hs E
  obtain ⟨⟨kv2, r2, e2⟩, k2⟩ := h2
  obtain ⟨B2, d2, m2⟩ := k2 (by decide) E
  refine ⟨A || B, B2, ?_, fun tail ht => ?_⟩
  · rw [← b_or]
    exact dn_op d1 d2 (by decide) (by decide)
  · rw [List.append_assoc]
    obtain ⟨L1, q1⟩ := m1 (t2 ++ tail) (.inr ⟨(124, kv2), r2 ++ tail, by rw [e2]; rfl, by show fl_j 124 = true; decide⟩)
    rw [q1]
    cases A with
    | true => exact ⟨[], rfl⟩
    | false =>
      cases B with
      | true =>
        refine ⟨[], ?_⟩
        rw [e2]
        show ev_H E true L1 ((124, kv2) :: (r2 ++ tail)) = true
        rw [ev_H, if_pos ⟨rfl, rfl⟩]
      | false =>
        obtain ⟨L2, q2⟩ := m2 false L1 tail ht (fun z => absurd z.2 (by decide)) (.inl (by decide))
        exact ⟨L2, q2⟩
/-! the class's way goes through a piece, and leaves its THINGS -/
def lx (b : Nat → Int32) (n : Nat) (D : Bool → Bool → Prop) (f : Nat → Nat → pd_R) (Rl : Int32 → List fl_T → List Int32 → Prop) : Prop := ∀ p T, p ≤ n → T ≤ 40 → ∀ td te, D td te → ∀ q T2 cs, f p T = .inr (q, (T2, cs)) → ∀ k s l, n < k + p → ∃ k2 ts, n ≤ k2 + q ∧ fl_cond b n k p T s td l = fl_aft (fl_cond b n k2) b n q T2 te (l ++ ts) ∧ Rl s ts cs
theorem lx_thing (b : Nat → Int32) (n : Nat) : lx b n (fun x y => x = y) (pd_thing b n) rl_thing := by
  intro p T hp hT td te hD q T2 cs h k s l hk
  subst hD
  cases k with
  | zero => omega
  | succ k =>
    have hg := (pd_thing_gd b n p T q T2 cs hp hT h).1
    have key : ∀ kv : Int32 × Int32, fl_thing b n p T = .inr (q, kv) → T2 = T + 1 → (∀ E, dn E cs (ev_t E kv)) → ∃ k2 ts, n ≤ k2 + q ∧ fl_cond b n (k + 1) p T s td l = fl_aft (fl_cond b n k2) b n q T2 td (l ++ ts) ∧ rl_thing s ts cs := by
      intro kv e e2 hd
      refine ⟨k, [(s, kv)], by omega, ?_, kv, rfl, hd⟩
      rw [fl_cond, e, e2]
    unfold pd_thing at h
    by_cases h0 : (sp_dg (sp_hb b n p) = false ∧ sp_nm (sp_hb b n p) = -1) ∨ T = 40
    · rw [if_pos h0] at h
      cases h
    · rw [if_neg h0] at h
      by_cases hd : sp_dg (sp_hb b n p) = true
      · rw [if_pos hd] at h
        by_cases hr : (sp_run b n 5 p 0).1 = p ∨ sp_dg (sp_hb b n (sp_run b n 5 p 0).1) = true
        · rw [if_pos hr] at h
          cases h
        · rw [if_neg hr] at h
          cases h
          refine key (0, (sp_run b n 5 p 0).2) ((if_neg h0).trans ((if_pos hd).trans (by simp only [sp_num_any, if_neg hr]))) rfl fun E => dn_1 fun st => ?_
          obtain ⟨r1, r2⟩ := sp_run_rng b n 5 p 0 1 (by decide) (by decide) (by decide)
          unfold cd_step
          rw [if_neg (c := (200000 : Int32) ≤ (sp_run b n 5 p 0).2) (fun z => by have := aa_le32.mp z; rw [show (200000 : Int32).toInt = 200000 from rfl] at this; omega), if_neg (c := (100000 : Int32) ≤ (sp_run b n 5 p 0).2) (fun z => by have := aa_le32.mp z; rw [show (100000 : Int32).toInt = 100000 from rfl] at this; omega)]
          rfl
      · rw [if_neg hd] at h
        cases h
        refine key (sp_hb b n p, 0) ((if_neg h0).trans (if_neg hd)) rfl fun E => dn_1 fun st => ?_
        have hm : ¬ sp_nm (sp_hb b n p) = -1 := fun e => h0 (.inl ⟨(Bool.not_eq_true _).mp hd, e⟩)
        generalize sp_hb b n p = c at hm ⊢
        have hc : c = 119 ∨ c = 121 ∨ c = 108 ∨ c = 116 ∨ c = 122 := by
          unfold sp_nm at hm
          by_cases q1 : c = 119
          · exact .inl q1
          · by_cases q2 : c = 121
            · exact .inr (.inl q2)
            · by_cases q3 : c = 108
              · exact .inr (.inr (.inl q3))
              · by_cases q4 : c = 116
                · exact .inr (.inr (.inr (.inl q4)))
                · by_cases q5 : c = 122
                  · exact .inr (.inr (.inr (.inr q5)))
                  · rw [if_neg q1, if_neg q2, if_neg q3, if_neg q4, if_neg q5] at hm
                    exact absurd rfl hm
        unfold cd_step
        rcases hc with rfl | rfl | rfl | rfl | rfl
        · rw [if_neg (by decide), if_pos (by decide), show (100000 + sp_nm 119 - 100000 : Int32) = 0 from by decide]
          rfl
        · rw [if_neg (by decide), if_pos (by decide), show (100000 + sp_nm 121 - 100000 : Int32) = 1 from by decide]
          rfl
        · rw [if_neg (by decide), if_pos (by decide), show (100000 + sp_nm 108 - 100000 : Int32) = 2 from by decide]
          rfl
        · rw [if_neg (by decide), if_pos (by decide), show (100000 + sp_nm 116 - 100000 : Int32) = 3 from by decide]
          rfl
        · rw [if_neg (by decide), if_pos (by decide), show (100000 + sp_nm 122 - 100000 : Int32) = 4 from by decide]
          rfl
theorem lx_loop {b : Nat → Int32} {n : Nat} {D : Bool → Bool → Prop} {inner : Nat → Nat → pd_R} {ops : Int32 → Bool} {RI RL : Int32 → List fl_T → List Int32 → Prop} (hi : lx b n D inner RI) (ho : lv_ops b n D ops) (hm : ops (-1) = false) (hg : pd_gd n inner) (step : ∀ {s : Int32} {t1 t2 : List fl_T} {c1 c2 : List Int32} {c : Int32}, ops c = true → RL s t1 c1 → RI c t2 c2 → RL s (t1 ++ t2) (c1 ++ c2 ++ [200000 + c])) {td te : Bool} (hD : D td te) : ∀ (kk p T : Nat) (cs : List Int32), n < kk + p → p ≤ n → T ≤ 40 → ∀ q T2 ds, pd_loop ops inner b n kk p T cs = .inr (q, (T2, ds)) → ∀ k l s ts, n ≤ k + p → RL s ts cs → ∃ k2 ts2, n ≤ k2 + q ∧ fl_aft (fl_cond b n k) b n p T te (l ++ ts) = fl_aft (fl_cond b n k2) b n q T2 te (l ++ ts2) ∧ RL s ts2 ds := by
  intro kk
  induction kk with
  | zero => intro p T cs h1 h2; omega
  | succ kk ih =>
    intro p T cs h1 h2 h3 q T2 ds h k l s ts hk hr
    cases hop : ops (sp_hb b n p) with
    | false =>
      rw [pd_loop_no (kk + 1) hop] at h
      cases h
      exact ⟨k, ts, hk, rfl, hr⟩
    | true =>
      have hpn : p < n := pd_in fun e => by
        rw [e, hm] at hop
        cases hop
      obtain ⟨tf, hf, hgo⟩ := ho p td te hop hD
      cases hin : inner (p + 1) T with
      | inl f =>
        rw [pd_loop_inl hop hin] at h
        cases h
      | inr r =>
        obtain ⟨q1, T1, es⟩ := r
        rw [pd_loop_inr hop hin] at h
        obtain ⟨a1, a2, a3, a4, a5⟩ := hg (p + 1) T q1 T1 es hpn h3 hin
        obtain ⟨k2, t2, e1, e2, e3⟩ := hi (p + 1) T hpn h3 tf te hf q1 T1 es hin k (sp_hb b n p) (l ++ ts) (by omega)
        obtain ⟨k3, t3, e4, e5, e6⟩ := ih q1 T1 _ (by omega) a2 a4 q T2 ds h k2 l s (ts ++ t2) e1 (step hop hr e3)
        exact ⟨k3, t3, e4, by rw [hgo, e2, List.append_assoc, e5], e6⟩
theorem lx_lvl {b : Nat → Int32} {n : Nat} {D : Bool → Bool → Prop} {inner : Nat → Nat → pd_R} {ops : Int32 → Bool} {RI RL : Int32 → List fl_T → List Int32 → Prop} (hi : lx b n D inner RI) (ho : lv_ops b n D ops) (hm : ops (-1) = false) (hg : pd_gd n inner) (base : ∀ {s : Int32} {ts : List fl_T} {cs : List Int32}, RI s ts cs → RL s ts cs) (step : ∀ {s : Int32} {t1 t2 : List fl_T} {c1 c2 : List Int32} {c : Int32}, ops c = true → RL s t1 c1 → RI c t2 c2 → RL s (t1 ++ t2) (c1 ++ c2 ++ [200000 + c])) : lx b n D (pd_lvl ops inner b n) RL := by
  intro p T hp hT td te hD q T2 cs h k s l hk
  cases hin : inner p T with
  | inl f =>
    rw [pd_lvl_inl hin] at h
    cases h
  | inr r =>
    obtain ⟨q1, T1, es⟩ := r
    rw [pd_lvl_inr hin] at h
    obtain ⟨a1, a2, a3, a4, a5⟩ := hg p T q1 T1 es hp hT hin
    obtain ⟨k2, t2, e1, e2, e3⟩ := hi p T hp hT td te hD q1 T1 es hin k s l hk
    obtain ⟨k3, t3, e4, e5, e6⟩ := lx_loop hi ho hm hg step hD (n + 1) q1 T1 es (by omega) a2 a4 q T2 cs h k2 l s t2 e1 (base e3)
    exact ⟨k3, t3, e4, by rw [e2, e5], e6⟩
theorem rb_prod {s : Int32} {ts : List fl_T} {cs : List Int32} (h : rl_thing s ts cs) : rl_prod s ts cs := by
  obtain ⟨kv, rfl, k⟩ := h
  exact ⟨kv, [], rfl, fun t ht => (by cases ht), k⟩
theorem lx_prod (b : Nat → Int32) (n : Nat) : lx b n (fun x y => x = y) (pd_prod b n) rl_prod := lx_lvl (lx_thing b n) (lv_ops12 fl_at1) (by decide) (pd_thing_gd b n) rb_prod rs_prod
theorem lx_sum (b : Nat → Int32) (n : Nat) : lx b n (fun x y => x = y) (pd_sum b n) rl_sum := lx_lvl (lx_prod b n) (lv_ops12 fl_at2) (by decide) (pd_prod_gd b n) rb_sum rs_sum
theorem lx_test (b : Nat → Int32) (n : Nat) : lx b n (fun x y => x = false ∧ y = true) (pd_test b n) rl_test := by
  intro p T hp hT td te hD q T2 cs h k s l hk
  obtain ⟨rfl, rfl⟩ := hD
  cases hin : pd_sum b n p T with
  | inl f =>
    rw [pd_test_inl hin] at h
    cases h
  | inr r =>
    obtain ⟨q1, T1, es⟩ := r
    rw [pd_test_inr hin] at h
    obtain ⟨a1, a2, a3, a4, a5⟩ := pd_sum_gd b n p T q1 T1 es hp hT hin
    cases hop : pd_ot (sp_hb b n q1) with
    | false =>
      rw [pd_test2_no hop] at h
      cases h
    | true =>
      have hpn : q1 < n := pd_in fun e => by
        rw [e] at hop
        exact absurd hop (by decide)
      have hgo : ∀ k l, fl_aft (fl_cond b n k) b n q1 T1 false l = fl_cond b n k (q1 + 1) T1 (sp_hb b n q1) true l := fun k l => by
        unfold fl_aft
        rw [hop, fl_att _ hop, if_neg (fun e => by cases e.1), if_neg (fun e => e.elim (fun e => by cases e.2) (fun e => by cases e.1))]
        rfl
      cases hin2 : pd_sum b n (q1 + 1) T1 with
      | inl f =>
        rw [pd_test2_inl hop hin2] at h
        cases h
      | inr r =>
        obtain ⟨q3, T3, fs⟩ := r
        rw [pd_test2_inr hop hin2] at h
        cases h
        obtain ⟨k2, t2, e1, e2, e3⟩ := lx_sum b n p T hp hT false false rfl q1 T1 es hin k s l hk
        obtain ⟨k3, t3, e4, e5, e6⟩ := lx_sum b n (q1 + 1) T1 hpn a4 true true rfl _ _ fs hin2 k2 (sp_hb b n q1) (l ++ t2) (by omega)
        exact ⟨k3, t2 ++ t3, e4, by rw [e2, hgo, e5, List.append_assoc], rs_test hop e3 e6⟩
theorem lx_both (b : Nat → Int32) (n : Nat) : lx b n (fun x y => x = false ∧ y = true) (pd_both b n) rl_test := lx_lvl (lx_test b n) (lv_ops34 fl_at3) (by decide) (pd_test_gd b n) (fun h => h) rs_both
theorem lx_cond (b : Nat → Int32) (n : Nat) : lx b n (fun x y => x = false ∧ y = true) (pd_cond b n) rl_cond := lx_lvl (lx_both b n) (lv_ops34 fl_at4) (by decide) (pd_both_gd b n) rb_cond rs_cond
/-- the class's THINGS and the model's codes say the same -/
def cd_rel (ts : List fl_T) (cs : List Int32) : Prop := (ts = [] ∧ cs = []) ∨ ((∃ kv r, ts = (0, kv) :: r) ∧ ∀ E, ∃ A : Bool, ev_H E true ts ts = A ∧ dn E cs (b_i A))
theorem cd_cond {b : Nat → Int32} {n p T k q q' T2 : Nat} {cs : List Int32} {ts : List fl_T} (hp : p ≤ n) (hT : T ≤ 40) (hk : n < k + p) (h : pd_cond b n p T = .inr (q, (T2, cs))) (ho : pd_ot (sp_hb b n q) = false) (h2 : fl_cond b n k p T 0 false [] = .inr (q', ts)) : cd_rel ts cs := by
  obtain ⟨j1, -⟩ := (lv_cond b n p T hp hT false true ⟨rfl, rfl⟩).2 q T2 cs h
  obtain ⟨k2, ts2, e1, e2, e3⟩ := lx_cond b n p T hp hT false true ⟨rfl, rfl⟩ q T2 cs h k 0 [] hk
  have j1 : ((((true && !pd_o1 (sp_hb b n q)) && !pd_o2 (sp_hb b n q)) && !pd_o3 (sp_hb b n q)) && !pd_o4 (sp_hb b n q)) = true := j1
  have hjh : fl_j (sp_hb b n q) = false ∧ fl_h (sp_hb b n q) = false := by
    unfold fl_j fl_h
    revert j1
    cases pd_o1 (sp_hb b n q) <;> cases pd_o2 (sp_hb b n q) <;> cases pd_o3 (sp_hb b n q) <;> cases pd_o4 (sp_hb b n q) <;> decide
  rw [e2, fl_a1 ho hjh.1 hjh.2, List.nil_append] at h2
  cases h2
  refine .inr ⟨e3.1, fun E => ?_⟩
  obtain ⟨A, B, d, m⟩ := e3.2 rfl E
  obtain ⟨L', q2⟩ := m [] (.inl rfl)
  rw [List.append_nil] at q2
  refine ⟨A || B, ?_, d⟩
  rw [q2]
  cases A with
  | true => rfl
  | false => rfl
