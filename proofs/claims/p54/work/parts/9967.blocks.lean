/-! W AND THE MODEL'S ROW: a world, and a block of 399 places that says the same -/
theorem tw_row_cg {T T' : Nat → Nat → Int} {i c : Nat} (h : ∀ o i, 1 ≤ o → o ≤ 4 → i < c → T' o i = T o i) (hi : i < c) : tw_row T' i = tw_row T i := by
  unfold tw_row
  rw [h 4 i (by omega) (by omega) hi, h 2 i (by omega) (by omega) hi, h 3 i (by omega) (by omega) hi]
theorem yPT_cg {own : yOwn} {h : zz_H} {q c : Nat} {T T' : Nat → Nat → Int} (e : ∀ o i, 1 ≤ o → o ≤ 4 → i < c → T' o i = T o i) (o : yPT own h q T c) : yPT own h q T' c := by
  obtain ⟨rs, o1, o2, o3⟩ := o
  refine ⟨rs, o1, o2, fun y hy => ⟨fun i hi ei => ?_, fun hn => ?_⟩⟩
  · rw [e 1 i (by omega) (by omega) hi] at ei
    obtain ⟨k, e1, e2, e3⟩ := (o3 y hy).1 i hi ei
    rw [tw_row_cg e hi]
    exact ⟨k, e1, e2, e3⟩
  · exact (o3 y hy).2 fun i hi ei => hn i hi (by rw [e 1 i (by omega) (by omega) hi]; exact ei)
/-- towns that say the same -/
def yTq (l l' : List yTw) : Prop := l'.length = l.length ∧ ∀ (t : Nat) (T T' : yTw), l[t]? = some T → l'[t]? = some T' → T'.1 = T.1 ∧ T'.2.2 = T.2.2 ∧ ∀ o i, 1 ≤ o → o ≤ 4 → i < T.2.2 → T'.2.1 o i = T.2.1 o i
theorem yWo_cg {own : yOwn} {h : zz_H} {w : Nat} {l l' : List yTw} {q : Int} {bs : List yBell} (e : yTq l l') (W : yWo own h w (l, q, bs)) : yWo own h w (l', q, bs) := by
  obtain ⟨ow, o, p, b, tx, o1, o2, ⟨o3, o4⟩, ⟨p1, rs, p2, p3, p4⟩, o5⟩ := W
  have em : (l'.map fun T => Int32.ofInt T.1) = l.map fun T => Int32.ofInt T.1 := by
    refine List.ext_getElem? fun t => ?_
    rw [List.getElem?_map, List.getElem?_map]
    rcases Nat.lt_or_ge t l.length with c | c
    · obtain ⟨T, eT⟩ : ∃ T, l[t]? = some T := ⟨_, List.getElem?_eq_getElem c⟩
      obtain ⟨T', eT'⟩ : ∃ T', l'[t]? = some T' := ⟨_, List.getElem?_eq_getElem (by rw [e.1]; exact c)⟩
      rw [eT, eT']
      show some (Int32.ofInt T'.1) = some (Int32.ofInt T.1)
      rw [(e.2 t T T' eT eT').1]
    · rw [List.getElem?_eq_none c, List.getElem?_eq_none (by rw [e.1]; exact c)]
  refine ⟨ow, o, p, b, tx, o1, o2, ⟨o3, ?_⟩, ⟨p1, rs, p2, by rw [p3]; exact e.1.symm, fun t T' eT' => ?_⟩, o5⟩
  · show yP h o (l'.map fun T => Int32.ofInt T.1)
    rw [em]
    exact o4
  · have ht := (List.getElem?_eq_some_iff.mp eT').1
    obtain ⟨T, eT⟩ : ∃ T, l[t]? = some T := ⟨_, List.getElem?_eq_getElem (by rw [← e.1]; exact ht)⟩
    obtain ⟨k, k1, k2, k3⟩ := p4 t T eT
    obtain ⟨d1, d2, d3⟩ := e.2 t T T' eT eT'
    refine ⟨k, k1, k2, ?_⟩
    rw [d2]
    exact yPT_cg d3 k3
def ybk (g : aa_G) (r : Nat) : Nat → Int32 := fun q => g 541 (399 * r + q)
def yT_of (a : Nat → Int32) (t : Nat) : yTw := ((a (50 * t + 3)).toInt, (fun o i => (a (50 * t + 4 * i + 4 + o)).toInt), (a (50 * t + 4)).toInt.toNat)
def yTs_of (a : Nat → Int32) : List yTw := (List.range (a 0).toInt.toNat).map (yT_of a)
def yF_of (B : yBell) : pb_F := (Int32.ofInt B.1, (Int32.ofInt B.2.1, (Int32.ofInt B.2.2.1, Int32.ofInt B.2.2.2.1)))
def yBr (a : Nat → Int32) (lst : List (yBell × List fl_T)) : Prop := (a 2).toInt = lst.length ∧ lst.length ≤ 8 ∧ ∀ (k : Nat) (e : yBell × List fl_T), lst[k]? = some e → (∃ c0 cs, br_m (fun q => a (203 + q)) (fun q => a (259 + q)) k (yF_of e.1) e.2.length c0 cs ∧ cd_rel e.2 cs) ∧ y_cd e.1.2.2.2.2 e.2 ∧ (e.1.1 = 0 ∨ e.1.1 = 1) ∧ (0 ≤ e.1.2.1 ∧ e.1.2.1 ≤ 11) ∧ (0 ≤ e.1.2.2.1 ∧ e.1.2.2.1 ≤ 3599) ∧ (1 ≤ e.1.2.2.2.1 ∧ e.1.2.2.2.1 ≤ 24)
def yRb (own : yOwn) (h : zz_H) (w : Nat) (a : Nat → Int32) : Prop := ∃ lst, yWo own h w (yTs_of a, (a 1).toInt, lst.map Prod.fst) ∧ yBr a lst
/-- bounds of a block -/
def yBd (a : Nat → Int32) : Prop := (0 ≤ (a 0).toInt ∧ (a 0).toInt ≤ 4) ∧ ∀ t, t < 4 → 0 ≤ (a (50 * t + 4)).toInt ∧ (a (50 * t + 4)).toInt ≤ 12
theorem ybk_bd {g : aa_G} (h : aa_inv g) (r : Nat) : yBd (ybk g r) := by
  refine ⟨iv_n h (r := r), fun t ht => ?_⟩
  have k := iv_c h (r := r) ht
  unfold ybk
  rw [show 399 * r + (50 * t + 4) = 399 * r + 50 * t + 3 + 1 by omega]
  exact k
theorem yTs_len (a : Nat → Int32) : (yTs_of a).length = (a 0).toInt.toNat := by
  unfold yTs_of
  rw [List.length_map, List.length_range]
theorem yTs_at {a : Nat → Int32} {t : Nat} (ht : t < (a 0).toInt.toNat) : (yTs_of a)[t]? = some (yT_of a t) := by
  unfold yTs_of
  rw [List.getElem?_map, List.getElem?_range ht]
  rfl
theorem yTs_cg {a a' : Nat → Int32} (hb : yBd a) (e : ∀ q, q < 203 → a' q = a q) : yTq (yTs_of a) (yTs_of a') := by
  refine ⟨by rw [yTs_len, yTs_len, e 0 (by omega)], fun t T T' h1 h2 => ?_⟩
  have ht := (List.getElem?_eq_some_iff.mp h1).1
  rw [yTs_len] at ht
  have h4 : t < 4 := by have := hb.1; omega
  rw [yTs_at ht] at h1
  rw [yTs_at (by rw [e 0 (by omega)]; exact ht)] at h2
  cases h1
  cases h2
  have hc := hb.2 t h4
  unfold yT_of
  dsimp only
  rw [e _ (by omega), e (50 * t + 4) (by omega)]
  exact ⟨rfl, rfl, fun o i o1 o2 hi => by rw [e _ (by omega)]⟩
theorem br_m_cg {f f' d d' : Nat → Int32} {k th c0 : Nat} {F : pb_F} {cs : List Int32} (hk : k < 8) (e : ∀ q, q < 56 → f' q = f q) (e2 : ∀ q, q < 80 → d' q = d q) (h : br_m f d k F th c0 cs) : br_m f' d' k F th c0 cs := by
  obtain ⟨⟨a0, a1, a2, a3, a4, a5, a6⟩, b, c⟩ := h
  refine ⟨⟨?_, ?_, ?_, ?_, ?_, ?_, ?_⟩, b, fun i v ei => ?_⟩
  · rw [e _ (by omega)]; exact a0
  · rw [e _ (by omega)]; exact a1
  · rw [e _ (by omega)]; exact a2
  · rw [e _ (by omega)]; exact a3
  · rw [e _ (by omega)]; exact a4
  · rw [e _ (by omega)]; exact a5
  · rw [e _ (by omega)]; exact a6
  · have hi := (List.getElem?_eq_some_iff.mp ei).1
    rw [e2 _ (by omega)]
    exact c i v ei
theorem yBr_cg {a a' : Nat → Int32} {lst : List (yBell × List fl_T)} (e : ∀ q, q < 399 → (q = 2 ∨ 203 ≤ q) → a' q = a q) (h : yBr a lst) : yBr a' lst := by
  obtain ⟨h1, h2, h3⟩ := h
  refine ⟨by rw [e 2 (by omega) (by omega)]; exact h1, h2, fun k x ex => ?_⟩
  have hk := (List.getElem?_eq_some_iff.mp ex).1
  obtain ⟨⟨c0, cs, m1, m2⟩, m3⟩ := h3 k x ex
  exact ⟨⟨c0, cs, br_m_cg (by omega) (fun q hq => e _ (by omega) (by omega)) (fun q hq => e _ (by omega) (by omega)) m1, m2⟩, m3⟩
theorem yRb_cg {own : yOwn} {h : zz_H} {w : Nat} {a a' : Nat → Int32} (hb : yBd a) (e : ∀ q, q < 399 → a' q = a q) (R : yRb own h w a) : yRb own h w a' := by
  obtain ⟨lst, W, B⟩ := R
  refine ⟨lst, ?_, yBr_cg (fun q hq _ => e q hq) B⟩
  rw [e 1 (by omega)]
  exact yWo_cg (yTs_cg hb fun q hq => e q (by omega)) W
theorem yRb.x {own : yOwn} {A : Nat → Prop} {n d w : Nat} {h h' : zz_H} {a : Nat → Int32} (R : yRb own h w a) (x : yx A n d h h') (no : yNo own h A w) : yRb own h' w a := by
  obtain ⟨lst, W, B⟩ := R
  exact ⟨lst, W.x x no, B⟩
theorem yRb.nw {own own2 : yOwn} {w : Nat} {h : zz_H} {a : Nat → Int32} (R : yRb own h w a) (e : ∀ j, j ≤ h.1.1 ∨ yy_B ≤ j → own2 j = own j) : yRb own2 h w a := by
  obtain ⟨lst, W, B⟩ := R
  exact ⟨lst, W.nw e, B⟩
/-! what the model's methods do to the blocks -/
theorem ym_push {g : aa_G} {c : Nat} (hc : g 540 1 = Int32.ofNat c) (h12 : c ≤ 12) : (fn_156 g) 540 1 = Int32.ofNat (min (c + 1) 12) ∧ (∀ q, q < 399 → ybk (fn_156 g) (3 + min c 11) q = ybk g 0 q) ∧ (∀ i q, q < 399 → i < min c 11 → ybk (fn_156 g) (3 + i) q = ybk g (3 + i + (if c = 12 then 1 else 0)) q) ∧ (∀ r q, q < 399 → r < 3 → ybk (fn_156 g) r q = ybk g r q) := by
  obtain ⟨m1, m2, m3, m4⟩ := dm_deed hc h12
  refine ⟨m1, fun q hq => ?_, fun i q hq hi => m3 i q hq hi, fun r q hq hr => m4 541 _ (by omega) (by omega)⟩
  have := m2 q hq
  exact this
theorem ym_undo {g : aa_G} {c : Nat} (hc : g 540 1 = Int32.ofNat c) (h12 : c ≤ 12) : (c = 0 → fn_151 g = (-1, g)) ∧ (c ≠ 0 → (fn_151 g).1 = Int32.ofNat (c - 1) ∧ (fn_151 g).2 540 1 = Int32.ofNat (c - 1) ∧ (∀ q, q < 399 → ybk (fn_151 g).2 0 q = ybk g (3 + (c - 1)) q) ∧ (∀ r q, q < 399 → r ≠ 0 → ybk (fn_151 g).2 r q = ybk g r q) ∧ ∀ k, (fn_151 g).2 542 k = g 542 k) := by
  unfold fn_151
  refine ⟨fun z => ?_, fun z => ?_⟩
  · subst z
    rw [hc, if_neg (c := Int32.ofNat 0 ≠ 0) (fun z => z rfl)]
  · rw [hc, if_pos (c := Int32.ofNat c ≠ 0) (fun z' => z (by
      have := congrArg Int32.toInt z'
      rw [i_12 h12, show (0 : Int32).toInt = 0 from rfl] at this
      omega)), i_sub1 (by omega) (by omega), show (3 : Int32) + Int32.ofNat (c - 1) = Int32.ofNat (3 + (c - 1)) from i_add 3 _]
    unfold fn_151_31
    dsimp only
    have cpy := dm_row (g := zz_w g 540 1 (Int32.ofNat (c - 1))) (f := 3 + (c - 1)) (t := 0) (by omega) (by omega) (by omega)
    rw [show (Int32.ofNat 0 : Int32) = 0 from rfl] at cpy
    generalize fn_152 (zz_w g 540 1 (Int32.ofNat (c - 1))) (Int32.ofNat (3 + (c - 1))) 0 = gm' at cpy ⊢
    obtain ⟨k1, k2⟩ := cpy
    have e1 : gm' 540 1 = Int32.ofNat (c - 1) := by rw [k2 540 1 (by omega), aa_w_at]
    refine ⟨e1, e1, fun q hq => ?_, fun r q hq hr => ?_, fun k => ?_⟩
    · show gm' 541 (399 * 0 + q) = g 541 (399 * (3 + (c - 1)) + q)
      rw [k1 q hq, aa_w_ne _ _ (by omega)]
    · show gm' 541 (399 * r + q) = g 541 (399 * r + q)
      rw [k2 541 _ (by omega), aa_w_ne _ _ (by omega)]
    · rw [k2 542 k (by omega), aa_w_ne _ _ (by omega)]
theorem ym_keep {g : aa_G} {k : Nat} (hk : k < 2) : (fn_153 g (Int32.ofNat k)).1 = 1 ∧ (∀ q, q < 399 → ybk (fn_153 g (Int32.ofNat k)).2 (1 + k) q = ybk g 0 q) ∧ (∀ r q, q < 399 → r ≠ 1 + k → ybk (fn_153 g (Int32.ofNat k)).2 r q = ybk g r q) ∧ (fn_153 g (Int32.ofNat k)).2 542 k = 1 ∧ (∀ j, j ≠ k → (fn_153 g (Int32.ofNat k)).2 542 j = g 542 j) ∧ (fn_153 g (Int32.ofNat k)).2 540 1 = g 540 1 := by
  have ek : (Int32.ofNat k).toInt = k := zz_ofN (by omega)
  unfold fn_153
  rw [if_pos (ti_154n.mpr ⟨by rw [ek, show (0 : Int32).toInt = 0 from rfl]; omega, by rw [ek, show (1 : Int32).toInt = 1 from rfl]; omega⟩), show (1 : Int32) + Int32.ofNat k = Int32.ofNat (1 + k) from i_add 1 k]
  dsimp only
  have cpy := dm_row (g := g) (f := 0) (t := 1 + k) (by omega) (by omega) (by omega)
  rw [show (Int32.ofNat 0 : Int32) = 0 from rfl] at cpy
  rw [zz_toN (by omega)]
  generalize fn_152 g 0 (Int32.ofNat (1 + k)) = g2 at cpy ⊢
  obtain ⟨k1, k2⟩ := cpy
  refine ⟨rfl, fun q hq => ?_, fun r q hq hr => ?_, ?_, fun j hj => ?_, ?_⟩
  · show zz_w g2 542 k (vp_nar .boolean 1) 541 (399 * (1 + k) + q) = g 541 (399 * 0 + q)
    rw [aa_w_ne _ _ (by omega), k1 q hq]
  · show zz_w g2 542 k (vp_nar .boolean 1) 541 (399 * r + q) = g 541 (399 * r + q)
    rw [aa_w_ne _ _ (by omega), k2 541 _ (by omega)]
  · rw [aa_w_at]
    decide
  · rw [aa_w_ne _ _ (by omega), k2 542 j (by omega)]
  · rw [aa_w_ne _ _ (by omega), k2 540 1 (by omega)]
theorem ym_restore {g : aa_G} {k c : Nat} (hk : k < 2) (hc : g 540 1 = Int32.ofNat c) (h12 : c ≤ 12) : (g 542 k = 0 → fn_155 g (Int32.ofNat k) = (0, g)) ∧ (g 542 k ≠ 0 → (fn_155 g (Int32.ofNat k)).1 = 1 ∧ (fn_155 g (Int32.ofNat k)).2 540 1 = (fn_156 g) 540 1 ∧ (∀ q, q < 399 → ybk (fn_155 g (Int32.ofNat k)).2 0 q = ybk (fn_156 g) (1 + k) q) ∧ (∀ r q, q < 399 → r ≠ 0 → ybk (fn_155 g (Int32.ofNat k)).2 r q = ybk (fn_156 g) r q) ∧ ∀ j, (fn_155 g (Int32.ofNat k)).2 542 j = g 542 j) := by
  have ek : (Int32.ofNat k).toInt = k := zz_ofN (by omega)
  unfold fn_155
  rw [if_neg (ti_154n.mpr ⟨by rw [ek, show (0 : Int32).toInt = 0 from rfl]; omega, by rw [ek, show (1 : Int32).toInt = 1 from rfl]; omega⟩), zz_toN (by omega)]
  refine ⟨fun z => by rw [if_neg (fun q => q z)], fun z => ?_⟩
  rw [if_pos z]
  unfold fn_155_24
  dsimp only
  obtain ⟨-, -, -, m4⟩ := dm_deed hc h12
  rw [show (1 : Int32) + Int32.ofNat k = Int32.ofNat (1 + k) from i_add 1 k]
  have cpy := dm_row (g := fn_156 g) (f := 1 + k) (t := 0) (by omega) (by omega) (by omega)
  rw [show (Int32.ofNat 0 : Int32) = 0 from rfl] at cpy
  generalize fn_152 (fn_156 g) (Int32.ofNat (1 + k)) 0 = g2 at cpy ⊢
  obtain ⟨k1, k2⟩ := cpy
  refine ⟨rfl, k2 540 1 (by omega), fun q hq => k1 q hq, fun r q hq hr => k2 541 _ (by omega), fun j => ?_⟩
  rw [k2 542 j (by omega), m4 542 j (by omega) (by omega)]
theorem ti_192N {g : aa_G} (hi : aa_inv g) {a : Int32} : fn_192 g a = 0 ↔ ¬ (0 ≤ a.toInt ∧ a.toInt < (g 541 0).toInt) := by
  have h0 := iv_n hi (r := 0)
  rw [show 399 * 0 = 0 from rfl] at h0
  unfold fn_192
  rw [ti_154z, show (0 : Int32).toInt = 0 from rfl, show (0 : Int32).toNatClampNeg = 0 from rfl, aa_sub32 (by rw [show (1 : Int32).toInt = 1 from rfl]; omega) (by rw [show (1 : Int32).toInt = 1 from rfl]; omega), show (1 : Int32).toInt = 1 from rfl]
  constructor <;> (intro h h2; exact h (by omega))
theorem ym_offset {g : aa_G} (hi : aa_inv g) {c : Nat} (hc : g 540 1 = Int32.ofNat c) (h12 : c ≤ 12) {t : Nat} (ht : t < 4) (n : Int32) : (¬ ((t : Int) < (g 541 0).toInt ∧ (-43200 ≤ n.toInt ∧ n.toInt ≤ 43200)) → fn_254 g (Int32.ofNat t) n = (-1000000, g)) ∧ ((t : Int) < (g 541 0).toInt ∧ (-43200 ≤ n.toInt ∧ n.toInt ≤ 43200) → (fn_254 g (Int32.ofNat t) n).1 = g 541 (50 * t + 3) ∧ (fn_254 g (Int32.ofNat t) n).2 = zz_w (fn_156 g) 541 (50 * t + 3) n) := by
  have et : (Int32.ofNat t).toInt = t := zz_ofN (by omega)
  obtain ⟨-, -, -, m4⟩ := dm_deed hc h12
  unfold fn_254
  refine ⟨fun z => ?_, fun z => ?_⟩
  · by_cases h1 : fn_192 g (Int32.ofNat t) = 0
    · rw [if_pos h1]
    · rw [if_neg h1, if_pos]
      refine ti_154z.mpr fun q => z ⟨?_, q⟩
      have := mt (ti_192N hi).mpr h1
      rw [et] at this
      omega
  · rw [if_neg (fun q => (ti_192N hi).mp q (by rw [et]; omega)), if_neg ((ti_154n (a := n) (b := -43200) (c := 43200)).mpr z.2)]
    unfold fn_255 fn_255_4
    rw [ml_ta, zz_toN (by omega)]
    exact ⟨m4 541 _ (by omega) (by omega), rfl⟩
theorem ym_parts {g : aa_G} {c : Nat} (hc : g 540 1 = Int32.ofNat c) (h12 : c ≤ 12) (n : Int32) : (¬ (1 ≤ n.toInt ∧ n.toInt ≤ 3600) → fn_256 g n = (-1, g)) ∧ (1 ≤ n.toInt ∧ n.toInt ≤ 3600 → (fn_256 g n).1 = g 541 1 ∧ (fn_256 g n).2 = zz_w (fn_156 g) 541 1 n) := by
  obtain ⟨-, -, -, m4⟩ := dm_deed hc h12
  unfold fn_256
  refine ⟨fun z => by rw [if_pos ((ti_154z (a := n) (b := 1) (c := 3600)).mpr z)], fun z => ?_⟩
  rw [if_neg ((ti_154n (a := n) (b := 1) (c := 3600)).mpr z)]
  unfold fn_255 fn_255_4
  exact ⟨m4 541 1 (by omega) (by omega), rfl⟩
