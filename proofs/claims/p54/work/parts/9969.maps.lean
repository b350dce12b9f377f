/-! A TOWN'S POINTS BY THEIR DAYS: what set and remove change -/
def yM (T : Nat → Nat → Int) (c : Nat) (y : Int) (l : List Int32) : Prop := ∃ i, i < c ∧ T 1 i = y ∧ tw_row T i = l
theorem tw_row_eq {T T' : Nat → Nat → Int} {i j : Nat} (h : ∀ o, 1 ≤ o → o ≤ 4 → T' o j = T o i) : tw_row T' j = tw_row T i := by
  unfold tw_row
  rw [h 4 (by omega) (by omega), h 2 (by omega) (by omega), h 3 (by omega) (by omega)]
theorem tw_lt {T : Nat → Nat → Int} {c : Nat} (ok : tw_ok T c) {i j : Nat} (h : i < j) (hj : j < c) : T 1 i < T 1 j := by
  have := tw_mono ok.2.2.1 (j - i) i (by omega)
  rw [show i + (j - i) = j by omega] at this
  omega
/-- a point in another's place -/
theorem yM_put {T T' : Nat → Nat → Int} {c i : Nat} {d : Int} {l0 : List Int32} (ok : tw_ok T c) (hi : i < c) (hd : T 1 i = d) (e1 : ∀ o j, 1 ≤ o → o ≤ 4 → j < c → j ≠ i → T' o j = T o j) (e2 : T' 1 i = d) (e3 : tw_row T' i = l0) (y : Int) (l : List Int32) : yM T' c y l ↔ (y = d ∧ l = l0) ∨ (y ≠ d ∧ yM T c y l) := by
  constructor
  · rintro ⟨j, hj, ej, el⟩
    by_cases hji : j = i
    · subst hji
      exact Or.inl ⟨by rw [← ej, e2], by rw [← el, e3]⟩
    · rw [e1 1 j (by omega) (by omega) hj hji] at ej
      rw [tw_row_eq fun o o1 o2 => e1 o j o1 o2 hj hji] at el
      refine Or.inr ⟨fun e => ?_, j, hj, ej, el⟩
      rcases Nat.lt_trichotomy j i with z | z | z
      · have := tw_lt ok z hi
        omega
      · exact hji z
      · have := tw_lt ok z hj
        omega
  · rintro (⟨rfl, rfl⟩ | ⟨hne, j, hj, ej, el⟩)
    · exact ⟨i, hi, e2, e3⟩
    · have hji : j ≠ i := fun e => by
        subst e
        omega
      exact ⟨j, hj, by rw [e1 1 j (by omega) (by omega) hj hji]; exact ej, by rw [tw_row_eq fun o o1 o2 => e1 o j o1 o2 hj hji]; exact el⟩
/-- a point more -/
theorem yM_ins {T T' : Nat → Nat → Int} {c i : Nat} {d : Int} {l0 : List Int32} (ok : tw_ok T c) (hi : i ≤ c) (lo : ∀ j, j < i → T 1 j < d) (hi2 : i < c → d < T 1 i) (e1 : ∀ o j, 1 ≤ o → o ≤ 4 → j < i → T' o j = T o j) (e2 : ∀ o j, 1 ≤ o → o ≤ 4 → i < j → j ≤ c → T' o j = T o (j - 1)) (e3 : T' 1 i = d) (e4 : tw_row T' i = l0) (y : Int) (l : List Int32) : yM T' (c + 1) y l ↔ (y = d ∧ l = l0) ∨ (y ≠ d ∧ yM T c y l) := by
  have hno : ∀ j, j < c → T 1 j ≠ d := fun j hj e => by
    rcases Nat.lt_or_ge j i with z | z
    · have := lo j z
      omega
    · rcases Nat.eq_or_lt_of_le z with q | q
      · have := hi2 (by omega)
        rw [q] at this
        omega
      · have := tw_lt ok q hj
        have := hi2 (by omega)
        omega
  constructor
  · rintro ⟨j, hj, ej, el⟩
    rcases Nat.lt_trichotomy j i with z | z | z
    · rw [e1 1 j (by omega) (by omega) z] at ej
      rw [tw_row_eq fun o o1 o2 => e1 o j o1 o2 z] at el
      exact Or.inr ⟨fun e => hno j (by omega) (by omega), j, by omega, ej, el⟩
    · subst z
      exact Or.inl ⟨by rw [← ej, e3], by rw [← el, e4]⟩
    · rw [e2 1 j (by omega) (by omega) z (by omega)] at ej
      rw [tw_row_eq fun o o1 o2 => e2 o j o1 o2 z (by omega)] at el
      exact Or.inr ⟨fun e => hno (j - 1) (by omega) (by omega), j - 1, by omega, ej, el⟩
  · rintro (⟨rfl, rfl⟩ | ⟨hne, j, hj, ej, el⟩)
    · exact ⟨i, by omega, e3, e4⟩
    · by_cases hji : j < i
      · exact ⟨j, by omega, by rw [e1 1 j (by omega) (by omega) hji]; exact ej, by rw [tw_row_eq fun o o1 o2 => e1 o j o1 o2 hji]; exact el⟩
      · refine ⟨j + 1, by omega, ?_, ?_⟩
        · rw [e2 1 (j + 1) (by omega) (by omega) (by omega) (by omega), show j + 1 - 1 = j by omega]
          exact ej
        · rw [tw_row_eq (i := j) fun o o1 o2 => by rw [e2 o (j + 1) o1 o2 (by omega) (by omega), show j + 1 - 1 = j by omega]]
          exact el
/-- a point less -/
theorem yM_del {T T' : Nat → Nat → Int} {c i : Nat} {d : Int} (ok : tw_ok T c) (hi : i < c) (hd : T 1 i = d) (e1 : ∀ o j, 1 ≤ o → o ≤ 4 → j < i → T' o j = T o j) (e2 : ∀ o j, 1 ≤ o → o ≤ 4 → i ≤ j → j < c - 1 → T' o j = T o (j + 1)) (y : Int) (l : List Int32) : yM T' (c - 1) y l ↔ y ≠ d ∧ yM T c y l := by
  constructor
  · rintro ⟨j, hj, ej, el⟩
    by_cases hji : j < i
    · rw [e1 1 j (by omega) (by omega) hji] at ej
      rw [tw_row_eq fun o o1 o2 => e1 o j o1 o2 hji] at el
      refine ⟨fun e => ?_, j, by omega, ej, el⟩
      have := tw_lt ok hji hi
      omega
    · rw [e2 1 j (by omega) (by omega) (by omega) hj] at ej
      rw [tw_row_eq fun o o1 o2 => e2 o j o1 o2 (by omega) hj] at el
      refine ⟨fun e => ?_, j + 1, by omega, ej, el⟩
      have := tw_lt ok (i := i) (j := j + 1) (by omega) (by omega)
      omega
  · rintro ⟨hne, j, hj, ej, el⟩
    have hji : j ≠ i := fun e => by
      subst e
      omega
    by_cases hlt : j < i
    · exact ⟨j, by omega, by rw [e1 1 j (by omega) (by omega) hlt]; exact ej, by rw [tw_row_eq fun o o1 o2 => e1 o j o1 o2 hlt]; exact el⟩
    · refine ⟨j - 1, by omega, ?_, ?_⟩
      · rw [e2 1 (j - 1) (by omega) (by omega) (by omega) (by omega), show j - 1 + 1 = j by omega]
        exact ej
      · rw [tw_row_eq (i := j) fun o o1 o2 => by rw [e2 o (j - 1) o1 o2 (by omega) (by omega), show j - 1 + 1 = j by omega]]
        exact el
/-- the table of a town, told by days -/
theorem yPT_of {own : yOwn} {h : zz_H} {q : Nat} {T : Nat → Nat → Int} {c : Nat} {rs : List (Option Nat)} (r1 : yR h q 5 rs) (r2 : rs.length = 360) (r3 : ∀ y : Nat, y < 360 → (∀ l, yM T c y l → ∃ k, rs[y]? = some (some k) ∧ own k = 0 ∧ yP h k l) ∧ ((∀ l, ¬ yM T c y l) → rs[y]? = some none)) : yPT own h q T c := by
  refine ⟨rs, r1, r2, fun y hy => ⟨fun i hi e => (r3 y hy).1 _ ⟨i, hi, e, rfl⟩, fun hn => (r3 y hy).2 fun l ⟨i, hi, e, _⟩ => hn i hi e⟩⟩
theorem yPT_to {own : yOwn} {h : zz_H} {q : Nat} {T : Nat → Nat → Int} {c : Nat} (o : yPT own h q T c) : ∃ rs, yR h q 5 rs ∧ rs.length = 360 ∧ ∀ y : Nat, y < 360 → (∀ l, yM T c y l → ∃ k, rs[y]? = some (some k) ∧ own k = 0 ∧ yP h k l) ∧ ((∀ l, ¬ yM T c y l) → rs[y]? = some none) := by
  obtain ⟨rs, r1, r2, r3⟩ := o
  refine ⟨rs, r1, r2, fun y hy => ⟨fun l hm => ?_, fun hn => (r3 y hy).2 fun i hi e => hn _ ⟨i, hi, e, rfl⟩⟩⟩
  obtain ⟨i, hi, e, rfl⟩ := hm
  exact (r3 y hy).1 i hi e
/-- a row laid into the table at day d -/
theorem yPT_set {own : yOwn} {h h' : zz_H} {q k d : Nat} {T T' : Nat → Nat → Int} {c c' : Nat} {l0 : List Int32} (o : yPT own h q T c) (hd : d < 360) (hm : ∀ (y : Int) (l : List Int32), yM T' c' y l ↔ (y = d ∧ l = l0) ∨ (y ≠ d ∧ yM T c y l)) (hk : own k = 0) (pk : yP h' k l0) (x : yx (fun a => a = q) 0 0 h h') (hq : own q ≠ 0) (r' : ∀ rs, yR h q 5 rs → yR h' q 5 (rs.set d (some k))) : yPT own h' q T' c' := by
  obtain ⟨rs, r1, r2, r3⟩ := yPT_to o
  refine yPT_of (r' rs r1) (by rw [List.length_set]; exact r2) fun y hy => ⟨fun l hl => ?_, fun hn => ?_⟩
  · rw [List.getElem?_set]
    rcases (hm y l).mp hl with ⟨e, rfl⟩ | ⟨e, hl2⟩
    · rw [if_pos (by omega), if_pos (by omega)]
      exact ⟨k, rfl, hk, pk⟩
    · rw [if_neg (by omega)]
      obtain ⟨k2, k21, k22, k23⟩ := (r3 y hy).1 l hl2
      exact ⟨k2, k21, k22, k23.x x fun e => hq (e ▸ k22)⟩
  · have hne : (y : Int) ≠ d := fun e => hn l0 ((hm y l0).mpr (Or.inl ⟨e, rfl⟩))
    rw [List.getElem?_set, if_neg (by omega)]
    exact (r3 y hy).2 fun l hl => hn l ((hm y l).mpr (Or.inr ⟨hne, hl⟩))
/-- a day's row taken out -/
theorem yPT_del {own : yOwn} {h h' : zz_H} {q d : Nat} {T T' : Nat → Nat → Int} {c c' : Nat} (o : yPT own h q T c) (hd : d < 360) (hm : ∀ (y : Int) (l : List Int32), yM T' c' y l ↔ y ≠ d ∧ yM T c y l) (x : yx (fun a => a = q) 0 0 h h') (hq : own q ≠ 0) (r' : ∀ rs, yR h q 5 rs → yR h' q 5 (rs.set d none)) : yPT own h' q T' c' := by
  obtain ⟨rs, r1, r2, r3⟩ := yPT_to o
  refine yPT_of (r' rs r1) (by rw [List.length_set]; exact r2) fun y hy => ⟨fun l hl => ?_, fun hn => ?_⟩
  · obtain ⟨e, hl2⟩ := (hm y l).mp hl
    rw [List.getElem?_set, if_neg (by omega)]
    obtain ⟨k2, k21, k22, k23⟩ := (r3 y hy).1 l hl2
    exact ⟨k2, k21, k22, k23.x x fun e => hq (e ▸ k22)⟩
  · rw [List.getElem?_set]
    by_cases e : d = y
    · rw [if_pos e, if_pos (by omega)]
    · rw [if_neg e]
      exact (r3 y hy).2 fun l hl => hn l ((hm y l).mpr ⟨by omega, hl⟩)
