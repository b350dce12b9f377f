/-! THE LAW ASKS OF TWO TOWNS (300): meet, from the last day back -/
/-- ascending, as the model takes it; descending, as the law does -/
def mt_a (V : Nat → Option (Int × Int)) : Nat → Int × Int
  | 0 => (-1000000, 0)
  | n + 1 => match V n with
    | none => mt_a V n
    | some p => if (mt_a V n).1 = -1000000 ∨ p.1 < (mt_a V n).1 then p else mt_a V n
def mt_s (V : Nat → Option (Int × Int)) (n : Nat) (s : Int × Int) : Int × Int := match V n with
  | none => s
  | some p => if s.1 ≠ -1000000 ∧ s.1 < p.1 then s else p
def mt_d (V : Nat → Option (Int × Int)) : Nat → Int × Int → Int × Int
  | 0, s => s
  | n + 1, s => mt_d V n (mt_s V n s)
theorem mt_a_n {V : Nat → Option (Int × Int)} {n : Nat} (e : V n = none) : mt_a V (n + 1) = mt_a V n := by
  show (match V n with | none => mt_a V n | some p => if (mt_a V n).1 = -1000000 ∨ p.1 < (mt_a V n).1 then p else mt_a V n) = _
  rw [e]
theorem mt_a_s {V : Nat → Option (Int × Int)} {n : Nat} {p : Int × Int} (e : V n = some p) : mt_a V (n + 1) = if (mt_a V n).1 = -1000000 ∨ p.1 < (mt_a V n).1 then p else mt_a V n := by
  show (match V n with | none => mt_a V n | some p => if (mt_a V n).1 = -1000000 ∨ p.1 < (mt_a V n).1 then p else mt_a V n) = _
  rw [e]
theorem mt_da {V : Nat → Option (Int × Int)} (hV : ∀ n p, V n = some p → p.1 ≠ -1000000) : ∀ (n : Nat) (s : Int × Int), mt_d V n s = if (mt_a V n).1 = -1000000 then s else if s.1 = -1000000 ∨ (mt_a V n).1 ≤ s.1 then mt_a V n else s
  | 0, s => (if_pos rfl).symm
  | n + 1, s => by
    show mt_d V n (mt_s V n s) = _
    rw [mt_da hV n]
    cases e : V n with
    | none =>
      have e1 : mt_s V n s = s := by
        unfold mt_s
        rw [e]
      rw [e1, mt_a_n e]
    | some p =>
      have hp := hV n p e
      have e1 : mt_s V n s = if s.1 ≠ -1000000 ∧ s.1 < p.1 then s else p := by
        unfold mt_s
        rw [e]
      rw [e1, mt_a_s e]
      generalize mt_a V n = r
      by_cases c1 : s.1 ≠ -1000000 ∧ s.1 < p.1
      · rw [if_pos c1]
        by_cases c2 : r.1 = -1000000 ∨ p.1 < r.1
        · rw [if_pos c2]
          (repeat' split) <;> first | rfl | (exfalso; omega)
        · rw [if_neg c2]
      · rw [if_neg c1]
        by_cases c2 : r.1 = -1000000 ∨ p.1 < r.1
        · rw [if_pos c2]
          (repeat' split) <;> first | rfl | (exfalso; omega)
        · rw [if_neg c2]
          (repeat' split) <;> first | rfl | (exfalso; omega)
theorem mt_a_sh {V : Nat → Option (Int × Int)} (h0 : V 0 = none) : ∀ n, mt_a V (n + 1) = mt_a (fun j => V (j + 1)) n
  | 0 => mt_a_n h0
  | n + 1 => by
    have ih := mt_a_sh h0 n
    cases e : V (n + 1) with
    | none => rw [mt_a_n e, ih, mt_a_n (V := fun j => V (j + 1)) e]
    | some p => rw [mt_a_s e, ih, mt_a_s (V := fun j => V (j + 1)) e]
theorem fd_i_s {σ : Type} {F : Nat → σ → σ} : ∀ (k i : Nat) (s : σ), fd_i F i (k + 1) s = F (i + k) (fd_i F i k s)
  | 0, i, s => rfl
  | k + 1, i, s => by
    show fd_i F (i + 1) (k + 1) (F i s) = _
    rw [fd_i_s k (i + 1) (F i s), show i + 1 + k = i + (k + 1) by omega]
    rfl
/-- what a day of the other town's gives -/
noncomputable def me_V (a : Nat → Int32) (t t2 : Nat) (day A0 A1 f x d : Int) : Option (Int × Int) := match hv_t a t2 d f with
  | none => none
  | some (u, l) => if (if A1 ≤ u + s_h (x + 1) l + y_by a t t2 day d then A1 else u + s_h (x + 1) l + y_by a t t2 day d) ≤ (if u + s_h x l + y_by a t t2 day d ≤ A0 then A0 else u + s_h x l + y_by a t t2 day d) then none else some ((if u + s_h x l + y_by a t t2 day d ≤ A0 then A0 else u + s_h x l + y_by a t t2 day d), (if A1 ≤ u + s_h (x + 1) l + y_by a t t2 day d then A1 else u + s_h (x + 1) l + y_by a t t2 day d) - (if u + s_h x l + y_by a t t2 day d ≤ A0 then A0 else u + s_h x l + y_by a t t2 day d))
section YDM
variable {a : Nat → Int32} {t t2 : Nat} {day A0 A1 f x d : Int}
theorem me_f_V {j : Nat} {s : Int × Int} : me_f a t t2 day A0 A1 f x j s = match me_V a t t2 day A0 A1 f x (day - 4 + j) with
    | none => s
    | some p => if s.1 = -1000000 ∨ p.1 < s.1 then p else s := by
  unfold me_f me_V
  cases e : hv_t a t2 (day - 4 + j) f with
  | none => rfl
  | some p =>
    obtain ⟨u, l⟩ := p
    dsimp only
    unfold me_v
    generalize (if u + s_h x l + y_by a t t2 day (day - 4 + j) ≤ A0 then A0 else u + s_h x l + y_by a t t2 day (day - 4 + j)) = lo
    generalize (if A1 ≤ u + s_h (x + 1) l + y_by a t t2 day (day - 4 + j) then A1 else u + s_h (x + 1) l + y_by a t t2 day (day - 4 + j)) = hi
    by_cases c : hi ≤ lo
    · rw [if_pos c, if_pos c]
    · rw [if_neg c, if_neg c]
theorem me_a : ∀ n, fd_i (me_f a t t2 day A0 A1 f x) 0 n (-1000000, 0) = mt_a (fun j => me_V a t t2 day A0 A1 f x (day - 4 + j)) n
  | 0 => rfl
  | n + 1 => by
    rw [fd_i_s, me_a n, Nat.zero_add, me_f_V]
    cases e : me_V a t t2 day A0 A1 f x (day - 4 + n) with
    | none => rw [mt_a_n (V := fun j => me_V a t t2 day A0 A1 f x (day - 4 + j)) e]
    | some p => rw [mt_a_s (V := fun j => me_V a t t2 day A0 A1 f x (day - 4 + j)) e]
theorem me_V_lo (hA : 0 ≤ A0) {p : Int × Int} (e : me_V a t t2 day A0 A1 f x d = some p) : 0 ≤ p.1 := by
  unfold me_V at e
  cases e1 : hv_t a t2 d f with
  | none =>
    rw [e1] at e
    exact nomatch e
  | some q =>
    obtain ⟨u, l⟩ := q
    rw [e1] at e
    dsimp only at e
    have hlo : 0 ≤ (if u + s_h x l + y_by a t t2 day d ≤ A0 then A0 else u + s_h x l + y_by a t t2 day d) := by split <;> omega
    generalize (if u + s_h x l + y_by a t t2 day d ≤ A0 then A0 else u + s_h x l + y_by a t t2 day d) = lo at e hlo
    generalize (if A1 ≤ u + s_h (x + 1) l + y_by a t t2 day d then A1 else u + s_h (x + 1) l + y_by a t t2 day d) = hi at e
    by_cases c : hi ≤ lo
    · rw [if_pos c] at e
      exact nomatch e
    · rw [if_neg c] at e
      cases e
      exact hlo
theorem me_V_far (B : yWb a) (ht : (t : Int) < (a 0).toInt) (ht2 : (t2 : Int) < (a 0).toInt) (hA : 0 ≤ A0 ∧ A0 ≤ 200000) (hA1 : 0 ≤ A1 ∧ A1 ≤ 200000) (hx : 0 ≤ x ∧ x ≤ 11) (hd : d = day - 5 ∨ d = day + 5) : me_V a t t2 day A0 A1 f x d = none := by
  have o1 := (B.2.2 t ht).1
  have o2 := (B.2.2 t2 ht2).1
  unfold me_V
  cases e1 : hv_t a t2 d f with
  | none => rfl
  | some q =>
    obtain ⟨u, l⟩ := q
    have hl := hv_bnd2 B ht2 e1
    have k1 := s_h_b (x := x) (l := l) (by omega) (by omega)
    have k2 := s_h_b (x := x + 1) (l := l) (by omega) (by omega)
    have eb : y_by a t t2 day d = 86400 * (d - day) - (a (50 * t2 + 3)).toInt + (a (50 * t + 3)).toInt := rfl
    dsimp only
    rw [if_pos]
    split <;> split <;> omega
/-- the law's way back, the model's way on -/
theorem me_back (B : yWb a) (ht : (t : Int) < (a 0).toInt) (ht2 : (t2 : Int) < (a 0).toInt) (hA : 0 ≤ A0 ∧ A0 ≤ 200000) (hA1 : 0 ≤ A1 ∧ A1 ≤ 200000) (hx : 0 ≤ x ∧ x ≤ 11) : mt_d (fun j => me_V a t t2 day A0 A1 f x (day - 5 + j)) 11 (-1000000, -1000000) = ((fd_i (me_f a t t2 day A0 A1 f x) 0 9 (-1000000, 0)).1, if (fd_i (me_f a t t2 day A0 A1 f x) 0 9 (-1000000, 0)).1 = -1000000 then -1000000 else (fd_i (me_f a t t2 day A0 A1 f x) 0 9 (-1000000, 0)).2) := by
  have z0 : (fun j : Nat => me_V a t t2 day A0 A1 f x (day - 5 + j)) 0 = none := me_V_far B ht ht2 hA hA1 hx (Or.inl (by omega))
  have z10 : (fun j : Nat => me_V a t t2 day A0 A1 f x (day - 5 + j)) 10 = none := me_V_far B ht ht2 hA hA1 hx (Or.inr (by omega))
  have ev : (fun j : Nat => me_V a t t2 day A0 A1 f x (day - 5 + ((j + 1 : Nat) : Int))) = fun j : Nat => me_V a t t2 day A0 A1 f x (day - 4 + j) := funext fun j => by rw [show day - 5 + ((j + 1 : Nat) : Int) = day - 4 + j by omega]
  have e9 : mt_a (fun j => me_V a t t2 day A0 A1 f x (day - 5 + j)) 11 = fd_i (me_f a t t2 day A0 A1 f x) 0 9 (-1000000, 0) := by
    rw [mt_a_n (V := fun j : Nat => me_V a t t2 day A0 A1 f x (day - 5 + j)) (n := 10) z10, mt_a_sh (V := fun j : Nat => me_V a t t2 day A0 A1 f x (day - 5 + j)) z0 9, me_a 9]
    exact congrArg (fun V => mt_a V 9) ev
  rw [mt_da (V := fun j : Nat => me_V a t t2 day A0 A1 f x (day - 5 + j)) (fun n p e => by have := me_V_lo hA.1 e; omega), e9]
  generalize fd_i (me_f a t t2 day A0 A1 f x) 0 9 (-1000000, 0) = r
  by_cases c : r.1 = -1000000
  · rw [if_pos c, if_pos c, c]
  · rw [if_neg c, if_neg c, if_pos (Or.inl rfl)]
end YDM
