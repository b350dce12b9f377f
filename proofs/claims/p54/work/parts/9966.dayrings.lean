/-! W: all rings of a day, in their order (printed by wip/p54/w7.py) -/
def y_ins (x : Int × Int) : List (Int × Int) → List (Int × Int)
  | [] => [x]
  | y :: r => if y.1 ≤ x.1 then y :: y_ins x r else x :: y :: r
def y_srt (G : List (Int × Int)) : List (Int × Int) := G.foldl (fun L x => y_ins x L) []
def y_sd (L : List (Int × Int)) : Prop := L.Pairwise fun a b => a.1 ≤ b.1
theorem y_ins_mem {x z : Int × Int} : ∀ {L : List (Int × Int)}, z ∈ y_ins x L → z = x ∨ z ∈ L
  | [], h => Or.inl (List.mem_singleton.mp h)
  | y :: r, h => by
    unfold y_ins at h
    split at h
    · rcases List.mem_cons.mp h with e | e
      · exact Or.inr (e ▸ List.mem_cons_self ..)
      · rcases y_ins_mem e with e | e
        · exact Or.inl e
        · exact Or.inr (List.mem_cons_of_mem _ e)
    · rcases List.mem_cons.mp h with e | e
      · exact Or.inl e
      · exact Or.inr e
theorem y_ins_sd {x : Int × Int} : ∀ {L : List (Int × Int)}, y_sd L → y_sd (y_ins x L)
  | [], _ => List.pairwise_singleton _ _
  | y :: r, h => by
    obtain ⟨h1, h2⟩ := List.pairwise_cons.mp h
    unfold y_ins
    by_cases c : y.1 ≤ x.1
    · rw [if_pos c]
      refine List.pairwise_cons.mpr ⟨fun z hz => ?_, y_ins_sd h2⟩
      rcases y_ins_mem hz with e | e
      · rw [e]
        exact c
      · exact h1 z e
    · rw [if_neg c]
      refine List.pairwise_cons.mpr ⟨fun z hz => ?_, h⟩
      rcases List.mem_cons.mp hz with e | e
      · rw [e]
        omega
      · have := h1 z e
        omega
theorem y_srt_app (G : List (Int × Int)) (x : Int × Int) : y_srt (G ++ [x]) = y_ins x (y_srt G) := by
  unfold y_srt
  rw [List.foldl_append]
  rfl
theorem y_ins_len (x : Int × Int) : ∀ L : List (Int × Int), (y_ins x L).length = L.length + 1
  | [] => rfl
  | y :: r => by
    unfold y_ins
    split
    · rw [List.length_cons, y_ins_len x r, List.length_cons]
    · rfl
theorem y_ins_old {x y : Int × Int} : ∀ {L : List (Int × Int)} {p : Nat}, y_sd L → L[p]? = some y → (y_ins x L)[if x.1 < y.1 then p + 1 else p]? = some y
  | [], p, _, e => by cases e
  | z :: r, p, h, e => by
    obtain ⟨h1, h2⟩ := List.pairwise_cons.mp h
    unfold y_ins
    by_cases c : z.1 ≤ x.1
    · rw [if_pos c]
      cases p with
      | zero =>
        cases e
        rw [if_neg (by omega)]
        rfl
      | succ p =>
        have IH := y_ins_old (x := x) h2 (show r[p]? = some y from e)
        by_cases d : x.1 < y.1
        · rw [if_pos d] at IH ⊢
          exact IH
        · rw [if_neg d] at IH ⊢
          exact IH
    · rw [if_neg c]
      have hy : z.1 ≤ y.1 := by
        cases p with
        | zero =>
          cases e
          exact Int.le_refl _
        | succ p => exact h1 y (List.mem_of_getElem? (show r[p]? = some y from e))
      rw [if_pos (by omega)]
      exact e
def y_le (s : Int) (x : Int × Int) : Bool := decide (x.1 ≤ s)
def y_lts (s : Int) (x : Int × Int) : Bool := decide (x.1 < s)
theorem y_ins_new {x : Int × Int} : ∀ {L : List (Int × Int)}, y_sd L → (y_ins x L)[L.countP (y_le x.1)]? = some x
  | [], _ => rfl
  | y :: r, h => by
    obtain ⟨h1, h2⟩ := List.pairwise_cons.mp h
    unfold y_ins
    by_cases c : y.1 ≤ x.1
    · rw [if_pos c, List.countP_cons_of_pos (p := y_le x.1) (show y_le x.1 y = true from decide_eq_true c)]
      exact y_ins_new h2
    · rw [if_neg c, List.countP_eq_zero.mpr]
      · rfl
      · intro z hz e
        have e := of_decide_eq_true e
        rcases List.mem_cons.mp hz with q | q
        · rw [q] at e
          exact c e
        · have := h1 z q
          omega
theorem y_ins_cnt (f : Int × Int → Bool) (x : Int × Int) : ∀ L : List (Int × Int), (y_ins x L).countP f = (x :: L).countP f
  | [] => rfl
  | y :: r => by
    unfold y_ins
    split
    · rw [List.countP_cons, y_ins_cnt f x r, List.countP_cons, List.countP_cons, List.countP_cons]
      omega
    · rfl
theorem y_srt_all : ∀ (n : Nat) (G : List (Int × Int)), G.length = n → y_sd (y_srt G) ∧ (y_srt G).length = G.length ∧ ∀ f : Int × Int → Bool, (y_srt G).countP f = G.countP f
  | 0, G, h => by
    rw [List.eq_nil_of_length_eq_zero h]
    exact ⟨List.Pairwise.nil, rfl, fun _ => rfl⟩
  | n + 1, G, h => by
    obtain ⟨H, x, rfl⟩ : ∃ H x, G = H ++ [x] := by
      rcases List.eq_nil_or_concat G with e | ⟨H, x, e⟩
      · rw [e] at h
        cases h
      · exact ⟨H, x, by rw [e, List.concat_eq_append]⟩
    rw [List.length_append, List.length_singleton] at h
    obtain ⟨a1, a2, a3⟩ := y_srt_all n H (by omega)
    rw [y_srt_app]
    refine ⟨y_ins_sd a1, by rw [y_ins_len, a2, List.length_append]; rfl, fun f => ?_⟩
    rw [y_ins_cnt, List.countP_cons, a3 f, List.countP_append, List.countP_cons, List.countP_nil, Nat.zero_add]
/-- where the ring at a place of the gathered ones stands in the order -/
theorem y_srt_at (A : List (Int × Int)) (y : Int × Int) : ∀ (n : Nat) (B : List (Int × Int)), B.length = n → (y_srt (A ++ y :: B))[A.countP (y_le y.1) + B.countP (y_lts y.1)]? = some y
  | 0, B, h => by
    rw [List.eq_nil_of_length_eq_zero h, y_srt_app, List.countP_nil, Nat.add_zero]
    obtain ⟨a1, -, a3⟩ := y_srt_all A.length A rfl
    rw [← a3]
    exact y_ins_new a1
  | n + 1, B, h => by
    obtain ⟨H, x, rfl⟩ : ∃ H x, B = H ++ [x] := by
      rcases List.eq_nil_or_concat B with e | ⟨H, x, e⟩
      · rw [e] at h
        cases h
      · exact ⟨H, x, by rw [e, List.concat_eq_append]⟩
    rw [List.length_append, List.length_singleton] at h
    have IH := y_srt_at A y n H (by omega)
    have a1 := (y_srt_all _ (A ++ y :: H) rfl).1
    rw [show A ++ y :: (H ++ [x]) = (A ++ y :: H) ++ [x] by rw [List.append_assoc]; rfl, y_srt_app]
    have k := y_ins_old (x := x) a1 IH
    rw [List.countP_append, List.countP_cons, List.countP_nil, Nat.zero_add]
    by_cases d : x.1 < y.1
    · rw [if_pos d] at k
      rw [if_pos (show y_lts y.1 x = true from decide_eq_true d), ← Nat.add_assoc]
      exact k
    · rw [if_neg d] at k
      rw [if_neg (show ¬ y_lts y.1 x = true from fun z => d (of_decide_eq_true z)), Nat.add_zero]
      exact k
/-- as the law counts it, up to place j -/
def y_rkN (G : List (Int × Int)) (s : Int) (i : Nat) : Nat → Int
  | 0 => 0
  | j + 1 => y_rkN G s i j + (if (G.getD j (0, 0)).1 < s ∨ ((G.getD j (0, 0)).1 = s ∧ j < i) then 1 else 0)
theorem y_rk_lo (G : List (Int × Int)) (s : Int) (i : Nat) : ∀ j, j ≤ i → j ≤ G.length → y_rkN G s i j = ((G.take j).countP (y_le s) : Nat)
  | 0, _, _ => by rw [List.take_zero]; rfl
  | j + 1, h, h2 => by
    have hj : j < G.length := by omega
    rw [← List.take_append_getElem hj, List.countP_append, List.countP_cons, List.countP_nil, Nat.zero_add]
    unfold y_rkN
    rw [y_rk_lo G s i j (by omega) (by omega), List.getD_eq_getElem?_getD, List.getElem?_eq_getElem hj, Option.getD_some]
    by_cases c : (G[j]).1 ≤ s
    · rw [if_pos (by omega), if_pos (show y_le s G[j] = true from decide_eq_true c)]
      omega
    · rw [if_neg (by omega), if_neg (show ¬ y_le s G[j] = true from fun z => c (of_decide_eq_true z))]
      omega
theorem y_rk_hi (G : List (Int × Int)) {x : Int × Int} {i : Nat} (e : G[i]? = some x) : ∀ d, i + 1 + d ≤ G.length → y_rkN G x.1 i (i + 1 + d) = ((G.take i).countP (y_le x.1) + ((G.drop (i + 1)).take d).countP (y_lts x.1) : Nat)
  | 0, h => by
    have hi : i < G.length := by omega
    rw [List.take_zero, List.countP_nil, Nat.add_zero]
    show y_rkN G x.1 i i + _ = _
    rw [y_rk_lo G x.1 i i (Nat.le_refl _) (by omega), List.getD_eq_getElem?_getD, e, Option.getD_some, if_neg (by omega)]
    omega
  | d + 1, h => by
    have hj : i + 1 + d < G.length := by omega
    have hj2 : d < (G.drop (i + 1)).length := by rw [List.length_drop]; omega
    rw [← List.take_append_getElem hj2, List.countP_append, List.countP_cons, List.countP_nil, Nat.zero_add, List.getElem_drop]
    have e0 : y_rkN G x.1 i (i + 1 + (d + 1)) = y_rkN G x.1 i (i + 1 + d) + (if (G.getD (i + 1 + d) (0, 0)).1 < x.1 ∨ ((G.getD (i + 1 + d) (0, 0)).1 = x.1 ∧ i + 1 + d < i) then 1 else 0) := rfl
    rw [e0, y_rk_hi G e d (by omega), List.getD_eq_getElem?_getD, List.getElem?_eq_getElem hj, Option.getD_some]
    by_cases c : (G[i + 1 + d]).1 < x.1
    · rw [if_pos (Or.inl c), if_pos (show y_lts x.1 G[i + 1 + d] = true from decide_eq_true c)]
      omega
    · rw [if_neg (by omega), if_neg (show ¬ y_lts x.1 G[i + 1 + d] = true from fun z => c (of_decide_eq_true z))]
      omega
theorem y_rk_at (G : List (Int × Int)) {x : Int × Int} {i : Nat} (e : G[i]? = some x) : ∃ p : Nat, y_rkN G x.1 i G.length = p ∧ p < G.length ∧ (y_srt G)[p]? = some x := by
  have hi := (List.getElem?_eq_some_iff.mp e).1
  have k := y_rk_hi G e (G.length - (i + 1)) (by omega)
  rw [show i + 1 + (G.length - (i + 1)) = G.length by omega, show (G.drop (i + 1)).take (G.length - (i + 1)) = G.drop (i + 1) from List.take_of_length_le (by rw [List.length_drop]; omega)] at k
  have eG : G = G.take i ++ x :: G.drop (i + 1) := by
    have e2 : G[i] = x := by
      rw [List.getElem?_eq_getElem hi] at e
      exact Option.some.inj e
    rw [← e2, ← List.drop_eq_getElem_cons hi, List.take_append_drop]
  have q := y_srt_at (G.take i) x _ (G.drop (i + 1)) rfl
  rw [← eG] at q
  refine ⟨_, k, ?_, q⟩
  have := (List.getElem?_eq_some_iff.mp q).1
  rw [(y_srt_all _ G rfl).2.1] at this
  exact this
theorem y_rk_b (G : List (Int × Int)) (s : Int) (i : Nat) : ∀ j, 0 ≤ y_rkN G s i j ∧ y_rkN G s i j ≤ j
  | 0 => ⟨Int.le_refl _, Int.le_refl _⟩
  | j + 1 => by
    have := y_rk_b G s i j
    unfold y_rkN
    split <;> omega
theorem y_ins_of {x z : Int × Int} : ∀ {L : List (Int × Int)} {p : Nat}, y_sd L → (y_ins x L)[p]? = some z → (p = L.countP (y_le x.1) ∧ z = x) ∨ ∃ p', L[p']? = some z ∧ p = if x.1 < z.1 then p' + 1 else p'
  | [], 0, _, e => by
    cases e
    exact Or.inl ⟨rfl, rfl⟩
  | [], p + 1, _, e => by cases e
  | y :: r, p, h, e => by
    obtain ⟨h1, h2⟩ := List.pairwise_cons.mp h
    unfold y_ins at e
    by_cases c : y.1 ≤ x.1
    · rw [if_pos c] at e
      rw [List.countP_cons_of_pos (p := y_le x.1) (show y_le x.1 y = true from decide_eq_true c)]
      cases p with
      | zero =>
        cases e
        exact Or.inr ⟨0, rfl, by rw [if_neg (by omega)]⟩
      | succ p =>
        rcases y_ins_of (x := x) h2 (show (y_ins x r)[p]? = some z from e) with ⟨a, b⟩ | ⟨p', a, b⟩
        · exact Or.inl ⟨by omega, b⟩
        · refine Or.inr ⟨p' + 1, a, ?_⟩
          by_cases cc : x.1 < z.1
          · rw [if_pos cc] at b ⊢
            omega
          · rw [if_neg cc] at b ⊢
            omega
    · rw [if_neg c] at e
      have e0 : (y :: r).countP (y_le x.1) = 0 := List.countP_eq_zero.mpr fun q hq eq => by
        have eq := of_decide_eq_true eq
        rcases List.mem_cons.mp hq with k | k
        · rw [k] at eq
          exact c eq
        · have := h1 q k
          omega
      rw [e0]
      cases p with
      | zero =>
        cases e
        exact Or.inl ⟨rfl, rfl⟩
      | succ p =>
        have e : (y :: r)[p]? = some z := e
        have hz : y.1 ≤ z.1 := by
          rcases List.mem_cons.mp (List.mem_of_getElem? e) with k | k
          · rw [k]
            exact Int.le_refl _
          · exact h1 z k
        exact Or.inr ⟨p, e, by rw [if_pos (by omega)]⟩
theorem y_rkN_app (H : List (Int × Int)) (x : Int × Int) (s : Int) (i : Nat) : ∀ j, j ≤ H.length → y_rkN (H ++ [x]) s i j = y_rkN H s i j
  | 0, _ => rfl
  | j + 1, h => by
    unfold y_rkN
    rw [y_rkN_app H x s i j (by omega), List.getD_eq_getElem?_getD, List.getD_eq_getElem?_getD, List.getElem?_append_left (by omega)]
theorem y_srt_sur : ∀ (n : Nat) (G : List (Int × Int)), G.length = n → ∀ (p : Nat) (z : Int × Int), (y_srt G)[p]? = some z → ∃ i, G[i]? = some z ∧ y_rkN G z.1 i G.length = p
  | 0, G, h, p, z, e => by
    rw [List.eq_nil_of_length_eq_zero h] at e
    cases e
  | n + 1, G, h, p, z, e => by
    obtain ⟨H, x, rfl⟩ : ∃ H x, G = H ++ [x] := by
      rcases List.eq_nil_or_concat G with q | ⟨H, x, q⟩
      · rw [q] at h
        cases h
      · exact ⟨H, x, by rw [q, List.concat_eq_append]⟩
    rw [List.length_append, List.length_singleton] at h
    rw [y_srt_app] at e
    have a := y_srt_all n H (by omega)
    have el : (H ++ [x]).length = H.length + 1 := by rw [List.length_append]; rfl
    rw [el]
    unfold y_rkN
    have eg : (H ++ [x]).getD H.length (0, 0) = x := by
      rw [List.getD_eq_getElem?_getD, List.getElem?_append_right (Nat.le_refl _), Nat.sub_self]
      rfl
    rcases y_ins_of a.1 e with ⟨e1, e2⟩ | ⟨p', e1, e2⟩
    · subst e2
      refine ⟨H.length, by rw [List.getElem?_append_right (Nat.le_refl _), Nat.sub_self]; rfl, ?_⟩
      rw [eg, if_neg (by omega), y_rkN_app H z z.1 H.length H.length (Nat.le_refl _), y_rk_lo H z.1 H.length H.length (Nat.le_refl _) (Nat.le_refl _), List.take_length, e1, a.2.2]
      omega
    · obtain ⟨i, i1, i2⟩ := y_srt_sur n H (by omega) p' z e1
      have hi := (List.getElem?_eq_some_iff.mp i1).1
      refine ⟨i, by rw [List.getElem?_append_left hi]; exact i1, ?_⟩
      rw [eg, y_rkN_app H x z.1 i H.length (Nat.le_refl _), i2]
      by_cases c : x.1 < z.1
      · rw [if_pos c] at e2
        rw [if_pos (Or.inl c)]
        omega
      · rw [if_neg c] at e2
        rw [if_neg (by omega)]
        omega
/-- the rings of a day, as they are gathered: bell by bell, yesterday's night first -/
def y_gat (q : Int) (T : Nat → Nat → Int) (c : Nat) (t d : Int) : Int → List (yBell × List fl_T) → List (Int × Int)
  | _, [] => []
  | k, e :: r => ((if e.1.1 = 1 ∧ 86400 ≤ yRg q T c e.1 e.2 t (d - 1) then [(yRg q T c e.1 e.2 t (d - 1) - 86400, k)] else []) ++ (if 0 ≤ yRg q T c e.1 e.2 t d ∧ yRg q T c e.1 e.2 t d < 86400 then [(yRg q T c e.1 e.2 t d, k)] else [])) ++ y_gat q T c t d (k + 1) r
theorem y_gat_len (q : Int) (T : Nat → Nat → Int) (c : Nat) (t d : Int) : ∀ (r : List (yBell × List fl_T)) (k : Int), (y_gat q T c t d k r).length ≤ 2 * r.length
  | [], _ => Nat.le_refl _
  | e :: r, k => by
    have h1 := y_gat_len q T c t d r (k + 1)
    unfold y_gat
    rw [List.length_append, List.length_append, List.length_cons]
    split <;> split <;> simp only [List.length_cons, List.length_nil] <;> omega
theorem yRg_b {q : Int} {T : Nat → Nat → Int} {c : Nat} {B : yBell} {ts : List fl_T} {t d : Int} (ok : tw_ok T c) (hq : 1 ≤ q) (h0 : 0 ≤ B.2.1) (h1 : 0 ≤ B.2.2.1) : -1 ≤ yRg q T c B ts t d ∧ yRg q T c B ts t d ≤ 172798 := by
  unfold yRg
  cases e : tw_H T c d B.1 with
  | none => exact ⟨(by decide : (-1 : Int) ≤ -1), (by decide : (-1 : Int) ≤ 172798)⟩
  | some z =>
    obtain ⟨b, l⟩ := z
    dsimp only
    have bd := tw_H_b ok e
    have hn : 0 ≤ B.2.1 * q := Int.mul_nonneg h0 (by omega)
    have hk := yk_b (q := q) (n := B.2.1 * q + B.2.2.1) (l := l) hq bd.2.2.1 (by omega)
    have hbl : b + l ≤ 172798 := by
      by_cases g : B.1 = 1
      · exact (bd.2.2.2.2 g).2.2
      · have := bd.2.2.2.1 g
        omega
    repeat' split
    all_goals omega
section YW7
variable {X : yy_X} {own : yOwn} {h0 h : zz_H} {w o p b t all : Nat} {T : Nat → Nat → Int} {c : Nat} {q : Int}
/-- rings laid into a row -/
def yAl (h0 h : zz_H) (all : Nat) (m : Nat) (G : List (Int × Int)) : Prop := ∃ rs, yR h all 5 rs ∧ rs.length = m ∧ ∀ (i : Nat) (x : Int × Int), G[i]? = some x → ∃ r, rs[i]? = some (some r) ∧ (h0.1.1 < r ∧ r ≠ all) ∧ yP h r [Int32.ofInt x.1, Int32.ofInt x.2]
theorem yAl.x {h h' : zz_H} {m a d w : Nat} {G : List (Int × Int)} (Z : yAl h0 h all m G) (hall : h0.1.1 < all) (hw : w ≤ h0.1.1) (x : yx (fun q => q = w) a d h h') : yAl h0 h' all m G := by
  obtain ⟨rs, r1, r2, r3⟩ := Z
  refine ⟨rs, r1.x x (by omega), r2, fun i y e => ?_⟩
  obtain ⟨r, e1, e2, e3⟩ := r3 i y e
  exact ⟨r, e1, e2, e3.x x (by omega)⟩
def yLs (own : yOwn) (h : zz_H) (b : Nat) (lst : List (yBell × List fl_T)) : Prop := yBs own h b (lst.map Prod.fst) ∧ ∀ e ∈ lst, y_cd e.1.2.2.2.2 e.2 ∧ (e.1.1 = 0 ∨ e.1.1 = 1) ∧ (0 ≤ e.1.2.1 ∧ e.1.2.1 ≤ 11) ∧ (0 ≤ e.1.2.2.1 ∧ e.1.2.2.1 ≤ 10000)
theorem yAl.put {h h1 h2 h3 h4 : zz_H} {m : Nat} {G : List (Int × Int)} {s k : Int} (Z : yAl h0 h all m G) (hall : h0.1.1 < all) (hle : h0.1.1 ≤ h.1.1) (x1 : yx yF 1 2 h h1) (x2 : yx (fun q => q = h.1.1 + 1) 0 0 h1 h2) (x3 : yx (fun q => q = h.1.1 + 1) 0 0 h2 h3) (q3 : yP h3 (h.1.1 + 1) [Int32.ofInt s, Int32.ofInt k]) {rs : List (Option Nat)} (r1 : yR h all 5 rs) (x4 : yx (fun q => q = all) 0 0 h3 h4) (r4 : yR h4 all 5 (rs.set G.length (some (h.1.1 + 1)))) (hG : G.length < m) : yAl h0 h4 all m (G ++ [(s, k)]) := by
  obtain ⟨rs', r1', r2, r3⟩ := Z
  have e : rs' = rs := by
    have a := r1.2.2
    rw [r1'.2.2] at a
    exact congrArg Prod.snd (Option.some.inj a)
  subst e
  have hal := r1.le
  refine ⟨_, r4, by rw [List.length_set]; exact r2, fun i y e => ?_⟩
  by_cases hi : i < G.length
  · rw [List.getElem?_append_left hi] at e
    obtain ⟨r, e1, e2, e3⟩ := r3 i y e
    have hr := e3.le
    exact ⟨r, by rw [List.getElem?_set, if_neg (by omega)]; exact e1, e2, (((e3.x x1 id).x x2 (by omega)).x x3 (by omega)).x x4 e2.2⟩
  · have hi2 := (List.getElem?_eq_some_iff.mp e).1
    rw [List.length_append, List.length_singleton] at hi2
    have ei : i = G.length := by omega
    subst ei
    rw [List.getElem?_append_right (Nat.le_refl _), Nat.sub_self] at e
    cases e
    exact ⟨h.1.1 + 1, by rw [List.getElem?_set, if_pos rfl, if_pos (by omega)], ⟨by omega, by omega⟩, q3.x x4 (by omega)⟩
theorem yw_putA {d k s : Int} {G : List (Int × Int)} {φ : Option Value → zz_H → Prop} (Z : yAl h0 h all 16 G) (hall : h0.1.1 < all) (hle : h0.1.1 ≤ h.1.1) (hG : G.length < 16) (hB : h.1.1 + 10 < yy_B) (hz : zz_Zr h) (kk : ∀ h4, yx (fun q => q = all) 1 2 h h4 → yAl h0 h4 all 16 (G ++ [(s, k)]) → yy_fin X 288 (85, [some (.ref w), some (.int (Int32.ofInt (t : Int))), some (.int (Int32.ofInt d)), some (.ref all), some (.int (Int32.ofInt ((G.length : Int) + 1))), some (.int (Int32.ofInt k)), some (.int (Int32.ofInt s)), none, none], [], h4) φ) : yy_fin X 288 (65, [some (.ref w), some (.int (Int32.ofInt (t : Int))), some (.int (Int32.ofInt d)), some (.ref all), some (.int (Int32.ofInt (G.length : Int))), some (.int (Int32.ofInt k)), some (.int (Int32.ofInt s)), none, none], [], h) φ := by
  obtain ⟨rs, r1, r2, r3⟩ := id Z
  have hal := r1.le
  refine yy_fin.steps (n := 4) (s' := (72, [some (.ref w), some (.int (Int32.ofInt (t : Int))), some (.int (Int32.ofInt d)), some (.ref all), some (.int ((Int32.ofInt (G.length : Int)) + (Int32.ofInt 1))), some (.int (Int32.ofInt k)), some (.int (Int32.ofInt s)), none, none], [.int (Int32.ofInt 2), .int (Int32.ofInt (G.length : Int)), .ref all], h)) rfl ?_
  rw [yi_add (G.length : Int) 1]
  refine yy_fin.ni (n := 2) rfl (by decide) (by decide) (by decide) (by omega) hz fun h1 x1 e1 i1 z1 => ?_
  have q1 : yQ h1 (h.1.1 + 1) 2 [] := ⟨i1, fun j v e => nomatch e⟩
  refine yy_fin.steps (n := 3) (s' := (78, [some (.ref w), some (.int (Int32.ofInt (t : Int))), some (.int (Int32.ofInt d)), some (.ref all), some (.int (Int32.ofInt ((G.length : Int) + 1))), some (.int (Int32.ofInt k)), some (.int (Int32.ofInt s)), none, none], [.int (Int32.ofInt s), .int (Int32.ofInt 0), .ref (h.1.1 + 1), .ref (h.1.1 + 1), .int (Int32.ofInt (G.length : Int)), .ref all], h1)) rfl ?_
  refine yy_fin.sq rfl q1 (by decide) rfl fun h2 x2 q2 => ?_
  refine yy_fin.steps (n := 3) (s' := (83, [some (.ref w), some (.int (Int32.ofInt (t : Int))), some (.int (Int32.ofInt d)), some (.ref all), some (.int (Int32.ofInt ((G.length : Int) + 1))), some (.int (Int32.ofInt k)), some (.int (Int32.ofInt s)), none, none], [.int (Int32.ofInt k), .int (Int32.ofInt 1), .ref (h.1.1 + 1), .ref (h.1.1 + 1), .int (Int32.ofInt (G.length : Int)), .ref all], h2)) rfl ?_
  refine yy_fin.sq rfl q2 (by decide) rfl fun h3 x3 q3 => ?_
  have r1c := ((r1.x x1 id).x x2 (by omega)).x x3 (by omega)
  refine yy_fin.aw rfl r1c (by decide) (yi_inb (a := (G.length : Int)) (by omega) (by omega) (by omega)) ((yi_cl (a := (G.length : Int)) (by omega)).trans (Int.toNat_natCast _)) (Nat.succ_ne_zero _) (by show (zz_arr h3 (h.1.1 + 1) 0).isSome = true; rw [q3.1.2.2]; rfl) fun h4 x4 r4 => ?_
  exact kk h4 ((((x1.wk (B := fun q => q = all) (fun _ _ e => e.elim) (Nat.le_refl _) (Nat.le_refl _)).tr x2 (fun q hq e => by omega)).tr x3 (fun q hq e => by omega)).tr x4 (fun _ _ e => e) |>.le (Nat.le_refl _) (Nat.le_refl _)) (Z.put hall hle x1 x2 x3 q3 r1 x4 r4 hG)
theorem yw_putB {d k s : Int} {G : List (Int × Int)} {φ : Option Value → zz_H → Prop} (Z : yAl h0 h all 16 G) (hall : h0.1.1 < all) (hle : h0.1.1 ≤ h.1.1) (hG : G.length < 16) (hB : h.1.1 + 10 < yy_B) (hz : zz_Zr h) (kk : ∀ h4, yx (fun q => q = all) 1 2 h h4 → yAl h0 h4 all 16 (G ++ [(s, k)]) → yy_fin X 288 (132, [some (.ref w), some (.int (Int32.ofInt (t : Int))), some (.int (Int32.ofInt d)), some (.ref all), some (.int (Int32.ofInt ((G.length : Int) + 1))), some (.int (Int32.ofInt k)), some (.int (Int32.ofInt s)), none, none], [], h4) φ) : yy_fin X 288 (112, [some (.ref w), some (.int (Int32.ofInt (t : Int))), some (.int (Int32.ofInt d)), some (.ref all), some (.int (Int32.ofInt (G.length : Int))), some (.int (Int32.ofInt k)), some (.int (Int32.ofInt s)), none, none], [], h) φ := by
  obtain ⟨rs, r1, r2, r3⟩ := id Z
  have hal := r1.le
  refine yy_fin.steps (n := 4) (s' := (119, [some (.ref w), some (.int (Int32.ofInt (t : Int))), some (.int (Int32.ofInt d)), some (.ref all), some (.int ((Int32.ofInt (G.length : Int)) + (Int32.ofInt 1))), some (.int (Int32.ofInt k)), some (.int (Int32.ofInt s)), none, none], [.int (Int32.ofInt 2), .int (Int32.ofInt (G.length : Int)), .ref all], h)) rfl ?_
  rw [yi_add (G.length : Int) 1]
  refine yy_fin.ni (n := 2) rfl (by decide) (by decide) (by decide) (by omega) hz fun h1 x1 e1 i1 z1 => ?_
  have q1 : yQ h1 (h.1.1 + 1) 2 [] := ⟨i1, fun j v e => nomatch e⟩
  refine yy_fin.steps (n := 3) (s' := (125, [some (.ref w), some (.int (Int32.ofInt (t : Int))), some (.int (Int32.ofInt d)), some (.ref all), some (.int (Int32.ofInt ((G.length : Int) + 1))), some (.int (Int32.ofInt k)), some (.int (Int32.ofInt s)), none, none], [.int (Int32.ofInt s), .int (Int32.ofInt 0), .ref (h.1.1 + 1), .ref (h.1.1 + 1), .int (Int32.ofInt (G.length : Int)), .ref all], h1)) rfl ?_
  refine yy_fin.sq rfl q1 (by decide) rfl fun h2 x2 q2 => ?_
  refine yy_fin.steps (n := 3) (s' := (130, [some (.ref w), some (.int (Int32.ofInt (t : Int))), some (.int (Int32.ofInt d)), some (.ref all), some (.int (Int32.ofInt ((G.length : Int) + 1))), some (.int (Int32.ofInt k)), some (.int (Int32.ofInt s)), none, none], [.int (Int32.ofInt k), .int (Int32.ofInt 1), .ref (h.1.1 + 1), .ref (h.1.1 + 1), .int (Int32.ofInt (G.length : Int)), .ref all], h2)) rfl ?_
  refine yy_fin.sq rfl q2 (by decide) rfl fun h3 x3 q3 => ?_
  have r1c := ((r1.x x1 id).x x2 (by omega)).x x3 (by omega)
  refine yy_fin.aw rfl r1c (by decide) (yi_inb (a := (G.length : Int)) (by omega) (by omega) (by omega)) ((yi_cl (a := (G.length : Int)) (by omega)).trans (Int.toNat_natCast _)) (Nat.succ_ne_zero _) (by show (zz_arr h3 (h.1.1 + 1) 0).isSome = true; rw [q3.1.2.2]; rfl) fun h4 x4 r4 => ?_
  exact kk h4 ((((x1.wk (B := fun q => q = all) (fun _ _ e => e.elim) (Nat.le_refl _) (Nat.le_refl _)).tr x2 (fun q hq e => by omega)).tr x3 (fun q hq e => by omega)).tr x4 (fun _ _ e => e) |>.le (Nat.le_refl _) (Nat.le_refl _)) (Z.put hall hle x1 x2 x3 q3 r1 x4 r4 hG)
theorem yWr.x {h h' : zz_H} {A : Nat → Prop} {a d : Nat} (W : yWr own h w o p b q) (x : yx A a d h h') (hA : ¬ A w) : yWr own h' w o p b q := by
  obtain ⟨b0, tx, o1, o2⟩ := W
  exact ⟨b0, tx, o1.x x hA, (o1.i x hA 3).trans o2⟩
theorem yw_gather (hq : 1 ≤ q ∧ q ≤ 3600) (hw0 : w ≠ 0) (ok : tw_ok T c) (ht4 : t < 4) {d : Int} (hd : 0 ≤ d ∧ d ≤ 35999) (hall : h0.1.1 < all) (W0 : yWr own h0 w o p b q) (Tc0 : yTc own h0 p t T c) {lst : List (yBell × List fl_T)} (Ls0 : yLs own h0 b lst) (l8 : lst.length ≤ 8) (hB0 : h0.1.1 + 3000 < yy_B) {φ : Option Value → zz_H → Prop} (kk : ∀ h' n a6, yx (fun q => q = w) (1 + 32 * lst.length) (16 + 136 * lst.length) h0 h' → yWr own h' w o p b q → yAl h0 h' all 16 (y_gat q T c (t : Int) d 0 lst) → n = ((y_gat q T c (t : Int) d 0 lst).length : Int) → yy_fin X 288 (138, [some (.ref w), some (.int (Int32.ofInt (t : Int))), some (.int (Int32.ofInt d)), some (.ref all), some (.int (Int32.ofInt n)), some (.int (Int32.ofInt (lst.length : Int))), a6, none, none], [], h') φ) : ∀ (rest : List (yBell × List fl_T)) (k : Nat) (h : zz_H) (G : List (Int × Int)) (a6 : Option Value), lst.drop k = rest → k ≤ lst.length → yx (fun q => q = w) (1 + 32 * k) (16 + 136 * k) h0 h → zz_Zr h → yWr own h w o p b q → yAl h0 h all 16 G → G ++ y_gat q T c (t : Int) d (k : Int) rest = y_gat q T c (t : Int) d 0 lst → G.length ≤ 2 * k → yy_fin X 288 (12, [some (.ref w), some (.int (Int32.ofInt (t : Int))), some (.int (Int32.ofInt d)), some (.ref all), some (.int (Int32.ofInt (G.length : Int))), some (.int (Int32.ofInt (k : Int))), a6, none, none], [], h) φ
  | [], k, h, G, a6, er, hk, y, hz, W, Z, eG, lG => by
    obtain ⟨ow0, tx0, oW0, -⟩ := id W0
    have how : own w ≠ 0 := by rw [ow0]; exact hw0
    have hw1 := oW0.le
    have hyl := y.1
    have hB : h.1.1 + 2000 < yy_B := by omega
    obtain ⟨ob, bs, oB, lB, aB⟩ := Ls0.1.x y (fun j _ e => by rw [e]; exact how)
    rw [List.length_map] at lB
    obtain ⟨-, tx, oW, eW⟩ := id W
    have ek : k = lst.length := by have := List.drop_eq_nil_iff.mp er; omega
    have eG2 : G = y_gat q T c (t : Int) d 0 lst := by rw [← eG]; exact (List.append_nil G).symm
    refine yy_fin.steps (n := 2) (s' := (15, [some (.ref w), some (.int (Int32.ofInt (t : Int))), some (.int (Int32.ofInt d)), some (.ref all), some (.int (Int32.ofInt (G.length : Int))), some (.int (Int32.ofInt (k : Int))), a6, none, none], [.ref w, .int (Int32.ofInt (k : Int))], h)) rfl ?_
    refine yy_fin.fr rfl oW rfl ?_
    refine yy_fin.lr rfl oB (by decide) ?_
    rw [lB, yi_n]
    refine yy_fin.ic rfl (fun cq => ?_) (fun cq => absurd ((yi_c_ge (a := (k : Int)) (b := (lst.length : Int)) (by omega) (by omega)).mpr (by omega)) cq)
    have cq := (yi_c_ge (a := (k : Int)) (b := (lst.length : Int)) (by omega) (by omega)).mp cq
    rw [ek] at y ⊢
    rw [eG2] at Z ⊢
    exact kk h _ a6 y W Z rfl
  | e :: rest, k, h, G, a6, er, hk, y, hz, W, Z, eG, lG => by
    obtain ⟨ow0, tx0, oW0, -⟩ := id W0
    have how : own w ≠ 0 := by rw [ow0]; exact hw0
    have hw1 := oW0.le
    have hyl := y.1
    have hB : h.1.1 + 2000 < yy_B := by omega
    obtain ⟨ob, bs, oB, lB, aB⟩ := Ls0.1.x y (fun j _ e => by rw [e]; exact how)
    rw [List.length_map] at lB
    obtain ⟨-, tx, oW, eW⟩ := id W
    have el : lst[k]? = some e := by
      have h1 : (lst.drop k)[0]? = some e := by rw [er]; rfl
      rw [List.getElem?_drop, Nat.add_zero] at h1
      exact h1
    have hkl := (List.getElem?_eq_some_iff.mp el).1
    have er2 : lst.drop (k + 1) = rest := by rw [← List.drop_drop, er]; rfl
    obtain ⟨hcd, g1, g2, g3⟩ := Ls0.2 e (List.mem_of_getElem? el)
    obtain ⟨qb, eb, bb⟩ := aB k e.1 (by rw [List.getElem?_map, el]; rfl)
    obtain ⟨b0, cb, oBl, f0, f1, f2, f3, tb⟩ := id bb
    have Tc := Tc0.x ⟨_, oW0⟩ how y
    have rb1 := yRg_b (q := q) (B := e.1) (ts := e.2) (t := (t : Int)) (d := d - 1) ok hq.1 g2.1 g3.1
    have rb2 := yRg_b (q := q) (B := e.1) (ts := e.2) (t := (t : Int)) (d := d) ok hq.1 g2.1 g3.1
    obtain ⟨s1, es1⟩ : ∃ s, s = yRg q T c e.1 e.2 (t : Int) (d - 1) := ⟨_, rfl⟩
    obtain ⟨s2, es2⟩ : ∃ s, s = yRg q T c e.1 e.2 (t : Int) d := ⟨_, rfl⟩
    have eg : y_gat q T c (t : Int) d (k : Int) (e :: rest) = ((if e.1.1 = 1 ∧ 86400 ≤ s1 then [(s1 - 86400, (k : Int))] else []) ++ (if 0 ≤ s2 ∧ s2 < 86400 then [(s2, (k : Int))] else [])) ++ y_gat q T c (t : Int) d ((k : Int) + 1) rest := by rw [es1, es2]; rfl
    rw [eg] at eG
    rw [← es1] at rb1
    rw [← es2] at rb2
    -- the second half: from 85 on
    have second : ∀ (h1 : zz_H) (G1 : List (Int × Int)) (a6 : Option Value), yx (fun q => q = w) (1 + 32 * k + 16) (16 + 136 * k + 68) h0 h1 → zz_Zr h1 → yWr own h1 w o p b q → yAl h0 h1 all 16 G1 → (G1 ++ (if 0 ≤ s2 ∧ s2 < 86400 then [(s2, (k : Int))] else [])) ++ y_gat q T c (t : Int) d ((k : Int) + 1) rest = y_gat q T c (t : Int) d 0 lst → G1.length ≤ 2 * k + 1 → yy_fin X 288 (85, [some (.ref w), some (.int (Int32.ofInt (t : Int))), some (.int (Int32.ofInt d)), some (.ref all), some (.int (Int32.ofInt (G1.length : Int))), some (.int (Int32.ofInt (k : Int))), a6, none, none], [], h1) φ := by
      intro h1 G1 a6 y1 hz1 W1 Z1 eG1 lG1
      have hyl1 := y1.1
      have hB1 : h1.1.1 + 1900 < yy_B := by omega
      obtain ⟨-, bs1, oB1, lB1, aB1⟩ := Ls0.1.x y1 (fun j _ e => by rw [e]; exact how)
      rw [List.length_map] at lB1
      obtain ⟨-, tx1, oW1, eW1⟩ := id W1
      obtain ⟨qb1, eb1, bb1⟩ := aB1 k e.1 (by rw [List.getElem?_map, el]; rfl)
      have Tc1 := Tc0.x ⟨_, oW0⟩ how y1
      have lb1 : k < bs1.length := by omega
      refine yy_fin.steps (n := 4) (s' := (89, [some (.ref w), some (.int (Int32.ofInt (t : Int))), some (.int (Int32.ofInt d)), some (.ref all), some (.int (Int32.ofInt (G1.length : Int))), some (.int (Int32.ofInt (k : Int))), a6, none, none], [.ref w, .int (Int32.ofInt d), .int (Int32.ofInt (t : Int)), .ref w], h1)) rfl ?_
      refine yy_fin.fr rfl oW1 rfl ?_
      refine yy_fin.steps (n := 1) (s' := (94, [some (.ref w), some (.int (Int32.ofInt (t : Int))), some (.int (Int32.ofInt d)), some (.ref all), some (.int (Int32.ofInt (G1.length : Int))), some (.int (Int32.ofInt (k : Int))), a6, none, none], [.int (Int32.ofInt (k : Int)), .ref b, .int (Int32.ofInt d), .int (Int32.ofInt (t : Int)), .ref w], h1)) rfl ?_
      refine yy_fin.ar rfl oB1 (by decide) (yi_inb (a := (k : Int)) (by omega) (by omega) (by omega)) ((yi_cl (a := (k : Int)) (by omega)).trans (Int.toNat_natCast k)) eb1 ?_
      refine yy_fin.cv (as := [.int (Int32.ofInt (t : Int)), .int (Int32.ofInt d), .ref qb1]) rfl rfl rfl oW1 (Nat.le_of_ble_eq_true rfl) (Nat.le_of_ble_eq_true rfl) (yw_ring W1 hw0 hq Tc1 ok bb1 hcd g1 g2 g3 ht4 (by omega) (by omega) hz1) ?_
      rintro v9 h2 ⟨rfl, x2, W2⟩
      rw [← es2]
      have y2 : yx (fun q => q = w) (1 + 32 * k + 31) (16 + 136 * k + 134) h0 h2 := (y1.tr x2 (fun _ _ e => e)).le (by omega) (by omega)
      have Z2 := Z1.x hall hw1 x2
      have hyl2 := y2.1
      refine yy_fin.steps (n := 2) (s' := (102, [some (.ref w), some (.int (Int32.ofInt (t : Int))), some (.int (Int32.ofInt d)), some (.ref all), some (.int (Int32.ofInt (G1.length : Int))), some (.int (Int32.ofInt (k : Int))), some (.int (Int32.ofInt s2)), none, none], [.int (Int32.ofInt s2)], h2)) rfl ?_
      refine yy_fin.if rfl (fun k1 => ?_) (fun k1 => ?_)
      · have k1 := (yi_z_lt (a := s2) (by omega)).mp k1
        rw [if_neg (c := 0 ≤ s2 ∧ s2 < 86400) (by omega), List.append_nil] at eG1
        refine yy_fin.steps (n := 2) (s' := (12, [some (.ref w), some (.int (Int32.ofInt (t : Int))), some (.int (Int32.ofInt d)), some (.ref all), some (.int (Int32.ofInt (G1.length : Int))), some (.int ((Int32.ofInt (k : Int)) + (Int32.ofInt 1))), some (.int (Int32.ofInt s2)), none, none], [], h2)) rfl ?_
        rw [yi_add (k : Int) 1]
        exact yw_gather hq hw0 ok ht4 hd hall W0 Tc0 Ls0 l8 hB0 kk rest (k + 1) h2 _ _ er2 (by omega) (y2.le (by omega) (by omega)) (x2.zr hz1) W2 Z2 eG1 (by omega)
      · have k1 := mt (yi_z_lt (a := s2) (by omega)).mpr k1
        refine yy_fin.steps (n := 2) (s' := (109, [some (.ref w), some (.int (Int32.ofInt (t : Int))), some (.int (Int32.ofInt d)), some (.ref all), some (.int (Int32.ofInt (G1.length : Int))), some (.int (Int32.ofInt (k : Int))), some (.int (Int32.ofInt s2)), none, none], [.int (Int32.ofInt 86400), .int (Int32.ofInt s2)], h2)) rfl ?_
        refine yy_fin.ic rfl (fun k2 => ?_) (fun k2 => ?_)
        · have k2 := (yi_c_ge (a := s2) (b := 86400) (by omega) (by omega)).mp k2
          rw [if_neg (c := 0 ≤ s2 ∧ s2 < 86400) (by omega), List.append_nil] at eG1
          refine yy_fin.steps (n := 2) (s' := (12, [some (.ref w), some (.int (Int32.ofInt (t : Int))), some (.int (Int32.ofInt d)), some (.ref all), some (.int (Int32.ofInt (G1.length : Int))), some (.int ((Int32.ofInt (k : Int)) + (Int32.ofInt 1))), some (.int (Int32.ofInt s2)), none, none], [], h2)) rfl ?_
          rw [yi_add (k : Int) 1]
          exact yw_gather hq hw0 ok ht4 hd hall W0 Tc0 Ls0 l8 hB0 kk rest (k + 1) h2 _ _ er2 (by omega) (y2.le (by omega) (by omega)) (x2.zr hz1) W2 Z2 eG1 (by omega)
        · have k2 := mt (yi_c_ge (a := s2) (b := 86400) (by omega) (by omega)).mpr k2
          rw [if_pos (c := 0 ≤ s2 ∧ s2 < 86400) (by omega)] at eG1
          refine yw_putB Z2 hall (by omega) (by omega) (by omega) (x2.zr hz1) fun h4 x4 Z4 => ?_
          have y4 : yx (fun q => q = w) (1 + 32 * (k + 1)) (16 + 136 * (k + 1)) h0 h4 := (y2.tr x4 (fun q hq e => by omega)).le (by omega) (by omega)
          have W4 := W2.x x4 (show w ≠ all by omega)
          have lG4 : (G1 ++ [(s2, (k : Int))]).length = G1.length + 1 := by rw [List.length_append]; rfl
          refine yy_fin.steps (n := 2) (s' := (12, [some (.ref w), some (.int (Int32.ofInt (t : Int))), some (.int (Int32.ofInt d)), some (.ref all), some (.int (Int32.ofInt ((G1.length : Int) + 1))), some (.int ((Int32.ofInt (k : Int)) + (Int32.ofInt 1))), some (.int (Int32.ofInt s2)), none, none], [], h4)) rfl ?_
          rw [yi_add (k : Int) 1]
          have e1 : (G1.length : Int) + 1 = ((G1 ++ [(s2, (k : Int))]).length : Int) := by rw [lG4]; rfl
          rw [e1]
          exact yw_gather hq hw0 ok ht4 hd hall W0 Tc0 Ls0 l8 hB0 kk rest (k + 1) h4 _ _ er2 (by omega) y4 (x4.zr (x2.zr hz1)) W4 Z4 eG1 (by omega)
    refine yy_fin.steps (n := 2) (s' := (15, [some (.ref w), some (.int (Int32.ofInt (t : Int))), some (.int (Int32.ofInt d)), some (.ref all), some (.int (Int32.ofInt (G.length : Int))), some (.int (Int32.ofInt (k : Int))), a6, none, none], [.ref w, .int (Int32.ofInt (k : Int))], h)) rfl ?_
    refine yy_fin.fr rfl oW rfl ?_
    refine yy_fin.lr rfl oB (by decide) ?_
    rw [lB, yi_n]
    refine yy_fin.ic rfl (fun cq => absurd ((yi_c_ge (a := (k : Int)) (b := (lst.length : Int)) (by omega) (by omega)).mp cq) (by omega)) (fun cq => ?_)
    have cq := mt (yi_c_ge (a := (k : Int)) (b := (lst.length : Int)) (by omega) (by omega)).mpr cq
    refine yy_fin.steps (n := 1) (s' := (23, [some (.ref w), some (.int (Int32.ofInt (t : Int))), some (.int (Int32.ofInt d)), some (.ref all), some (.int (Int32.ofInt (G.length : Int))), some (.int (Int32.ofInt (k : Int))), a6, none, none], [.ref w], h)) rfl ?_
    refine yy_fin.fr rfl oW rfl ?_
    refine yy_fin.steps (n := 1) (s' := (28, [some (.ref w), some (.int (Int32.ofInt (t : Int))), some (.int (Int32.ofInt d)), some (.ref all), some (.int (Int32.ofInt (G.length : Int))), some (.int (Int32.ofInt (k : Int))), a6, none, none], [.int (Int32.ofInt (k : Int)), .ref b], h)) rfl ?_
    refine yy_fin.ar rfl oB (by decide) (yi_inb (a := (k : Int)) (by omega) (by omega) (by omega)) ((yi_cl (a := (k : Int)) (by omega)).trans (Int.toNat_natCast k)) eb ?_
    refine yy_fin.fi rfl oBl rfl f0 ?_
    refine yy_fin.steps (n := 1) (s' := (33, [some (.ref w), some (.int (Int32.ofInt (t : Int))), some (.int (Int32.ofInt d)), some (.ref all), some (.int (Int32.ofInt (G.length : Int))), some (.int (Int32.ofInt (k : Int))), a6, none, none], [.int (Int32.ofInt 1), .int (Int32.ofInt e.1.1)], h)) rfl ?_
    refine yy_fin.ic rfl (fun k3 => ?_) (fun k3 => ?_)
    · have k3 := (yi_c_ne (a := e.1.1) (b := 1) (by omega) (by omega)).mp k3
      rw [if_neg (c := e.1.1 = 1 ∧ 86400 ≤ s1) (by omega), List.nil_append] at eG
      refine yy_fin.steps (n := 3) (s' := (62, [some (.ref w), some (.int (Int32.ofInt (t : Int))), some (.int (Int32.ofInt d)), some (.ref all), some (.int (Int32.ofInt (G.length : Int))), some (.int (Int32.ofInt (k : Int))), some (.int (Int32.ofInt (-1))), none, none], [.int (Int32.ofInt (-1))], h)) rfl ?_
      refine yy_fin.if rfl (fun _ => ?_) (fun c => absurd (by decide) c)
      exact second h G _ (y.le (by omega) (by omega)) hz W Z (by rw [← List.append_assoc] at eG; exact eG) (by omega)
    · have k3 := mt (yi_c_ne (a := e.1.1) (b := 1) (by omega) (by omega)).mpr k3
      refine yy_fin.steps (n := 6) (s' := (42, [some (.ref w), some (.int (Int32.ofInt (t : Int))), some (.int (Int32.ofInt d)), some (.ref all), some (.int (Int32.ofInt (G.length : Int))), some (.int (Int32.ofInt (k : Int))), a6, none, none], [.ref w, .int ((Int32.ofInt d) - (Int32.ofInt 1)), .int (Int32.ofInt (t : Int)), .ref w], h)) rfl ?_
      rw [yi_sub d 1]
      refine yy_fin.fr rfl oW rfl ?_
      refine yy_fin.steps (n := 1) (s' := (47, [some (.ref w), some (.int (Int32.ofInt (t : Int))), some (.int (Int32.ofInt d)), some (.ref all), some (.int (Int32.ofInt (G.length : Int))), some (.int (Int32.ofInt (k : Int))), a6, none, none], [.int (Int32.ofInt (k : Int)), .ref b, .int (Int32.ofInt (d - 1)), .int (Int32.ofInt (t : Int)), .ref w], h)) rfl ?_
      refine yy_fin.ar rfl oB (by decide) (yi_inb (a := (k : Int)) (by omega) (by omega) (by omega)) ((yi_cl (a := (k : Int)) (by omega)).trans (Int.toNat_natCast k)) eb ?_
      refine yy_fin.cv (as := [.int (Int32.ofInt (t : Int)), .int (Int32.ofInt (d - 1)), .ref qb]) rfl rfl rfl oW (Nat.le_of_ble_eq_true rfl) (Nat.le_of_ble_eq_true rfl) (yw_ring W hw0 hq Tc ok bb hcd g1 g2 g3 ht4 (by omega) (by omega) hz) ?_
      rintro v9 h1 ⟨rfl, x1, W1⟩
      rw [← es1]
      have y1 : yx (fun q => q = w) (1 + 32 * k + 15) (16 + 136 * k + 66) h0 h1 := (y.tr x1 (fun _ _ e => e)).le (by omega) (by omega)
      have Z1 := Z.x hall hw1 x1
      have hyl1 := y1.1
      refine yy_fin.steps (n := 5) (s' := (62, [some (.ref w), some (.int (Int32.ofInt (t : Int))), some (.int (Int32.ofInt d)), some (.ref all), some (.int (Int32.ofInt (G.length : Int))), some (.int (Int32.ofInt (k : Int))), some (.int ((Int32.ofInt s1) - (Int32.ofInt 86400))), none, none], [.int ((Int32.ofInt s1) - (Int32.ofInt 86400))], h1)) rfl ?_
      rw [yi_sub s1 86400]
      refine yy_fin.if rfl (fun k4 => ?_) (fun k4 => ?_)
      · have k4 := (yi_z_lt (a := s1 - 86400) (by omega)).mp k4
        rw [if_neg (c := e.1.1 = 1 ∧ 86400 ≤ s1) (by omega), List.nil_append] at eG
        exact second h1 G _ (y1.le (by omega) (by omega)) (x1.zr hz) W1 Z1 (by rw [← List.append_assoc] at eG; exact eG) (by omega)
      · have k4 := mt (yi_z_lt (a := s1 - 86400) (by omega)).mpr k4
        rw [if_pos (c := e.1.1 = 1 ∧ 86400 ≤ s1) (by omega)] at eG
        refine yw_putA Z1 hall (by omega) (by omega) (by omega) (x1.zr hz) fun h4 x4 Z4 => ?_
        have y4 : yx (fun q => q = w) (1 + 32 * k + 16) (16 + 136 * k + 68) h0 h4 := (y1.tr x4 (fun q hq e => by omega)).le (by omega) (by omega)
        have W4 := W1.x x4 (show w ≠ all by omega)
        have lG4 : (G ++ [(s1 - 86400, (k : Int))]).length = G.length + 1 := by rw [List.length_append]; rfl
        have e1 : (G.length : Int) + 1 = ((G ++ [(s1 - 86400, (k : Int))]).length : Int) := by rw [lG4]; rfl
        rw [e1]
        exact second h4 _ _ y4 (x4.zr (x1.zr hz)) W4 Z4 (by rw [← List.append_assoc, ← List.append_assoc] at eG; exact eG) (by omega)
theorem yw_rank {d : Int} {G : List (Int × Int)} {rr i : Nat} {x : Int × Int} (Z : yAl h0 h all 16 G) (l16 : G.length ≤ 16) (ei : G[i]? = some x) (hb : ∀ y ∈ G, 0 ≤ y.1 ∧ y.1 < 86400) {φ : Option Value → zz_H → Prop} (kk : ∀ j, yy_fin X 288 (221, [some (.ref w), some (.int (Int32.ofInt (t : Int))), some (.int (Int32.ofInt d)), some (.ref all), some (.int (Int32.ofInt (G.length : Int))), some (.ref rr), some (.int (Int32.ofInt (i : Int))), some (.int (Int32.ofInt (y_rkN G x.1 i G.length))), some (.int (Int32.ofInt j))], [], h) φ) : ∀ (m : Nat) (j to : Int), 0 ≤ j → j + m = G.length → to = y_rkN G x.1 i j.toNat → yy_fin X 288 (161, [some (.ref w), some (.int (Int32.ofInt (t : Int))), some (.int (Int32.ofInt d)), some (.ref all), some (.int (Int32.ofInt (G.length : Int))), some (.ref rr), some (.int (Int32.ofInt (i : Int))), some (.int (Int32.ofInt to)), some (.int (Int32.ofInt j))], [], h) φ
  | 0, j, to, h0j, hj, et => by
    have hi := (List.getElem?_eq_some_iff.mp ei).1
    have hrb := y_rk_b G x.1 i j.toNat
    rw [show j.toNat = G.length by omega] at et
    refine yy_fin.steps (n := 2) (s' := (165, [some (.ref w), some (.int (Int32.ofInt (t : Int))), some (.int (Int32.ofInt d)), some (.ref all), some (.int (Int32.ofInt (G.length : Int))), some (.ref rr), some (.int (Int32.ofInt (i : Int))), some (.int (Int32.ofInt to)), some (.int (Int32.ofInt j))], [.int (Int32.ofInt (G.length : Int)), .int (Int32.ofInt j)], h)) rfl ?_
    refine yy_fin.ic rfl (fun cq => ?_) (fun cq => absurd ((yi_c_ge (a := j) (b := (G.length : Int)) (by omega) (by omega)).mpr (by omega)) cq)
    have cq := (yi_c_ge (a := j) (b := (G.length : Int)) (by omega) (by omega)).mp cq
    rw [et]
    exact kk j
  | m + 1, j, to, h0j, hj, et => by
    have hi := (List.getElem?_eq_some_iff.mp ei).1
    have hrb := y_rk_b G x.1 i j.toNat
    obtain ⟨y, ey⟩ : ∃ y, G[j.toNat]? = some y := ⟨_, List.getElem?_eq_getElem (by omega)⟩
    have by1 := hb y (List.mem_of_getElem? ey)
    have bx1 := hb x (List.mem_of_getElem? ei)
    obtain ⟨rs, r1, r2, r3⟩ := id Z
    obtain ⟨ra, ea, -, pa⟩ := r3 _ y ey
    obtain ⟨rb, eb, -, pb⟩ := r3 _ x ei
    have er : y_rkN G x.1 i (j + 1).toNat = y_rkN G x.1 i j.toNat + (if y.1 < x.1 ∨ (y.1 = x.1 ∧ j.toNat < i) then 1 else 0) := by
      rw [show (j + 1).toNat = j.toNat + 1 by omega]
      show y_rkN G x.1 i j.toNat + _ = _
      rw [List.getD_eq_getElem?_getD, ey, Option.getD_some]
    refine yy_fin.steps (n := 2) (s' := (165, [some (.ref w), some (.int (Int32.ofInt (t : Int))), some (.int (Int32.ofInt d)), some (.ref all), some (.int (Int32.ofInt (G.length : Int))), some (.ref rr), some (.int (Int32.ofInt (i : Int))), some (.int (Int32.ofInt to)), some (.int (Int32.ofInt j))], [.int (Int32.ofInt (G.length : Int)), .int (Int32.ofInt j)], h)) rfl ?_
    refine yy_fin.ic rfl (fun cq => absurd ((yi_c_ge (a := j) (b := (G.length : Int)) (by omega) (by omega)).mp cq) (by omega)) (fun cq => ?_)
    have cq := mt (yi_c_ge (a := j) (b := (G.length : Int)) (by omega) (by omega)).mpr cq
    refine yy_fin.steps (n := 3) (s' := (173, [some (.ref w), some (.int (Int32.ofInt (t : Int))), some (.int (Int32.ofInt d)), some (.ref all), some (.int (Int32.ofInt (G.length : Int))), some (.ref rr), some (.int (Int32.ofInt (i : Int))), some (.int (Int32.ofInt to)), some (.int (Int32.ofInt j))], [.int (Int32.ofInt j), .ref all, .int (Int32.ofInt to)], h)) rfl ?_
    refine yy_fin.ar rfl r1 (by decide) (yi_inb (a := j) (by omega) (by omega) (by omega)) (yi_cl (a := j) (by omega)) ea ?_
    refine yy_fin.steps (n := 1) (s' := (175, [some (.ref w), some (.int (Int32.ofInt (t : Int))), some (.int (Int32.ofInt d)), some (.ref all), some (.int (Int32.ofInt (G.length : Int))), some (.ref rr), some (.int (Int32.ofInt (i : Int))), some (.int (Int32.ofInt to)), some (.int (Int32.ofInt j))], [.int (Int32.ofInt 0), .ref ra, .int (Int32.ofInt to)], h)) rfl ?_
    refine yy_fin.lp rfl pa rfl (by decide : (Int32.ofInt 0).toNatClampNeg = 0) rfl ?_
    refine yy_fin.steps (n := 2) (s' := (179, [some (.ref w), some (.int (Int32.ofInt (t : Int))), some (.int (Int32.ofInt d)), some (.ref all), some (.int (Int32.ofInt (G.length : Int))), some (.ref rr), some (.int (Int32.ofInt (i : Int))), some (.int (Int32.ofInt to)), some (.int (Int32.ofInt j))], [.int (Int32.ofInt (i : Int)), .ref all, .int (Int32.ofInt y.1), .int (Int32.ofInt to)], h)) rfl ?_
    refine yy_fin.ar rfl r1 (by decide) (yi_inb (a := (i : Int)) (by omega) (by omega) (by omega)) ((yi_cl (a := (i : Int)) (by omega)).trans (Int.toNat_natCast i)) eb ?_
    refine yy_fin.steps (n := 1) (s' := (181, [some (.ref w), some (.int (Int32.ofInt (t : Int))), some (.int (Int32.ofInt d)), some (.ref all), some (.int (Int32.ofInt (G.length : Int))), some (.ref rr), some (.int (Int32.ofInt (i : Int))), some (.int (Int32.ofInt to)), some (.int (Int32.ofInt j))], [.int (Int32.ofInt 0), .ref rb, .int (Int32.ofInt y.1), .int (Int32.ofInt to)], h)) rfl ?_
    refine yy_fin.lp rfl pb rfl (by decide : (Int32.ofInt 0).toNatClampNeg = 0) rfl ?_
    refine yy_fin.ic rfl (fun c1 => ?_) (fun c1 => ?_)
    · have c1 := (yi_c_lt (a := y.1) (b := x.1) (by omega) (by omega)).mp c1
      refine yy_fin.steps (n := 6) (s' := (161, [some (.ref w), some (.int (Int32.ofInt (t : Int))), some (.int (Int32.ofInt d)), some (.ref all), some (.int (Int32.ofInt (G.length : Int))), some (.ref rr), some (.int (Int32.ofInt (i : Int))), some (.int ((Int32.ofInt to) + (Int32.ofInt 1))), some (.int ((Int32.ofInt j) + (Int32.ofInt 1)))], [], h)) rfl ?_
      rw [yi_add to 1]
      rw [yi_add j 1]
      refine yw_rank Z l16 ei hb kk m (j + 1) (to + 1) (by omega) (by omega) ?_
      rw [er, ← et, if_pos (by omega)]
    · have c1 := mt (yi_c_lt (a := y.1) (b := x.1) (by omega) (by omega)).mpr c1
      refine yy_fin.steps (n := 2) (s' := (188, [some (.ref w), some (.int (Int32.ofInt (t : Int))), some (.int (Int32.ofInt d)), some (.ref all), some (.int (Int32.ofInt (G.length : Int))), some (.ref rr), some (.int (Int32.ofInt (i : Int))), some (.int (Int32.ofInt to)), some (.int (Int32.ofInt j))], [.int (Int32.ofInt j), .ref all, .int (Int32.ofInt to)], h)) rfl ?_
      refine yy_fin.ar rfl r1 (by decide) (yi_inb (a := j) (by omega) (by omega) (by omega)) (yi_cl (a := j) (by omega)) ea ?_
      refine yy_fin.steps (n := 1) (s' := (190, [some (.ref w), some (.int (Int32.ofInt (t : Int))), some (.int (Int32.ofInt d)), some (.ref all), some (.int (Int32.ofInt (G.length : Int))), some (.ref rr), some (.int (Int32.ofInt (i : Int))), some (.int (Int32.ofInt to)), some (.int (Int32.ofInt j))], [.int (Int32.ofInt 0), .ref ra, .int (Int32.ofInt to)], h)) rfl ?_
      refine yy_fin.lp rfl pa rfl (by decide : (Int32.ofInt 0).toNatClampNeg = 0) rfl ?_
      refine yy_fin.steps (n := 2) (s' := (194, [some (.ref w), some (.int (Int32.ofInt (t : Int))), some (.int (Int32.ofInt d)), some (.ref all), some (.int (Int32.ofInt (G.length : Int))), some (.ref rr), some (.int (Int32.ofInt (i : Int))), some (.int (Int32.ofInt to)), some (.int (Int32.ofInt j))], [.int (Int32.ofInt (i : Int)), .ref all, .int (Int32.ofInt y.1), .int (Int32.ofInt to)], h)) rfl ?_
      refine yy_fin.ar rfl r1 (by decide) (yi_inb (a := (i : Int)) (by omega) (by omega) (by omega)) ((yi_cl (a := (i : Int)) (by omega)).trans (Int.toNat_natCast i)) eb ?_
      refine yy_fin.steps (n := 1) (s' := (196, [some (.ref w), some (.int (Int32.ofInt (t : Int))), some (.int (Int32.ofInt d)), some (.ref all), some (.int (Int32.ofInt (G.length : Int))), some (.ref rr), some (.int (Int32.ofInt (i : Int))), some (.int (Int32.ofInt to)), some (.int (Int32.ofInt j))], [.int (Int32.ofInt 0), .ref rb, .int (Int32.ofInt y.1), .int (Int32.ofInt to)], h)) rfl ?_
      refine yy_fin.lp rfl pb rfl (by decide : (Int32.ofInt 0).toNatClampNeg = 0) rfl ?_
      refine yy_fin.ic rfl (fun c2 => ?_) (fun c2 => ?_)
      · have c2 := (yi_c_ne (a := y.1) (b := x.1) (by omega) (by omega)).mp c2
        refine yy_fin.steps (n := 5) (s' := (161, [some (.ref w), some (.int (Int32.ofInt (t : Int))), some (.int (Int32.ofInt d)), some (.ref all), some (.int (Int32.ofInt (G.length : Int))), some (.ref rr), some (.int (Int32.ofInt (i : Int))), some (.int ((Int32.ofInt to) + (Int32.ofInt 0))), some (.int ((Int32.ofInt j) + (Int32.ofInt 1)))], [], h)) rfl ?_
        rw [yi_add to 0]
        rw [yi_add j 1]
        refine yw_rank Z l16 ei hb kk m (j + 1) (to + 0) (by omega) (by omega) ?_
        rw [er, ← et, if_neg (by omega)]
      · have c2 := mt (yi_c_ne (a := y.1) (b := x.1) (by omega) (by omega)).mpr c2
        refine yy_fin.steps (n := 2) (s' := (204, [some (.ref w), some (.int (Int32.ofInt (t : Int))), some (.int (Int32.ofInt d)), some (.ref all), some (.int (Int32.ofInt (G.length : Int))), some (.ref rr), some (.int (Int32.ofInt (i : Int))), some (.int (Int32.ofInt to)), some (.int (Int32.ofInt j))], [.int (Int32.ofInt (i : Int)), .int (Int32.ofInt j), .int (Int32.ofInt to)], h)) rfl ?_
        refine yy_fin.ic rfl (fun c3 => ?_) (fun c3 => ?_)
        · have c3 := (yi_c_ge (a := j) (b := (i : Int)) (by omega) (by omega)).mp c3
          refine yy_fin.steps (n := 5) (s' := (161, [some (.ref w), some (.int (Int32.ofInt (t : Int))), some (.int (Int32.ofInt d)), some (.ref all), some (.int (Int32.ofInt (G.length : Int))), some (.ref rr), some (.int (Int32.ofInt (i : Int))), some (.int ((Int32.ofInt to) + (Int32.ofInt 0))), some (.int ((Int32.ofInt j) + (Int32.ofInt 1)))], [], h)) rfl ?_
          rw [yi_add to 0]
          rw [yi_add j 1]
          refine yw_rank Z l16 ei hb kk m (j + 1) (to + 0) (by omega) (by omega) ?_
          rw [er, ← et, if_neg (by omega)]
        · have c3 := mt (yi_c_ge (a := j) (b := (i : Int)) (by omega) (by omega)).mpr c3
          refine yy_fin.steps (n := 6) (s' := (161, [some (.ref w), some (.int (Int32.ofInt (t : Int))), some (.int (Int32.ofInt d)), some (.ref all), some (.int (Int32.ofInt (G.length : Int))), some (.ref rr), some (.int (Int32.ofInt (i : Int))), some (.int ((Int32.ofInt to) + (Int32.ofInt 1))), some (.int ((Int32.ofInt j) + (Int32.ofInt 1)))], [], h)) rfl ?_
          rw [yi_add to 1]
          rw [yi_add j 1]
          refine yw_rank Z l16 ei hb kk m (j + 1) (to + 1) (by omega) (by omega) ?_
          rw [er, ← et, if_pos (by omega)]
theorem yw_sortL {d : Int} {G : List (Int × Int)} {rr : Nat} {h0b : zz_H} (l16 : G.length ≤ 16) (hb : ∀ y ∈ G, 0 ≤ y.1 ∧ y.1 < 86400) (hra : rr ≠ all) : ∀ (m : Nat) (i : Nat) (h : zz_H) (a7 a8 : Option Value), i + m = G.length → yAl h0 h all 16 G → yx (fun q => q = rr) 0 0 h0b h → (∃ rs, yR h rr 5 rs ∧ rs.length = G.length ∧ ∀ (i' : Nat) (z : Int × Int), i' < i → G[i']? = some z → ∃ k, rs[(y_rkN G z.1 i' G.length).toNat]? = some (some k) ∧ (h0.1.1 < k ∧ k ≠ rr) ∧ yP h k [Int32.ofInt z.1, Int32.ofInt z.2]) → yy_fin X 288 (148, [some (.ref w), some (.int (Int32.ofInt (t : Int))), some (.int (Int32.ofInt d)), some (.ref all), some (.int (Int32.ofInt (G.length : Int))), some (.ref rr), some (.int (Int32.ofInt (i : Int))), a7, a8], [], h) (fun r h' => r = some (.ref rr) ∧ yx (fun q => q = rr) 0 0 h0b h' ∧ ∃ rs, yR h' rr 5 rs ∧ rs.length = G.length ∧ ∀ (p : Nat) (z : Int × Int), (y_srt G)[p]? = some z → ∃ k, rs[p]? = some (some k) ∧ h0.1.1 < k ∧ yP h' k [Int32.ofInt z.1, Int32.ofInt z.2])
  | 0, i, h, a7, a8, hm, Z, y, ⟨rs, r1, r2, r3⟩ => by
    refine yy_fin.steps (n := 2) (s' := (152, [some (.ref w), some (.int (Int32.ofInt (t : Int))), some (.int (Int32.ofInt d)), some (.ref all), some (.int (Int32.ofInt (G.length : Int))), some (.ref rr), some (.int (Int32.ofInt (i : Int))), a7, a8], [.int (Int32.ofInt (G.length : Int)), .int (Int32.ofInt (i : Int))], h)) rfl ?_
    refine yy_fin.ic rfl (fun cq => ?_) (fun cq => absurd ((yi_c_ge (a := (i : Int)) (b := (G.length : Int)) (by omega) (by omega)).mpr (by omega)) cq)
    have cq := (yi_c_ge (a := (i : Int)) (b := (G.length : Int)) (by omega) (by omega)).mp cq
    refine yy_fin.steps (n := 1) (s' := (238, [some (.ref w), some (.int (Int32.ofInt (t : Int))), some (.int (Int32.ofInt d)), some (.ref all), some (.int (Int32.ofInt (G.length : Int))), some (.ref rr), some (.int (Int32.ofInt (i : Int))), a7, a8], [.ref rr], h)) rfl ?_
    refine yy_fin.at (n := 1) rfl ⟨rfl, y, rs, r1, r2, fun p z e => ?_⟩
    obtain ⟨i2, e1, e2⟩ := y_srt_sur _ G rfl p z e
    obtain ⟨k, k1, k2, k3⟩ := r3 i2 z (by have := (List.getElem?_eq_some_iff.mp e1).1; omega) e1
    rw [e2, Int.toNat_natCast] at k1
    exact ⟨k, k1, k2.1, k3⟩
  | m + 1, i, h, a7, a8, hm, Z, y, ⟨rs, r1, r2, r3⟩ => by
    obtain ⟨x, ex⟩ : ∃ x, G[i]? = some x := ⟨_, List.getElem?_eq_getElem (by omega)⟩
    obtain ⟨p, p1, p2, p3⟩ := y_rk_at G ex
    obtain ⟨rs2, q1, q2, q3⟩ := id Z
    obtain ⟨rx, x1, x2, x3⟩ := q3 i x ex
    refine yy_fin.steps (n := 2) (s' := (152, [some (.ref w), some (.int (Int32.ofInt (t : Int))), some (.int (Int32.ofInt d)), some (.ref all), some (.int (Int32.ofInt (G.length : Int))), some (.ref rr), some (.int (Int32.ofInt (i : Int))), a7, a8], [.int (Int32.ofInt (G.length : Int)), .int (Int32.ofInt (i : Int))], h)) rfl ?_
    refine yy_fin.ic rfl (fun cq => absurd ((yi_c_ge (a := (i : Int)) (b := (G.length : Int)) (by omega) (by omega)).mp cq) (by omega)) (fun cq => ?_)
    have cq := mt (yi_c_ge (a := (i : Int)) (b := (G.length : Int)) (by omega) (by omega)).mpr cq
    refine yy_fin.steps (n := 4) (s' := (161, [some (.ref w), some (.int (Int32.ofInt (t : Int))), some (.int (Int32.ofInt d)), some (.ref all), some (.int (Int32.ofInt (G.length : Int))), some (.ref rr), some (.int (Int32.ofInt (i : Int))), some (.int (Int32.ofInt 0)), some (.int (Int32.ofInt 0))], [], h)) rfl ?_
    refine yw_rank Z l16 ex hb (fun j => ?_) G.length 0 0 (by omega) (by omega) rfl
    refine yy_fin.steps (n := 4) (s' := (228, [some (.ref w), some (.int (Int32.ofInt (t : Int))), some (.int (Int32.ofInt d)), some (.ref all), some (.int (Int32.ofInt (G.length : Int))), some (.ref rr), some (.int (Int32.ofInt (i : Int))), some (.int (Int32.ofInt (y_rkN G x.1 i G.length))), some (.int (Int32.ofInt j))], [.int (Int32.ofInt (i : Int)), .ref all, .int (Int32.ofInt (y_rkN G x.1 i G.length)), .ref rr], h)) rfl ?_
    refine yy_fin.ar rfl q1 (by decide) (yi_inb (a := (i : Int)) (by omega) (by omega) (by omega)) ((yi_cl (a := (i : Int)) (by omega)).trans (Int.toNat_natCast i)) x1 ?_
    refine yy_fin.aw rfl r1 (by decide) (yi_inb (a := y_rkN G x.1 i G.length) (by omega) (by omega) (by omega)) (yi_cl (a := y_rkN G x.1 i G.length) (by omega)) x3.1.1 (by show (zz_arr h rx 0).isSome = true; rw [x3.1.2.2]; rfl) fun h4 x4 r4 => ?_
    refine yy_fin.steps (n := 2) (s' := (148, [some (.ref w), some (.int (Int32.ofInt (t : Int))), some (.int (Int32.ofInt d)), some (.ref all), some (.int (Int32.ofInt (G.length : Int))), some (.ref rr), some (.int ((Int32.ofInt (i : Int)) + (Int32.ofInt 1))), some (.int (Int32.ofInt (y_rkN G x.1 i G.length))), some (.int (Int32.ofInt j))], [], h4)) rfl ?_
    rw [yi_add (i : Int) 1]
    have hne : ∀ k l2, yP h k l2 → k ≠ rr := fun k l2 z e => by rw [e] at z; exact absurd (zz_arr_ok z.1.2.2).2 (by rw [(zz_rar_ok r1.2.2).2]; exact fun z => nomatch z)
    refine yw_sortL l16 hb hra m (i + 1) h4 _ _ (by omega) ?_ ((y.tr x4 (fun _ _ e => e)).le (Nat.le_refl _) (Nat.le_refl _)) ⟨_, r4, by rw [List.length_set]; exact r2, fun i2 z hi2 e2 => ?_⟩
    · refine ⟨rs2, q1.x x4 (fun e => hra e.symm), q2, fun i2 z e2 => ?_⟩
      obtain ⟨k, k1, k2, k3⟩ := q3 i2 z e2
      exact ⟨k, k1, k2, k3.x x4 (hne k _ k3)⟩
    rw [List.getElem?_set]
    by_cases hp : (y_rkN G x.1 i G.length).toNat = (y_rkN G z.1 i2 G.length).toNat
    · obtain ⟨p9, p91, p92, p93⟩ := y_rk_at G e2
      have ezx : z = x := by
        rw [p1, p91, Int.toNat_natCast, Int.toNat_natCast] at hp
        rw [← hp, p3] at p93
        exact (Option.some.inj p93).symm
      rw [if_pos hp, if_pos (by omega), ezx]
      exact ⟨rx, rfl, ⟨x2.1, hne rx _ x3⟩, x3.x x4 (hne rx _ x3)⟩
    · rw [if_neg hp]
      have hii : i2 < i := by
        rcases Nat.lt_or_ge i2 i with q | q
        · exact q
        · have ei : i2 = i := by omega
          rw [ei, ex] at e2
          cases e2
          rw [ei] at hp
          exact absurd rfl hp
      obtain ⟨k, k1, k2, k3⟩ := r3 i2 z hii e2
      exact ⟨k, k1, k2, k3.x x4 k2.2⟩
theorem y_gat_b {q : Int} {T : Nat → Nat → Int} {c : Nat} {t d : Int} (ok : tw_ok T c) (hq : 1 ≤ q) : ∀ (r : List (yBell × List fl_T)) (k : Int), (∀ e ∈ r, (0 ≤ e.1.2.1 ∧ e.1.2.1 ≤ 11) ∧ (0 ≤ e.1.2.2.1 ∧ e.1.2.2.1 ≤ 10000)) → ∀ y ∈ y_gat q T c t d k r, 0 ≤ y.1 ∧ y.1 < 86400
  | [], _, _, y, hy => nomatch hy
  | e :: r, k, h, y, hy => by
    have g := h e (List.mem_cons_self ..)
    have b1 := yRg_b (q := q) (B := e.1) (ts := e.2) (t := t) (d := d - 1) ok hq g.1.1 g.2.1
    unfold y_gat at hy
    rcases List.mem_append.mp hy with z | z
    · rcases List.mem_append.mp z with z | z
      · split at z
        · rw [List.mem_singleton.mp z]
          dsimp only
          omega
        · cases z
      · split at z
        · rename_i c9
          rw [List.mem_singleton.mp z]
          exact c9
        · cases z
    · exact y_gat_b ok hq r (k + 1) (fun e he => h e (List.mem_cons_of_mem _ he)) y z
theorem yw_rings (hq : 1 ≤ q ∧ q ≤ 3600) (hw0 : w ≠ 0) (ok : tw_ok T c) (ht4 : t < 4) {d : Int} (hd : 0 ≤ d ∧ d ≤ 35999) (W0 : yWr own h w o p b q) (Tc0 : yTc own h p t T c) {lst : List (yBell × List fl_T)} (Ls0 : yLs own h b lst) (l8 : lst.length ≤ 8) (hB : h.1.1 + 3000 < yy_B) (hz : zz_Zr h) : yy_fin X 288 (0, zz_in [.ref w, .int (Int32.ofInt (t : Int)), .int (Int32.ofInt d)] (zz_nl 288), [], h) (fun r h' => ∃ rr, r = some (.ref rr) ∧ h.1.1 < rr ∧ yx (fun q => q = w) (2 + 32 * lst.length) (32 + 138 * lst.length) h h' ∧ yWr own h' w o p b q ∧ ∃ rs, yR h' rr 5 rs ∧ rs.length = (y_gat q T c (t : Int) d 0 lst).length ∧ ∀ (i : Nat) (z : Int × Int), (y_srt (y_gat q T c (t : Int) d 0 lst))[i]? = some z → ∃ k, rs[i]? = some (some k) ∧ h.1.1 < k ∧ yP h' k [Int32.ofInt z.1, Int32.ofInt z.2]) := by
  obtain ⟨ow0, tx0, oW0, -⟩ := id W0
  have hw1 := oW0.le
  have gl := y_gat_len q T c (t : Int) d lst 0
  have gb := y_gat_b (q := q) (T := T) (c := c) (t := (t : Int)) (d := d) ok hq.1 lst 0 (fun e he => ⟨(Ls0.2 e he).2.2.1, (Ls0.2 e he).2.2.2⟩)
  refine yy_fin.steps (n := 1) (s' := (2, [some (.ref w), some (.int (Int32.ofInt (t : Int))), some (.int (Int32.ofInt d)), none, none, none, none, none, none], [.int (Int32.ofInt 16)], h)) rfl ?_
  refine yy_fin.nr (n := 16) rfl (by decide) (by decide) (by decide) (by omega) fun h1 x1 e1 r1 => ?_
  refine yy_fin.steps (n := 5) (s' := (12, [some (.ref w), some (.int (Int32.ofInt (t : Int))), some (.int (Int32.ofInt d)), some (.ref (h.1.1 + 1)), some (.int (Int32.ofInt 0)), some (.int (Int32.ofInt 0)), none, none, none], [], h1)) rfl ?_
  have y1 : yx (fun q => q = w) (1 + 32 * 0) (16 + 136 * 0) h h1 := x1.wk (fun _ _ e => e.elim) (Nat.le_refl _) (Nat.le_refl _)
  have Z1 : yAl h h1 (h.1.1 + 1) 16 [] := ⟨_, r1, List.length_replicate .., fun i x e => nomatch e⟩
  refine yw_gather hq hw0 ok ht4 hd (Nat.lt_succ_self _) W0 Tc0 Ls0 l8 (by omega) (fun h2 n a6 y2 W2 Z2 en => ?_) lst 0 h1 [] none (List.drop_zero) (Nat.zero_le _) y1 (x1.zr hz) (W0.x x1 id) Z1 rfl (Nat.zero_le _)
  rw [en]
  obtain ⟨G, eG⟩ : ∃ G, G = y_gat q T c (t : Int) d 0 lst := ⟨_, rfl⟩
  rw [← eG] at gl gb Z2 ⊢
  have hy2 := y2.1
  refine yy_fin.steps (n := 1) (s' := (140, [some (.ref w), some (.int (Int32.ofInt (t : Int))), some (.int (Int32.ofInt d)), some (.ref (h.1.1 + 1)), some (.int (Int32.ofInt (G.length : Int))), some (.int (Int32.ofInt (lst.length : Int))), a6, none, none], [.int (Int32.ofInt (G.length : Int))], h2)) rfl ?_
  refine yy_fin.nr (n := G.length) rfl (fun z => by have z := (yi_lt (a := (G.length : Int)) (b := 0) (by omega) (by omega)).mp z; omega) ((yi_cl (a := (G.length : Int)) (by omega)).trans (Int.toNat_natCast _)) (by omega) (by omega) fun h3 x3 e3 r3 => ?_
  refine yy_fin.steps (n := 3) (s' := (148, [some (.ref w), some (.int (Int32.ofInt (t : Int))), some (.int (Int32.ofInt d)), some (.ref (h.1.1 + 1)), some (.int (Int32.ofInt (G.length : Int))), some (.ref (h2.1.1 + 1)), some (.int (Int32.ofInt 0)), none, none], [], h3)) rfl ?_
  obtain ⟨rsa, ra1, ra2, ra3⟩ := id Z2
  have hal := ra1.le
  have Z3 : yAl h h3 (h.1.1 + 1) 16 G := ⟨rsa, ra1.x x3 id, ra2, fun i x e => by obtain ⟨k, k1, k2, k3⟩ := ra3 i x e; exact ⟨k, k1, k2, k3.x x3 id⟩⟩
  refine (yw_sortL (X := X) (h0 := h) (all := h.1.1 + 1) (d := d) (w := w) (t := t) (G := G) (rr := h2.1.1 + 1) (h0b := h3) (by omega) gb (by omega) G.length 0 h3 none none (by omega) Z3 ((yx.rf (A := yF) (h := h3)).wk (B := fun q => q = h2.1.1 + 1) (fun _ _ e => e.elim) (Nat.le_refl _) (Nat.le_refl _)) ⟨_, r3, List.length_replicate .., fun i2 z hi2 => absurd hi2 (Nat.not_lt_zero _)⟩).mono fun r9 h9 z => ?_
  obtain ⟨z0, z1, rs9, z2, z3, z4⟩ := z
  refine ⟨h2.1.1 + 1, z0, by omega, ((y2.tr x3 (fun _ _ e => e.elim)).tr z1 (fun q hq e => by omega)).le (by omega) (by omega), (W2.x x3 id).x z1 (show w ≠ h2.1.1 + 1 by omega), rs9, z2, z3, z4⟩
end YW7
