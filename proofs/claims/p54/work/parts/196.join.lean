/-! THE CLASS'S RUNS AMONG OTHER CELLS: a run that makes nothing, and that begins with references to cells up to 539 alone, goes as well in any heap that holds the same up to there -/
def yj_H (h2 h1 : zz_H) : zz_H := (h2.1, (fun k => if k ≤ 539 then h1.2.1 k else h2.2.1 k, fun k => if k ≤ 539 then h1.2.2 k else h2.2.2 k))
def yj_v : Value → Prop
  | .ref k => k ≤ 539
  | _ => True
def yj_o : Option Value → Prop
  | some v => yj_v v
  | none => True
def yj_l (q : zz_L) : Prop := match q with
  | .inl _ => True
  | .inr (.inl (_, rs)) => ∀ x ∈ rs, ∀ j, x = some j → j ≤ 539
  | .inr (.inr (_, fs)) => ∀ x ∈ fs, ∀ j, x = some (some j) → j ≤ 539
def yj_h (h : zz_H) : Prop := 539 ≤ h.1.1 ∧ ∀ k, k ≤ 539 → yj_l (h.2.1 k)
def yj_s (s : zz_S) : Prop := (∀ x ∈ s.2.1, yj_o x) ∧ (∀ x ∈ s.2.2.1, yj_v x) ∧ yj_h s.2.2.2
section YJ
variable {h2 h1 h' : zz_H} {k t ci n : Nat} {lv : zz_V} {st : List Value}
theorem yj_lay (h20 : 539 ≤ h2.1.1) (h10 : 539 ≤ h1.1.1) (hk : k ≤ 539) : zz_lay (yj_H h2 h1) k = zz_lay h1 k := by
  unfold zz_lay
  rw [if_pos (show k ≤ (yj_H h2 h1).1.1 from Nat.le_trans hk h20), if_pos (Nat.le_trans hk h10)]
  show some (if k ≤ 539 then h1.2.1 k else h2.2.1 k) = _
  rw [if_pos hk]
theorem yj_obj (h20 : 539 ≤ h2.1.1) (h10 : 539 ≤ h1.1.1) (hk : k ≤ 539) : zz_obj (yj_H h2 h1) k ci = zz_obj h1 k ci := by
  unfold zz_obj
  rw [yj_lay h20 h10 hk]
theorem yj_arr (h20 : 539 ≤ h2.1.1) (h10 : 539 ≤ h1.1.1) (hk : k ≤ 539) : zz_arr (yj_H h2 h1) k t = zz_arr h1 k t := by
  unfold zz_arr
  rw [yj_lay h20 h10 hk]
theorem yj_rar (h20 : 539 ≤ h2.1.1) (h10 : 539 ≤ h1.1.1) (hk : k ≤ 539) : zz_rar (yj_H h2 h1) k = zz_rar h1 k := by
  unfold zz_rar
  rw [yj_lay h20 h10 hk]
theorem yj_int (hk : k ≤ 539) : (yj_H h2 h1).2.2 k = h1.2.2 k := if_pos hk
theorem yj_w {j : Nat} {v : Int32} (hk : k ≤ 539) : ((yj_H h2 h1).1, ((yj_H h2 h1).2.1, zz_w (yj_H h2 h1).2.2 k j v)) = yj_H h2 (h1.1, (h1.2.1, zz_w h1.2.2 k j v)) := by
  unfold yj_H
  refine Prod.ext rfl (Prod.ext rfl ?_)
  funext a
  show zz_w (fun k => if k ≤ 539 then h1.2.2 k else h2.2.2 k) k j v a = if a ≤ 539 then zz_w h1.2.2 k j v a else h2.2.2 a
  by_cases ha : a = k
  · subst ha
    rw [if_pos hk, zz_w_self, zz_w_self, if_pos hk]
  · rw [zz_w_other _ _ _ ha, zz_w_other _ _ _ ha]
theorem yj_up {f : Nat → Int32} (hk : k ≤ 539) : ((yj_H h2 h1).1, ((yj_H h2 h1).2.1, zz_up (yj_H h2 h1).2.2 k f)) = yj_H h2 (h1.1, (h1.2.1, zz_up h1.2.2 k f)) := by
  unfold yj_H
  refine Prod.ext rfl (Prod.ext rfl ?_)
  funext a
  show zz_up (fun k => if k ≤ 539 then h1.2.2 k else h2.2.2 k) k f a = if a ≤ 539 then zz_up h1.2.2 k f a else h2.2.2 a
  by_cases ha : a = k
  · subst ha
    rw [if_pos hk, zz_up_self, zz_up_self]
  · rw [zz_up_other _ _ ha, zz_up_other _ _ ha]
theorem yj_ups {q : zz_L} (hk : k ≤ 539) : ((yj_H h2 h1).1, (zz_up (yj_H h2 h1).2.1 k q, (yj_H h2 h1).2.2)) = yj_H h2 (h1.1, (zz_up h1.2.1 k q, h1.2.2)) := by
  unfold yj_H
  refine Prod.ext rfl (Prod.ext ?_ rfl)
  funext a
  show zz_up (fun k => if k ≤ 539 then h1.2.1 k else h2.2.1 k) k q a = if a ≤ 539 then zz_up h1.2.1 k q a else h2.2.1 a
  by_cases ha : a = k
  · subst ha
    rw [if_pos hk, zz_up_self, zz_up_self]
  · rw [zz_up_other _ _ ha, zz_up_other _ _ ha]
theorem yj_hw {g : Nat → Nat → Int32} (h : yj_h h1) : yj_h (h1.1, (h1.2.1, g)) := h
theorem yj_hs {q : zz_L} (h : yj_h h1) (hq : yj_l q) : yj_h (h1.1, (zz_up h1.2.1 k q, h1.2.2)) := by
  refine ⟨h.1, fun a ha => ?_⟩
  show yj_l (zz_up h1.2.1 k q a)
  by_cases e : a = k
  · subst e
    rw [zz_up_self]
    exact hq
  · rw [zz_up_other _ _ e]
    exact h.2 a ha
theorem yj_pre (h : ∀ x ∈ lv, yj_o x) (i : Nat) : ∀ x ∈ zz_pre lv i, yj_o x := by
  cases i with
  | zero => exact h
  | succ i =>
    simp only [zz_pre]
    split
    · split
      · intro x hx
        rcases List.mem_or_eq_of_mem_set hx with e | e
        · exact h x e
        · rw [e]
          trivial
      · exact h
    · exact h
theorem yj_st1 (h : ∀ x ∈ lv, yj_o x) {i : Nat} {v : Value} (hv : yj_v v) : ∀ x ∈ zz_st1 lv i v, yj_o x := by
  intro x hx
  rcases List.mem_or_eq_of_mem_set hx with e | e
  · exact yj_pre h i x e
  · rw [e]
    exact hv
theorem yj_st2 (h : ∀ x ∈ lv, yj_o x) {i : Nat} {v : Value} (hv : yj_v v) : ∀ x ∈ zz_st2 lv i v, yj_o x := by
  intro x hx
  rcases List.mem_or_eq_of_mem_set hx with e | e
  · rcases List.mem_or_eq_of_mem_set e with e | e
    · exact yj_pre h i x e
    · rw [e]
      exact hv
  · rw [e]
    trivial
theorem yj_ld (h : ∀ x ∈ lv, yj_o x) {i : Nat} {v : Value} (e : zz_ld lv i = some v) : yj_v v := by
  have h1 := zz_ld_len e
  exact h (some v) (List.mem_of_getElem? h1)
theorem yj_val {q : Option Nat} (h : ∀ j, q = some j → j ≤ 539) : yj_v (zz_val q) := by
  cases q with
  | none => trivial
  | some j => exact h j rfl
/-- one step -/
theorem yj_step {us : Nat → List Nat} {rt pc : Nat} {e : zz_I} {s' : zz_S} (h20 : 539 ≤ h2.1.1) (hc : yj_s (pc, lv, st, h1)) (hs : zz_step none us rt e pc lv st h1 = some (.inl s')) (he : s'.2.2.2.1.1 = h1.1.1) :
    zz_step none us rt e pc lv st (yj_H h2 h1) = some (.inl (s'.1, s'.2.1, s'.2.2.1, yj_H h2 s'.2.2.2)) ∧ yj_s s' := by
  obtain ⟨c1, c2, c3⟩ := hc
  change ∀ x ∈ lv, yj_o x at c1
  change ∀ x ∈ st, yj_v x at c2
  change yj_h h1 at c3
  have h10 := c3.1
  obtain ⟨i, ⟨x, y, u, w⟩, v, sw⟩ := e
  have tl : ∀ {a : Value} {r : List Value}, st = a :: r → (∀ z ∈ r, yj_v z) := fun e z hz => c2 z (by rw [e]; exact List.mem_cons_of_mem _ hz)
  have tl2 : ∀ {a b : Value} {r : List Value}, st = a :: b :: r → (∀ z ∈ r, yj_v z) := fun e z hz => c2 z (by rw [e]; exact List.mem_cons_of_mem _ (List.mem_cons_of_mem _ hz))
  have co : ∀ {a : Value} {r : List Value}, yj_v a → (∀ z ∈ r, yj_v z) → ∀ z ∈ a :: r, yj_v z := fun ha hr z hz => (List.mem_cons.mp hz).elim (fun e => by rw [e]; exact ha) (hr z)
  cases i with
  | getfield n =>
    change zz_get x y pc lv st h1 = some (.inl s') at hs
    show zz_get x y pc lv st (yj_H h2 h1) = _ ∧ _
    unfold zz_get at hs ⊢
    split at hs
    · rename_i k r
      have hk : k ≤ 539 := c2 _ List.mem_cons_self
      split at hs
      · cases hs
      · rename_i k
        rw [yj_obj h20 h10 hk]
        split at hs
        · rename_i fs ho
          rw [ho]
          dsimp only
          have hl := c3.2 _ hk
          rw [(zz_obj_ok ho).2] at hl
          split at hs
          · rename_i hf
            cases hs
            rw [yj_int hk]
            exact ⟨rfl, c1, co trivial (tl rfl), c3⟩
          · rename_i q hf
            cases hs
            exact ⟨rfl, c1, co (yj_val fun j ej => hl _ (List.mem_of_getElem? hf) j (by rw [ej])) (tl rfl), c3⟩
          · cases hs
        · cases hs
    · cases hs
  | putfield n =>
    change zz_put x y u pc lv st h1 = some (.inl s') at hs
    show zz_put x y u pc lv st (yj_H h2 h1) = _ ∧ _
    unfold zz_put at hs ⊢
    split at hs
    · rename_i a k r
      have hk : k ≤ 539 := c2 (.ref k) (List.mem_cons_of_mem _ List.mem_cons_self)
      split at hs
      · cases hs
      · rename_i k
        rw [yj_obj h20 h10 hk]
        split at hs
        · rename_i fs ho
          rw [ho]
          dsimp only
          split at hs
          · split at hs
            · rename_i hu
              cases hs
              rw [if_pos hu, yj_w hk]
              exact ⟨rfl, c1, tl2 rfl, yj_hw c3⟩
            · cases hs
          · cases hs
        · cases hs
    · rename_i q k r
      have hk : k ≤ 539 := c2 (.ref k) (List.mem_cons_of_mem _ List.mem_cons_self)
      have hq : q ≤ 539 := c2 (.ref q) List.mem_cons_self
      split at hs
      · cases hs
      · rename_i k
        rw [yj_obj h20 h10 hk]
        split at hs
        · rename_i fs ho
          rw [ho]
          dsimp only
          have hl := c3.2 _ hk
          rw [(zz_obj_ok ho).2] at hl
          split at hs
          · split at hs
            · rename_i hu
              cases hs
              rw [if_pos hu, yj_ups hk]
              refine ⟨rfl, c1, tl2 rfl, yj_hs c3 ?_⟩
              intro z hz j ej
              rcases List.mem_or_eq_of_mem_set hz with e | e
              · exact hl z e j ej
              · rw [e] at ej
                cases ej
                exact hq
            · cases hs
          · cases hs
        · cases hs
    · cases hs
  | iaload =>
    change zz_ial none pc lv st h1 = some (.inl s') at hs
    show zz_ial none pc lv st (yj_H h2 h1) = _ ∧ _
    unfold zz_ial at hs ⊢
    split at hs
    · rename_i i k r
      have hk : k ≤ 539 := c2 (.ref k) (List.mem_cons_of_mem _ List.mem_cons_self)
      split at hs
      · cases hs
      · rename_i k
        rw [yj_arr h20 h10 hk]
        split at hs
        · rename_i n ho
          rw [ho]
          dsimp only
          split at hs
          · rename_i hi
            cases hs
            rw [if_pos hi, yj_int hk]
            exact ⟨rfl, c1, co trivial (tl2 rfl), c3⟩
          · cases hs
        · cases hs
    · cases hs
  | baload =>
    change zz_bal pc lv st h1 = some (.inl s') at hs
    show zz_bal pc lv st (yj_H h2 h1) = _ ∧ _
    unfold zz_bal at hs ⊢
    split at hs
    · rename_i i k r
      have hk : k ≤ 539 := c2 (.ref k) (List.mem_cons_of_mem _ List.mem_cons_self)
      split at hs
      · cases hs
      · rename_i k
        rw [yj_arr h20 h10 hk, yj_arr h20 h10 hk]
        split at hs
        · rename_i n ho
          rw [ho]
          dsimp only
          split at hs
          · rename_i hi
            cases hs
            rw [if_pos hi, yj_int hk]
            exact ⟨rfl, c1, co trivial (tl2 rfl), c3⟩
          · cases hs
        · rename_i n ho1 ho
          rw [ho1, ho]
          dsimp only
          split at hs
          · rename_i hi
            cases hs
            rw [if_pos hi, yj_int hk]
            exact ⟨rfl, c1, co trivial (tl2 rfl), c3⟩
          · cases hs
        · cases hs
    · cases hs
  | iastore =>
    change zz_ias pc lv st h1 = some (.inl s') at hs
    show zz_ias pc lv st (yj_H h2 h1) = _ ∧ _
    unfold zz_ias at hs ⊢
    split at hs
    · rename_i a i k r
      have hk : k ≤ 539 := c2 (.ref k) (List.mem_cons_of_mem _ (List.mem_cons_of_mem _ List.mem_cons_self))
      have tr : ∀ z ∈ r, yj_v z := fun z hz => c2 z (List.mem_cons_of_mem _ (List.mem_cons_of_mem _ (List.mem_cons_of_mem _ hz)))
      split at hs
      · cases hs
      · rename_i k
        rw [yj_arr h20 h10 hk]
        split at hs
        · rename_i n ho
          rw [ho]
          dsimp only
          split at hs
          · rename_i hi
            cases hs
            rw [if_pos hi, yj_w hk]
            exact ⟨rfl, c1, tr, yj_hw c3⟩
          · cases hs
        · cases hs
    · cases hs
  | bastore =>
    change zz_bas pc lv st h1 = some (.inl s') at hs
    show zz_bas pc lv st (yj_H h2 h1) = _ ∧ _
    unfold zz_bas at hs ⊢
    split at hs
    · rename_i a i k r
      have hk : k ≤ 539 := c2 (.ref k) (List.mem_cons_of_mem _ (List.mem_cons_of_mem _ List.mem_cons_self))
      have tr : ∀ z ∈ r, yj_v z := fun z hz => c2 z (List.mem_cons_of_mem _ (List.mem_cons_of_mem _ (List.mem_cons_of_mem _ hz)))
      split at hs
      · cases hs
      · rename_i k
        rw [yj_arr h20 h10 hk, yj_arr h20 h10 hk]
        split at hs
        · rename_i n ho
          rw [ho]
          dsimp only
          split at hs
          · rename_i hi
            cases hs
            rw [if_pos hi, yj_w hk]
            exact ⟨rfl, c1, tr, yj_hw c3⟩
          · cases hs
        · rename_i n ho1 ho
          rw [ho1, ho]
          dsimp only
          split at hs
          · rename_i hi
            cases hs
            rw [if_pos hi, yj_w hk]
            exact ⟨rfl, c1, tr, yj_hw c3⟩
          · cases hs
        · cases hs
    · cases hs
  | aaload =>
    change zz_aal pc lv st h1 = some (.inl s') at hs
    show zz_aal pc lv st (yj_H h2 h1) = _ ∧ _
    unfold zz_aal at hs ⊢
    split at hs
    · rename_i i k r
      have hk : k ≤ 539 := c2 (.ref k) (List.mem_cons_of_mem _ List.mem_cons_self)
      split at hs
      · cases hs
      · rename_i k
        rw [yj_rar h20 h10 hk]
        split at hs
        · rename_i t rs ho
          rw [ho]
          dsimp only
          have hl := c3.2 _ hk
          rw [(zz_rar_ok ho).2] at hl
          split at hs
          · rename_i hi
            rw [if_pos hi]
            split at hs
            · rename_i q hq
              cases hs
              exact ⟨rfl, c1, co (yj_val fun j ej => hl _ (List.mem_of_getElem? hq) j ej) (tl2 rfl), c3⟩
            · cases hs
          · cases hs
        · cases hs
    · cases hs
  | aastore =>
    change zz_aas pc lv st h1 = some (.inl s') at hs
    show zz_aas pc lv st (yj_H h2 h1) = _ ∧ _
    unfold zz_aas at hs ⊢
    split at hs
    · rename_i q i k r
      have hk : k ≤ 539 := c2 (.ref k) (List.mem_cons_of_mem _ (List.mem_cons_of_mem _ List.mem_cons_self))
      have hq : q ≤ 539 := c2 (.ref q) List.mem_cons_self
      have tr : ∀ z ∈ r, yj_v z := fun z hz => c2 z (List.mem_cons_of_mem _ (List.mem_cons_of_mem _ (List.mem_cons_of_mem _ hz)))
      split at hs
      · rename_i k q
        rw [yj_rar h20 h10 hk]
        split at hs
        · rename_i t rs ho
          rw [ho]
          dsimp only
          rw [yj_obj h20 h10 hq]
          have hl := c3.2 _ hk
          rw [(zz_rar_ok ho).2] at hl
          split at hs
          · rename_i hi
            cases hs
            rw [if_pos hi, yj_ups hk]
            refine ⟨rfl, c1, tr, yj_hs c3 ?_⟩
            intro z hz j ej
            rcases List.mem_or_eq_of_mem_set hz with e | e
            · exact hl z e j ej
            · rw [e] at ej
              cases ej
              exact hq
          · cases hs
        · cases hs
      · cases hs
    · cases hs
  | arraylength =>
    change zz_len none pc lv st h1 = some (.inl s') at hs
    show zz_len none pc lv st (yj_H h2 h1) = _ ∧ _
    unfold zz_len at hs ⊢
    split at hs
    · rename_i k r
      have hk : k ≤ 539 := c2 (.ref k) List.mem_cons_self
      split at hs
      · cases hs
      · rename_i k
        rw [yj_lay h20 h10 hk]
        split at hs
        · rename_i t n ho
          rw [ho]
          dsimp only
          split at hs
          · rename_i hi
            cases hs
            rw [if_pos hi]
            exact ⟨rfl, c1, co trivial (tl rfl), c3⟩
          · cases hs
        · cases hs
    · cases hs
  | new n =>
    cases hs
    change h1.1.1 + 1 = h1.1.1 at he
    omega
  | newarray n =>
    obtain ⟨n, r, -, -, -, rfl⟩ := zz_nar_ok hs
    change h1.1.1 + 1 = h1.1.1 at he
    omega
  | anewarray n =>
    obtain ⟨n, r, -, -, -, rfl⟩ := zz_anr_ok hs
    change h1.1.1 + 1 = h1.1.1 at he
    omega
  | invokestatic n =>
    simp only [zz_step] at hs ⊢
    split at hs
    · unfold zz_cs zz_call at hs
      repeat' split at hs
      all_goals cases hs
    · rename_i hx
      rw [if_neg hx]
      split at hs
      · rename_i hx
        rw [if_pos hx]
        unfold zz_cpy at hs ⊢
        split at hs
        · rename_i n dp a sp b r
          have ha : a ≤ 539 := c2 (.ref a) (List.mem_cons_of_mem _ (List.mem_cons_of_mem _ List.mem_cons_self))
          have hb : b ≤ 539 := c2 (.ref b) (List.mem_cons_of_mem _ (List.mem_cons_of_mem _ (List.mem_cons_of_mem _ (List.mem_cons_of_mem _ List.mem_cons_self))))
          have tr : ∀ z ∈ r, yj_v z := fun z hz => c2 z (List.mem_cons_of_mem _ (List.mem_cons_of_mem _ (List.mem_cons_of_mem _ (List.mem_cons_of_mem _ (List.mem_cons_of_mem _ hz)))))
          split at hs
          · rename_i a b
            rw [yj_arr h20 h10 ha, yj_arr h20 h10 hb]
            split at hs
            · rename_i na nb ho1 ho2
              rw [ho1, ho2]
              dsimp only
              split at hs
              · rename_i hi
                cases hs
                rw [if_pos hi, yj_int ha, yj_int hb, yj_up ha]
                exact ⟨rfl, c1, tr, yj_hw c3⟩
              · cases hs
            · cases hs
          · cases hs
        · cases hs
      · rename_i hx
        rw [if_neg hx]
        split at hs
        · rename_i hx
          rw [if_pos hx]
          obtain ⟨a, d, r, rfl, hr, rfl⟩ := zz_mm_ok hs
          unfold zz_mm
          dsimp only
          rw [if_pos hr]
          exact ⟨rfl, c1, co trivial (tl2 rfl), c3⟩
        · rename_i hx
          rw [if_neg hx]
          split at hs
          · rename_i hx
            rw [if_pos hx]
            obtain ⟨a, d, r, rfl, hr, rfl⟩ := zz_mm_ok hs
            unfold zz_mm
            dsimp only
            rw [if_pos hr]
            exact ⟨rfl, c1, co trivial (tl2 rfl), c3⟩
          · rename_i hx
            rw [if_neg hx]
            split at hs
            · rename_i hx
              rw [if_pos hx]
              obtain ⟨a, r, rfl, hr, rfl⟩ := zz_ma_ok hs
              unfold zz_ma
              dsimp only
              rw [if_pos hr]
              exact ⟨rfl, c1, co trivial (tl rfl), c3⟩
            · cases hs
  | invokevirtual n =>
    simp only [zz_step, zz_cv, zz_call] at hs
    repeat' split at hs
    all_goals cases hs
  | invokespecial n =>
    simp only [zz_step] at hs ⊢
    split at hs
    · rename_i hx
      rw [if_pos hx]
      split at hs
      · split at hs
        · rename_i hr
          cases hs
          rw [if_pos hr]
          exact ⟨rfl, c1, tl rfl, c3⟩
        · cases hs
      · cases hs
    · unfold zz_cv zz_call at hs
      repeat' split at hs
      all_goals cases hs
  | iload j =>
    obtain ⟨a, ha, rfl⟩ := zz_int_ok hs
    show zz_int lv j _ st (yj_H h2 h1) = _ ∧ _
    unfold zz_int
    rw [ha]
    exact ⟨rfl, c1, co trivial c2, c3⟩
  | iload_n j =>
    obtain ⟨a, ha, rfl⟩ := zz_int_ok hs
    show zz_int lv (j : Nat) _ st (yj_H h2 h1) = _ ∧ _
    unfold zz_int
    rw [ha]
    exact ⟨rfl, c1, co trivial c2, c3⟩
  | lload j =>
    obtain ⟨a, ha, rfl⟩ := zz_lng_ok hs
    show zz_lng lv j _ st (yj_H h2 h1) = _ ∧ _
    unfold zz_lng
    rw [ha]
    exact ⟨rfl, c1, co trivial c2, c3⟩
  | lload_n j =>
    obtain ⟨a, ha, rfl⟩ := zz_lng_ok hs
    show zz_lng lv (j : Nat) _ st (yj_H h2 h1) = _ ∧ _
    unfold zz_lng
    rw [ha]
    exact ⟨rfl, c1, co trivial c2, c3⟩
  | aload j =>
    obtain ⟨a, ha, rfl⟩ | ⟨ha, rfl⟩ := zz_rfl_ok hs
    · show zz_rfl lv j _ st (yj_H h2 h1) = _ ∧ _
      unfold zz_rfl
      rw [ha]
      exact ⟨rfl, c1, co (yj_ld c1 ha) c2, c3⟩
    · show zz_rfl lv j _ st (yj_H h2 h1) = _ ∧ _
      unfold zz_rfl
      rw [ha]
      exact ⟨rfl, c1, co trivial c2, c3⟩
  | aload_n j =>
    obtain ⟨a, ha, rfl⟩ | ⟨ha, rfl⟩ := zz_rfl_ok hs
    · show zz_rfl lv (j : Nat) _ st (yj_H h2 h1) = _ ∧ _
      unfold zz_rfl
      rw [ha]
      exact ⟨rfl, c1, co (yj_ld c1 ha) c2, c3⟩
    · show zz_rfl lv (j : Nat) _ st (yj_H h2 h1) = _ ∧ _
      unfold zz_rfl
      rw [ha]
      exact ⟨rfl, c1, co trivial c2, c3⟩
  | istore j =>
    obtain ⟨a, r, rfl, hj, rfl⟩ := zz_is_ok hs
    show zz_is lv j (pc + 2) (.int a :: r) (yj_H h2 h1) = _ ∧ _
    unfold zz_is
    dsimp only
    rw [if_pos hj]
    exact ⟨rfl, yj_st1 c1 trivial, tl rfl, c3⟩
  | istore_n j =>
    obtain ⟨a, r, rfl, hj, rfl⟩ := zz_is_ok hs
    show zz_is lv (j : Nat) (pc + 1) (.int a :: r) (yj_H h2 h1) = _ ∧ _
    unfold zz_is
    dsimp only
    rw [if_pos hj]
    exact ⟨rfl, yj_st1 c1 trivial, tl rfl, c3⟩
  | lstore j =>
    obtain ⟨a, r, rfl, hj, rfl⟩ := zz_ls_ok hs
    show zz_ls lv j (pc + 2) (.long a :: r) (yj_H h2 h1) = _ ∧ _
    unfold zz_ls
    dsimp only
    rw [if_pos hj]
    exact ⟨rfl, yj_st2 c1 trivial, tl rfl, c3⟩
  | lstore_n j =>
    obtain ⟨a, r, rfl, hj, rfl⟩ := zz_ls_ok hs
    show zz_ls lv (j : Nat) (pc + 1) (.long a :: r) (yj_H h2 h1) = _ ∧ _
    unfold zz_ls
    dsimp only
    rw [if_pos hj]
    exact ⟨rfl, yj_st2 c1 trivial, tl rfl, c3⟩
  | astore j =>
    obtain ⟨a, r, rfl, hj, rfl⟩ | ⟨r, rfl, hj, rfl⟩ := zz_as_ok hs
    · show zz_as lv j (pc + 2) (.ref a :: r) (yj_H h2 h1) = _ ∧ _
      unfold zz_as
      dsimp only
      rw [if_pos hj]
      exact ⟨rfl, yj_st1 c1 (c2 (.ref a) List.mem_cons_self), tl rfl, c3⟩
    · show zz_as lv j (pc + 2) (.null :: r) (yj_H h2 h1) = _ ∧ _
      unfold zz_as
      dsimp only
      rw [if_pos hj]
      exact ⟨rfl, yj_st1 c1 (v := .null) trivial, tl rfl, c3⟩
  | astore_n j =>
    obtain ⟨a, r, rfl, hj, rfl⟩ | ⟨r, rfl, hj, rfl⟩ := zz_as_ok hs
    · show zz_as lv (j : Nat) (pc + 1) (.ref a :: r) (yj_H h2 h1) = _ ∧ _
      unfold zz_as
      dsimp only
      rw [if_pos hj]
      exact ⟨rfl, yj_st1 c1 (c2 (.ref a) List.mem_cons_self), tl rfl, c3⟩
    · show zz_as lv (j : Nat) (pc + 1) (.null :: r) (yj_H h2 h1) = _ ∧ _
      unfold zz_as
      dsimp only
      rw [if_pos hj]
      exact ⟨rfl, yj_st1 c1 (v := .null) trivial, tl rfl, c3⟩
  | iadd =>
    obtain ⟨a, d, r, rfl, rfl⟩ := zz_i2_ok hs
    exact ⟨rfl, c1, co trivial (tl2 rfl), c3⟩
  | isub =>
    obtain ⟨a, d, r, rfl, rfl⟩ := zz_i2_ok hs
    exact ⟨rfl, c1, co trivial (tl2 rfl), c3⟩
  | imul =>
    obtain ⟨a, d, r, rfl, rfl⟩ := zz_i2_ok hs
    exact ⟨rfl, c1, co trivial (tl2 rfl), c3⟩
  | iand =>
    obtain ⟨a, d, r, rfl, rfl⟩ := zz_i2_ok hs
    exact ⟨rfl, c1, co trivial (tl2 rfl), c3⟩
  | ior =>
    obtain ⟨a, d, r, rfl, rfl⟩ := zz_i2_ok hs
    exact ⟨rfl, c1, co trivial (tl2 rfl), c3⟩
  | ixor =>
    obtain ⟨a, d, r, rfl, rfl⟩ := zz_i2_ok hs
    exact ⟨rfl, c1, co trivial (tl2 rfl), c3⟩
  | iushr =>
    obtain ⟨a, d, r, rfl, rfl⟩ := zz_i2_ok hs
    exact ⟨rfl, c1, co trivial (tl2 rfl), c3⟩
  | ishr =>
    obtain ⟨a, d, r, rfl, rfl⟩ := zz_i2_ok hs
    exact ⟨rfl, c1, co trivial (tl2 rfl), c3⟩
  | ladd =>
    obtain ⟨a, d, r, rfl, rfl⟩ := zz_l2_ok hs
    exact ⟨rfl, c1, co trivial (tl2 rfl), c3⟩
  | lsub =>
    obtain ⟨a, d, r, rfl, rfl⟩ := zz_l2_ok hs
    exact ⟨rfl, c1, co trivial (tl2 rfl), c3⟩
  | lmul =>
    obtain ⟨a, d, r, rfl, rfl⟩ := zz_l2_ok hs
    exact ⟨rfl, c1, co trivial (tl2 rfl), c3⟩
  | ifCond cn off =>
    obtain ⟨a, r, rfl, ⟨hp, rfl⟩ | ⟨hp, rfl⟩⟩ := zz_if_ok hs
    · show zz_if (zz_cond cn) pc x lv (.int a :: r) (yj_H h2 h1) = _ ∧ _
      unfold zz_if
      dsimp only
      rw [if_pos hp]
      exact ⟨rfl, c1, tl rfl, c3⟩
    · show zz_if (zz_cond cn) pc x lv (.int a :: r) (yj_H h2 h1) = _ ∧ _
      unfold zz_if
      dsimp only
      rw [if_neg hp]
      exact ⟨rfl, c1, tl rfl, c3⟩
  | if_icmp cn off =>
    obtain ⟨a, d, r, rfl, ⟨hp, rfl⟩ | ⟨hp, rfl⟩⟩ := zz_ic_ok hs
    · show zz_ic (zz_cmp cn) pc x lv (.int d :: .int a :: r) (yj_H h2 h1) = _ ∧ _
      unfold zz_ic
      dsimp only
      rw [if_pos hp]
      exact ⟨rfl, c1, tl2 rfl, c3⟩
    · show zz_ic (zz_cmp cn) pc x lv (.int d :: .int a :: r) (yj_H h2 h1) = _ ∧ _
      unfold zz_ic
      dsimp only
      rw [if_neg hp]
      exact ⟨rfl, c1, tl2 rfl, c3⟩
  | idiv =>
    simp only [zz_step] at hs ⊢
    split at hs
    · split at hs
      · cases hs
      · rename_i hb
        cases hs
        dsimp only
        rw [if_neg hb]
        exact ⟨rfl, c1, co trivial (tl2 rfl), c3⟩
    · cases hs
  | irem =>
    simp only [zz_step] at hs ⊢
    split at hs
    · split at hs
      · cases hs
      · rename_i hb
        cases hs
        dsimp only
        rw [if_neg hb]
        exact ⟨rfl, c1, co trivial (tl2 rfl), c3⟩
    · cases hs
  | ldiv =>
    simp only [zz_step] at hs ⊢
    split at hs
    · split at hs
      · cases hs
      · rename_i hb
        cases hs
        dsimp only
        rw [if_neg hb]
        exact ⟨rfl, c1, co trivial (tl2 rfl), c3⟩
    · cases hs
  | lcmp =>
    simp only [zz_step] at hs
    split at hs
    · cases hs
      exact ⟨rfl, c1, co trivial (tl2 rfl), c3⟩
    · cases hs
  | ineg =>
    simp only [zz_step] at hs
    split at hs
    · cases hs
      exact ⟨rfl, c1, co trivial (tl rfl), c3⟩
    · cases hs
  | i2l =>
    simp only [zz_step] at hs
    split at hs
    · cases hs
      exact ⟨rfl, c1, co trivial (tl rfl), c3⟩
    · cases hs
  | l2i =>
    simp only [zz_step] at hs
    split at hs
    · cases hs
      exact ⟨rfl, c1, co trivial (tl rfl), c3⟩
    · cases hs
  | i2b =>
    simp only [zz_step] at hs
    split at hs
    · cases hs
      exact ⟨rfl, c1, co trivial (tl rfl), c3⟩
    · cases hs
  | iconst n =>
    cases hs
    exact ⟨rfl, c1, co trivial c2, c3⟩
  | bipush n =>
    cases hs
    exact ⟨rfl, c1, co trivial c2, c3⟩
  | sipush n =>
    cases hs
    exact ⟨rfl, c1, co trivial c2, c3⟩
  | lconst n =>
    cases hs
    exact ⟨rfl, c1, co trivial c2, c3⟩
  | aconst_null =>
    cases hs
    exact ⟨rfl, c1, co trivial c2, c3⟩
  | ldc n =>
    simp only [zz_step] at hs
    split at hs
    · cases hs
      exact ⟨rfl, c1, co trivial c2, c3⟩
    · cases hs
  | ldc_w n =>
    simp only [zz_step] at hs
    split at hs
    · cases hs
      exact ⟨rfl, c1, co trivial c2, c3⟩
    · cases hs
  | ldc2_w n =>
    simp only [zz_step] at hs
    split at hs
    · cases hs
      exact ⟨rfl, c1, co trivial c2, c3⟩
    · cases hs
  | goto n =>
    cases hs
    exact ⟨rfl, c1, c2, c3⟩
  | ifnull n =>
    simp only [zz_step] at hs
    split at hs
    · cases hs
      exact ⟨rfl, c1, tl rfl, c3⟩
    · cases hs
      exact ⟨rfl, c1, tl rfl, c3⟩
    · cases hs
  | ifnonnull n =>
    simp only [zz_step] at hs
    split at hs
    · cases hs
      exact ⟨rfl, c1, tl rfl, c3⟩
    · cases hs
      exact ⟨rfl, c1, tl rfl, c3⟩
    · cases hs
  | tableswitch d lo hi offs =>
    simp only [zz_step] at hs
    split at hs
    · cases hs
      exact ⟨rfl, c1, tl rfl, c3⟩
    · cases hs
  | lookupswitch d ps =>
    simp only [zz_step] at hs
    split at hs
    · cases hs
      exact ⟨rfl, c1, tl rfl, c3⟩
    · cases hs
  | iinc j n =>
    simp only [zz_step] at hs ⊢
    split at hs
    · rename_i a ha
      split at hs
      · rename_i hj
        cases hs
        rw [if_pos hj]
        exact ⟨rfl, yj_st1 c1 trivial, c2, c3⟩
      · cases hs
    · cases hs
  | dup =>
    simp only [zz_step] at hs ⊢
    split at hs
    · rename_i a r
      split at hs
      · rename_i hj
        cases hs
        rw [if_pos hj]
        exact ⟨rfl, c1, co (c2 a List.mem_cons_self) c2, c3⟩
      · cases hs
    · cases hs
  | pop =>
    simp only [zz_step] at hs ⊢
    split at hs
    · split at hs
      · rename_i hj
        cases hs
        rw [if_pos hj]
        exact ⟨rfl, c1, tl rfl, c3⟩
      · cases hs
    · cases hs
  | dup2 =>
    simp only [zz_step] at hs ⊢
    split at hs
    · rename_i a b r
      split at hs
      · rename_i hj
        cases hs
        rw [if_pos hj]
        exact ⟨rfl, c1, co (c2 a List.mem_cons_self) (co (c2 b (List.mem_cons_of_mem _ List.mem_cons_self)) c2), c3⟩
      · cases hs
    · cases hs
  | dup_x1 =>
    simp only [zz_step] at hs ⊢
    split at hs
    · rename_i a b r
      split at hs
      · rename_i hj
        cases hs
        rw [if_pos hj]
        exact ⟨rfl, c1, co (c2 a List.mem_cons_self) (co (c2 b (List.mem_cons_of_mem _ List.mem_cons_self)) (co (c2 a List.mem_cons_self) (tl2 rfl))), c3⟩
      · cases hs
    · cases hs
  | ireturn =>
    simp only [zz_step] at hs
    repeat' split at hs
    all_goals cases hs
  | areturn =>
    simp only [zz_step] at hs
    repeat' split at hs
    all_goals cases hs
  | return_ =>
    simp only [zz_step] at hs
    repeat' split at hs
    all_goals cases hs
  | _ => cases hs
theorem yj_endv {us : Nat → List Nat} {rt pc : Nat} {e : zz_I} {r : zz_R} (hs : zz_step none us rt e pc lv st h1 = some (.inr (.inl r))) : zz_step none us rt e pc lv st (yj_H h2 h1) = some (.inr (.inl (r.1, r.2.1, yj_H h2 h1))) := by
  obtain ⟨i, ⟨x, y, u, w⟩, v, sw⟩ := e
  cases i with
  | ireturn =>
    simp only [zz_step] at hs ⊢
    split at hs
    · split at hs
      · rename_i hc
        cases hs
        dsimp only
        rw [if_pos hc]
      · cases hs
    · cases hs
  | areturn =>
    simp only [zz_step] at hs ⊢
    split at hs
    · split at hs
      · rename_i hc
        cases hs
        dsimp only
        rw [if_pos hc]
      · cases hs
    · split at hs
      · rename_i hc
        cases hs
        dsimp only
        rw [if_pos hc]
      · cases hs
    · cases hs
  | return_ =>
    simp only [zz_step] at hs ⊢
    split at hs
    · split at hs
      · rename_i hc
        cases hs
        dsimp only
        rw [if_pos hc]
      · cases hs
    · cases hs
  | _ =>
    have h5 := zz_step_end hs
    rcases h5.2.2.2 with ⟨q, -⟩ | ⟨q, -⟩ | ⟨q, -⟩ <;> cases q
theorem yj_call {us : Nat → List Nat} {rt pc m2 : Nat} {e : zz_I} {as rest : List Value} (h20 : 539 ≤ h2.1.1) (hc : yj_s (pc, lv, st, h1)) (hs : zz_step none us rt e pc lv st h1 = some (.inr (.inr (m2, as, rest)))) : zz_step none us rt e pc lv st (yj_H h2 h1) = some (.inr (.inr (m2, as, rest))) ∧ (∀ x ∈ as, yj_v x) ∧ ∀ x ∈ rest, yj_v x := by
  obtain ⟨c1, c2, c3⟩ := hc
  have c2 : ∀ x ∈ st, yj_v x := c2
  have c3 : yj_h h1 := c3
  have h10 := c3.1
  obtain ⟨i, ⟨x, y, u, w⟩, v, sw⟩ := e
  obtain ⟨rfl, h8, ⟨⟨k, rfl⟩, hx, hl, rfl⟩ | ⟨hi, k, as', rfl, hl, rfl, hob⟩⟩ := zz_step_call hs
  · refine ⟨?_, fun z hz => c2 z (List.mem_append_left _ (List.mem_reverse.mpr hz)), fun z hz => c2 z (List.mem_append_right _ hz)⟩
    simp only [zz_step] at hs ⊢
    rw [if_pos hx] at hs ⊢
    exact hs
  · have hk : k + 1 ≤ 539 := c2 (.ref (k + 1)) (List.mem_append_right _ List.mem_cons_self)
    have hA : ∀ z ∈ as', yj_v z := fun z hz => c2 z (List.mem_append_left _ (List.mem_reverse.mpr hz))
    have hR : ∀ z ∈ rest, yj_v z := fun z hz => c2 z (List.mem_append_right _ (List.mem_cons_of_mem _ hz))
    have key : zz_cv m2 y u (as'.reverse ++ .ref (k + 1) :: rest) (yj_H h2 h1) = zz_cv m2 y u (as'.reverse ++ .ref (k + 1) :: rest) h1 := by
      have hd : (as'.reverse ++ Value.ref (k + 1) :: rest).drop y = .ref (k + 1) :: rest := by rw [show y = as'.reverse.length by rw [List.length_reverse]; exact hl.symm, List.drop_left]
      unfold zz_cv
      rw [hd]
      dsimp only
      rw [yj_obj h20 h10 hk]
    refine ⟨?_, fun z hz => (List.mem_cons.mp hz).elim (fun e => by rw [e]; exact hk) (hA z), hR⟩
    rcases hi with ⟨n, rfl⟩ | ⟨⟨n, rfl⟩, hx⟩
    · show zz_cv m2 y u _ (yj_H h2 h1) = _
      rw [key]
      exact hs
    · simp only [zz_step] at hs ⊢
      rw [if_neg hx] at hs ⊢
      rw [key]
      exact hs
end YJ
theorem yj_in {as : List Value} {n : Nat} (h : ∀ x ∈ as, yj_v x) : ∀ x ∈ zz_in as n, yj_o x := by
  intro x hx
  unfold zz_in at hx
  rcases List.mem_append.mp hx with e | e
  · obtain ⟨v, hv, hx⟩ := List.mem_flatMap.mp e
    split at hx
    · rcases List.mem_cons.mp hx with e | e
      · rw [e]
        exact h v hv
      · rw [List.mem_singleton.mp e]
        trivial
    · rw [List.mem_singleton.mp hx]
      exact h v hv
  · rw [List.eq_of_mem_replicate e]
    trivial
/-- any run -/
theorem yj_walk {P : zz_P} {us : Nat → List Nat} {h2 : zz_H} (h20 : 539 ≤ h2.1.1) : ∀ (n m : Nat) (s : zz_S) (q : Nat) (v : Option Value) (h' : zz_H), yj_s s → zz_walk P us none n m s = some (.inr (q, v, h')) → h'.1.1 = s.2.2.2.1.1 → zz_walk P us none n m (s.1, s.2.1, s.2.2.1, yj_H h2 s.2.2.2) = some (.inr (q, v, yj_H h2 h')) ∧ yj_o v ∧ yj_h h'
  | 0, m, s, q, v, h', hc, hw, he => by cases hw
  | n + 1, m, (pc, lv, st, h), q, v, h', hc, hw, he => by
    have he : h'.1.1 = h.1.1 := he
    show zz_walk P us none (n + 1) m (pc, lv, st, yj_H h2 h) = _ ∧ _
    unfold zz_walk at hw ⊢
    cases hT : P.1 m pc with
    | none => rw [hT] at hw; cases hw
    | some e =>
      rw [hT] at hw
      dsimp only at hw ⊢
      cases hs : zz_step none us (P.2.1 m) e pc lv st h with
      | none => rw [hs] at hw; cases hw
      | some o =>
        rw [hs] at hw
        cases o with
        | inl s' =>
          dsimp only at hw
          have h5 := zz_step_more hs
          have h6 := zz_walk_more n m s' _ hw
          have h6 : s'.2.2.2.1.1 ≤ h'.1.1 := h6.1
          obtain ⟨a1, a2⟩ := yj_step h20 hc hs (by omega)
          rw [a1]
          exact yj_walk h20 n m s' q v h' a2 hw (by omega)
        | inr o =>
          cases o with
          | inl r' =>
            cases hw
            have h5 := zz_step_end hs
            have h7 : h = h' := h5.2.1.symm
            subst h7
            rw [yj_endv (h2 := h2) hs]
            refine ⟨rfl, ?_, hc.2.2⟩
            have h8 : st = v.toList := h5.2.2.1
            cases v with
            | none => trivial
            | some v => exact hc.2.1 v (by show v ∈ st; rw [h8]; exact List.mem_cons_self)
          | inr o =>
            obtain ⟨m2, as, rest⟩ := o
            dsimp only at hw
            obtain ⟨a1, a2, a3⟩ := yj_call h20 hc hs
            rw [a1]
            dsimp only
            by_cases hf : (zz_in as 0).length ≤ P.2.2 m2
            · rw [if_pos hf] at hw ⊢
              cases hcw : zz_walk P us none n m2 (0, zz_in as (P.2.2 m2), [], h) with
              | none => rw [hcw] at hw; cases hw
              | some o2 =>
                rw [hcw] at hw
                cases o2 with
                | inl s2 => cases hw
                | inr r2 =>
                  obtain ⟨q2, v2, h3⟩ := r2
                  dsimp only at hw
                  have h5 := zz_walk_more n m2 _ _ hcw
                  have h6 := zz_walk_more n m _ _ hw
                  have h5 : h.1.1 ≤ h3.1.1 := h5.1
                  have h6 : h3.1.1 ≤ h'.1.1 := h6.1
                  obtain ⟨b1, b2, b3⟩ := yj_walk h20 n m2 (0, zz_in as (P.2.2 m2), [], h) q2 v2 h3 ⟨yj_in a2, fun z hz => absurd hz List.not_mem_nil, hc.2.2⟩ hcw (by show h3.1.1 = h.1.1; omega)
                  have b1 : zz_walk P us none n m2 (0, zz_in as (P.2.2 m2), [], yj_H h2 h) = some (.inr (q2, v2, yj_H h2 h3)) := b1
                  rw [b1]
                  dsimp only
                  refine yj_walk h20 n m (pc + 3, lv, v2.toList ++ rest, h3) q v h' ⟨hc.1, fun z hz => ?_, b3⟩ hw (by show h'.1.1 = h3.1.1; omega)
                  rcases List.mem_append.mp hz with e | e
                  · cases v2 with
                    | none => cases e
                    | some v2 =>
                      rw [List.mem_singleton.mp e]
                      exact b2
                  · exact a3 z e
            · rw [if_neg hf] at hw
              cases hw
/-- the same in the second machine's words -/
theorem yj_fin {X : yy_X} {m : Nat} {as : List Value} {h1 h2 : zz_H} {φ : Option Value → zz_H → Prop} (f : zz_fin none m (0, zz_in as (zz_nl m), [], h1) φ) (hc : ∀ v h', φ v h' → h'.1.1 = h1.1.1) (ha : ∀ x ∈ as, yj_v x) (hh : yj_h h1) (h20 : 539 ≤ h2.1.1) (hA : h2 = yj_H h2 h1) :
    yy_fin X m (0, zz_in as (zz_nl m), [], h2) (fun v h => ∃ h', φ v h' ∧ h = yj_H h2 h' ∧ yj_o v ∧ yj_h h') := by
  obtain ⟨n, q, v, h', w, p⟩ := f
  obtain ⟨b1, b2, b3⟩ := yj_walk (h2 := h2) h20 n m (0, zz_in as (zz_nl m), [], h1) q v h' ⟨yj_in ha, fun z hz => absurd hz List.not_mem_nil, hh⟩ w (hc v h' p)
  have b1 : zz_walk zz_Q zz_us none n m (0, zz_in as (zz_nl m), [], yj_H h2 h1) = some (.inr (q, v, yj_H h2 h')) := b1
  rw [← hA] at b1
  exact ⟨n, q, v, _, yy_up _ _ _ _ (zz_walk_X _ _ _ _ b1), h', p, rfl, b2, b3⟩
