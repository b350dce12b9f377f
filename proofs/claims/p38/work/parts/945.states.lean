/-! ANY STATE OF THE CLASS: what its cells are, rules for them, what copyFrom does -/
def cs_all : List Nat := [2, 34, 68, 100, 132, 164, 196, 228, 260, 292, 324, 356, 388, 420, 476, 508]
def cs_town (T : Nat) : zz_L := .inr (.inr (7, [none, none, some (some (T + 1)), some (some (T + 2)), some (some (T + 3)), some (some (T + 4))]))
/-- a town, a state's bells, a state -/
def ct_tw (T : Nat) : Prop := (T ≠ 0 ∧ T + 4 ≤ 553) ∧ zz_ly T = cs_town T ∧ zz_ly (T + 1) = .inl (0, 12) ∧ zz_ly (T + 2) = .inl (0, 12) ∧ zz_ly (T + 3) = .inl (0, 12) ∧ zz_ly (T + 4) = .inl (0, 12)
def ct_bl (B : Nat) : Prop := (B ≠ 0 ∧ B + 9 ≤ 553) ∧ zz_ly B = .inr (.inr (1, [none, none, some (some (B + 1)), some (some (B + 2)), some (some (B + 3)), some (some (B + 4)), some (some (B + 5)), some (some (B + 6)), some (some (B + 7)), some (some (B + 8)), some (some (B + 9))])) ∧ zz_ly (B + 1) = .inl (0, 8) ∧ zz_ly (B + 2) = .inl (0, 8) ∧ zz_ly (B + 3) = .inl (0, 8) ∧ zz_ly (B + 4) = .inl (0, 8) ∧ zz_ly (B + 5) = .inl (0, 8) ∧ zz_ly (B + 6) = .inl (0, 8) ∧ zz_ly (B + 7) = .inl (0, 40) ∧ zz_ly (B + 8) = .inl (0, 40) ∧ zz_ly (B + 9) = .inl (0, 40)
def cs_ok (S : Nat) : Prop := ((S ≠ 0 ∧ S + 31 ≤ 553) ∧ zz_ly S = .inr (.inr (5, [none, none, some (some (S + 1)), some (some (S + 2))])) ∧ zz_ly (S + 1) = .inr (.inl (3, [some (S + 12), some (S + 17), some (S + 22), some (S + 27)]))) ∧ ct_bl (S + 2) ∧ ct_tw (S + 12) ∧ ct_tw (S + 17) ∧ ct_tw (S + 22) ∧ ct_tw (S + 27)
theorem cs_ok_2 : cs_ok 2 := ⟨⟨⟨by decide, by decide⟩, rfl, rfl⟩, ⟨⟨by decide, by decide⟩, rfl, rfl, rfl, rfl, rfl, rfl, rfl, rfl, rfl, rfl⟩, ⟨⟨by decide, by decide⟩, rfl, rfl, rfl, rfl, rfl⟩, ⟨⟨by decide, by decide⟩, rfl, rfl, rfl, rfl, rfl⟩, ⟨⟨by decide, by decide⟩, rfl, rfl, rfl, rfl, rfl⟩, ⟨⟨by decide, by decide⟩, rfl, rfl, rfl, rfl, rfl⟩⟩
theorem cs_ok_34 : cs_ok 34 := ⟨⟨⟨by decide, by decide⟩, rfl, rfl⟩, ⟨⟨by decide, by decide⟩, rfl, rfl, rfl, rfl, rfl, rfl, rfl, rfl, rfl, rfl⟩, ⟨⟨by decide, by decide⟩, rfl, rfl, rfl, rfl, rfl⟩, ⟨⟨by decide, by decide⟩, rfl, rfl, rfl, rfl, rfl⟩, ⟨⟨by decide, by decide⟩, rfl, rfl, rfl, rfl, rfl⟩, ⟨⟨by decide, by decide⟩, rfl, rfl, rfl, rfl, rfl⟩⟩
theorem cs_ok_68 : cs_ok 68 := ⟨⟨⟨by decide, by decide⟩, rfl, rfl⟩, ⟨⟨by decide, by decide⟩, rfl, rfl, rfl, rfl, rfl, rfl, rfl, rfl, rfl, rfl⟩, ⟨⟨by decide, by decide⟩, rfl, rfl, rfl, rfl, rfl⟩, ⟨⟨by decide, by decide⟩, rfl, rfl, rfl, rfl, rfl⟩, ⟨⟨by decide, by decide⟩, rfl, rfl, rfl, rfl, rfl⟩, ⟨⟨by decide, by decide⟩, rfl, rfl, rfl, rfl, rfl⟩⟩
theorem cs_ok_100 : cs_ok 100 := ⟨⟨⟨by decide, by decide⟩, rfl, rfl⟩, ⟨⟨by decide, by decide⟩, rfl, rfl, rfl, rfl, rfl, rfl, rfl, rfl, rfl, rfl⟩, ⟨⟨by decide, by decide⟩, rfl, rfl, rfl, rfl, rfl⟩, ⟨⟨by decide, by decide⟩, rfl, rfl, rfl, rfl, rfl⟩, ⟨⟨by decide, by decide⟩, rfl, rfl, rfl, rfl, rfl⟩, ⟨⟨by decide, by decide⟩, rfl, rfl, rfl, rfl, rfl⟩⟩
theorem cs_ok_132 : cs_ok 132 := ⟨⟨⟨by decide, by decide⟩, rfl, rfl⟩, ⟨⟨by decide, by decide⟩, rfl, rfl, rfl, rfl, rfl, rfl, rfl, rfl, rfl, rfl⟩, ⟨⟨by decide, by decide⟩, rfl, rfl, rfl, rfl, rfl⟩, ⟨⟨by decide, by decide⟩, rfl, rfl, rfl, rfl, rfl⟩, ⟨⟨by decide, by decide⟩, rfl, rfl, rfl, rfl, rfl⟩, ⟨⟨by decide, by decide⟩, rfl, rfl, rfl, rfl, rfl⟩⟩
theorem cs_ok_164 : cs_ok 164 := ⟨⟨⟨by decide, by decide⟩, rfl, rfl⟩, ⟨⟨by decide, by decide⟩, rfl, rfl, rfl, rfl, rfl, rfl, rfl, rfl, rfl, rfl⟩, ⟨⟨by decide, by decide⟩, rfl, rfl, rfl, rfl, rfl⟩, ⟨⟨by decide, by decide⟩, rfl, rfl, rfl, rfl, rfl⟩, ⟨⟨by decide, by decide⟩, rfl, rfl, rfl, rfl, rfl⟩, ⟨⟨by decide, by decide⟩, rfl, rfl, rfl, rfl, rfl⟩⟩
theorem cs_ok_196 : cs_ok 196 := ⟨⟨⟨by decide, by decide⟩, rfl, rfl⟩, ⟨⟨by decide, by decide⟩, rfl, rfl, rfl, rfl, rfl, rfl, rfl, rfl, rfl, rfl⟩, ⟨⟨by decide, by decide⟩, rfl, rfl, rfl, rfl, rfl⟩, ⟨⟨by decide, by decide⟩, rfl, rfl, rfl, rfl, rfl⟩, ⟨⟨by decide, by decide⟩, rfl, rfl, rfl, rfl, rfl⟩, ⟨⟨by decide, by decide⟩, rfl, rfl, rfl, rfl, rfl⟩⟩
theorem cs_ok_228 : cs_ok 228 := ⟨⟨⟨by decide, by decide⟩, rfl, rfl⟩, ⟨⟨by decide, by decide⟩, rfl, rfl, rfl, rfl, rfl, rfl, rfl, rfl, rfl, rfl⟩, ⟨⟨by decide, by decide⟩, rfl, rfl, rfl, rfl, rfl⟩, ⟨⟨by decide, by decide⟩, rfl, rfl, rfl, rfl, rfl⟩, ⟨⟨by decide, by decide⟩, rfl, rfl, rfl, rfl, rfl⟩, ⟨⟨by decide, by decide⟩, rfl, rfl, rfl, rfl, rfl⟩⟩
theorem cs_ok_260 : cs_ok 260 := ⟨⟨⟨by decide, by decide⟩, rfl, rfl⟩, ⟨⟨by decide, by decide⟩, rfl, rfl, rfl, rfl, rfl, rfl, rfl, rfl, rfl, rfl⟩, ⟨⟨by decide, by decide⟩, rfl, rfl, rfl, rfl, rfl⟩, ⟨⟨by decide, by decide⟩, rfl, rfl, rfl, rfl, rfl⟩, ⟨⟨by decide, by decide⟩, rfl, rfl, rfl, rfl, rfl⟩, ⟨⟨by decide, by decide⟩, rfl, rfl, rfl, rfl, rfl⟩⟩
theorem cs_ok_292 : cs_ok 292 := ⟨⟨⟨by decide, by decide⟩, rfl, rfl⟩, ⟨⟨by decide, by decide⟩, rfl, rfl, rfl, rfl, rfl, rfl, rfl, rfl, rfl, rfl⟩, ⟨⟨by decide, by decide⟩, rfl, rfl, rfl, rfl, rfl⟩, ⟨⟨by decide, by decide⟩, rfl, rfl, rfl, rfl, rfl⟩, ⟨⟨by decide, by decide⟩, rfl, rfl, rfl, rfl, rfl⟩, ⟨⟨by decide, by decide⟩, rfl, rfl, rfl, rfl, rfl⟩⟩
theorem cs_ok_324 : cs_ok 324 := ⟨⟨⟨by decide, by decide⟩, rfl, rfl⟩, ⟨⟨by decide, by decide⟩, rfl, rfl, rfl, rfl, rfl, rfl, rfl, rfl, rfl, rfl⟩, ⟨⟨by decide, by decide⟩, rfl, rfl, rfl, rfl, rfl⟩, ⟨⟨by decide, by decide⟩, rfl, rfl, rfl, rfl, rfl⟩, ⟨⟨by decide, by decide⟩, rfl, rfl, rfl, rfl, rfl⟩, ⟨⟨by decide, by decide⟩, rfl, rfl, rfl, rfl, rfl⟩⟩
theorem cs_ok_356 : cs_ok 356 := ⟨⟨⟨by decide, by decide⟩, rfl, rfl⟩, ⟨⟨by decide, by decide⟩, rfl, rfl, rfl, rfl, rfl, rfl, rfl, rfl, rfl, rfl⟩, ⟨⟨by decide, by decide⟩, rfl, rfl, rfl, rfl, rfl⟩, ⟨⟨by decide, by decide⟩, rfl, rfl, rfl, rfl, rfl⟩, ⟨⟨by decide, by decide⟩, rfl, rfl, rfl, rfl, rfl⟩, ⟨⟨by decide, by decide⟩, rfl, rfl, rfl, rfl, rfl⟩⟩
theorem cs_ok_388 : cs_ok 388 := ⟨⟨⟨by decide, by decide⟩, rfl, rfl⟩, ⟨⟨by decide, by decide⟩, rfl, rfl, rfl, rfl, rfl, rfl, rfl, rfl, rfl, rfl⟩, ⟨⟨by decide, by decide⟩, rfl, rfl, rfl, rfl, rfl⟩, ⟨⟨by decide, by decide⟩, rfl, rfl, rfl, rfl, rfl⟩, ⟨⟨by decide, by decide⟩, rfl, rfl, rfl, rfl, rfl⟩, ⟨⟨by decide, by decide⟩, rfl, rfl, rfl, rfl, rfl⟩⟩
theorem cs_ok_420 : cs_ok 420 := ⟨⟨⟨by decide, by decide⟩, rfl, rfl⟩, ⟨⟨by decide, by decide⟩, rfl, rfl, rfl, rfl, rfl, rfl, rfl, rfl, rfl, rfl⟩, ⟨⟨by decide, by decide⟩, rfl, rfl, rfl, rfl, rfl⟩, ⟨⟨by decide, by decide⟩, rfl, rfl, rfl, rfl, rfl⟩, ⟨⟨by decide, by decide⟩, rfl, rfl, rfl, rfl, rfl⟩, ⟨⟨by decide, by decide⟩, rfl, rfl, rfl, rfl, rfl⟩⟩
theorem cs_ok_476 : cs_ok 476 := ⟨⟨⟨by decide, by decide⟩, rfl, rfl⟩, ⟨⟨by decide, by decide⟩, rfl, rfl, rfl, rfl, rfl, rfl, rfl, rfl, rfl, rfl⟩, ⟨⟨by decide, by decide⟩, rfl, rfl, rfl, rfl, rfl⟩, ⟨⟨by decide, by decide⟩, rfl, rfl, rfl, rfl, rfl⟩, ⟨⟨by decide, by decide⟩, rfl, rfl, rfl, rfl, rfl⟩, ⟨⟨by decide, by decide⟩, rfl, rfl, rfl, rfl, rfl⟩⟩
theorem cs_ok_508 : cs_ok 508 := ⟨⟨⟨by decide, by decide⟩, rfl, rfl⟩, ⟨⟨by decide, by decide⟩, rfl, rfl, rfl, rfl, rfl, rfl, rfl, rfl, rfl, rfl⟩, ⟨⟨by decide, by decide⟩, rfl, rfl, rfl, rfl, rfl⟩, ⟨⟨by decide, by decide⟩, rfl, rfl, rfl, rfl, rfl⟩, ⟨⟨by decide, by decide⟩, rfl, rfl, rfl, rfl, rfl⟩, ⟨⟨by decide, by decide⟩, rfl, rfl, rfl, rfl, rfl⟩⟩
theorem cs_of {S : Nat} (h : S ∈ cs_all) : cs_ok S := by
  rcases List.mem_cons.mp h with rfl | h
  · exact cs_ok_2
  rcases List.mem_cons.mp h with rfl | h
  · exact cs_ok_34
  rcases List.mem_cons.mp h with rfl | h
  · exact cs_ok_68
  rcases List.mem_cons.mp h with rfl | h
  · exact cs_ok_100
  rcases List.mem_cons.mp h with rfl | h
  · exact cs_ok_132
  rcases List.mem_cons.mp h with rfl | h
  · exact cs_ok_164
  rcases List.mem_cons.mp h with rfl | h
  · exact cs_ok_196
  rcases List.mem_cons.mp h with rfl | h
  · exact cs_ok_228
  rcases List.mem_cons.mp h with rfl | h
  · exact cs_ok_260
  rcases List.mem_cons.mp h with rfl | h
  · exact cs_ok_292
  rcases List.mem_cons.mp h with rfl | h
  · exact cs_ok_324
  rcases List.mem_cons.mp h with rfl | h
  · exact cs_ok_356
  rcases List.mem_cons.mp h with rfl | h
  · exact cs_ok_388
  rcases List.mem_cons.mp h with rfl | h
  · exact cs_ok_420
  rcases List.mem_cons.mp h with rfl | h
  · exact cs_ok_476
  rcases List.mem_cons.mp h with rfl | h
  · exact cs_ok_508
  cases h
theorem cs_tw_at {S : Nat} (h : cs_ok S) {t : Nat} (ht : t < 4) : ct_tw (5 * t + (S + 12)) := by
  obtain ⟨-, -, h1, h2, h3, h4⟩ := h
  rcases dt_four ht with rfl | rfl | rfl | rfl
  · rw [show 5 * 0 + (S + 12) = S + 12 by omega]; exact h1
  · rw [show 5 * 1 + (S + 12) = S + 17 by omega]; exact h2
  · rw [show 5 * 2 + (S + 12) = S + 22 by omega]; exact h3
  · rw [show 5 * 3 + (S + 12) = S + 27 by omega]; exact h4
section AJ
variable {X : zz_X} {m pc : Nat} {lv : zz_V} {φ : Option Value → zz_H → Prop} {g : aa_G} {k y : Nat} {r : List Value} {u w : Nat} {vv : Value} {sw : List (Int × Nat)} {c : Nat} {fs : List (Option (Option Nat))}
theorem cs_obj (hk : k ≠ 0 ∧ k ≤ 553) (hl : zz_ly k = .inr (.inr (c, fs))) : zz_obj (aa_H g) k c = some fs := by
  unfold zz_obj zz_lay
  rw [show (if k ≤ (aa_H g).1.1 then some ((aa_H g).2.1 k) else none) = some (zz_ly k) from if_pos hk.2, hl]
  exact if_pos rfl
theorem zz_fin.sgf {i : Nat} (hT : zz_T m pc = some (.getfield i, (c, y, u, w), vv, sw)) (hk : k ≠ 0 ∧ k ≤ 553) (hl : zz_ly k = .inr (.inr (c, fs))) (hf : fs[y]? = some none) (kk : zz_fin X m (pc + 3, lv, .int (g k y) :: r, aa_H g) φ) : zz_fin X m (pc, lv, .ref k :: r, aa_H g) φ := by
  have ho := cs_obj (g := g) hk hl
  obtain ⟨k', rfl⟩ : ∃ k', k = k' + 1 := ⟨k - 1, by omega⟩
  refine zz_fin.step1 hT ?_ kk
  show zz_get c y pc lv (.ref (k' + 1) :: r) (aa_H g) = _
  unfold zz_get
  dsimp only
  rw [ho]
  dsimp only
  rw [hf]
  rfl
theorem zz_fin.sgr {i q : Nat} (hT : zz_T m pc = some (.getfield i, (c, y, u, w), vv, sw)) (hk : k ≠ 0 ∧ k ≤ 553) (hl : zz_ly k = .inr (.inr (c, fs))) (hf : fs[y]? = some (some (some q))) (kk : zz_fin X m (pc + 3, lv, .ref q :: r, aa_H g) φ) : zz_fin X m (pc, lv, .ref k :: r, aa_H g) φ := by
  have ho := cs_obj (g := g) hk hl
  obtain ⟨k', rfl⟩ : ∃ k', k = k' + 1 := ⟨k - 1, by omega⟩
  refine zz_fin.step1 hT ?_ kk
  show zz_get c y pc lv (.ref (k' + 1) :: r) (aa_H g) = _
  unfold zz_get
  dsimp only
  rw [ho]
  dsimp only
  rw [hf]
  rfl
theorem zz_fin.spf {i : Nat} {a : Int32} (hT : zz_T m pc = some (.putfield i, (c, y, 0, w), vv, sw)) (hk : k ≠ 0 ∧ k ≤ 553) (hl : zz_ly k = .inr (.inr (c, fs))) (hf : fs[y]? = some none) (kk : zz_fin X m (pc + 3, lv, r, aa_H (zz_w g k y a)) φ) : zz_fin X m (pc, lv, .int a :: .ref k :: r, aa_H g) φ := by
  have ho := cs_obj (g := g) hk hl
  obtain ⟨k', rfl⟩ : ∃ k', k = k' + 1 := ⟨k - 1, by omega⟩
  refine zz_fin.step1 hT ?_ kk
  show zz_put c y 0 pc lv (.int a :: .ref (k' + 1) :: r) (aa_H g) = _
  unfold zz_put
  dsimp only
  rw [ho]
  dsimp only
  rw [hf]
  dsimp only
  rw [if_pos (.inl rfl)]
  rfl
theorem zz_fin.sal {t i q : Nat} {rs : List (Option Nat)} (hT : zz_T m pc = some (.aaload, (c, y, u, w), vv, sw)) (hk : k ≠ 0 ∧ k ≤ 553) (hl : zz_ly k = .inr (.inl (t, rs))) (ht : t = 3 ∨ t = 4) (hi : i < 100) (hf : rs[i]? = some (some q)) (kk : zz_fin X m (pc + 1, lv, .ref q :: r, aa_H g) φ) : zz_fin X m (pc, lv, .int (Int32.ofNat i) :: .ref k :: r, aa_H g) φ := by
  have ho : zz_rar (aa_H g) k = some (t, rs) := by
    unfold zz_rar zz_lay
    rw [show (if k ≤ (aa_H g).1.1 then some ((aa_H g).2.1 k) else none) = some (zz_ly k) from if_pos hk.2, hl]
  obtain ⟨k', rfl⟩ : ∃ k', k = k' + 1 := ⟨k - 1, by omega⟩
  have hil := (List.getElem?_eq_some_iff.mp hf).1
  refine zz_fin.step1 hT ?_ kk
  show zz_aal pc lv (.int (Int32.ofNat i) :: .ref (k' + 1) :: r) (aa_H g) = _
  unfold zz_aal
  dsimp only
  rw [ho]
  dsimp only
  by_cases hb : rs.length < 2147483648
  · rw [if_pos ⟨zz_inbN hil hb, ht⟩, zz_toN (by omega), hf]
    rfl
  · have e : zz_inb (Int32.ofNat i) rs.length = true := by
      refine (decide_eq_true_iff).mpr fun e => ?_
      rw [zz_toN (by omega)] at e
      rcases e with e | e
      · have e := aa_lt32.mp e
        rw [zz_ofN (by omega), show (0 : Int32).toInt = 0 from rfl] at e
        omega
      · omega
    rw [if_pos ⟨e, ht⟩, zz_toN (by omega), hf]
    rfl
theorem cs_arr (hk : k ≠ 0 ∧ k ≤ 553) {n : Nat} (hl : zz_ly k = .inl (0, n)) : zz_arr (aa_H g) k 0 = some n := by
  unfold zz_arr zz_lay
  rw [show (if k ≤ (aa_H g).1.1 then some ((aa_H g).2.1 k) else none) = some (zz_ly k) from if_pos hk.2, hl]
  exact if_pos rfl
theorem zz_fin.scp {i a b n : Nat} {n0 : Int32} (hT : zz_T m pc = some (.invokestatic i, (100001, y, u, w), vv, sw)) (ha : (a ≠ 0 ∧ a ≤ 553) ∧ zz_ly a = .inl (0, n)) (hb : (b ≠ 0 ∧ b ≤ 553) ∧ zz_ly b = .inl (0, n)) (hn : n0.toNatClampNeg = n ∧ ¬ n0 < 0) (hr : r = []) (kk : zz_fin X m (pc + 3, lv, [], aa_H (zz_up g a (va_cpy (g b) (g a) 0 0 n))) φ) : zz_fin X m (pc, lv, .int n0 :: .int 0 :: .ref a :: .int 0 :: .ref b :: r, aa_H g) φ := by
  subst hr
  have ea := cs_arr (g := g) ha.1 ha.2
  have eb := cs_arr (g := g) hb.1 hb.2
  obtain ⟨a', rfl⟩ : ∃ a', a = a' + 1 := ⟨a - 1, by omega⟩
  obtain ⟨b', rfl⟩ : ∃ b', b = b' + 1 := ⟨b - 1, by omega⟩
  refine zz_fin.step1 hT ?_ kk
  show zz_cpy pc lv (.int n0 :: .int 0 :: .ref (a' + 1) :: .int 0 :: .ref (b' + 1) :: []) (aa_H g) = _
  unfold zz_cpy
  dsimp only
  rw [ea, eb]
  dsimp only
  have h0 : (0 : Int32).toNatClampNeg = 0 := rfl
  rw [if_pos ⟨by decide, by decide, hn.2, by rw [h0, hn.1]; omega, by rw [h0, hn.1]; omega, by decide⟩, h0, hn.1]
  rfl
theorem zz_fin.callr {m2 n i : Nat} {as : List Value} {rest st : List Value} {ψ : Option Value → zz_H → Prop} (hT : zz_T m pc = some (.invokevirtual i, (m2, n, c, w), vv, sw)) (hst : st = as.reverse ++ .ref k :: rest) (hn : as.length = n) (hk : k ≠ 0 ∧ k ≤ 553) (hl : zz_ly k = .inr (.inr (c, fs))) (h8 : (rest.map fun v => v.category).sum ≤ 8) (hf : (zz_in (.ref k :: as) 0).length ≤ zz_nl m2)
    (kc : zz_fin X m2 (0, zz_in (.ref k :: as) (zz_nl m2), [], aa_H g) ψ) (kk : ∀ v h', ψ v h' → zz_fin X m (pc + 3, lv, v.toList ++ rest, h') φ) : zz_fin X m (pc, lv, st, aa_H g) φ := by
  have ho := cs_obj (g := g) hk hl
  obtain ⟨k', rfl⟩ : ∃ k', k = k' + 1 := ⟨k - 1, by omega⟩
  exact zz_fin.callv hT hst hn (by rw [ho]; rfl) h8 hf kc kk
end AJ
theorem zz_up_at {α : Type} (f : Nat → α) (k : Nat) (v : α) : zz_up f k v k = v := zz_up_self f k v
theorem zz_up_ne {α : Type} (f : Nat → α) {k j : Nat} (v : α) (h : j ≠ k) : zz_up f k v j = f j := zz_up_other f v h
