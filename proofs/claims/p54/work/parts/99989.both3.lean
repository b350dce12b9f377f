/-! THE LAW ASKS OF TWO TOWNS (300): rings, quiet, what it asks last (printed by wip/p54/w22.py) -/
theorem y_hit_d {a : Nat → Int32} {t : Nat} {lst : List (yBell × List fl_T)} {d s : Int} : y_hit a t lst d s = y_any (yRd a t lst d) s 0 (yRd a t lst d).length := by
  unfold y_hit yRd
  by_cases c : 0 ≤ d ∧ d ≤ 35999
  · rw [if_pos c, if_pos c]
  · rw [if_neg c, if_neg c]
    rfl
section YD22
variable {X : yy_X} {own : yOwn} {w t t2 L : Nat} {xs : Nat → Int32} {lst : List (yBell × List fl_T)} {g0 g : aa_G} {h h0 : zz_H} {day fr : Int} {φ : Option Value → zz_H → Prop}
theorem ym_i {q20 k23 q24 q26 i : Nat} {sm q gp was i15 D S IS : Int} {L2 : List (Int × Int)} {x8 x9 x10 x11 x12 x13 x14 : Option Value} (H26 : yRr h w q26 L2) (R24 : yRw h w q24 [Int32.ofInt D, Int32.ofInt S]) (l16 : L2.length ≤ 16) (hb : ∀ z ∈ L2, 0 ≤ z.1 ∧ z.1 < 86400) (hS : 0 ≤ S ∧ S ≤ 86399) (kk : ∀ x29 : Option Value, yy_fin X 300 (591, [some (.ref 1), some (.ref w), some (.ref 0), some (.int (Int32.ofInt fr)), some (.int (Int32.ofInt (t : Int))), some (.int (Int32.ofInt (t2 : Int))), some (.int (Int32.ofInt day)), some (.int (Int32.ofInt (4 * (t : Int) + (t2 : Int)))), x8, x9, x10, x11, x12, x13, x14, some (.int (Int32.ofInt i15)), some (.int (Int32.ofInt sm)), some (.int (Int32.ofInt q)), some (.int (Int32.ofInt gp)), some (.int (Int32.ofInt was)), some (.ref q20), some (.int (Int32.ofInt ((yRq (g0 541) t lst day).length : Int))), some (.int (Int32.ofInt (i : Int))), some (.ref k23), some (.ref q24), some (.int (Int32.ofInt IS)), some (.ref q26), some (.int (Int32.ofInt (L2.length : Int))), some (.int (Int32.ofInt (L2.length : Int))), x29], [], h) φ) : ∀ (n j : Nat) (is : Int) (x29 : Option Value), j + n = L2.length → (is = 0 ∨ is = 1) → (if is = 1 then 1 else y_any L2 S j n) = IS → yy_fin X 300 (548, [some (.ref 1), some (.ref w), some (.ref 0), some (.int (Int32.ofInt fr)), some (.int (Int32.ofInt (t : Int))), some (.int (Int32.ofInt (t2 : Int))), some (.int (Int32.ofInt day)), some (.int (Int32.ofInt (4 * (t : Int) + (t2 : Int)))), x8, x9, x10, x11, x12, x13, x14, some (.int (Int32.ofInt i15)), some (.int (Int32.ofInt sm)), some (.int (Int32.ofInt q)), some (.int (Int32.ofInt gp)), some (.int (Int32.ofInt was)), some (.ref q20), some (.int (Int32.ofInt ((yRq (g0 541) t lst day).length : Int))), some (.int (Int32.ofInt (i : Int))), some (.ref k23), some (.ref q24), some (.int (Int32.ofInt is)), some (.ref q26), some (.int (Int32.ofInt (L2.length : Int))), some (.int (Int32.ofInt (j : Int))), x29], [], h) φ
  | 0, j, is, x29, hj, hi, e => by
    have e0 : is = IS := by rw [← e]; rcases hi with z | z <;> rw [z] <;> rfl
    subst e0
    rw [show (j : Int) = (L2.length : Int) by omega]
    refine yy_fin.steps (n := 2) (s' := (552, [some (.ref 1), some (.ref w), some (.ref 0), some (.int (Int32.ofInt fr)), some (.int (Int32.ofInt (t : Int))), some (.int (Int32.ofInt (t2 : Int))), some (.int (Int32.ofInt day)), some (.int (Int32.ofInt (4 * (t : Int) + (t2 : Int)))), x8, x9, x10, x11, x12, x13, x14, some (.int (Int32.ofInt i15)), some (.int (Int32.ofInt sm)), some (.int (Int32.ofInt q)), some (.int (Int32.ofInt gp)), some (.int (Int32.ofInt was)), some (.ref q20), some (.int (Int32.ofInt ((yRq (g0 541) t lst day).length : Int))), some (.int (Int32.ofInt (i : Int))), some (.ref k23), some (.ref q24), some (.int (Int32.ofInt is)), some (.ref q26), some (.int (Int32.ofInt (L2.length : Int))), some (.int (Int32.ofInt (L2.length : Int))), x29], [.int (Int32.ofInt (L2.length : Int)), .int (Int32.ofInt (L2.length : Int))], h)) rfl ?_
    refine yy_fin.ic rfl (fun cq => ?_) (fun cq => absurd ((yi_c_ge (a := (L2.length : Int)) (b := (L2.length : Int)) (by omega) (by omega)).mpr (by omega)) cq)
    have cq := (yi_c_ge (a := (L2.length : Int)) (b := (L2.length : Int)) (by omega) (by omega)).mp cq
    exact kk _
  | n + 1, j, is, x29, hj, hi, e => by
    obtain ⟨zj, ezj⟩ : ∃ z, L2[j]? = some z := ⟨_, List.getElem?_eq_getElem (by omega)⟩
    obtain ⟨z1, z2⟩ := y_s_at ezj
    have zb := hb zj (List.mem_of_getElem? ezj)
    have ey : y_any L2 S j (n + 1) = if y_s1 L2 j = S then 1 else y_any L2 S (j + 1) n := rfl
    rw [ey, z1] at e
    obtain ⟨m26, rs26, R26, l26, a26⟩ := id H26
    obtain ⟨kj, ekj, Rj⟩ := a26 j zj ezj
    refine yy_fin.steps (n := 2) (s' := (552, [some (.ref 1), some (.ref w), some (.ref 0), some (.int (Int32.ofInt fr)), some (.int (Int32.ofInt (t : Int))), some (.int (Int32.ofInt (t2 : Int))), some (.int (Int32.ofInt day)), some (.int (Int32.ofInt (4 * (t : Int) + (t2 : Int)))), x8, x9, x10, x11, x12, x13, x14, some (.int (Int32.ofInt i15)), some (.int (Int32.ofInt sm)), some (.int (Int32.ofInt q)), some (.int (Int32.ofInt gp)), some (.int (Int32.ofInt was)), some (.ref q20), some (.int (Int32.ofInt ((yRq (g0 541) t lst day).length : Int))), some (.int (Int32.ofInt (i : Int))), some (.ref k23), some (.ref q24), some (.int (Int32.ofInt is)), some (.ref q26), some (.int (Int32.ofInt (L2.length : Int))), some (.int (Int32.ofInt (j : Int))), x29], [.int (Int32.ofInt (L2.length : Int)), .int (Int32.ofInt (j : Int))], h)) rfl ?_
    refine yy_fin.ic rfl (fun cq => absurd ((yi_c_ge (a := (j : Int)) (b := (L2.length : Int)) (by omega) (by omega)).mp cq) (by omega)) (fun cq => ?_)
    have cq := mt (yi_c_ge (a := (j : Int)) (b := (L2.length : Int)) (by omega) (by omega)).mpr cq
    refine yy_fin.steps (n := 2) (s' := (559, [some (.ref 1), some (.ref w), some (.ref 0), some (.int (Int32.ofInt fr)), some (.int (Int32.ofInt (t : Int))), some (.int (Int32.ofInt (t2 : Int))), some (.int (Int32.ofInt day)), some (.int (Int32.ofInt (4 * (t : Int) + (t2 : Int)))), x8, x9, x10, x11, x12, x13, x14, some (.int (Int32.ofInt i15)), some (.int (Int32.ofInt sm)), some (.int (Int32.ofInt q)), some (.int (Int32.ofInt gp)), some (.int (Int32.ofInt was)), some (.ref q20), some (.int (Int32.ofInt ((yRq (g0 541) t lst day).length : Int))), some (.int (Int32.ofInt (i : Int))), some (.ref k23), some (.ref q24), some (.int (Int32.ofInt is)), some (.ref q26), some (.int (Int32.ofInt (L2.length : Int))), some (.int (Int32.ofInt (j : Int))), x29], [.int (Int32.ofInt (j : Int)), .ref q26], h)) rfl ?_
    refine yy_fin.ar rfl R26 (by decide) (yi_inb (a := (j : Int)) (by omega) (by omega) (by omega)) ((yi_cl (a := (j : Int)) (by omega)).trans (Int.toNat_natCast j)) ekj ?_
    refine yy_fin.steps (n := 2) (s' := (564, [some (.ref 1), some (.ref w), some (.ref 0), some (.int (Int32.ofInt fr)), some (.int (Int32.ofInt (t : Int))), some (.int (Int32.ofInt (t2 : Int))), some (.int (Int32.ofInt day)), some (.int (Int32.ofInt (4 * (t : Int) + (t2 : Int)))), x8, x9, x10, x11, x12, x13, x14, some (.int (Int32.ofInt i15)), some (.int (Int32.ofInt sm)), some (.int (Int32.ofInt q)), some (.int (Int32.ofInt gp)), some (.int (Int32.ofInt was)), some (.ref q20), some (.int (Int32.ofInt ((yRq (g0 541) t lst day).length : Int))), some (.int (Int32.ofInt (i : Int))), some (.ref k23), some (.ref q24), some (.int (Int32.ofInt is)), some (.ref q26), some (.int (Int32.ofInt (L2.length : Int))), some (.int (Int32.ofInt (j : Int))), some (.ref kj)], [.int (Int32.ofInt is)], h)) rfl ?_
    refine yy_fin.if rfl (fun c101 => ?_) (fun c101 => ?_)
    · have c101 := (yi_z_ne (a := is) (by omega)).mp c101
      refine yy_fin.steps (n := 5) (s' := (548, [some (.ref 1), some (.ref w), some (.ref 0), some (.int (Int32.ofInt fr)), some (.int (Int32.ofInt (t : Int))), some (.int (Int32.ofInt (t2 : Int))), some (.int (Int32.ofInt day)), some (.int (Int32.ofInt (4 * (t : Int) + (t2 : Int)))), x8, x9, x10, x11, x12, x13, x14, some (.int (Int32.ofInt i15)), some (.int (Int32.ofInt sm)), some (.int (Int32.ofInt q)), some (.int (Int32.ofInt gp)), some (.int (Int32.ofInt was)), some (.ref q20), some (.int (Int32.ofInt ((yRq (g0 541) t lst day).length : Int))), some (.int (Int32.ofInt (i : Int))), some (.ref k23), some (.ref q24), some (.int (Int32.ofInt 1)), some (.ref q26), some (.int (Int32.ofInt (L2.length : Int))), some (.int ((Int32.ofInt (j : Int)) + (Int32.ofInt 1))), some (.ref kj)], [], h)) rfl ?_
      rw [yi_add (j : Int) 1]
      rw [show (j : Int) + 1 = ((j + 1 : Nat) : Int) by omega]
      exact ym_i H26 R24 l16 hb hS kk n (j + 1) _ _ (by omega) (Or.inr rfl) (by rw [← e, if_pos rfl, if_pos (by omega)])
    · have c101 := mt (yi_z_ne (a := is) (by omega)).mpr c101
      refine yy_fin.steps (n := 2) (s' := (570, [some (.ref 1), some (.ref w), some (.ref 0), some (.int (Int32.ofInt fr)), some (.int (Int32.ofInt (t : Int))), some (.int (Int32.ofInt (t2 : Int))), some (.int (Int32.ofInt day)), some (.int (Int32.ofInt (4 * (t : Int) + (t2 : Int)))), x8, x9, x10, x11, x12, x13, x14, some (.int (Int32.ofInt i15)), some (.int (Int32.ofInt sm)), some (.int (Int32.ofInt q)), some (.int (Int32.ofInt gp)), some (.int (Int32.ofInt was)), some (.ref q20), some (.int (Int32.ofInt ((yRq (g0 541) t lst day).length : Int))), some (.int (Int32.ofInt (i : Int))), some (.ref k23), some (.ref q24), some (.int (Int32.ofInt is)), some (.ref q26), some (.int (Int32.ofInt (L2.length : Int))), some (.int (Int32.ofInt (j : Int))), some (.ref kj)], [.int (Int32.ofInt 0), .ref kj], h)) rfl ?_
      refine yy_fin.lp (j := 0) rfl Rj.2 rfl (by decide) rfl ?_
      refine yy_fin.steps (n := 2) (s' := (574, [some (.ref 1), some (.ref w), some (.ref 0), some (.int (Int32.ofInt fr)), some (.int (Int32.ofInt (t : Int))), some (.int (Int32.ofInt (t2 : Int))), some (.int (Int32.ofInt day)), some (.int (Int32.ofInt (4 * (t : Int) + (t2 : Int)))), x8, x9, x10, x11, x12, x13, x14, some (.int (Int32.ofInt i15)), some (.int (Int32.ofInt sm)), some (.int (Int32.ofInt q)), some (.int (Int32.ofInt gp)), some (.int (Int32.ofInt was)), some (.ref q20), some (.int (Int32.ofInt ((yRq (g0 541) t lst day).length : Int))), some (.int (Int32.ofInt (i : Int))), some (.ref k23), some (.ref q24), some (.int (Int32.ofInt is)), some (.ref q26), some (.int (Int32.ofInt (L2.length : Int))), some (.int (Int32.ofInt (j : Int))), some (.ref kj)], [.int (Int32.ofInt 1), .ref q24, .int (Int32.ofInt zj.1)], h)) rfl ?_
      refine yy_fin.lp (j := 1) rfl R24.2 rfl (by decide) rfl ?_
      refine yy_fin.ic rfl (fun c102 => ?_) (fun c102 => ?_)
      · have c102 := (yi_c_ne (a := zj.1) (b := S) (by omega) (by omega)).mp c102
        refine yy_fin.steps (n := 4) (s' := (548, [some (.ref 1), some (.ref w), some (.ref 0), some (.int (Int32.ofInt fr)), some (.int (Int32.ofInt (t : Int))), some (.int (Int32.ofInt (t2 : Int))), some (.int (Int32.ofInt day)), some (.int (Int32.ofInt (4 * (t : Int) + (t2 : Int)))), x8, x9, x10, x11, x12, x13, x14, some (.int (Int32.ofInt i15)), some (.int (Int32.ofInt sm)), some (.int (Int32.ofInt q)), some (.int (Int32.ofInt gp)), some (.int (Int32.ofInt was)), some (.ref q20), some (.int (Int32.ofInt ((yRq (g0 541) t lst day).length : Int))), some (.int (Int32.ofInt (i : Int))), some (.ref k23), some (.ref q24), some (.int (Int32.ofInt 0)), some (.ref q26), some (.int (Int32.ofInt (L2.length : Int))), some (.int ((Int32.ofInt (j : Int)) + (Int32.ofInt 1))), some (.ref kj)], [], h)) rfl ?_
        rw [yi_add (j : Int) 1]
        rw [show (j : Int) + 1 = ((j + 1 : Nat) : Int) by omega]
        exact ym_i H26 R24 l16 hb hS kk n (j + 1) _ _ (by omega) (Or.inl rfl) (by rw [← e, if_neg (by decide), if_neg (by omega), if_neg (by omega)])
      · have c102 := mt (yi_c_ne (a := zj.1) (b := S) (by omega) (by omega)).mpr c102
        refine yy_fin.steps (n := 5) (s' := (548, [some (.ref 1), some (.ref w), some (.ref 0), some (.int (Int32.ofInt fr)), some (.int (Int32.ofInt (t : Int))), some (.int (Int32.ofInt (t2 : Int))), some (.int (Int32.ofInt day)), some (.int (Int32.ofInt (4 * (t : Int) + (t2 : Int)))), x8, x9, x10, x11, x12, x13, x14, some (.int (Int32.ofInt i15)), some (.int (Int32.ofInt sm)), some (.int (Int32.ofInt q)), some (.int (Int32.ofInt gp)), some (.int (Int32.ofInt was)), some (.ref q20), some (.int (Int32.ofInt ((yRq (g0 541) t lst day).length : Int))), some (.int (Int32.ofInt (i : Int))), some (.ref k23), some (.ref q24), some (.int (Int32.ofInt 1)), some (.ref q26), some (.int (Int32.ofInt (L2.length : Int))), some (.int ((Int32.ofInt (j : Int)) + (Int32.ofInt 1))), some (.ref kj)], [], h)) rfl ?_
        rw [yi_add (j : Int) 1]
        rw [show (j : Int) + 1 = ((j + 1 : Nat) : Int) by omega]
        exact ym_i H26 R24 l16 hb hS kk n (j + 1) _ _ (by omega) (Or.inr rfl) (by rw [← e, if_pos rfl, if_neg (by omega), if_pos (by omega)])
theorem ym_q (F : yCf own w lst g0) (ht : (t : Int) < (g0 541 0).toInt) (ht2 : (t2 : Int) < (g0 541 0).toInt) (hd : 0 ≤ day ∧ day ≤ 35999) {A E q20 n20 : Nat} {i15 SM Q G : Int} {x8 x9 x10 x11 x12 x13 x14 : Option Value} (hR : h0.1.1 + A + 4000 < yy_B) (kk : ∀ WS : Int, ∀ h' x22 x23 x24 x25 x26 x27 x28 x29, yCx own w lst g0 h' g → yx (yAk w) A E h0 h' → yy_fin X 300 (664, [some (.ref 1), some (.ref w), some (.ref 0), some (.int (Int32.ofInt fr)), some (.int (Int32.ofInt (t : Int))), some (.int (Int32.ofInt (t2 : Int))), some (.int (Int32.ofInt day)), some (.int (Int32.ofInt (4 * (t : Int) + (t2 : Int)))), x8, x9, x10, x11, x12, x13, x14, some (.int (Int32.ofInt i15)), some (.int (Int32.ofInt SM)), some (.int (Int32.ofInt Q)), some (.int (Int32.ofInt G)), some (.int (Int32.ofInt WS)), some (.ref q20), some (.int (Int32.ofInt ((yRq (g0 541) t lst day).length : Int))), x22, x23, x24, x25, x26, x27, x28, x29], [], h') φ) : ∀ (n i : Nat) (h : zz_H) (sm q gp was : Int) (x23 x24 x25 x26 x27 x28 x29 : Option Value) (a e : Nat), i + n = (yRq (g0 541) t lst day).length → fd_i (sa_f (g0 541) t t2 lst day) i n sm = SM → fd_i (qt_f (yRq (g0 541) t lst day)) i (n + 1) (q, gp) = (Q, G) → was = (if i = 0 then 0 else y_s1 (yRq (g0 541) t lst day) (i - 1)) → (0 ≤ was ∧ was ≤ 86400) → (-1 ≤ gp ∧ gp ≤ 86400) → yCx own w lst g0 h g → yx (yAk w) a e h0 h → yRrz n20 h w q20 (yRq (g0 541) t lst day) → a + 270 * n ≤ A → e + 1200 * n ≤ E → yy_fin X 300 (471, [some (.ref 1), some (.ref w), some (.ref 0), some (.int (Int32.ofInt fr)), some (.int (Int32.ofInt (t : Int))), some (.int (Int32.ofInt (t2 : Int))), some (.int (Int32.ofInt day)), some (.int (Int32.ofInt (4 * (t : Int) + (t2 : Int)))), x8, x9, x10, x11, x12, x13, x14, some (.int (Int32.ofInt i15)), some (.int (Int32.ofInt sm)), some (.int (Int32.ofInt q)), some (.int (Int32.ofInt gp)), some (.int (Int32.ofInt was)), some (.ref q20), some (.int (Int32.ofInt ((yRq (g0 541) t lst day).length : Int))), some (.int (Int32.ofInt (i : Int))), x23, x24, x25, x26, x27, x28, x29], [], h) φ
  | 0, i, h, sm, q, gp, was, x23, x24, x25, x26, x27, x28, x29, a, e, hn, eS, eQ, ew, hw, hg_, C, Y, H20, hA, hE => by
    have n4 := F.2.2.2.1
    have hq := F.2.2.2.2.1
    have hY := Y.1
    have hg := C.2.1.2
    have l8 := F.2.2.1.2.1
    have l16 := yRq_len (t := t) (d := day) F.2.2.1
    have hb := yRq_b (d := day) F.2.2.2 ht F.2.2.1
    have eS : sm = SM := eS
    have eQ2 : qt_f (yRq (g0 541) t lst day) i (q, gp) = (Q, G) := eQ
    have ei : i = (yRq (g0 541) t lst day).length := by omega
    have ec : qt_f (yRq (g0 541) t lst day) i (q, gp) = if 86400 - was ≤ gp then (q, gp) else (was, 86400 - was) := by
      unfold qt_f
      rw [if_pos ei, ← ew]
    rw [ec] at eQ2
    rw [show (i : Int) = ((yRq (g0 541) t lst day).length : Int) by omega]
    refine yy_fin.steps (n := 2) (s' := (475, [some (.ref 1), some (.ref w), some (.ref 0), some (.int (Int32.ofInt fr)), some (.int (Int32.ofInt (t : Int))), some (.int (Int32.ofInt (t2 : Int))), some (.int (Int32.ofInt day)), some (.int (Int32.ofInt (4 * (t : Int) + (t2 : Int)))), x8, x9, x10, x11, x12, x13, x14, some (.int (Int32.ofInt i15)), some (.int (Int32.ofInt sm)), some (.int (Int32.ofInt q)), some (.int (Int32.ofInt gp)), some (.int (Int32.ofInt was)), some (.ref q20), some (.int (Int32.ofInt ((yRq (g0 541) t lst day).length : Int))), some (.int (Int32.ofInt ((yRq (g0 541) t lst day).length : Int))), x23, x24, x25, x26, x27, x28, x29], [.int (Int32.ofInt ((yRq (g0 541) t lst day).length : Int)), .int (Int32.ofInt ((yRq (g0 541) t lst day).length : Int))], h)) rfl ?_
    refine yy_fin.ic rfl (fun cq => ?_) (fun cq => absurd ((yi_c_ge (a := ((yRq (g0 541) t lst day).length : Int)) (b := ((yRq (g0 541) t lst day).length : Int)) (by omega) (by omega)).mpr (by omega)) cq)
    have cq := (yi_c_ge (a := ((yRq (g0 541) t lst day).length : Int)) (b := ((yRq (g0 541) t lst day).length : Int)) (by omega) (by omega)).mp cq
    refine yy_fin.steps (n := 4) (s' := (650, [some (.ref 1), some (.ref w), some (.ref 0), some (.int (Int32.ofInt fr)), some (.int (Int32.ofInt (t : Int))), some (.int (Int32.ofInt (t2 : Int))), some (.int (Int32.ofInt day)), some (.int (Int32.ofInt (4 * (t : Int) + (t2 : Int)))), x8, x9, x10, x11, x12, x13, x14, some (.int (Int32.ofInt i15)), some (.int (Int32.ofInt sm)), some (.int (Int32.ofInt q)), some (.int (Int32.ofInt gp)), some (.int (Int32.ofInt was)), some (.ref q20), some (.int (Int32.ofInt ((yRq (g0 541) t lst day).length : Int))), some (.int (Int32.ofInt ((yRq (g0 541) t lst day).length : Int))), x23, x24, x25, x26, x27, x28, x29], [.int (Int32.ofInt gp), .int ((Int32.ofInt 86400) - (Int32.ofInt was))], h)) rfl ?_
    rw [yi_sub 86400 was]
    refine yy_fin.ic rfl (fun c101 => ?_) (fun c101 => ?_)
    · have c101 := (yi_c_le (a := 86400 - was) (b := gp) (by omega) (by omega)).mp c101
      rw [if_pos (by omega)] at eQ2
      obtain ⟨rfl, rfl⟩ := Prod.mk.inj eQ2
      obtain rfl := eS
      exact kk _ _ _ _ _ _ _ _ _ _ C (Y.le (by omega) (by omega))
    · have c101 := mt (yi_c_le (a := 86400 - was) (b := gp) (by omega) (by omega)).mpr c101
      refine yy_fin.steps (n := 6) (s' := (664, [some (.ref 1), some (.ref w), some (.ref 0), some (.int (Int32.ofInt fr)), some (.int (Int32.ofInt (t : Int))), some (.int (Int32.ofInt (t2 : Int))), some (.int (Int32.ofInt day)), some (.int (Int32.ofInt (4 * (t : Int) + (t2 : Int)))), x8, x9, x10, x11, x12, x13, x14, some (.int (Int32.ofInt i15)), some (.int (Int32.ofInt sm)), some (.int (Int32.ofInt was)), some (.int ((Int32.ofInt 86400) - (Int32.ofInt was))), some (.int (Int32.ofInt was)), some (.ref q20), some (.int (Int32.ofInt ((yRq (g0 541) t lst day).length : Int))), some (.int (Int32.ofInt ((yRq (g0 541) t lst day).length : Int))), x23, x24, x25, x26, x27, x28, x29], [], h)) rfl ?_
      rw [yi_sub 86400 was]
      rw [if_neg (by omega)] at eQ2
      obtain ⟨rfl, rfl⟩ := Prod.mk.inj eQ2
      obtain rfl := eS
      exact kk _ _ _ _ _ _ _ _ _ _ C (Y.le (by omega) (by omega))
  | n + 1, i, h, sm, q, gp, was, x23, x24, x25, x26, x27, x28, x29, a, e, hn, eS, eQ, ew, hw, hg_, C, Y, H20, hA, hE => by
    have n4 := F.2.2.2.1
    have hq := F.2.2.2.2.1
    have hY := Y.1
    have hg := C.2.1.2
    have l8 := F.2.2.1.2.1
    have l16 := yRq_len (t := t) (d := day) F.2.2.1
    have hb := yRq_b (d := day) F.2.2.2 ht F.2.2.1
    obtain ⟨z, ez⟩ : ∃ z, (yRq (g0 541) t lst day)[i]? = some z := ⟨_, List.getElem?_eq_getElem (by omega)⟩
    obtain ⟨z1, z2⟩ := y_s_at ez
    have zb := hb z (List.mem_of_getElem? ez)
    have ob := s_ov_b (s := z.1) F.2.2.2 ht ht2 hd (by omega)
    have eS2 : fd_i (sa_f (g0 541) t t2 lst day) (i + 1) n (sm + y_hit (g0 541) t2 lst (s_ovD (g0 541) t t2 day z.1) (s_ovS (g0 541) t t2 day z.1)) = SM := by rw [← z1]; exact eS
    have eQ2 : fd_i (qt_f (yRq (g0 541) t lst day)) (i + 1) (n + 1) (qt_f (yRq (g0 541) t lst day) i (q, gp)) = (Q, G) := eQ
    have ec : qt_f (yRq (g0 541) t lst day) i (q, gp) = if z.1 - was ≤ gp then (q, gp) else (was, z.1 - was) := by
      unfold qt_f
      rw [if_neg (show ¬ i = (yRq (g0 541) t lst day).length by omega), ← ew, z1]
    rw [ec] at eQ2
    rw [y_hit_d] at eS2
    obtain ⟨⟨m20, m21, m22⟩, rs20, R20, l20, a20⟩ := id H20
    obtain ⟨kz, ekz, nz, Rz⟩ := a20 i z ez
    obtain ⟨IS, eIS⟩ : ∃ x, x = y_any (yRd (g0 541) t2 lst (s_ovD (g0 541) t t2 day z.1)) (s_ovS (g0 541) t t2 day z.1) 0 (yRd (g0 541) t2 lst (s_ovD (g0 541) t t2 day z.1)).length := ⟨_, rfl⟩
    rw [← eIS] at eS2
    have hIS := y_any_b (yRd (g0 541) t2 lst (s_ovD (g0 541) t t2 day z.1)) (s_ovS (g0 541) t t2 day z.1) (yRd (g0 541) t2 lst (s_ovD (g0 541) t t2 day z.1)).length 0
    rw [← eIS] at hIS
    refine yy_fin.steps (n := 2) (s' := (475, [some (.ref 1), some (.ref w), some (.ref 0), some (.int (Int32.ofInt fr)), some (.int (Int32.ofInt (t : Int))), some (.int (Int32.ofInt (t2 : Int))), some (.int (Int32.ofInt day)), some (.int (Int32.ofInt (4 * (t : Int) + (t2 : Int)))), x8, x9, x10, x11, x12, x13, x14, some (.int (Int32.ofInt i15)), some (.int (Int32.ofInt sm)), some (.int (Int32.ofInt q)), some (.int (Int32.ofInt gp)), some (.int (Int32.ofInt was)), some (.ref q20), some (.int (Int32.ofInt ((yRq (g0 541) t lst day).length : Int))), some (.int (Int32.ofInt (i : Int))), x23, x24, x25, x26, x27, x28, x29], [.int (Int32.ofInt ((yRq (g0 541) t lst day).length : Int)), .int (Int32.ofInt (i : Int))], h)) rfl ?_
    refine yy_fin.ic rfl (fun cq => absurd ((yi_c_ge (a := (i : Int)) (b := ((yRq (g0 541) t lst day).length : Int)) (by omega) (by omega)).mp cq) (by omega)) (fun cq => ?_)
    have cq := mt (yi_c_ge (a := (i : Int)) (b := ((yRq (g0 541) t lst day).length : Int)) (by omega) (by omega)).mpr cq
    refine yy_fin.steps (n := 2) (s' := (482, [some (.ref 1), some (.ref w), some (.ref 0), some (.int (Int32.ofInt fr)), some (.int (Int32.ofInt (t : Int))), some (.int (Int32.ofInt (t2 : Int))), some (.int (Int32.ofInt day)), some (.int (Int32.ofInt (4 * (t : Int) + (t2 : Int)))), x8, x9, x10, x11, x12, x13, x14, some (.int (Int32.ofInt i15)), some (.int (Int32.ofInt sm)), some (.int (Int32.ofInt q)), some (.int (Int32.ofInt gp)), some (.int (Int32.ofInt was)), some (.ref q20), some (.int (Int32.ofInt ((yRq (g0 541) t lst day).length : Int))), some (.int (Int32.ofInt (i : Int))), x23, x24, x25, x26, x27, x28, x29], [.int (Int32.ofInt (i : Int)), .ref q20], h)) rfl ?_
    refine yy_fin.ar rfl R20 (by decide) (yi_inb (a := (i : Int)) (by omega) (by omega) (by omega)) ((yi_cl (a := (i : Int)) (by omega)).trans (Int.toNat_natCast i)) ekz ?_
    refine yy_fin.steps (n := 6) (s' := (493, [some (.ref 1), some (.ref w), some (.ref 0), some (.int (Int32.ofInt fr)), some (.int (Int32.ofInt (t : Int))), some (.int (Int32.ofInt (t2 : Int))), some (.int (Int32.ofInt day)), some (.int (Int32.ofInt (4 * (t : Int) + (t2 : Int)))), x8, x9, x10, x11, x12, x13, x14, some (.int (Int32.ofInt i15)), some (.int (Int32.ofInt sm)), some (.int (Int32.ofInt q)), some (.int (Int32.ofInt gp)), some (.int (Int32.ofInt was)), some (.ref q20), some (.int (Int32.ofInt ((yRq (g0 541) t lst day).length : Int))), some (.int (Int32.ofInt (i : Int))), some (.ref kz), x24, x25, x26, x27, x28, x29], [.int (Int32.ofInt 0), .ref kz, .int (Int32.ofInt day), .int (Int32.ofInt (t : Int)), .ref w], h)) rfl ?_
    refine yy_fin.lp (j := 0) rfl Rz.2 rfl (by decide) rfl ?_
    refine yy_fin.steps (n := 2) (s' := (497, [some (.ref 1), some (.ref w), some (.ref 0), some (.int (Int32.ofInt fr)), some (.int (Int32.ofInt (t : Int))), some (.int (Int32.ofInt (t2 : Int))), some (.int (Int32.ofInt day)), some (.int (Int32.ofInt (4 * (t : Int) + (t2 : Int)))), x8, x9, x10, x11, x12, x13, x14, some (.int (Int32.ofInt i15)), some (.int (Int32.ofInt sm)), some (.int (Int32.ofInt q)), some (.int (Int32.ofInt gp)), some (.int (Int32.ofInt was)), some (.ref q20), some (.int (Int32.ofInt ((yRq (g0 541) t lst day).length : Int))), some (.int (Int32.ofInt (i : Int))), some (.ref kz), x24, x25, x26, x27, x28, x29], [.int (Int32.ofInt (t2 : Int)), .long ((Int32.ofInt z.1).toInt64), .int (Int32.ofInt day), .int (Int32.ofInt (t : Int)), .ref w], h)) rfl ?_
    rw [yl_i2l (a := z.1) (by omega)]
    obtain ⟨fw101, oW101⟩ := C.ow
    refine yy_fin.cv (as := [.int (Int32.ofInt (t : Int)), .int (Int32.ofInt day), .long (Int64.ofInt z.1), .int (Int32.ofInt (t2 : Int))]) rfl rfl rfl oW101 (Nat.le_of_ble_eq_true rfl) (Nat.le_of_ble_eq_true rfl) (yc_over F C ht ht2 (day := day) (s := z.1) (by omega) (by omega) (by omega)) ?_
    rintro v h101 ⟨C, x101, q24, rfl, R24⟩
    have R24 : yRw h101 w q24 [Int32.ofInt (s_ovD (g0 541) t t2 day z.1), Int32.ofInt (s_ovS (g0 541) t t2 day z.1)] := R24
    replace Rz := Rz.k x101
    replace H20 := H20.k x101
    have hx101 := x101.1
    replace Y := Y.tr x101 (fun _ _ e => e)
    replace hY := Y.1
    refine yy_fin.steps (n := 5) (s' := (508, [some (.ref 1), some (.ref w), some (.ref 0), some (.int (Int32.ofInt fr)), some (.int (Int32.ofInt (t : Int))), some (.int (Int32.ofInt (t2 : Int))), some (.int (Int32.ofInt day)), some (.int (Int32.ofInt (4 * (t : Int) + (t2 : Int)))), x8, x9, x10, x11, x12, x13, x14, some (.int (Int32.ofInt i15)), some (.int (Int32.ofInt sm)), some (.int (Int32.ofInt q)), some (.int (Int32.ofInt gp)), some (.int (Int32.ofInt was)), some (.ref q20), some (.int (Int32.ofInt ((yRq (g0 541) t lst day).length : Int))), some (.int (Int32.ofInt (i : Int))), some (.ref kz), some (.ref q24), some (.int (Int32.ofInt 0)), x26, x27, x28, x29], [.int (Int32.ofInt 0), .ref q24], h101)) rfl ?_
    refine yy_fin.lp (j := 0) rfl R24.2 rfl (by decide) rfl ?_
    suffices J : ∀ (h' : zz_H) (q26 : Nat), yCx own w lst g0 h' g → yx (yAk w) (a + 260) (e + 1140) h0 h' → yRrz n20 h' w q20 (yRq (g0 541) t lst day) → yRw h' w kz [Int32.ofInt z.1, Int32.ofInt z.2] → yRw h' w q24 [Int32.ofInt (s_ovD (g0 541) t t2 day z.1), Int32.ofInt (s_ovS (g0 541) t t2 day z.1)] → yRr h' w q26 (yRd (g0 541) t2 lst (s_ovD (g0 541) t t2 day z.1)) → yy_fin X 300 (538, [some (.ref 1), some (.ref w), some (.ref 0), some (.int (Int32.ofInt fr)), some (.int (Int32.ofInt (t : Int))), some (.int (Int32.ofInt (t2 : Int))), some (.int (Int32.ofInt day)), some (.int (Int32.ofInt (4 * (t : Int) + (t2 : Int)))), x8, x9, x10, x11, x12, x13, x14, some (.int (Int32.ofInt i15)), some (.int (Int32.ofInt sm)), some (.int (Int32.ofInt q)), some (.int (Int32.ofInt gp)), some (.int (Int32.ofInt was)), some (.ref q20), some (.int (Int32.ofInt ((yRq (g0 541) t lst day).length : Int))), some (.int (Int32.ofInt (i : Int))), some (.ref kz), some (.ref q24), some (.int (Int32.ofInt 0)), x26, x27, x28, x29], [.ref q26], h') φ by
      refine yy_fin.if rfl (fun c102 => ?_) (fun c102 => ?_)
      · have c102 := (yi_z_lt (a := (s_ovD (g0 541) t t2 day z.1)) (by omega)).mp c102
        refine yy_fin.steps (n := 1) (s' := (522, [some (.ref 1), some (.ref w), some (.ref 0), some (.int (Int32.ofInt fr)), some (.int (Int32.ofInt (t : Int))), some (.int (Int32.ofInt (t2 : Int))), some (.int (Int32.ofInt day)), some (.int (Int32.ofInt (4 * (t : Int) + (t2 : Int)))), x8, x9, x10, x11, x12, x13, x14, some (.int (Int32.ofInt i15)), some (.int (Int32.ofInt sm)), some (.int (Int32.ofInt q)), some (.int (Int32.ofInt gp)), some (.int (Int32.ofInt was)), some (.ref q20), some (.int (Int32.ofInt ((yRq (g0 541) t lst day).length : Int))), some (.int (Int32.ofInt (i : Int))), some (.ref kz), some (.ref q24), some (.int (Int32.ofInt 0)), x26, x27, x28, x29], [.int (Int32.ofInt 0)], h101)) rfl ?_
        refine yy_fin.nr (n := 0) rfl (by decide) (by decide) (by decide) (by omega) fun h103 x103 e103 r103 => ?_
        have hwl := C.wle
        have hnC := C.2.1.2
        replace C := C.f x103
        replace x103 := x103.ak (w := w)
        replace Rz := Rz.k x103
        replace R24 := R24.k x103
        replace H20 := H20.k x103
        have hx103 := x103.1
        replace Y := Y.tr x103 (fun _ _ e => e)
        replace hY := Y.1
        have H26 : yRr h103 w (h101.1.1 + 1) (yRd (g0 541) t2 lst (s_ovD (g0 541) t t2 day z.1)) := by
          have el : (yRd (g0 541) t2 lst (s_ovD (g0 541) t t2 day z.1)) = [] := if_neg (by omega)
          rw [el]
          exact ⟨⟨by omega, by omega⟩, [], r103, rfl, fun i z e => by rw [List.getElem?_nil] at e; exact nomatch e⟩
        refine yy_fin.steps (n := 1) (s' := (538, [some (.ref 1), some (.ref w), some (.ref 0), some (.int (Int32.ofInt fr)), some (.int (Int32.ofInt (t : Int))), some (.int (Int32.ofInt (t2 : Int))), some (.int (Int32.ofInt day)), some (.int (Int32.ofInt (4 * (t : Int) + (t2 : Int)))), x8, x9, x10, x11, x12, x13, x14, some (.int (Int32.ofInt i15)), some (.int (Int32.ofInt sm)), some (.int (Int32.ofInt q)), some (.int (Int32.ofInt gp)), some (.int (Int32.ofInt was)), some (.ref q20), some (.int (Int32.ofInt ((yRq (g0 541) t lst day).length : Int))), some (.int (Int32.ofInt (i : Int))), some (.ref kz), some (.ref q24), some (.int (Int32.ofInt 0)), x26, x27, x28, x29], [.ref (h101.1.1 + 1)], h103)) rfl ?_
        exact J _ _ C (Y.le (by omega) (by omega)) H20 Rz R24 H26
      · have c102 := mt (yi_z_lt (a := (s_ovD (g0 541) t t2 day z.1)) (by omega)).mpr c102
        refine yy_fin.steps (n := 2) (s' := (515, [some (.ref 1), some (.ref w), some (.ref 0), some (.int (Int32.ofInt fr)), some (.int (Int32.ofInt (t : Int))), some (.int (Int32.ofInt (t2 : Int))), some (.int (Int32.ofInt day)), some (.int (Int32.ofInt (4 * (t : Int) + (t2 : Int)))), x8, x9, x10, x11, x12, x13, x14, some (.int (Int32.ofInt i15)), some (.int (Int32.ofInt sm)), some (.int (Int32.ofInt q)), some (.int (Int32.ofInt gp)), some (.int (Int32.ofInt was)), some (.ref q20), some (.int (Int32.ofInt ((yRq (g0 541) t lst day).length : Int))), some (.int (Int32.ofInt (i : Int))), some (.ref kz), some (.ref q24), some (.int (Int32.ofInt 0)), x26, x27, x28, x29], [.int (Int32.ofInt 0), .ref q24], h101)) rfl ?_
        refine yy_fin.lp (j := 0) rfl R24.2 rfl (by decide) rfl ?_
        refine yy_fin.steps (n := 1) (s' := (518, [some (.ref 1), some (.ref w), some (.ref 0), some (.int (Int32.ofInt fr)), some (.int (Int32.ofInt (t : Int))), some (.int (Int32.ofInt (t2 : Int))), some (.int (Int32.ofInt day)), some (.int (Int32.ofInt (4 * (t : Int) + (t2 : Int)))), x8, x9, x10, x11, x12, x13, x14, some (.int (Int32.ofInt i15)), some (.int (Int32.ofInt sm)), some (.int (Int32.ofInt q)), some (.int (Int32.ofInt gp)), some (.int (Int32.ofInt was)), some (.ref q20), some (.int (Int32.ofInt ((yRq (g0 541) t lst day).length : Int))), some (.int (Int32.ofInt (i : Int))), some (.ref kz), some (.ref q24), some (.int (Int32.ofInt 0)), x26, x27, x28, x29], [.int (Int32.ofInt 35999), .int (Int32.ofInt (s_ovD (g0 541) t t2 day z.1))], h101)) rfl ?_
        refine yy_fin.ic rfl (fun c104 => ?_) (fun c104 => ?_)
        · have c104 := (yi_c_le (a := (s_ovD (g0 541) t t2 day z.1)) (b := 35999) (by omega) (by omega)).mp c104
          refine yy_fin.steps (n := 4) (s' := (534, [some (.ref 1), some (.ref w), some (.ref 0), some (.int (Int32.ofInt fr)), some (.int (Int32.ofInt (t : Int))), some (.int (Int32.ofInt (t2 : Int))), some (.int (Int32.ofInt day)), some (.int (Int32.ofInt (4 * (t : Int) + (t2 : Int)))), x8, x9, x10, x11, x12, x13, x14, some (.int (Int32.ofInt i15)), some (.int (Int32.ofInt sm)), some (.int (Int32.ofInt q)), some (.int (Int32.ofInt gp)), some (.int (Int32.ofInt was)), some (.ref q20), some (.int (Int32.ofInt ((yRq (g0 541) t lst day).length : Int))), some (.int (Int32.ofInt (i : Int))), some (.ref kz), some (.ref q24), some (.int (Int32.ofInt 0)), x26, x27, x28, x29], [.int (Int32.ofInt 0), .ref q24, .int (Int32.ofInt (t2 : Int)), .ref w], h101)) rfl ?_
          refine yy_fin.lp (j := 0) rfl R24.2 rfl (by decide) rfl ?_
          obtain ⟨fw105, oW105⟩ := C.ow
          refine yy_fin.cv (as := [.int (Int32.ofInt (t2 : Int)), .int (Int32.ofInt (s_ovD (g0 541) t t2 day z.1))]) rfl rfl rfl oW105 (Nat.le_of_ble_eq_true rfl) (Nat.le_of_ble_eq_true rfl) (yc_rings F C ht2 (d := (s_ovD (g0 541) t t2 day z.1)) (by omega) (by omega)) ?_
          rintro v h105 ⟨C, x105, q105, rfl, z105⟩
          replace Rz := Rz.k x105
          replace R24 := R24.k x105
          replace H20 := H20.k x105
          have hx105 := x105.1
          replace Y := Y.tr x105 (fun _ _ e => e)
          replace hY := Y.1
          have H26 : yRr h105 w q105 (yRd (g0 541) t2 lst (s_ovD (g0 541) t t2 day z.1)) := by rw [yRd_in (by omega)]; exact z105
          exact J _ _ C (Y.le (Nat.add_le_add_left (show 259 ≤ 260 by decide) a) (Nat.add_le_add_left (show 1138 ≤ 1140 by decide) e)) H20 Rz R24 H26
        · have c104 := mt (yi_c_le (a := (s_ovD (g0 541) t t2 day z.1)) (b := 35999) (by omega) (by omega)).mpr c104
          refine yy_fin.steps (n := 1) (s' := (522, [some (.ref 1), some (.ref w), some (.ref 0), some (.int (Int32.ofInt fr)), some (.int (Int32.ofInt (t : Int))), some (.int (Int32.ofInt (t2 : Int))), some (.int (Int32.ofInt day)), some (.int (Int32.ofInt (4 * (t : Int) + (t2 : Int)))), x8, x9, x10, x11, x12, x13, x14, some (.int (Int32.ofInt i15)), some (.int (Int32.ofInt sm)), some (.int (Int32.ofInt q)), some (.int (Int32.ofInt gp)), some (.int (Int32.ofInt was)), some (.ref q20), some (.int (Int32.ofInt ((yRq (g0 541) t lst day).length : Int))), some (.int (Int32.ofInt (i : Int))), some (.ref kz), some (.ref q24), some (.int (Int32.ofInt 0)), x26, x27, x28, x29], [.int (Int32.ofInt 0)], h101)) rfl ?_
          refine yy_fin.nr (n := 0) rfl (by decide) (by decide) (by decide) (by omega) fun h106 x106 e106 r106 => ?_
          have hwl := C.wle
          have hnC := C.2.1.2
          replace C := C.f x106
          replace x106 := x106.ak (w := w)
          replace Rz := Rz.k x106
          replace R24 := R24.k x106
          replace H20 := H20.k x106
          have hx106 := x106.1
          replace Y := Y.tr x106 (fun _ _ e => e)
          replace hY := Y.1
          have H26 : yRr h106 w (h101.1.1 + 1) (yRd (g0 541) t2 lst (s_ovD (g0 541) t t2 day z.1)) := by
            have el : (yRd (g0 541) t2 lst (s_ovD (g0 541) t t2 day z.1)) = [] := if_neg (by omega)
            rw [el]
            exact ⟨⟨by omega, by omega⟩, [], r106, rfl, fun i z e => by rw [List.getElem?_nil] at e; exact nomatch e⟩
          refine yy_fin.steps (n := 1) (s' := (538, [some (.ref 1), some (.ref w), some (.ref 0), some (.int (Int32.ofInt fr)), some (.int (Int32.ofInt (t : Int))), some (.int (Int32.ofInt (t2 : Int))), some (.int (Int32.ofInt day)), some (.int (Int32.ofInt (4 * (t : Int) + (t2 : Int)))), x8, x9, x10, x11, x12, x13, x14, some (.int (Int32.ofInt i15)), some (.int (Int32.ofInt sm)), some (.int (Int32.ofInt q)), some (.int (Int32.ofInt gp)), some (.int (Int32.ofInt was)), some (.ref q20), some (.int (Int32.ofInt ((yRq (g0 541) t lst day).length : Int))), some (.int (Int32.ofInt (i : Int))), some (.ref kz), some (.ref q24), some (.int (Int32.ofInt 0)), x26, x27, x28, x29], [.ref (h101.1.1 + 1)], h106)) rfl ?_
          exact J _ _ C (Y.le (by omega) (by omega)) H20 Rz R24 H26
    intro h8 q26 C Y H20 Rz R24 H26
    replace hY := Y.1
    refine yy_fin.steps (n := 2) (s' := (542, [some (.ref 1), some (.ref w), some (.ref 0), some (.int (Int32.ofInt fr)), some (.int (Int32.ofInt (t : Int))), some (.int (Int32.ofInt (t2 : Int))), some (.int (Int32.ofInt day)), some (.int (Int32.ofInt (4 * (t : Int) + (t2 : Int)))), x8, x9, x10, x11, x12, x13, x14, some (.int (Int32.ofInt i15)), some (.int (Int32.ofInt sm)), some (.int (Int32.ofInt q)), some (.int (Int32.ofInt gp)), some (.int (Int32.ofInt was)), some (.ref q20), some (.int (Int32.ofInt ((yRq (g0 541) t lst day).length : Int))), some (.int (Int32.ofInt (i : Int))), some (.ref kz), some (.ref q24), some (.int (Int32.ofInt 0)), some (.ref q26), x27, x28, x29], [.ref q26], h8)) rfl ?_
    obtain ⟨m26, rs26, R26, l26, a26⟩ := id H26
    refine yy_fin.lr rfl R26 (by decide) ?_
    rw [yi_n, l26]
    refine yy_fin.steps (n := 3) (s' := (548, [some (.ref 1), some (.ref w), some (.ref 0), some (.int (Int32.ofInt fr)), some (.int (Int32.ofInt (t : Int))), some (.int (Int32.ofInt (t2 : Int))), some (.int (Int32.ofInt day)), some (.int (Int32.ofInt (4 * (t : Int) + (t2 : Int)))), x8, x9, x10, x11, x12, x13, x14, some (.int (Int32.ofInt i15)), some (.int (Int32.ofInt sm)), some (.int (Int32.ofInt q)), some (.int (Int32.ofInt gp)), some (.int (Int32.ofInt was)), some (.ref q20), some (.int (Int32.ofInt ((yRq (g0 541) t lst day).length : Int))), some (.int (Int32.ofInt (i : Int))), some (.ref kz), some (.ref q24), some (.int (Int32.ofInt 0)), some (.ref q26), some (.int (Int32.ofInt ((yRd (g0 541) t2 lst (s_ovD (g0 541) t t2 day z.1)).length : Int))), some (.int (Int32.ofInt 0)), x29], [], h8)) rfl ?_
    have l2 : (yRd (g0 541) t2 lst (s_ovD (g0 541) t t2 day z.1)).length ≤ 16 := by unfold yRd; split <;> first | exact yRq_len F.2.2.1 | exact Nat.zero_le _
    have hb2 : ∀ z9 ∈ (yRd (g0 541) t2 lst (s_ovD (g0 541) t t2 day z.1)), 0 ≤ z9.1 ∧ z9.1 < 86400 := fun z9 h9 => by
      unfold yRd at h9
      split at h9
      · exact (yRq_b F.2.2.2 ht2 F.2.2.1 z9 h9).1
      · exact nomatch h9
    refine ym_i H26 R24 l2 hb2 ob.2 (IS := IS) (fun x29 => ?_) (yRd (g0 541) t2 lst (s_ovD (g0 541) t t2 day z.1)).length 0 0 _ (by omega) (Or.inl rfl) (by rw [if_neg (by decide)]; exact eIS.symm)
    refine yy_fin.steps (n := 2) (s' := (595, [some (.ref 1), some (.ref w), some (.ref 0), some (.int (Int32.ofInt fr)), some (.int (Int32.ofInt (t : Int))), some (.int (Int32.ofInt (t2 : Int))), some (.int (Int32.ofInt day)), some (.int (Int32.ofInt (4 * (t : Int) + (t2 : Int)))), x8, x9, x10, x11, x12, x13, x14, some (.int (Int32.ofInt i15)), some (.int (Int32.ofInt sm)), some (.int (Int32.ofInt q)), some (.int (Int32.ofInt gp)), some (.int (Int32.ofInt was)), some (.ref q20), some (.int (Int32.ofInt ((yRq (g0 541) t lst day).length : Int))), some (.int (Int32.ofInt (i : Int))), some (.ref kz), some (.ref q24), some (.int (Int32.ofInt IS)), some (.ref q26), some (.int (Int32.ofInt ((yRd (g0 541) t2 lst (s_ovD (g0 541) t t2 day z.1)).length : Int))), some (.int (Int32.ofInt ((yRd (g0 541) t2 lst (s_ovD (g0 541) t t2 day z.1)).length : Int))), x29], [.int (Int32.ofInt IS), .int (Int32.ofInt sm)], h8)) rfl ?_
    suffices J107 : ∀ v107 : Int, v107 = IS → yy_fin X 300 (603, [some (.ref 1), some (.ref w), some (.ref 0), some (.int (Int32.ofInt fr)), some (.int (Int32.ofInt (t : Int))), some (.int (Int32.ofInt (t2 : Int))), some (.int (Int32.ofInt day)), some (.int (Int32.ofInt (4 * (t : Int) + (t2 : Int)))), x8, x9, x10, x11, x12, x13, x14, some (.int (Int32.ofInt i15)), some (.int (Int32.ofInt sm)), some (.int (Int32.ofInt q)), some (.int (Int32.ofInt gp)), some (.int (Int32.ofInt was)), some (.ref q20), some (.int (Int32.ofInt ((yRq (g0 541) t lst day).length : Int))), some (.int (Int32.ofInt (i : Int))), some (.ref kz), some (.ref q24), some (.int (Int32.ofInt IS)), some (.ref q26), some (.int (Int32.ofInt ((yRd (g0 541) t2 lst (s_ovD (g0 541) t t2 day z.1)).length : Int))), some (.int (Int32.ofInt ((yRd (g0 541) t2 lst (s_ovD (g0 541) t t2 day z.1)).length : Int))), x29], [.int (Int32.ofInt v107), .int (Int32.ofInt sm)], h8) φ by
      refine yy_fin.if rfl (fun c108 => ?_) (fun c108 => ?_)
      · have c108 := (yi_z_eq (a := IS) (by omega)).mp c108
        refine yy_fin.steps (n := 1) (s' := (603, [some (.ref 1), some (.ref w), some (.ref 0), some (.int (Int32.ofInt fr)), some (.int (Int32.ofInt (t : Int))), some (.int (Int32.ofInt (t2 : Int))), some (.int (Int32.ofInt day)), some (.int (Int32.ofInt (4 * (t : Int) + (t2 : Int)))), x8, x9, x10, x11, x12, x13, x14, some (.int (Int32.ofInt i15)), some (.int (Int32.ofInt sm)), some (.int (Int32.ofInt q)), some (.int (Int32.ofInt gp)), some (.int (Int32.ofInt was)), some (.ref q20), some (.int (Int32.ofInt ((yRq (g0 541) t lst day).length : Int))), some (.int (Int32.ofInt (i : Int))), some (.ref kz), some (.ref q24), some (.int (Int32.ofInt IS)), some (.ref q26), some (.int (Int32.ofInt ((yRd (g0 541) t2 lst (s_ovD (g0 541) t t2 day z.1)).length : Int))), some (.int (Int32.ofInt ((yRd (g0 541) t2 lst (s_ovD (g0 541) t t2 day z.1)).length : Int))), x29], [.int (Int32.ofInt 0), .int (Int32.ofInt sm)], h8)) rfl ?_
        exact J107 (0) (by omega)
      · have c108 := mt (yi_z_eq (a := IS) (by omega)).mpr c108
        refine yy_fin.steps (n := 2) (s' := (603, [some (.ref 1), some (.ref w), some (.ref 0), some (.int (Int32.ofInt fr)), some (.int (Int32.ofInt (t : Int))), some (.int (Int32.ofInt (t2 : Int))), some (.int (Int32.ofInt day)), some (.int (Int32.ofInt (4 * (t : Int) + (t2 : Int)))), x8, x9, x10, x11, x12, x13, x14, some (.int (Int32.ofInt i15)), some (.int (Int32.ofInt sm)), some (.int (Int32.ofInt q)), some (.int (Int32.ofInt gp)), some (.int (Int32.ofInt was)), some (.ref q20), some (.int (Int32.ofInt ((yRq (g0 541) t lst day).length : Int))), some (.int (Int32.ofInt (i : Int))), some (.ref kz), some (.ref q24), some (.int (Int32.ofInt IS)), some (.ref q26), some (.int (Int32.ofInt ((yRd (g0 541) t2 lst (s_ovD (g0 541) t t2 day z.1)).length : Int))), some (.int (Int32.ofInt ((yRd (g0 541) t2 lst (s_ovD (g0 541) t t2 day z.1)).length : Int))), x29], [.int (Int32.ofInt 1), .int (Int32.ofInt sm)], h8)) rfl ?_
        exact J107 (1) (by omega)
    intro v107 ev107
    rw [ev107]
    refine yy_fin.steps (n := 4) (s' := (609, [some (.ref 1), some (.ref w), some (.ref 0), some (.int (Int32.ofInt fr)), some (.int (Int32.ofInt (t : Int))), some (.int (Int32.ofInt (t2 : Int))), some (.int (Int32.ofInt day)), some (.int (Int32.ofInt (4 * (t : Int) + (t2 : Int)))), x8, x9, x10, x11, x12, x13, x14, some (.int (Int32.ofInt i15)), some (.int ((Int32.ofInt sm) + (Int32.ofInt IS))), some (.int (Int32.ofInt q)), some (.int (Int32.ofInt gp)), some (.int (Int32.ofInt was)), some (.ref q20), some (.int (Int32.ofInt ((yRq (g0 541) t lst day).length : Int))), some (.int (Int32.ofInt (i : Int))), some (.ref kz), some (.ref q24), some (.int (Int32.ofInt IS)), some (.ref q26), some (.int (Int32.ofInt ((yRd (g0 541) t2 lst (s_ovD (g0 541) t t2 day z.1)).length : Int))), some (.int (Int32.ofInt ((yRd (g0 541) t2 lst (s_ovD (g0 541) t t2 day z.1)).length : Int))), x29], [.int (Int32.ofInt 0), .ref kz], h8)) rfl ?_
    rw [yi_add sm IS]
    refine yy_fin.lp (j := 0) rfl Rz.2 rfl (by decide) rfl ?_
    refine yy_fin.steps (n := 3) (s' := (615, [some (.ref 1), some (.ref w), some (.ref 0), some (.int (Int32.ofInt fr)), some (.int (Int32.ofInt (t : Int))), some (.int (Int32.ofInt (t2 : Int))), some (.int (Int32.ofInt day)), some (.int (Int32.ofInt (4 * (t : Int) + (t2 : Int)))), x8, x9, x10, x11, x12, x13, x14, some (.int (Int32.ofInt i15)), some (.int (Int32.ofInt (sm + IS))), some (.int (Int32.ofInt q)), some (.int (Int32.ofInt gp)), some (.int (Int32.ofInt was)), some (.ref q20), some (.int (Int32.ofInt ((yRq (g0 541) t lst day).length : Int))), some (.int (Int32.ofInt (i : Int))), some (.ref kz), some (.ref q24), some (.int (Int32.ofInt IS)), some (.ref q26), some (.int (Int32.ofInt ((yRd (g0 541) t2 lst (s_ovD (g0 541) t t2 day z.1)).length : Int))), some (.int (Int32.ofInt ((yRd (g0 541) t2 lst (s_ovD (g0 541) t t2 day z.1)).length : Int))), x29], [.int (Int32.ofInt gp), .int ((Int32.ofInt z.1) - (Int32.ofInt was))], h8)) rfl ?_
    rw [yi_sub z.1 was]
    refine yy_fin.ic rfl (fun c109 => ?_) (fun c109 => ?_)
    · have c109 := (yi_c_le (a := z.1 - was) (b := gp) (by omega) (by omega)).mp c109
      refine yy_fin.steps (n := 2) (s' := (634, [some (.ref 1), some (.ref w), some (.ref 0), some (.int (Int32.ofInt fr)), some (.int (Int32.ofInt (t : Int))), some (.int (Int32.ofInt (t2 : Int))), some (.int (Int32.ofInt day)), some (.int (Int32.ofInt (4 * (t : Int) + (t2 : Int)))), x8, x9, x10, x11, x12, x13, x14, some (.int (Int32.ofInt i15)), some (.int (Int32.ofInt (sm + IS))), some (.int (Int32.ofInt q)), some (.int (Int32.ofInt gp)), some (.int (Int32.ofInt was)), some (.ref q20), some (.int (Int32.ofInt ((yRq (g0 541) t lst day).length : Int))), some (.int (Int32.ofInt (i : Int))), some (.ref kz), some (.ref q24), some (.int (Int32.ofInt IS)), some (.ref q26), some (.int (Int32.ofInt ((yRd (g0 541) t2 lst (s_ovD (g0 541) t t2 day z.1)).length : Int))), some (.int (Int32.ofInt ((yRd (g0 541) t2 lst (s_ovD (g0 541) t t2 day z.1)).length : Int))), x29], [.int (Int32.ofInt 0), .ref kz], h8)) rfl ?_
      refine yy_fin.lp (j := 0) rfl Rz.2 rfl (by decide) rfl ?_
      refine yy_fin.steps (n := 3) (s' := (471, [some (.ref 1), some (.ref w), some (.ref 0), some (.int (Int32.ofInt fr)), some (.int (Int32.ofInt (t : Int))), some (.int (Int32.ofInt (t2 : Int))), some (.int (Int32.ofInt day)), some (.int (Int32.ofInt (4 * (t : Int) + (t2 : Int)))), x8, x9, x10, x11, x12, x13, x14, some (.int (Int32.ofInt i15)), some (.int (Int32.ofInt (sm + IS))), some (.int (Int32.ofInt q)), some (.int (Int32.ofInt gp)), some (.int (Int32.ofInt z.1)), some (.ref q20), some (.int (Int32.ofInt ((yRq (g0 541) t lst day).length : Int))), some (.int ((Int32.ofInt (i : Int)) + (Int32.ofInt 1))), some (.ref kz), some (.ref q24), some (.int (Int32.ofInt IS)), some (.ref q26), some (.int (Int32.ofInt ((yRd (g0 541) t2 lst (s_ovD (g0 541) t t2 day z.1)).length : Int))), some (.int (Int32.ofInt ((yRd (g0 541) t2 lst (s_ovD (g0 541) t t2 day z.1)).length : Int))), x29], [], h8)) rfl ?_
      rw [yi_add (i : Int) 1]
      rw [show (i : Int) + 1 = ((i + 1 : Nat) : Int) by omega]
      rw [if_pos (by omega)] at eQ2
      exact ym_q F ht ht2 hd hR kk n (i + 1) _ _ _ _ _ _ _ _ _ _ _ _ _ _ (by omega) eS2 eQ2 (by rw [if_neg (by omega), Nat.add_sub_cancel]; exact z1.symm) (by omega) (by omega) C Y H20 (by omega) (by omega)
    · have c109 := mt (yi_c_le (a := z.1 - was) (b := gp) (by omega) (by omega)).mpr c109
      refine yy_fin.steps (n := 2) (s' := (621, [some (.ref 1), some (.ref w), some (.ref 0), some (.int (Int32.ofInt fr)), some (.int (Int32.ofInt (t : Int))), some (.int (Int32.ofInt (t2 : Int))), some (.int (Int32.ofInt day)), some (.int (Int32.ofInt (4 * (t : Int) + (t2 : Int)))), x8, x9, x10, x11, x12, x13, x14, some (.int (Int32.ofInt i15)), some (.int (Int32.ofInt (sm + IS))), some (.int (Int32.ofInt q)), some (.int (Int32.ofInt gp)), some (.int (Int32.ofInt was)), some (.ref q20), some (.int (Int32.ofInt ((yRq (g0 541) t lst day).length : Int))), some (.int (Int32.ofInt (i : Int))), some (.ref kz), some (.ref q24), some (.int (Int32.ofInt IS)), some (.ref q26), some (.int (Int32.ofInt ((yRd (g0 541) t2 lst (s_ovD (g0 541) t t2 day z.1)).length : Int))), some (.int (Int32.ofInt ((yRd (g0 541) t2 lst (s_ovD (g0 541) t t2 day z.1)).length : Int))), x29], [.int (Int32.ofInt 0), .ref kz], h8)) rfl ?_
      refine yy_fin.lp (j := 0) rfl Rz.2 rfl (by decide) rfl ?_
      refine yy_fin.steps (n := 7) (s' := (634, [some (.ref 1), some (.ref w), some (.ref 0), some (.int (Int32.ofInt fr)), some (.int (Int32.ofInt (t : Int))), some (.int (Int32.ofInt (t2 : Int))), some (.int (Int32.ofInt day)), some (.int (Int32.ofInt (4 * (t : Int) + (t2 : Int)))), x8, x9, x10, x11, x12, x13, x14, some (.int (Int32.ofInt i15)), some (.int (Int32.ofInt (sm + IS))), some (.int (Int32.ofInt was)), some (.int ((Int32.ofInt z.1) - (Int32.ofInt was))), some (.int (Int32.ofInt was)), some (.ref q20), some (.int (Int32.ofInt ((yRq (g0 541) t lst day).length : Int))), some (.int (Int32.ofInt (i : Int))), some (.ref kz), some (.ref q24), some (.int (Int32.ofInt IS)), some (.ref q26), some (.int (Int32.ofInt ((yRd (g0 541) t2 lst (s_ovD (g0 541) t t2 day z.1)).length : Int))), some (.int (Int32.ofInt ((yRd (g0 541) t2 lst (s_ovD (g0 541) t t2 day z.1)).length : Int))), x29], [.int (Int32.ofInt 0), .ref kz], h8)) rfl ?_
      rw [yi_sub z.1 was]
      refine yy_fin.lp (j := 0) rfl Rz.2 rfl (by decide) rfl ?_
      refine yy_fin.steps (n := 3) (s' := (471, [some (.ref 1), some (.ref w), some (.ref 0), some (.int (Int32.ofInt fr)), some (.int (Int32.ofInt (t : Int))), some (.int (Int32.ofInt (t2 : Int))), some (.int (Int32.ofInt day)), some (.int (Int32.ofInt (4 * (t : Int) + (t2 : Int)))), x8, x9, x10, x11, x12, x13, x14, some (.int (Int32.ofInt i15)), some (.int (Int32.ofInt (sm + IS))), some (.int (Int32.ofInt was)), some (.int (Int32.ofInt (z.1 - was))), some (.int (Int32.ofInt z.1)), some (.ref q20), some (.int (Int32.ofInt ((yRq (g0 541) t lst day).length : Int))), some (.int ((Int32.ofInt (i : Int)) + (Int32.ofInt 1))), some (.ref kz), some (.ref q24), some (.int (Int32.ofInt IS)), some (.ref q26), some (.int (Int32.ofInt ((yRd (g0 541) t2 lst (s_ovD (g0 541) t t2 day z.1)).length : Int))), some (.int (Int32.ofInt ((yRd (g0 541) t2 lst (s_ovD (g0 541) t t2 day z.1)).length : Int))), x29], [], h8)) rfl ?_
      rw [yi_add (i : Int) 1]
      rw [show (i : Int) + 1 = ((i + 1 : Nat) : Int) by omega]
      rw [if_neg (by omega)] at eQ2
      exact ym_q F ht ht2 hd hR kk n (i + 1) _ _ _ _ _ _ _ _ _ _ _ _ _ _ (by omega) eS2 eQ2 (by rw [if_neg (by omega), Nat.add_sub_cancel]; exact z1.symm) (by omega) (by omega) C Y H20 (by omega) (by omega)
end YD22
