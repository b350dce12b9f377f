/-! W: fresh worlds and bells, copies, a town more (printed by wip/p54/w5.py) -/
theorem yy_kd6 {h : zz_H} {q : Nat} {rs : List (Option Nat)} (o : yR h q 5 rs) : yy_kd h 6 q = true := by
  unfold yy_kd
  rw [o.2.2]
  rfl
section YW5
variable {X : yy_X} {own : yOwn} {h : zz_H} {w k : Nat} {S : yWd}
theorem yw_init (oW : yO h k 12 [some none, some none, some none, none, some none, none, none, none, none]) (hB : h.1.1 + 4 < yy_B) (hz : zz_Zr h) : yy_fin X 271 (0, zz_in [.ref k] (zz_nl 271), [], h) (fun r h' => r = none ∧ yx (fun q => q = k) 3 0 h h' ∧ h'.1.1 = h.1.1 + 3 ∧ yO h' k 12 [some (some (h.1.1 + 1)), some (some (h.1.1 + 2)), some (some (h.1.1 + 3)), none, some none, none, none, none, none] ∧ h'.2.2 k 3 = Int32.ofInt 60 ∧ yP h' (h.1.1 + 1) [] ∧ yR h' (h.1.1 + 2) 6 [] ∧ yR h' (h.1.1 + 3) 7 []) := by
  refine yy_fin.steps (n := 4) (s' := (6, [some (.ref k)], [.int (Int32.ofInt 0), .ref k], h)) rfl ?_
  refine yy_fin.ni (n := 0) rfl (by decide) (by decide) (by decide) (by omega) hz fun h1 x1 e1 i1 z1 => ?_
  have o1 := oW.x x1 id
  refine yy_fin.wr rfl o1 rfl fun h2 x2 o2 f2 => ?_
  have c2 := x2.1
  have d2 : h2.1.1 = h.1.1 + 1 := by omega
  refine yy_fin.steps (n := 2) (s' := (13, [some (.ref k)], [.int (Int32.ofInt 0), .ref k], h2)) rfl ?_
  refine yy_fin.nr (n := 0) rfl (by decide) (by decide) (by decide) (by omega) fun h3 x3 e3 i3 => ?_
  rw [d2] at i3 ⊢
  have o3 := o2.x x3 id
  refine yy_fin.wr rfl o3 rfl fun h4 x4 o4 f4 => ?_
  have c4 := x4.1
  have d4 : h4.1.1 = h.1.1 + 2 := by omega
  refine yy_fin.steps (n := 2) (s' := (21, [some (.ref k)], [.int (Int32.ofInt 0), .ref k], h4)) rfl ?_
  refine yy_fin.nr (n := 0) rfl (by decide) (by decide) (by decide) (by omega) fun h5 x5 e5 i5 => ?_
  rw [d4] at i5 ⊢
  have o5 := o4.x x5 id
  refine yy_fin.wr rfl o5 rfl fun h6 x6 o6 f6 => ?_
  refine yy_fin.steps (n := 2) (s' := (30, [some (.ref k)], [.int (Int32.ofInt 60), .ref k], h6)) rfl ?_
  refine yy_fin.wi rfl o6 rfl (Or.inl rfl) fun h7 x7 o7 n7 f7 => ?_
  have hle := oW.le
  have q1 : yP h1 (h.1.1 + 1) [] := ⟨i1, fun j v e => nomatch e⟩
  have c6 := x6.1
  have c7 := x7.1
  exact yy_fin.at (n := 1) rfl ⟨rfl, ((((((((x1.wk (B := fun q => q = k) (fun _ _ e => e.elim) (Nat.le_refl _) (Nat.le_refl _)).tr x2 (fun _ _ e => e)).tr (x3.wk (B := fun q => q = k) (fun _ _ e => e.elim) (Nat.le_refl _) (Nat.le_refl _)) (fun _ _ e => e)).tr x4 (fun _ _ e => e)).tr (x5.wk (B := fun q => q = k) (fun _ _ e => e.elim) (Nat.le_refl _) (Nat.le_refl _)) (fun _ _ e => e)).tr x6 (fun _ _ e => e)).tr x7 (fun _ _ e => e))).le (Nat.le_refl _) (Nat.le_refl _), by omega, o7, n7, (((((q1.x x2 (by omega)).x x3 id).x x4 (by omega)).x x5 id).x x6 (by omega)).x x7 (by omega), (((i3.x x4 (by omega)).x x5 id).x x6 (by omega)).x x7 (by omega), (i5.x x6 (by omega)).x x7 (by omega)⟩
theorem yw_initB (oB : yO h k 11 [none, none, none, none, some none]) : yy_fin X 270 (0, zz_in [.ref k] (zz_nl 270), [], h) (fun r h' => r = none ∧ yx (fun q => q = k) 0 0 h h' ∧ yO h' k 11 [none, none, none, none, some (some 1000000)] ∧ ∀ j, h'.2.2 k j = h.2.2 k j) := by
  refine yy_fin.steps (n := 4) (s' := (7, [some (.ref k)], [.ref 1000000, .ref k], h)) rfl ?_
  refine yy_fin.wr rfl oB rfl fun h1 x1 o1 f1 => ?_
  exact yy_fin.at (n := 1) rfl ⟨rfl, x1, o1, f1⟩
/-- new cells are k's, but p's own row of tables, which nobody writes any more -/
def yNew (own : yOwn) (n k p : Nat) : yOwn := fun j => if j ≤ n ∨ yy_B ≤ j then own j else if j = p then 0 else k
theorem yNew_o {own : yOwn} {n k p : Nat} : ∀ j, j ≤ n ∨ yy_B ≤ j → yNew own n k p j = own j := fun j hj => if_pos hj
theorem yNew_p {own : yOwn} {n k p : Nat} (h : n < p) (hB : p < yy_B) : yNew own n k p p = 0 := by
  unfold yNew
  rw [if_neg (by omega), if_pos rfl]
theorem yNew_k {own : yOwn} {n k p j : Nat} (h : n < j) (hB : j < yy_B) (hp : j ≠ p) : yNew own n k p j = k := by
  unfold yNew
  rw [if_neg (by omega), if_neg hp]
/-- whatever nobody writes is old -/
def yOk (own : yOwn) (h : zz_H) : Prop := ∀ j, h.1.1 < j → j < yy_B → own j ≠ 0
theorem yOk.old {own : yOwn} {h : zz_H} {j : Nat} (n : yOk own h) (e : own j = 0) : j ≤ h.1.1 ∨ yy_B ≤ j := by
  rcases Nat.lt_or_ge h.1.1 j with c | c
  · rcases Nat.lt_or_ge j yy_B with c2 | c2
    · exact absurd e (n j c c2)
    · exact Or.inr c2
  · exact Or.inl c
theorem yOk.up {own : yOwn} {h h' : zz_H} (n : yOk own h) (e : h.1.1 ≤ h'.1.1) : yOk own h' := fun j h1 h2 => n j (by omega) h2
theorem yNew_ok {own : yOwn} {h : zz_H} {n k p : Nat} (hn : n ≤ h.1.1) (hp : p ≤ h.1.1) (hk : k ≠ 0) : yOk (yNew own n k p) h := fun j h1 h2 => by
  rw [yNew_k (by omega) h2 (by omega)]
  exact hk
/-- the tables copied so far -/
def yCp (own : yOwn) (h0 h : zz_H) (p j : Nat) (l : List yTw) : Prop := ∃ rs, yR h p 6 rs ∧ rs.length = l.length ∧ ∀ (t : Nat) (T : yTw), t < j → l[t]? = some T → ∃ q, rs[t]? = some (some q) ∧ (h0.1.1 < q ∧ q ≠ p) ∧ yPT own h q T.2.1 T.2.2
theorem yPT.xo {own : yOwn} {h h' : zz_H} {q k c a d ci : Nat} {T : Nat → Nat → Int} {fs : List (Option (Option Nat))} (o : yPT own h q T c) (p : yO h k ci fs) (x : yx (fun q => q = k) a d h h') : yPT own h' q T c := by
  obtain ⟨rs, o1, o2, o3⟩ := o
  have hk := (zz_obj_ok p.2.2).2
  refine ⟨rs, o1.x x (fun z => by rw [z] at o1; rw [(zz_rar_ok o1.2.2).2] at hk; cases hk), o2, fun y hy => ⟨fun i hi e => ?_, (o3 y hy).2⟩⟩
  obtain ⟨j, e1, e2, e3⟩ := (o3 y hy).1 i hi e
  exact ⟨j, e1, e2, e3.x x (fun z => by rw [z] at e3; rw [(zz_arr_ok e3.1.2.2).2] at hk; cases hk)⟩
theorem yPT.xr {own : yOwn} {h h' : zz_H} {q k c a d t : Nat} {T : Nat → Nat → Int} {rk : List (Option Nat)} (o : yPT own h q T c) (p : yR h k t rk) (x : yx (fun q => q = k) a d h h') (hq : q ≠ k) : yPT own h' q T c := by
  obtain ⟨rs, o1, o2, o3⟩ := o
  have hk := (zz_rar_ok p.2.2).2
  refine ⟨rs, o1.x x hq, o2, fun y hy => ⟨fun i hi e => ?_, (o3 y hy).2⟩⟩
  obtain ⟨j, e1, e2, e3⟩ := (o3 y hy).1 i hi e
  exact ⟨j, e1, e2, e3.x x (fun z => by rw [z] at e3; rw [(zz_arr_ok e3.1.2.2).2] at hk; cases hk)⟩
theorem yw_cpL {h0 : zz_H} {on pn bn bs os ps : Nat} {tx : Option Nat} {rp : List (Option Nat)} (hW0 : w ≤ h0.1.1) (hps0 : ps ≤ h0.1.1) (hk0 : h0.1.1 < k) (hon0 : h0.1.1 < on) (hpn0 : h0.1.1 < pn) (hpk : pn ≠ k ∧ on ≠ k ∧ on ≠ pn) (hl : rp.length = S.1.length) (h4 : S.1.length ≤ 4) : ∀ (d : Nat) (h : zz_H) (i a9 d9 : Nat), i + d = S.1.length → yx yF a9 d9 h0 h → h.1.1 + d + 10 < yy_B → zz_Zr h → yO h w 12 [some (some os), some (some ps), some (some bs), none, some tx, none, none, none, none] → h.2.2 w 3 = Int32.ofInt S.2.1 → yR h ps 6 rp → (∀ (t : Nat) (T : yTw), S.1[t]? = some T → ∃ q, rp[t]? = some (some q) ∧ q ≤ h0.1.1 ∧ yPT own h q T.2.1 T.2.2) → yO h k 12 [some (some on), some (some pn), some (some bn), none, some none, none, none, none, none] → yP h on (S.1.map fun T => Int32.ofInt T.1) → yCp own h0 h pn i S.1 → yy_fin X 272 (36, [some (.ref w), some (.ref k), some (.int (Int32.ofInt (i : Int)))], [], h) (fun r h' => r = some (.ref k) ∧ yx yF (a9 + (S.1.length - i)) (d9 + 360 * (S.1.length - i)) h0 h' ∧ yO h' k 12 [some (some on), some (some pn), some (some bs), none, some none, none, none, none, none] ∧ h'.2.2 k 3 = Int32.ofInt S.2.1 ∧ yP h' on (S.1.map fun T => Int32.ofInt T.1) ∧ yCp own h0 h' pn S.1.length S.1)
  | 0, h, i, a9, d9, hd, x, hB, hz, oW, e3, oP, aP, oK, oN, cp => by
    refine yy_fin.steps (n := 2) (s' := (38, [some (.ref w), some (.ref k), some (.int (Int32.ofInt (i : Int)))], [.ref w, .int (Int32.ofInt (i : Int))], h)) rfl ?_
    refine yy_fin.fr rfl oW rfl ?_
    refine yy_fin.lr rfl oP (by decide) ?_
    rw [yi_n]
    refine yy_fin.ic rfl (fun cq => ?_) (fun cq => absurd ((yi_c_ge (a := (i : Int)) (b := (rp.length : Int)) (by omega) (by omega)).mpr (by omega)) cq)
    have cq := (yi_c_ge (a := (i : Int)) (b := (rp.length : Int)) (by omega) (by omega)).mp cq
    refine yy_fin.steps (n := 2) (s' := (71, [some (.ref w), some (.ref k), some (.int (Int32.ofInt (i : Int)))], [.ref w, .ref k], h)) rfl ?_
    refine yy_fin.fr rfl oW rfl ?_
    refine yy_fin.wr rfl oK rfl fun h1 x1 o1 f1 => ?_
    have oW1 := oW.x x1 (by omega)
    have e31 := (oW.i x1 (by omega) 3).trans e3
    refine yy_fin.steps (n := 2) (s' := (79, [some (.ref w), some (.ref k), some (.int (Int32.ofInt (i : Int)))], [.ref w, .ref k], h1)) rfl ?_
    refine yy_fin.fi rfl oW1 rfl e31 ?_
    refine yy_fin.wi rfl o1 rfl (Or.inl rfl) fun h2 x2 o2 n2 f2 => ?_
    refine yy_fin.steps (n := 1) (s' := (86, [some (.ref w), some (.ref k), some (.int (Int32.ofInt (i : Int)))], [.ref k], h2)) rfl ?_
    obtain ⟨rs, c1, c2, c3⟩ := cp
    refine yy_fin.at (n := 1) rfl ⟨rfl, ((x.tr x1 (fun q hq e => by omega)).tr x2 (fun q hq e => by omega)).le (by omega) (by omega), o2, n2, (oN.x x1 hpk.2.1).x x2 hpk.2.1, rs, (c1.x x1 hpk.1).x x2 hpk.1, c2, fun t T ht e => ?_⟩
    obtain ⟨q, q1, q2, q3⟩ := c3 t T (by omega) e
    have q4 := yPT.xo q3 oK x1
    exact ⟨q, q1, q2, yPT.xo q4 o1 x2⟩
  | d + 1, h, i, a9, d9, hd, x, hB, hz, oW, e3, oP, aP, oK, oN, cp => by
    obtain ⟨T, eT⟩ : ∃ T, S.1[i]? = some T := ⟨_, List.getElem?_eq_getElem (by omega)⟩
    obtain ⟨q, eq, hq, pq⟩ := aP i T eT
    obtain ⟨rq, oQ, lQ, aQ⟩ := id pq
    obtain ⟨rs, c1, c2, c3⟩ := cp
    refine yy_fin.steps (n := 2) (s' := (38, [some (.ref w), some (.ref k), some (.int (Int32.ofInt (i : Int)))], [.ref w, .int (Int32.ofInt (i : Int))], h)) rfl ?_
    refine yy_fin.fr rfl oW rfl ?_
    refine yy_fin.lr rfl oP (by decide) ?_
    rw [yi_n]
    refine yy_fin.ic rfl (fun cq => absurd ((yi_c_ge (a := (i : Int)) (b := (rp.length : Int)) (by omega) (by omega)).mp cq) (by omega)) (fun cq => ?_)
    have cq := mt (yi_c_ge (a := (i : Int)) (b := (rp.length : Int)) (by omega) (by omega)).mpr cq
    refine yy_fin.steps (n := 1) (s' := (46, [some (.ref w), some (.ref k), some (.int (Int32.ofInt (i : Int)))], [.ref k], h)) rfl ?_
    refine yy_fin.fr rfl oK rfl ?_
    refine yy_fin.steps (n := 2) (s' := (51, [some (.ref w), some (.ref k), some (.int (Int32.ofInt (i : Int)))], [.ref w, .int (Int32.ofInt (i : Int)), .ref pn], h)) rfl ?_
    refine yy_fin.fr rfl oW rfl ?_
    refine yy_fin.steps (n := 1) (s' := (55, [some (.ref w), some (.ref k), some (.int (Int32.ofInt (i : Int)))], [.int (Int32.ofInt (i : Int)), .ref ps, .int (Int32.ofInt (i : Int)), .ref pn], h)) rfl ?_
    refine yy_fin.ar rfl oP (by decide) (yi_inb (a := (i : Int)) (by omega) (by omega) (by omega)) ((yi_cl (a := (i : Int)) (by omega)).trans (Int.toNat_natCast i)) eq ?_
    refine yy_fin.cr rfl oQ (by omega) (Nat.le_of_ble_eq_true rfl) fun h1 x1 e1 o1 => ?_
    have c1a := c1.x x1 id
    have hle := x.1
    refine yy_fin.kr rfl o1 ?_
    refine yy_fin.aw rfl c1a (by decide) (yi_inb (a := (i : Int)) (by omega) (by omega) (by omega)) ((yi_cl (a := (i : Int)) (by omega)).trans (Int.toNat_natCast i)) (Nat.succ_ne_zero _) (yy_kd6 o1) fun h2 x2 r2 => ?_
    refine yy_fin.steps (n := 2) (s' := (36, [some (.ref w), some (.ref k), some (.int ((Int32.ofInt (i : Int)) + (Int32.ofInt 1)))], [], h2)) rfl ?_
    rw [yi_add (i : Int) 1]
    have hpn1 : pn ≤ h.1.1 := c1.le
    have IH := yw_cpL hW0 hps0 hk0 hon0 hpn0 hpk hl h4 d h2 (i + 1) (a9 + 1) (d9 + 360) (by omega) (((x.tr x1 (fun _ _ e => e)).tr x2 (fun q hq e => by omega)).le (Nat.le_refl _) (by rw [lQ]; omega)) (by have := x2.1; omega) (x2.zr (x1.zr hz)) ((oW.x x1 id).x x2 (by omega)) (((oW.x x1 id).i x2 (by omega) 3).trans ((oW.i x1 id 3).trans e3)) ((oP.x x1 id).x x2 (by omega)) (fun t T e => ?_) ((oK.x x1 id).x x2 (fun z => hpk.1 z.symm)) ((oN.x x1 id).x x2 hpk.2.2) ⟨rs.set i (some (h.1.1 + 1)), r2, by rw [List.length_set]; exact c2, fun t T ht e => ?_⟩
    rotate_left
    · obtain ⟨q9, y1, y2, y3⟩ := aP t T e
      exact ⟨q9, y1, y2, yPT.xr (yPT.x y3 x1 id (fun _ _ z => z.elim)) c1a x2 (by omega)⟩
    · rw [List.getElem?_set]
      by_cases ht2 : i = t
      · subst ht2
        rw [eT] at e
        cases e
        refine ⟨h.1.1 + 1, by rw [if_pos rfl, if_pos (by omega)], ⟨by omega, by omega⟩, rq, o1.x x2 (by omega), lQ, fun y hy => ⟨fun i9 hi9 e9 => ?_, (aQ y hy).2⟩⟩
        obtain ⟨k9, z1, z2, z3⟩ := (aQ y hy).1 i9 hi9 e9
        exact ⟨k9, z1, z2, (z3.x x1 id).x x2 (fun z => by have := z3.1.2.2; rw [z] at z3; exact absurd (zz_arr_ok z3.1.2.2).2 (by rw [(zz_rar_ok c1.2.2).2]; exact fun z => nomatch z))⟩
      · rw [if_neg ht2]
        obtain ⟨q9, y1, y2, y3⟩ := c3 t T (by omega) e
        exact ⟨q9, y1, y2, yPT.xr (yPT.x y3 x1 id (fun _ _ z => z.elim)) c1a x2 y2.2⟩
    exact IH.mono fun r9 h9 z => ⟨z.1, z.2.1.le (by omega) (by omega), z.2.2⟩
theorem yw_copy (W : yWo own h w S) (hN : yOk own h) (hl4 : S.1.length ≤ 4) (hB : h.1.1 + 30 < yy_B) (hz : zz_Zr h) : yy_fin X 272 (0, zz_in [.ref w] (zz_nl 272), [], h) (fun r h' => ∃ k p, r = some (.ref k) ∧ yx yF 10 1500 h h' ∧ (h.1.1 < k ∧ h.1.1 < p ∧ p < yy_B) ∧ yWo (yNew own h.1.1 k p) h' k S) := by
  obtain ⟨ow, os, ps, bs, tx, oW, e3, oF, oTs, oBs⟩ := id W
  obtain ⟨op0, rp, oP, lP, aP⟩ := id oTs
  obtain ⟨ob0, rb, oR, lR, aR⟩ := id oBs
  have hle := oW.le
  have hle2 := oP.le
  refine yy_fin.no rfl (by omega) hz fun h1 x1 e1 o1 z1 => ?_
  refine yy_fin.steps (n := 1) (s' := (4, [some (.ref w), none, none], [.ref (h.1.1 + 1), .ref (h.1.1 + 1)], h1)) rfl ?_
  refine yy_fin.cp (as := []) rfl (by decide) rfl rfl o1 (Nat.le_of_ble_eq_true rfl) (Nat.le_of_ble_eq_true rfl) (yw_init o1 (by omega) (x1.zr hz)) ?_
  rintro v9 h2 ⟨rfl, x2, c2, o2, p2, q2, -, -⟩
  rw [e1] at o2 q2
  have y2 : yx yF 4 9 h h2 := (x1.tr x2 (fun q hq e => by omega)).le (Nat.le_refl _) (Nat.le_refl _)
  have oW2 := oW.x y2 id
  have oF2 := oF.2.x y2 id
  refine yy_fin.steps (n := 3) (s' := (10, [some (.ref w), some (.ref (h.1.1 + 1)), none], [.ref w, .ref (h.1.1 + 1)], h2)) rfl ?_
  refine yy_fin.fr rfl oW2 rfl ?_
  refine yy_fin.ci rfl oF2 (by omega) (Nat.le_of_ble_eq_true rfl) fun h3 x3 e3b q3 => ?_
  refine yy_fin.ki rfl q3.1 ?_
  have o3 := o2.x x3 id
  refine yy_fin.wr rfl o3 rfl fun h4 x4 o4 f4 => ?_
  have y4 : yx yF 5 13 h h4 := ((y2.tr x3 (fun _ _ e => e)).tr x4 (fun q hq e => by omega)).le (Nat.le_refl _) (by rw [List.length_map]; omega)
  have c4 := x4.1
  have oW4 := oW.x y4 id
  have oP4 := oP.x y4 id
  have q4 := q3.x x4 (by omega)
  refine yy_fin.steps (n := 2) (s' := (24, [some (.ref w), some (.ref (h.1.1 + 1)), none], [.ref w, .ref (h.1.1 + 1)], h4)) rfl ?_
  refine yy_fin.fr rfl oW4 rfl ?_
  refine yy_fin.lr rfl oP4 (by decide) ?_
  rw [yi_n]
  refine yy_fin.nr (n := rp.length) rfl (fun z => by have z := (yi_lt (a := (rp.length : Int)) (b := 0) (by omega) (by omega)).mp z; omega) ((yi_cl (a := (rp.length : Int)) (by omega)).trans (Int.toNat_natCast _)) (by omega) (by omega) fun h5 x5 e5 r5 => ?_
  have o5 := o4.x x5 id
  refine yy_fin.wr rfl o5 rfl fun h6 x6 o6 f6 => ?_
  have y6 : yx yF 6 17 h h6 := ((y4.tr x5 (fun _ _ e => e)).tr x6 (fun q hq e => by omega)).le (Nat.le_refl _) (by omega)
  have c6 := x6.1
  refine yy_fin.steps (n := 2) (s' := (36, [some (.ref w), some (.ref (h.1.1 + 1)), some (.int (Int32.ofInt 0))], [], h6)) rfl ?_
  have cp0 : yCp own h h6 (h4.1.1 + 1) 0 S.1 := ⟨_, r5.x x6 (by omega), by rw [List.length_replicate]; exact lP, fun t T ht => absurd ht (Nat.not_lt_zero t)⟩
  refine (yw_cpL (own := own) (S := S) (h0 := h) (k := h.1.1 + 1) (on := h2.1.1 + 1) (pn := h4.1.1 + 1) (ps := ps) (rp := rp) hle hle2 (by omega) (by omega) (by omega) ⟨by omega, by omega, by omega⟩ lP hl4 S.1.length h6 0 6 17 (by omega) y6 (by omega) (y6.zr hz) (oW.x y6 id) ((oW.i y6 id 3).trans e3) (oP.x y6 id) (fun t T e => ?_) o6 ((q4.x x5 id).x x6 (by omega)) cp0).mono fun r9 h9 z => ?_
  · obtain ⟨q, e1q, e2q, e3q⟩ := aP t T e
    exact ⟨q, e1q, e3q.le, e3q.x y6 id (fun _ _ z => z.elim)⟩
  obtain ⟨z1, z2, z3, z4, z5, rs9, z6, z7, z8⟩ := z
  rw [Nat.sub_zero] at z2
  have y9 : yx yF 10 1500 h h9 := z2.le (by omega) (by omega)
  have hc9 := y9.1
  refine ⟨h.1.1 + 1, h4.1.1 + 1, z1, y9, ⟨by omega, by omega, by omega⟩, yNew_k (by omega) (by omega) (by omega), _, _, _, _, z3, z4, ⟨yNew_k (by omega) (by omega) (by omega), z5⟩, ⟨yNew_p (by omega) (by omega), rs9, z6, z7, fun t T e => ?_⟩, (oBs.nw fun j hj => yNew_o j hj).x y9 (fun _ _ z => z.elim)⟩
  obtain ⟨q, e1q, e2q, e3q⟩ := z8 t T (List.getElem?_eq_some_iff.mp e).1 e
  have hql := e3q.le
  refine ⟨q, e1q, yNew_k e2q.1 (by omega) e2q.2, ?_⟩
  obtain ⟨rq9, s1, s2, s3⟩ := e3q
  obtain ⟨q0, f1q, -, f3q⟩ := aP t T e
  refine ⟨rq9, s1, s2, fun y hy => ⟨fun i hi ei => ?_, (s3 y hy).2⟩⟩
  obtain ⟨j, t1, t2, t3⟩ := (s3 y hy).1 i hi ei
  exact ⟨j, t1, (yNew_o j (hN.old t2)).trans t2, t3⟩
theorem yw_townL {h0 : zz_H} {os ps bs on pn : Nat} {tx : Option Nat} {rp : List (Option Nat)} {off : Int} (hw0 : w ≤ h0.1.1) (hos : os ≤ h0.1.1) (hps : ps ≤ h0.1.1) (hon : h0.1.1 < on) (hpn : h0.1.1 < pn) (hne : on ≠ pn) (hl : rp.length = S.1.length) (h4 : S.1.length ≤ 3) : ∀ (d : Nat) (h : zz_H) (i a9 d9 : Nat), i + d = S.1.length → yx yF a9 d9 h0 h → h.1.1 + 10 < yy_B → zz_Zr h → yO h w 12 [some (some os), some (some ps), some (some bs), none, some tx, none, none, none, none] → (∀ j, h.2.2 w j = h0.2.2 w j) → yP h os (S.1.map fun T => Int32.ofInt T.1) → yR h ps 6 rp → (∀ (t : Nat), t < S.1.length → ∃ q rq, rp[t]? = some (some q) ∧ q ≤ h0.1.1 ∧ yR h q 5 rq) → yQ h on (S.1.length + 1) ((S.1.map fun T => Int32.ofInt T.1).take i) → (∃ rs, yR h pn 6 rs ∧ rs.length = S.1.length + 1 ∧ ∀ (t : Nat), t < i → rs[t]? = rp[t]?) → yy_fin X 273 (23, [some (.ref w), some (.int (Int32.ofInt off)), some (.int (Int32.ofInt (S.1.length : Int))), some (.ref on), some (.ref pn), some (.int (Int32.ofInt (i : Int)))], [], h) (fun r h' => r = none ∧ ∃ qn rs, yx (fun q => q = w) (a9 + 1) (d9 + 360) h0 h' ∧ (h0.1.1 < qn ∧ qn ≠ pn ∧ qn ≠ on) ∧ yO h' w 12 [some (some on), some (some pn), some (some bs), none, some tx, none, none, none, none] ∧ (∀ j, h'.2.2 w j = h0.2.2 w j) ∧ yP h' on ((S.1.map fun T => Int32.ofInt T.1) ++ [Int32.ofInt off]) ∧ yR h' pn 6 rs ∧ rs.length = S.1.length + 1 ∧ (∀ (t : Nat), t < S.1.length → rs[t]? = rp[t]?) ∧ rs[S.1.length]? = some (some qn) ∧ yR h' qn 5 (List.replicate 360 none))
  | 0, h, i, a9, d9, hd, x, hB, hz, oW, eW, oO, oP, aP, oN, ⟨rs, r1, r2, r3⟩ => by
    have hml : (S.1.map fun T => Int32.ofInt T.1).length = S.1.length := List.length_map _
    have ei : i = S.1.length := by omega
    rw [show (S.1.map fun T => Int32.ofInt T.1).take i = S.1.map fun T => Int32.ofInt T.1 from List.take_of_length_le (by omega)] at oN
    refine yy_fin.steps (n := 2) (s' := (26, [some (.ref w), some (.int (Int32.ofInt off)), some (.int (Int32.ofInt (S.1.length : Int))), some (.ref on), some (.ref pn), some (.int (Int32.ofInt (i : Int)))], [.int (Int32.ofInt (S.1.length : Int)), .int (Int32.ofInt (i : Int))], h)) rfl ?_
    refine yy_fin.ic rfl (fun cq => ?_) (fun cq => absurd ((yi_c_ge (a := (i : Int)) (b := (S.1.length : Int)) (by omega) (by omega)).mpr (by omega)) cq)
    have cq := (yi_c_ge (a := (i : Int)) (b := (S.1.length : Int)) (by omega) (by omega)).mp cq
    refine yy_fin.steps (n := 3) (s' := (61, [some (.ref w), some (.int (Int32.ofInt off)), some (.int (Int32.ofInt (S.1.length : Int))), some (.ref on), some (.ref pn), some (.int (Int32.ofInt (i : Int)))], [.int (Int32.ofInt off), .int (Int32.ofInt (S.1.length : Int)), .ref on], h)) rfl ?_
    refine yy_fin.sq rfl oN (yi_inb (a := (S.1.length : Int)) (by omega) (by omega) (by omega)) ((yi_cl (a := (S.1.length : Int)) (by omega)).trans (by rw [Int.toNat_natCast, hml])) fun h1 x1 n1 => ?_
    have c1 := x1.1
    have hxl := x.1
    have oW1 := oW.x x1 (by omega)
    have f1 : ∀ j, h1.2.2 w j = h0.2.2 w j := fun j => (oW.i x1 (by omega) j).trans (eW j)
    have p1 := r1.x x1 (fun z => hne z.symm)
    refine yy_fin.steps (n := 3) (s' := (68, [some (.ref w), some (.int (Int32.ofInt off)), some (.int (Int32.ofInt (S.1.length : Int))), some (.ref on), some (.ref pn), some (.int (Int32.ofInt (i : Int)))], [.int (Int32.ofInt 360), .int (Int32.ofInt (S.1.length : Int)), .ref pn], h1)) rfl ?_
    refine yy_fin.nr (n := 360) rfl (by decide) (by decide) (by decide) (by omega) fun h2 x2 e2 q2 => ?_
    have oW2 := oW1.x x2 id
    have f2 : ∀ j, h2.2.2 w j = h0.2.2 w j := fun j => (oW1.i x2 id j).trans (f1 j)
    have p2 := p1.x x2 id
    have n2 := n1.x x2 id
    have lon := n1.le
    have lpn := p1.le
    refine yy_fin.aw rfl p2 (by decide) (yi_inb (a := (S.1.length : Int)) (by omega) (by omega) (by omega)) ((yi_cl (a := (S.1.length : Int)) (by omega)).trans (Int.toNat_natCast _)) (Nat.succ_ne_zero _) (yy_kd6 q2) fun h3 x3 p3 => ?_
    have oW3 := oW2.x x3 (by omega)
    have f3 : ∀ j, h3.2.2 w j = h0.2.2 w j := fun j => (oW2.i x3 (by omega) j).trans (f2 j)
    have n3 := n2.x x3 hne
    have q3 := q2.x x3 (by omega)
    refine yy_fin.steps (n := 2) (s' := (74, [some (.ref w), some (.int (Int32.ofInt off)), some (.int (Int32.ofInt (S.1.length : Int))), some (.ref on), some (.ref pn), some (.int (Int32.ofInt (i : Int)))], [.ref on, .ref w], h3)) rfl ?_
    refine yy_fin.wr rfl oW3 rfl fun h4 x4 oW4 f4 => ?_
    have n4 := n3.x x4 (by omega)
    have p4 := p3.x x4 (by omega)
    have q4 := q3.x x4 (by omega)
    refine yy_fin.steps (n := 2) (s' := (80, [some (.ref w), some (.int (Int32.ofInt off)), some (.int (Int32.ofInt (S.1.length : Int))), some (.ref on), some (.ref pn), some (.int (Int32.ofInt (i : Int)))], [.ref pn, .ref w], h4)) rfl ?_
    refine yy_fin.wr rfl oW4 rfl fun h5 x5 oW5 f5 => ?_
    refine yy_fin.at (n := 1) rfl ⟨rfl, h1.1.1 + 1, _, (((((x.wk (B := fun q => q = w) (fun _ _ e => e.elim) (Nat.le_refl _) (Nat.le_refl _)).tr x1 (fun q hq e => by omega)).tr x2 (fun _ _ e => e.elim)).tr x3 (fun q hq e => by omega)).tr x4 (fun _ _ e => e)).tr x5 (fun _ _ e => e) |>.le (by omega) (by omega), ⟨by omega, by omega, by omega⟩, oW5, fun j => (f5 j).trans ((f4 j).trans (f3 j)), by have z := n4.x x5 (show on ≠ w by omega); unfold yP; rw [List.length_append, hml]; exact z, p4.x x5 (by omega), by rw [List.length_set]; exact r2, fun t ht => by rw [List.getElem?_set, if_neg (by omega)]; exact r3 t (by omega), by rw [List.getElem?_set, if_pos rfl, if_pos (by omega)], q4.x x5 (by omega)⟩
  | d + 1, h, i, a9, d9, hd, x, hB, hz, oW, eW, oO, oP, aP, oN, ⟨rs, r1, r2, r3⟩ => by
    have hml : (S.1.map fun T => Int32.ofInt T.1).length = S.1.length := List.length_map _
    obtain ⟨T, eT⟩ : ∃ T, S.1[i]? = some T := ⟨_, List.getElem?_eq_getElem (by omega)⟩
    have eM : (S.1.map fun T => Int32.ofInt T.1)[i]? = some (Int32.ofInt T.1) := by rw [List.getElem?_map, eT]; rfl
    obtain ⟨q, rq, eq, hq, oQ⟩ := aP i (by omega)
    have hxl := x.1
    refine yy_fin.steps (n := 2) (s' := (26, [some (.ref w), some (.int (Int32.ofInt off)), some (.int (Int32.ofInt (S.1.length : Int))), some (.ref on), some (.ref pn), some (.int (Int32.ofInt (i : Int)))], [.int (Int32.ofInt (S.1.length : Int)), .int (Int32.ofInt (i : Int))], h)) rfl ?_
    refine yy_fin.ic rfl (fun cq => absurd ((yi_c_ge (a := (i : Int)) (b := (S.1.length : Int)) (by omega) (by omega)).mp cq) (by omega)) (fun cq => ?_)
    have cq := mt (yi_c_ge (a := (i : Int)) (b := (S.1.length : Int)) (by omega) (by omega)).mpr cq
    refine yy_fin.steps (n := 3) (s' := (33, [some (.ref w), some (.int (Int32.ofInt off)), some (.int (Int32.ofInt (S.1.length : Int))), some (.ref on), some (.ref pn), some (.int (Int32.ofInt (i : Int)))], [.ref w, .int (Int32.ofInt (i : Int)), .ref on], h)) rfl ?_
    refine yy_fin.fr rfl oW rfl ?_
    refine yy_fin.steps (n := 1) (s' := (38, [some (.ref w), some (.int (Int32.ofInt off)), some (.int (Int32.ofInt (S.1.length : Int))), some (.ref on), some (.ref pn), some (.int (Int32.ofInt (i : Int)))], [.int (Int32.ofInt (i : Int)), .ref os, .int (Int32.ofInt (i : Int)), .ref on], h)) rfl ?_
    refine yy_fin.lp rfl oO (yi_inb (a := (i : Int)) (by omega) (by rw [hml]; omega) (by rw [hml]; omega)) ((yi_cl (a := (i : Int)) (by omega)).trans (Int.toNat_natCast i)) eM ?_
    refine yy_fin.sq rfl oN (yi_inb (a := (i : Int)) (by omega) (by omega) (by omega)) ((yi_cl (a := (i : Int)) (by omega)).trans (by rw [Int.toNat_natCast, List.length_take, hml]; omega)) fun h1 x1 n1 => ?_
    rw [show (S.1.map fun T => Int32.ofInt T.1).take i ++ [Int32.ofInt T.1] = (S.1.map fun T => Int32.ofInt T.1).take (i + 1) by rw [List.take_add_one, eM]; rfl] at n1
    have oW1 := oW.x x1 (by omega)
    have oP1 := oP.x x1 (by omega)
    have p1 := r1.x x1 (fun z => hne z.symm)
    have oQ1 := oQ.x x1 (by omega)
    refine yy_fin.steps (n := 3) (s' := (45, [some (.ref w), some (.int (Int32.ofInt off)), some (.int (Int32.ofInt (S.1.length : Int))), some (.ref on), some (.ref pn), some (.int (Int32.ofInt (i : Int)))], [.ref w, .int (Int32.ofInt (i : Int)), .ref pn], h1)) rfl ?_
    refine yy_fin.fr rfl oW1 rfl ?_
    refine yy_fin.steps (n := 1) (s' := (50, [some (.ref w), some (.int (Int32.ofInt off)), some (.int (Int32.ofInt (S.1.length : Int))), some (.ref on), some (.ref pn), some (.int (Int32.ofInt (i : Int)))], [.int (Int32.ofInt (i : Int)), .ref ps, .int (Int32.ofInt (i : Int)), .ref pn], h1)) rfl ?_
    refine yy_fin.ar rfl oP1 (by decide) (yi_inb (a := (i : Int)) (by omega) (by omega) (by omega)) ((yi_cl (a := (i : Int)) (by omega)).trans (Int.toNat_natCast i)) eq ?_
    refine yy_fin.aw rfl p1 (by decide) (yi_inb (a := (i : Int)) (by omega) (by omega) (by omega)) ((yi_cl (a := (i : Int)) (by omega)).trans (Int.toNat_natCast i)) oQ1.1 (yy_kd6 oQ1) fun h2 x2 p2 => ?_
    have y2 : yx yF a9 d9 h0 h2 := ((x.tr x1 (fun q hq e => by omega)).tr x2 (fun q hq e => by omega)).le (Nat.le_refl _) (Nat.le_refl _)
    refine yy_fin.steps (n := 2) (s' := (23, [some (.ref w), some (.int (Int32.ofInt off)), some (.int (Int32.ofInt (S.1.length : Int))), some (.ref on), some (.ref pn), some (.int ((Int32.ofInt (i : Int)) + (Int32.ofInt 1)))], [], h2)) rfl ?_
    rw [yi_add (i : Int) 1]
    have c2 := y2.1
    have c1 := x1.1
    have c3 := x2.1
    refine yw_townL hw0 hos hps hon hpn hne hl h4 d h2 (i + 1) a9 d9 (by omega) y2 (by omega) (x2.zr (x1.zr hz)) (oW1.x x2 (by omega)) (fun j => (oW1.i x2 (by omega) j).trans ((oW.i x1 (by omega) j).trans (eW j))) ((oO.x x1 (by omega)).x x2 (by omega)) (oP1.x x2 (by omega)) (fun t ht => ?_) (n1.x x2 hne) ⟨_, p2, by rw [List.length_set]; exact r2, fun t ht => ?_⟩
    · obtain ⟨q9, rq9, y1, y2b, y3⟩ := aP t ht
      exact ⟨q9, rq9, y1, y2b, (y3.x x1 (by omega)).x x2 (by omega)⟩
    · rw [List.getElem?_set]
      by_cases ht2 : i = t
      · rw [if_pos ht2, if_pos (by omega), ← ht2, eq]
      · rw [if_neg ht2]
        exact r3 t (by omega)
theorem yw_town (W : yWo own h w S) (hN : yOk own h) (hw0 : w ≠ 0) (h3 : S.1.length ≤ 3) {off : Int} (hB : h.1.1 + 30 < yy_B) (hz : zz_Zr h) : yy_fin X 273 (0, zz_in [.ref w, .int (Int32.ofInt off)] (zz_nl 273), [], h) (fun r h' => r = none ∧ ∃ p2, yx (fun q => q = w) 3 368 h h' ∧ (h.1.1 < p2 ∧ p2 < yy_B) ∧ p2 ≤ h'.1.1 ∧ yWo (yNew own h.1.1 w p2) h' w (S.1 ++ [(off, (fun _ _ => 0), 0)], S.2.1, S.2.2)) := by
  obtain ⟨ow, os, ps, bs, tx, oW, e3, oF, oTs, oBs⟩ := id W
  obtain ⟨op0, rp, oP, lP, aP⟩ := id oTs
  have hle := oW.le
  have hle2 := oP.le
  have hle3 := oF.2.le
  have hml : (S.1.map fun T => Int32.ofInt T.1).length = S.1.length := List.length_map _
  refine yy_fin.steps (n := 1) (s' := (1, [some (.ref w), some (.int (Int32.ofInt off)), none, none, none, none], [.ref w], h)) rfl ?_
  refine yy_fin.fr rfl oW rfl ?_
  refine yy_fin.ll rfl oF.2.1 ?_
  rw [hml, yi_n]
  refine yy_fin.steps (n := 4) (s' := (9, [some (.ref w), some (.int (Int32.ofInt off)), some (.int (Int32.ofInt (S.1.length : Int))), none, none, none], [.int ((Int32.ofInt (S.1.length : Int)) + (Int32.ofInt 1))], h)) rfl ?_
  rw [yi_add (S.1.length : Int) 1]
  refine yy_fin.ni (n := S.1.length + 1) rfl (fun z => by have z := (yi_lt (a := (S.1.length : Int) + 1) (b := 0) (by omega) (by omega)).mp z; omega) ((yi_cl (a := (S.1.length : Int) + 1) (by omega)).trans (by omega)) (by omega) (by omega) hz fun h1 x1 e1 i1 z1 => ?_
  refine yy_fin.steps (n := 4) (s' := (15, [some (.ref w), some (.int (Int32.ofInt off)), some (.int (Int32.ofInt (S.1.length : Int))), some (.ref (h.1.1 + 1)), none, none], [.int ((Int32.ofInt (S.1.length : Int)) + (Int32.ofInt 1))], h1)) rfl ?_
  rw [yi_add (S.1.length : Int) 1]
  refine yy_fin.nr (n := S.1.length + 1) rfl (fun z => by have z := (yi_lt (a := (S.1.length : Int) + 1) (b := 0) (by omega) (by omega)).mp z; omega) ((yi_cl (a := (S.1.length : Int) + 1) (by omega)).trans (by omega)) (by omega) (by omega) fun h2 x2 e2 r2 => ?_
  have y2 : yx yF 2 8 h h2 := (x1.tr x2 (fun _ _ e => e)).le (Nat.le_refl _) (by omega)
  refine yy_fin.steps (n := 3) (s' := (23, [some (.ref w), some (.int (Int32.ofInt off)), some (.int (Int32.ofInt (S.1.length : Int))), some (.ref (h.1.1 + 1)), some (.ref (h1.1.1 + 1)), some (.int (Int32.ofInt 0))], [], h2)) rfl ?_
  have q2 : yQ h2 (h.1.1 + 1) (S.1.length + 1) ((S.1.map fun T => Int32.ofInt T.1).take 0) := ⟨i1.x x2 id, fun j v e => by rw [List.take_zero] at e; exact nomatch e⟩
  refine (yw_townL (S := S) (h0 := h) (on := h.1.1 + 1) (pn := h1.1.1 + 1) (off := off) (rp := rp) hle hle3 hle2 (by omega) (by omega) (by omega) lP h3 S.1.length h2 0 2 8 (by omega) y2 (by omega) (y2.zr hz) (oW.x y2 id) (fun j => oW.i y2 id j) (oF.2.x y2 id) (oP.x y2 id) (fun t ht => ?_) q2 ⟨_, r2, List.length_replicate .., fun t ht => absurd ht (Nat.not_lt_zero t)⟩).mono fun r9 h9 z => ?_
  · obtain ⟨T, eT⟩ : ∃ T, S.1[t]? = some T := ⟨_, List.getElem?_eq_getElem ht⟩
    obtain ⟨q, eq, -, rq, oQ, -⟩ := aP t T eT
    exact ⟨q, rq, eq, oQ.le, oQ.x y2 id⟩
  obtain ⟨z0, qn, rs, x9, ⟨c1, c2, c3⟩, oW9, f9, n9, p9, l9, a9, b9, q9⟩ := z
  have hc := x9.1
  have hp9 := p9.le
  have hq9 := q9.le
  have hn0 : yN0 own h (fun q => q = w) := fun k _ e => by rw [e, ow]; exact hw0
  refine ⟨z0, h1.1.1 + 1, x9.le (by omega) (by omega), ⟨by omega, by omega⟩, hp9, (yNew_o w (Or.inl hle)).trans ow, h.1.1 + 1, h1.1.1 + 1, bs, tx, oW9, (f9 3).trans e3, ⟨yNew_k (by omega) (by omega) (by omega), ?_⟩, ⟨yNew_p (by omega) (by omega), rs, p9, by rw [List.length_append, l9]; rfl, fun t T e => ?_⟩, (oBs.nw fun j hj => yNew_o j hj).x x9 fun k hk e => ?_⟩
  · rw [List.map_append]
    exact n9
  · by_cases ht : t < S.1.length
    · rw [List.getElem?_append_left ht] at e
      obtain ⟨q, eq, wq, rq, oQ, lQ, aQ⟩ := aP t T e
      have hqw : q ≠ w := fun z => by rw [z] at oQ; exact absurd (zz_obj_ok oW.2.2).2 (by rw [(zz_rar_ok oQ.2.2).2]; exact fun z => nomatch z)
      refine ⟨q, (a9 t ht).trans eq, (yNew_o q (Or.inl oQ.le)).trans wq, rq, oQ.x x9 hqw, lQ, fun y hy => ⟨fun i hi ei => ?_, (aQ y hy).2⟩⟩
      obtain ⟨j, t1, t2, t3⟩ := (aQ y hy).1 i hi ei
      exact ⟨j, t1, (yNew_o j (Or.inl t3.le)).trans t2, t3.x x9 (fun z => by rw [z, ow] at t2; exact hw0 t2)⟩
    · have ht3 := (List.getElem?_eq_some_iff.mp e).1
      rw [List.length_append, List.length_singleton] at ht3
      have et : t = S.1.length := by omega
      rw [et, List.getElem?_append_right (Nat.le_refl _), Nat.sub_self] at e
      cases e
      refine ⟨qn, et ▸ b9, yNew_k c1 (by omega) c2, _, q9, List.length_replicate .., fun y hy => ⟨fun i hi => absurd hi (Nat.not_lt_zero i), fun _ => ?_⟩⟩
      rw [List.getElem?_replicate, if_pos hy]
  · have h9o := yNew_o (own := own) (n := h.1.1) (k := w) (p := h1.1.1 + 1) w (Or.inl hle)
    rw [e]
    exact fun z => hw0 (ow.symm.trans (h9o.symm.trans z))
end YW5
