/-! QUESTIONS AFTER RINGS (printed by wip/p54/qi2.py) -/
section YQR
variable {own : yOwn} {w t : Nat} {lst : List (yBell × List fl_T)} {g0 g : aa_G} {h : zz_H} {day s gap : Int}
theorem yq_112 (F : yCf own w lst g0) (C : yCx own w lst g0 h g) (a b : Int32)  : ∃ x g', (∃ Y, wd_g Y ∧ Y 541 = g0 541 ∧ x = (fn_218 Y a b).1) ∧ ∀ {X : yy_X}, yy_fin X 112 (0, zz_in [.ref 1, .int a, .int b] (zz_nl 112), [], h) (fun v h' => v = some (.int x) ∧ yCx own w lst g0 h' g' ∧ yx (yAk w) 0 0 h h') := by
  obtain ⟨e1, e2, W2, r⟩ := C.ask (M := fun g1 => fn_218 g1 a b) F (lq_112 C.1.1 C.1.2.1 C.1.2.2) (by intro x hx; simp only [List.mem_cons, List.not_mem_nil, or_false] at hx; rcases hx with rfl | rfl <;> exact trivial) (ko_fw (ko_112 C.1.1 C.1.2.1) fun _ _ _ r => dn_112 r) (fun g1 i1 p1 => ko_fw (ko_218 i1 p1) fun _ _ _ r => dn_218 r) (by decide +kernel) (by decide +kernel) (by decide +kernel) (by decide +kernel)
  exact ⟨_, _, ⟨_, W2, e2, e1.symm⟩, r⟩
theorem yq_115 (F : yCf own w lst g0) (C : yCx own w lst g0 h g) (a b c : Int32)  : ∃ x g', (∃ Y, wd_g Y ∧ Y 541 = g0 541 ∧ x = (fn_219 Y a b c).1) ∧ ∀ {X : yy_X}, yy_fin X 115 (0, zz_in [.ref 1, .int a, .int b, .int c] (zz_nl 115), [], h) (fun v h' => v = some (.int x) ∧ yCx own w lst g0 h' g' ∧ yx (yAk w) 0 0 h h') := by
  obtain ⟨e1, e2, W2, r⟩ := C.ask (M := fun g1 => fn_219 g1 a b c) F (lq_115 C.1.1 C.1.2.1 C.1.2.2) (by intro x hx; simp only [List.mem_cons, List.not_mem_nil, or_false] at hx; rcases hx with rfl | rfl | rfl <;> exact trivial) (ko_fw (ko_115 C.1.1 C.1.2.1) fun _ _ _ r => dn_115 r) (fun g1 i1 p1 => ko_fw (ko_219 i1 p1) fun _ _ _ r => dn_219 r) (by decide +kernel) (by decide +kernel) (by decide +kernel) (by decide +kernel)
  exact ⟨_, _, ⟨_, W2, e2, e1.symm⟩, r⟩
theorem yq_116 (F : yCf own w lst g0) (C : yCx own w lst g0 h g) (a b c : Int32)  : ∃ x g', (∃ Y, wd_g Y ∧ Y 541 = g0 541 ∧ x = (fn_220 Y a b c).1) ∧ ∀ {X : yy_X}, yy_fin X 116 (0, zz_in [.ref 1, .int a, .int b, .int c] (zz_nl 116), [], h) (fun v h' => v = some (.int x) ∧ yCx own w lst g0 h' g' ∧ yx (yAk w) 0 0 h h') := by
  obtain ⟨e1, e2, W2, r⟩ := C.ask (M := fun g1 => fn_220 g1 a b c) F (lq_116 C.1.1 C.1.2.1 C.1.2.2) (by intro x hx; simp only [List.mem_cons, List.not_mem_nil, or_false] at hx; rcases hx with rfl | rfl | rfl <;> exact trivial) (ko_fw (ko_116 C.1.1 C.1.2.1) fun _ _ _ r => dn_116 r) (fun g1 i1 p1 => ko_fw (ko_220 i1 p1) fun _ _ _ r => dn_220 r) (by decide +kernel) (by decide +kernel) (by decide +kernel) (by decide +kernel)
  exact ⟨_, _, ⟨_, W2, e2, e1.symm⟩, r⟩
theorem yq_102 (F : yCf own w lst g0) (C : yCx own w lst g0 h g) (a b c d : Int32) (hb : 0 ≤ b.toInt ∧ b.toInt ≤ 35999) (hk : 0 ≤ d.toInt ∧ d.toInt ≤ 2) : ∃ x g', (∃ Y, wd_g Y ∧ Y 541 = g0 541 ∧ x = (fn_211 Y a b c d).1) ∧ ∀ {X : yy_X}, yy_fin X 102 (0, zz_in [.ref 1, .int a, .int b, .int c, .int d] (zz_nl 102), [], h) (fun v h' => v = some (.int x) ∧ yCx own w lst g0 h' g' ∧ yx (yAk w) 0 0 h h') := by
  obtain ⟨e1, e2, W2, r⟩ := C.ask (M := fun g1 => fn_211 g1 a b c d) F (lq_102v hb hk C.1.1 C.1.2.1 C.1.2.2) (by intro x hx; simp only [List.mem_cons, List.not_mem_nil, or_false] at hx; rcases hx with rfl | rfl | rfl | rfl <;> exact trivial) (ko_fw (ko_102 C.1.1 C.1.2.1) fun _ _ _ r => dn_102 r) (fun g1 i1 p1 => ko_fw (ko_211 i1 p1) fun _ _ _ r => dn_211 r) (by decide +kernel) (by decide +kernel) (by decide +kernel) (by decide +kernel)
  exact ⟨_, _, ⟨_, W2, e2, e1.symm⟩, r⟩
theorem qi_112 (F : yCf own w lst g0) (C : yCx own w lst g0 h g) (ht : (t : Int) < (g0 541 0).toInt) (hd : 0 ≤ day ∧ day ≤ 35999) : ∃ g', ∀ {X : yy_X}, yy_fin X 112 (0, zz_in [.ref 1, .int (Int32.ofInt (t : Int)), .int (Int32.ofInt day)] (zz_nl 112), [], h) (fun v h' => v = some (.int (Int32.ofInt (sm_i (fun j => y_stk lst (y_s2 (yRq (g0 541) t lst day) j)) 0 (yRq (g0 541) t lst day).length))) ∧ yCx own w lst g0 h' g' ∧ yx (yAk w) 0 0 h h') := by
  obtain ⟨x, g', ⟨Y, W, eY, e⟩, r⟩ := yq_112 F C (Int32.ofInt (t : Int)) (Int32.ofInt day)
  have Br : yBr (Y 541) lst := by rw [eY]; exact F.2.2.1
  rw [m_218 W (by rw [eY]; exact ht) Br hd] at e
  rw [eY] at e
  subst e
  exact ⟨g', r⟩
theorem qi_116 (F : yCf own w lst g0) (C : yCx own w lst g0 h g) (ht : (t : Int) < (g0 541 0).toInt) (hd : 0 ≤ day ∧ day ≤ 35999) (hg : 0 ≤ gap ∧ gap ≤ 86400) : ∃ g', ∀ {X : yy_X}, yy_fin X 116 (0, zz_in [.ref 1, .int (Int32.ofInt (t : Int)), .int (Int32.ofInt day), .int (Int32.ofInt gap)] (zz_nl 116), [], h) (fun v h' => v = some (.int (Int32.ofInt (sm_i (y_clh (yRq (g0 541) t lst day) gap) 0 (yRq (g0 541) t lst day).length))) ∧ yCx own w lst g0 h' g' ∧ yx (yAk w) 0 0 h h') := by
  obtain ⟨x, g', ⟨Y, W, eY, e⟩, r⟩ := yq_116 F C (Int32.ofInt (t : Int)) (Int32.ofInt day) (Int32.ofInt gap)
  have Br : yBr (Y 541) lst := by rw [eY]; exact F.2.2.1
  rw [m_220 W (by rw [eY]; exact ht) Br hd hg] at e
  rw [eY] at e
  subst e
  exact ⟨g', r⟩
theorem qi_115 (F : yCf own w lst g0) (C : yCx own w lst g0 h g) (ht : (t : Int) < (g0 541 0).toInt) (hd : 0 ≤ day ∧ day ≤ 35999) (hs : 0 ≤ s ∧ s ≤ 86399) : ∃ g', ∀ {X : yy_X}, yy_fin X 115 (0, zz_in [.ref 1, .int (Int32.ofInt (t : Int)), .int (Int32.ofInt day), .int (Int32.ofInt s)] (zz_nl 115), [], h) (fun v h' => v = some (.int (Int32.ofInt (y_so (yRq (g0 541) t lst day) s (if day = 35999 then -2 else if (yRq (g0 541) t lst (day + 1)).length = 0 then -2 else 86400 - s + y_s1 (yRq (g0 541) t lst (day + 1)) 0) 0 (yRq (g0 541) t lst day).length))) ∧ yCx own w lst g0 h' g' ∧ yx (yAk w) 0 0 h h') := by
  obtain ⟨x, g', ⟨Y, W, eY, e⟩, r⟩ := yq_115 F C (Int32.ofInt (t : Int)) (Int32.ofInt day) (Int32.ofInt s)
  have Br : yBr (Y 541) lst := by rw [eY]; exact F.2.2.1
  rw [m_219 W (by rw [eY]; exact ht) Br hd hs] at e
  rw [eY] at e
  subst e
  exact ⟨g', r⟩
theorem qi_102n (F : yCf own w lst g0) (C : yCx own w lst g0 h g) (ht : (t : Int) < (g0 541 0).toInt) (hd : 0 ≤ day ∧ day ≤ 35999) : ∃ g', ∀ {X : yy_X}, yy_fin X 102 (0, zz_in [.ref 1, .int (Int32.ofInt (t : Int)), .int (Int32.ofInt day), .int (Int32.ofInt (-1)), .int (Int32.ofInt 0)] (zz_nl 102), [], h) (fun v h' => v = some (.int (Int32.ofInt (((yRq (g0 541) t lst day).length : Int)))) ∧ yCx own w lst g0 h' g' ∧ yx (yAk w) 0 0 h h') := by
  obtain ⟨x, g', ⟨Y, W, eY, e⟩, r⟩ := yq_102 F C (Int32.ofInt (t : Int)) (Int32.ofInt day) (Int32.ofInt (-1)) (Int32.ofInt 0) (by rw [yi_T (by omega)]; exact hd) (by rw [yi_T (by omega)]; omega)
  have Br : yBr (Y 541) lst := by rw [eY]; exact F.2.2.1
  rw [m_211n W (by rw [eY]; exact ht) Br hd] at e
  rw [eY] at e
  subst e
  exact ⟨g', r⟩
theorem qi_102 (F : yCf own w lst g0) (C : yCx own w lst g0 h g) (ht : (t : Int) < (g0 541 0).toInt) (hd : 0 ≤ day ∧ day ≤ 35999) {i : Nat} (hi : i ≤ (yRq (g0 541) t lst day).length) {k : Int} (hk : 0 ≤ k ∧ k ≤ 2) : ∃ g', ∀ {X : yy_X}, yy_fin X 102 (0, zz_in [.ref 1, .int (Int32.ofInt (t : Int)), .int (Int32.ofInt day), .int (Int32.ofInt (i : Int)), .int (Int32.ofInt k)] (zz_nl 102), [], h) (fun v h' => v = some (.int (Int32.ofInt (if i = (yRq (g0 541) t lst day).length then -1 else if k = 0 then y_s1 (yRq (g0 541) t lst day) i else if k = 1 then y_s2 (yRq (g0 541) t lst day) i else y_stk lst (y_s2 (yRq (g0 541) t lst day) i)))) ∧ yCx own w lst g0 h' g' ∧ yx (yAk w) 0 0 h h') := by
  obtain ⟨x, g', ⟨Y, W, eY, e⟩, r⟩ := yq_102 F C (Int32.ofInt (t : Int)) (Int32.ofInt day) (Int32.ofInt (i : Int)) (Int32.ofInt k) (by rw [yi_T (by omega)]; exact hd) (by rw [yi_T (by omega)]; omega)
  have Br : yBr (Y 541) lst := by rw [eY]; exact F.2.2.1
  rw [m_211i W (by rw [eY]; exact ht) Br hd (by rw [eY]; exact hi) hk] at e
  rw [eY] at e
  subst e
  exact ⟨g', r⟩
/-- W's bells, as they are read -/
theorem yCx.bells (C : yCx own w lst g0 h g) (F : yCf own w lst g0) : ∃ o p b tx bs, yO h w 12 [some (some o), some (some p), some (some b), none, some tx, none, none, none, none] ∧ yR h b 7 bs ∧ bs.length = lst.length ∧ ∀ k : Int, 0 ≤ k → k < lst.length → ∃ q fs, bs[k.toNat]? = some (some q) ∧ yO h q 11 fs ∧ fs[3]? = some none ∧ h.2.2 q 3 = Int32.ofInt (y_stk lst k) := by
  obtain ⟨-, o, p, b, tx, o1, -, -, -, -, bs, b1, b2, b3⟩ := C.2.2.2.1
  refine ⟨o, p, b, tx, bs, o1, b1, by rw [b2]; exact List.length_map _, fun k h0 h1 => ?_⟩
  obtain ⟨⟨e, e1, e2⟩, -, -⟩ := y_stk_at F.2.2.1 (k := k) ⟨h0, h1⟩
  obtain ⟨q, q1, -, c, q2, -, -, -, q3, -⟩ := b3 k.toNat e.1 (by rw [List.getElem?_map, e1]; rfl)
  exact ⟨q, _, q1, q2, rfl, by rw [e2]; exact q3⟩
end YQR
