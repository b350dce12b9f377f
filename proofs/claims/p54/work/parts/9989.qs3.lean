/-! QUESTIONS WITH NUMBERS, of many days and of two towns (printed by wip/p54/qi3.py) -/
section YQT
variable {own : yOwn} {w t t2 : Nat} {lst : List (yBell × List fl_T)} {g0 g : aa_G} {h : zz_H} {day d2 s f i k n m many hour : Int}
theorem yq_114 (F : yCf own w lst g0) (C : yCx own w lst g0 h g) (a b c : Int32) : ∃ x g', (∃ Y, wd_g Y ∧ Y 541 = g0 541 ∧ x = (fn_246 Y a b c).1) ∧ ∀ {X : yy_X}, yy_fin X 114 (0, zz_in [.ref 1, .int a, .int b, .int c] (zz_nl 114), [], h) (fun v h' => v = some (.int x) ∧ yCx own w lst g0 h' g' ∧ yx (yAk w) 0 0 h h') := by
  obtain ⟨e1, e2, W2, r⟩ := C.ask (M := fun g1 => fn_246 g1 a b c) F (lq_114 C.1.1 C.1.2.1 C.1.2.2) (by intro x hx; simp only [List.mem_cons, List.not_mem_nil, or_false] at hx; rcases hx with rfl | rfl | rfl <;> exact trivial) (ko_fw (ko_114 C.1.1 C.1.2.1) fun _ _ _ r => dn_114 r) (fun g1 i1 p1 => ko_fw (ko_246 i1 p1) fun _ _ _ r => dn_246 r) (by decide +kernel) (by decide +kernel) (by decide +kernel) (by decide +kernel)
  exact ⟨_, _, ⟨_, W2, e2, e1.symm⟩, r⟩
theorem yq_117 (F : yCf own w lst g0) (C : yCx own w lst g0 h g) (a b c d : Int32) : ∃ x g', (∃ Y, wd_g Y ∧ Y 541 = g0 541 ∧ x = (fn_236 Y a b c d).1) ∧ ∀ {X : yy_X}, yy_fin X 117 (0, zz_in [.ref 1, .int a, .int b, .int c, .int d] (zz_nl 117), [], h) (fun v h' => v = some (.int x) ∧ yCx own w lst g0 h' g' ∧ yx (yAk w) 0 0 h h') := by
  obtain ⟨e1, e2, W2, r⟩ := C.ask (M := fun g1 => fn_236 g1 a b c d) F (lq_117 C.1.1 C.1.2.1 C.1.2.2) (by intro x hx; simp only [List.mem_cons, List.not_mem_nil, or_false] at hx; rcases hx with rfl | rfl | rfl | rfl <;> exact trivial) (ko_fw (ko_117 C.1.1 C.1.2.1) fun _ _ _ r => dn_117 r) (fun g1 i1 p1 => ko_fw (ko_236 i1 p1) fun _ _ _ r => dn_236 r) (by decide +kernel) (by decide +kernel) (by decide +kernel) (by decide +kernel)
  exact ⟨_, _, ⟨_, W2, e2, e1.symm⟩, r⟩
theorem yq_119 (F : yCf own w lst g0) (C : yCx own w lst g0 h g) (a b c : Int32) : ∃ x g', (∃ Y, wd_g Y ∧ Y 541 = g0 541 ∧ x = (fn_247 Y a b c).1) ∧ ∀ {X : yy_X}, yy_fin X 119 (0, zz_in [.ref 1, .int a, .int b, .int c] (zz_nl 119), [], h) (fun v h' => v = some (.int x) ∧ yCx own w lst g0 h' g' ∧ yx (yAk w) 0 0 h h') := by
  obtain ⟨e1, e2, W2, r⟩ := C.ask (M := fun g1 => fn_247 g1 a b c) F (lq_119 C.1.1 C.1.2.1 C.1.2.2) (by intro x hx; simp only [List.mem_cons, List.not_mem_nil, or_false] at hx; rcases hx with rfl | rfl | rfl <;> exact trivial) (ko_fw (ko_119 C.1.1 C.1.2.1) fun _ _ _ r => dn_119 r) (fun g1 i1 p1 => ko_fw (ko_247 i1 p1) fun _ _ _ r => dn_247 r) (by decide +kernel) (by decide +kernel) (by decide +kernel) (by decide +kernel)
  exact ⟨_, _, ⟨_, W2, e2, e1.symm⟩, r⟩
theorem yq_138 (F : yCf own w lst g0) (C : yCx own w lst g0 h g) (a b : Int32) : ∃ x g', (∃ Y, wd_g Y ∧ Y 541 = g0 541 ∧ x = (fn_248 Y a b).1) ∧ ∀ {X : yy_X}, yy_fin X 138 (0, zz_in [.ref 1, .int a, .int b] (zz_nl 138), [], h) (fun v h' => v = some (.int x) ∧ yCx own w lst g0 h' g' ∧ yx (yAk w) 0 0 h h') := by
  obtain ⟨e1, e2, W2, r⟩ := C.ask (M := fun g1 => fn_248 g1 a b) F (lq_138 C.1.1 C.1.2.1 C.1.2.2) (by intro x hx; simp only [List.mem_cons, List.not_mem_nil, or_false] at hx; rcases hx with rfl | rfl <;> exact trivial) (ko_fw (ko_138 C.1.1 C.1.2.1) fun _ _ _ r => dn_138 r) (fun g1 i1 p1 => ko_fw (ko_248 i1 p1) fun _ _ _ r => dn_248 r) (by decide +kernel) (by decide +kernel) (by decide +kernel) (by decide +kernel)
  exact ⟨_, _, ⟨_, W2, e2, e1.symm⟩, r⟩
theorem yq_129 (F : yCf own w lst g0) (C : yCx own w lst g0 h g) (a : Int32) : ∃ x g', (∃ Y, wd_g Y ∧ Y 541 = g0 541 ∧ x = (fn_237 Y a).1) ∧ ∀ {X : yy_X}, yy_fin X 129 (0, zz_in [.ref 1, .int a] (zz_nl 129), [], h) (fun v h' => v = some (.int x) ∧ yCx own w lst g0 h' g' ∧ yx (yAk w) 0 0 h h') := by
  obtain ⟨e1, e2, W2, r⟩ := C.ask (M := fun g1 => fn_237 g1 a) F (lq_129t C.1.1 C.1.2.1 C.1.2.2) (by intro x hx; simp only [List.mem_cons, List.not_mem_nil, or_false] at hx; subst hx; exact trivial) (ko_fw (ko_129 C.1.1 C.1.2.1) fun _ _ _ r => dn_129 r) (fun g1 i1 p1 => ko_fw (ko_237 i1 p1) fun _ _ _ r => dn_237 r) (by decide +kernel) (by decide +kernel) (by decide +kernel) (by decide +kernel)
  exact ⟨_, _, ⟨_, W2, e2, e1.symm⟩, r⟩
theorem qi_101 (F : yCf own w lst g0) (C : yCx own w lst g0 h g) (ht : (t : Int) < (g0 541 0).toInt) (hd : 0 ≤ day ∧ day ≤ 35999) (hs : 0 ≤ s ∧ s ≤ 86399) (hf : f = 0 ∨ f = 1) (hn : 0 ≤ n ∧ n ≤ 12 * (g0 541 1).toInt - 1) : ∃ g', ∀ {X : yy_X}, yy_fin X 101 (0, zz_in [.ref 1, .int (Int32.ofInt (t : Int)), .int (Int32.ofInt day), .int (Int32.ofInt s), .int (Int32.ofInt f), .int (Int32.ofInt n)] (zz_nl 101), [], h) (fun v h' => v = some (.int (Int32.ofInt (y_un (g0 541) t day s f n 4 (day - 1)))) ∧ yCx own w lst g0 h' g' ∧ yx (yAk w) 0 0 h h') := by
  obtain ⟨x, g', ⟨Y, W, eY, e⟩, r⟩ := yq_101 F C (Int32.ofInt (t : Int)) (Int32.ofInt day) (Int32.ofInt s) (Int32.ofInt f) (Int32.ofInt n)
  rw [m_250 W (by rw [eY]; exact ht) hd hs hf (by rw [eY]; exact hn)] at e
  rw [eY] at e
  subst e
  exact ⟨g', r⟩
theorem qi_140 (F : yCf own w lst g0) (C : yCx own w lst g0 h g) (ht : (t : Int) < (g0 541 0).toInt) (ht2 : (t2 : Int) < (g0 541 0).toInt) (hd : 0 ≤ day ∧ day ≤ 35999) (hf : f = 0 ∨ f = 1) (hn : 0 ≤ n ∧ n ≤ 12 * (g0 541 1).toInt - 1) : ∃ g', ∀ {X : yy_X}, yy_fin X 140 (0, zz_in [.ref 1, .int (Int32.ofInt (4 * (t : Int) + t2)), .int (Int32.ofInt day), .int (Int32.ofInt f), .int (Int32.ofInt n)] (zz_nl 140), [], h) (fun v h' => v = some (.int (Int32.ofInt (s_140 (g0 541) t t2 day f n))) ∧ yCx own w lst g0 h' g' ∧ yx (yAk w) 0 0 h h') := by
  obtain ⟨x, g', ⟨Y, W, eY, e⟩, r⟩ := yq_140 F C (Int32.ofInt (4 * (t : Int) + t2)) (Int32.ofInt day) (Int32.ofInt f) (Int32.ofInt n)
  rw [m_251 W (by rw [eY]; exact ht) (by rw [eY]; exact ht2) hd hf (by rw [eY]; exact hn)] at e
  rw [eY] at e
  subst e
  exact ⟨g', r⟩
theorem qi_136 (F : yCf own w lst g0) (C : yCx own w lst g0 h g) (ht : (t : Int) < (g0 541 0).toInt) (ht2 : (t2 : Int) < (g0 541 0).toInt) (hd : 0 ≤ day ∧ day ≤ 35999) (hs : 0 ≤ s ∧ s ≤ 86399) (hm : 0 ≤ m ∧ m ≤ 864000) (hi : 0 ≤ i ∧ i ≤ 3) : ∃ g', ∀ {X : yy_X}, yy_fin X 136 (0, zz_in [.ref 1, .int (Int32.ofInt (4 * (t : Int) + t2)), .int (Int32.ofInt day), .int (Int32.ofInt s), .int (Int32.ofInt m), .int (Int32.ofInt i)] (zz_nl 136), [], h) (fun v h' => v = some (.int (Int32.ofInt (s_136 (g0 541) t t2 day (s + m) i))) ∧ yCx own w lst g0 h' g' ∧ yx (yAk w) 0 0 h h') := by
  obtain ⟨x, g', ⟨Y, W, eY, e⟩, r⟩ := yq_136 F C (Int32.ofInt (4 * (t : Int) + t2)) (Int32.ofInt day) (Int32.ofInt s) (Int32.ofInt m) (Int32.ofInt i)
  rw [m_238 W (by rw [eY]; exact ht) (by rw [eY]; exact ht2) hd hs hm hi] at e
  rw [eY] at e
  subst e
  exact ⟨g', r⟩
theorem qi_137 (F : yCf own w lst g0) (C : yCx own w lst g0 h g) (ht : (t : Int) < (g0 541 0).toInt) (ht2 : (t2 : Int) < (g0 541 0).toInt) (hd : 0 ≤ day ∧ day ≤ 35999) (hf : f = 0 ∨ f = 1) (hn : 0 ≤ n ∧ n ≤ 12 * (g0 541 1).toInt - 1) (hi : 0 ≤ i ∧ i ≤ 2) : ∃ g', ∀ {X : yy_X}, yy_fin X 137 (0, zz_in [.ref 1, .int (Int32.ofInt (4 * (t : Int) + t2)), .int (Int32.ofInt day), .int (Int32.ofInt f), .int (Int32.ofInt n), .int (Int32.ofInt i)] (zz_nl 137), [], h) (fun v h' => v = some (.int (Int32.ofInt (s_137 (g0 541) t t2 day f n i))) ∧ yCx own w lst g0 h' g' ∧ yx (yAk w) 0 0 h h') := by
  obtain ⟨x, g', ⟨Y, W, eY, e⟩, r⟩ := yq_137 F C (Int32.ofInt (4 * (t : Int) + t2)) (Int32.ofInt day) (Int32.ofInt f) (Int32.ofInt n) (Int32.ofInt i)
  rw [m_240 W (by rw [eY]; exact ht) (by rw [eY]; exact ht2) hd hf (by rw [eY]; exact hn) hi] at e
  rw [eY] at e
  subst e
  exact ⟨g', r⟩
theorem qi_131 (F : yCf own w lst g0) (C : yCx own w lst g0 h g) (hd : 0 ≤ day ∧ day ≤ 35999) (hi : 0 ≤ i ∧ i ≤ 2) : ∃ g', ∀ {X : yy_X}, yy_fin X 131 (0, zz_in [.ref 1, .int (Int32.ofInt day), .int (Int32.ofInt i)] (zz_nl 131), [], h) (fun v h' => v = some (.int (Int32.ofInt (s_131 (g0 541) day i))) ∧ yCx own w lst g0 h' g' ∧ yx (yAk w) 0 0 h h') := by
  obtain ⟨x, g', ⟨Y, W, eY, e⟩, r⟩ := yq_131 F C (Int32.ofInt day) (Int32.ofInt i)
  rw [m_245 W hd hi] at e
  rw [eY] at e
  subst e
  exact ⟨g', r⟩
theorem qi_124 (F : yCf own w lst g0) (C : yCx own w lst g0 h g) (ht : (t : Int) < (g0 541 0).toInt) (hd : 0 ≤ day ∧ day ≤ 35999) (hm : 1 ≤ many ∧ many ≤ 360) (hh : 0 ≤ hour ∧ hour ≤ 11) (hi : 0 ≤ i ∧ i ≤ 2) : ∃ g', ∀ {X : yy_X}, yy_fin X 124 (0, zz_in [.ref 1, .int (Int32.ofInt (t : Int)), .int (Int32.ofInt day), .int (Int32.ofInt many), .int (Int32.ofInt hour), .int (Int32.ofInt i)] (zz_nl 124), [], h) (fun v h' => v = some (.int (Int32.ofInt ((fd_i (bs_f (g0 541) t hour i) day.toNat many.toNat (-2, 0)).1))) ∧ yCx own w lst g0 h' g' ∧ yx (yAk w) 0 0 h h') := by
  obtain ⟨x, g', ⟨Y, W, eY, e⟩, r⟩ := yq_124 F C (Int32.ofInt (t : Int)) (Int32.ofInt day) (Int32.ofInt many) (Int32.ofInt hour) (Int32.ofInt i)
  rw [m_232 W (by rw [eY]; exact ht) hd hm hh hi] at e
  rw [eY] at e
  subst e
  exact ⟨g', r⟩
theorem qi_128 (F : yCf own w lst g0) (C : yCx own w lst g0 h g) (ht : (t : Int) < (g0 541 0).toInt) (hd : 0 ≤ day ∧ day ≤ 35999) (hm : 1 ≤ many ∧ many ≤ 360) (hi : 0 ≤ i ∧ i ≤ 2) : ∃ g', ∀ {X : yy_X}, yy_fin X 128 (0, zz_in [.ref 1, .int (Int32.ofInt (t : Int)), .int (Int32.ofInt day), .int (Int32.ofInt many), .int (Int32.ofInt i)] (zz_nl 128), [], h) (fun v h' => v = some (.int (Int32.ofInt ((fun s : Int × Int × Int => if i = 0 then s.1 else if i = 1 then s.2.1 else s.2.2) (fd_i (gr_f (g0 541) t) day.toNat many.toNat (0, -1000000, -2))))) ∧ yCx own w lst g0 h' g' ∧ yx (yAk w) 0 0 h h') := by
  obtain ⟨x, g', ⟨Y, W, eY, e⟩, r⟩ := yq_128 F C (Int32.ofInt (t : Int)) (Int32.ofInt day) (Int32.ofInt many) (Int32.ofInt i)
  rw [m_243 W (by rw [eY]; exact ht) hd hm hi] at e
  rw [eY] at e
  subst e
  exact ⟨g', r⟩
theorem qi_126 (F : yCf own w lst g0) (C : yCx own w lst g0 h g) (ht : (t : Int) < (g0 541 0).toInt) (hn : 0 ≤ n ∧ n ≤ 35999) (hd : 0 ≤ day ∧ day ≤ 35999) : ∃ g', ∀ {X : yy_X}, yy_fin X 126 (0, zz_in [.ref 1, .int (Int32.ofInt (t : Int)), .int (Int32.ofInt n), .int (Int32.ofInt day)] (zz_nl 126), [], h) (fun v h' => v = some (.int (Int32.ofInt (s_126 (g0 541) t n day))) ∧ yCx own w lst g0 h' g' ∧ yx (yAk w) 0 0 h h') := by
  obtain ⟨x, g', ⟨Y, W, eY, e⟩, r⟩ := yq_126 F C (Int32.ofInt (t : Int)) (Int32.ofInt n) (Int32.ofInt day)
  rw [m_233 W (by rw [eY]; exact ht) hn hd] at e
  rw [eY] at e
  subst e
  exact ⟨g', r⟩
theorem qi_127 (F : yCf own w lst g0) (C : yCx own w lst g0 h g) (ht : (t : Int) < (g0 541 0).toInt) (hn : 0 ≤ n ∧ n ≤ 35999) (hd : 0 ≤ day ∧ day ≤ 35999) : ∃ g', ∀ {X : yy_X}, yy_fin X 127 (0, zz_in [.ref 1, .int (Int32.ofInt (t : Int)), .int (Int32.ofInt n), .int (Int32.ofInt day)] (zz_nl 127), [], h) (fun v h' => v = some (.int (Int32.ofInt (s_127 (g0 541) t n day))) ∧ yCx own w lst g0 h' g' ∧ yx (yAk w) 0 0 h h') := by
  obtain ⟨x, g', ⟨Y, W, eY, e⟩, r⟩ := yq_127 F C (Int32.ofInt (t : Int)) (Int32.ofInt n) (Int32.ofInt day)
  rw [m_242 W (by rw [eY]; exact ht) hn hd] at e
  rw [eY] at e
  subst e
  exact ⟨g', r⟩
theorem qi_135 (F : yCf own w lst g0) (C : yCx own w lst g0 h g) (ht : (t : Int) < (g0 541 0).toInt) (ht2 : (t2 : Int) < (g0 541 0).toInt) (hd : 0 ≤ day ∧ day ≤ 35999) (hi : i = 0 ∨ i = 1) : ∃ g', ∀ {X : yy_X}, yy_fin X 135 (0, zz_in [.ref 1, .int (Int32.ofInt (4 * (t : Int) + t2)), .int (Int32.ofInt day), .int (Int32.ofInt i)] (zz_nl 135), [], h) (fun v h' => v = some (.int (Int32.ofInt (s_135 (g0 541) t t2 day i))) ∧ yCx own w lst g0 h' g' ∧ yx (yAk w) 0 0 h h') := by
  obtain ⟨x, g', ⟨Y, W, eY, e⟩, r⟩ := yq_135 F C (Int32.ofInt (4 * (t : Int) + t2)) (Int32.ofInt day) (Int32.ofInt i)
  rw [m_235 W (by rw [eY]; exact ht) (by rw [eY]; exact ht2) hd hi] at e
  rw [eY] at e
  subst e
  exact ⟨g', r⟩
theorem qi_132 (F : yCf own w lst g0) (C : yCx own w lst g0 h g) (ht : (t : Int) < (g0 541 0).toInt) (ht2 : (t2 : Int) < (g0 541 0).toInt) (hd : 0 ≤ day ∧ day ≤ 35999) (hf : f = 0 ∨ f = 1) (hm : 0 ≤ m ∧ m ≤ 11) (hk : k = 0 ∨ k = 1) (hn : 0 ≤ n ∧ n ≤ 11) (hi : i = 0 ∨ i = 1) : ∃ g', ∀ {X : yy_X}, yy_fin X 132 (0, zz_in [.ref 1, .int (Int32.ofInt (4 * (t : Int) + t2)), .int (Int32.ofInt (12 * f + m)), .int (Int32.ofInt (12 * k + n)), .int (Int32.ofInt day), .int (Int32.ofInt i)] (zz_nl 132), [], h) (fun v h' => v = some (.int (Int32.ofInt (s_132 (g0 541) t t2 f m k n day i))) ∧ yCx own w lst g0 h' g' ∧ yx (yAk w) 0 0 h h') := by
  obtain ⟨x, g', ⟨Y, W, eY, e⟩, r⟩ := yq_132 F C (Int32.ofInt (4 * (t : Int) + t2)) (Int32.ofInt (12 * f + m)) (Int32.ofInt (12 * k + n)) (Int32.ofInt day) (Int32.ofInt i)
  rw [m_228 W (by rw [eY]; exact ht) (by rw [eY]; exact ht2) hd hf hm hk hn hi] at e
  rw [eY] at e
  subst e
  exact ⟨g', r⟩
theorem qi_114 (F : yCf own w lst g0) (C : yCx own w lst g0 h g) (ht : (t : Int) < (g0 541 0).toInt) (hd : 0 ≤ day ∧ day ≤ 35999) (hm : 1 ≤ many ∧ many ≤ 60) : ∃ g', ∀ {X : yy_X}, yy_fin X 114 (0, zz_in [.ref 1, .int (Int32.ofInt (t : Int)), .int (Int32.ofInt day), .int (Int32.ofInt many)] (zz_nl 114), [], h) (fun v h' => v = some (.int (Int32.ofInt (fd_i (tt_f (g0 541) t lst) day.toNat many.toNat 0))) ∧ yCx own w lst g0 h' g' ∧ yx (yAk w) 0 0 h h') := by
  obtain ⟨x, g', ⟨Y, W, eY, e⟩, r⟩ := yq_114 F C (Int32.ofInt (t : Int)) (Int32.ofInt day) (Int32.ofInt many)
  have Br : yBr (Y 541) lst := by rw [eY]; exact F.2.2.1
  rw [m_246 W (by rw [eY]; exact ht) Br hd hm] at e
  rw [eY] at e
  subst e
  exact ⟨g', r⟩
theorem qi_117 (F : yCf own w lst g0) (C : yCx own w lst g0 h g) (ht : (t : Int) < (g0 541 0).toInt) (hd : 0 ≤ day ∧ day ≤ 35999) (hm : 1 ≤ many ∧ many ≤ 60) (hi : i = 0 ∨ i = 1) : ∃ g', ∀ {X : yy_X}, yy_fin X 117 (0, zz_in [.ref 1, .int (Int32.ofInt (t : Int)), .int (Int32.ofInt day), .int (Int32.ofInt many), .int (Int32.ofInt i)] (zz_nl 117), [], h) (fun v h' => v = some (.int (Int32.ofInt (s_117 (g0 541) t lst day many i))) ∧ yCx own w lst g0 h' g' ∧ yx (yAk w) 0 0 h h') := by
  obtain ⟨x, g', ⟨Y, W, eY, e⟩, r⟩ := yq_117 F C (Int32.ofInt (t : Int)) (Int32.ofInt day) (Int32.ofInt many) (Int32.ofInt i)
  have Br : yBr (Y 541) lst := by rw [eY]; exact F.2.2.1
  rw [m_236 W (by rw [eY]; exact ht) Br hd hm hi] at e
  rw [eY] at e
  subst e
  exact ⟨g', r⟩
theorem qi_119 (F : yCf own w lst g0) (C : yCx own w lst g0 h g) (ht : (t : Int) < (g0 541 0).toInt) (hd : 0 ≤ day ∧ day ≤ 35999) (hi : i = 0 ∨ i = 1) : ∃ g', ∀ {X : yy_X}, yy_fin X 119 (0, zz_in [.ref 1, .int (Int32.ofInt (t : Int)), .int (Int32.ofInt day), .int (Int32.ofInt i)] (zz_nl 119), [], h) (fun v h' => v = some (.int (Int32.ofInt ((fun s : Int × Int => if i = 0 then s.1 else s.2) (fd_i (qt_f (yRq (g0 541) t lst day)) 0 ((yRq (g0 541) t lst day).length + 1) (0, -1))))) ∧ yCx own w lst g0 h' g' ∧ yx (yAk w) 0 0 h h') := by
  obtain ⟨x, g', ⟨Y, W, eY, e⟩, r⟩ := yq_119 F C (Int32.ofInt (t : Int)) (Int32.ofInt day) (Int32.ofInt i)
  have Br : yBr (Y 541) lst := by rw [eY]; exact F.2.2.1
  rw [m_247 W (by rw [eY]; exact ht) Br hd hi] at e
  rw [eY] at e
  subst e
  exact ⟨g', r⟩
theorem qi_138 (F : yCf own w lst g0) (C : yCx own w lst g0 h g) (ht : (t : Int) < (g0 541 0).toInt) (ht2 : (t2 : Int) < (g0 541 0).toInt) (hd : 0 ≤ day ∧ day ≤ 35999) : ∃ g', ∀ {X : yy_X}, yy_fin X 138 (0, zz_in [.ref 1, .int (Int32.ofInt (4 * (t : Int) + t2)), .int (Int32.ofInt day)] (zz_nl 138), [], h) (fun v h' => v = some (.int (Int32.ofInt (fd_i (sa_f (g0 541) t t2 lst day) 0 (yRq (g0 541) t lst day).length 0))) ∧ yCx own w lst g0 h' g' ∧ yx (yAk w) 0 0 h h') := by
  obtain ⟨x, g', ⟨Y, W, eY, e⟩, r⟩ := yq_138 F C (Int32.ofInt (4 * (t : Int) + t2)) (Int32.ofInt day)
  have Br : yBr (Y 541) lst := by rw [eY]; exact F.2.2.1
  rw [m_248 W (by rw [eY]; exact ht) (by rw [eY]; exact ht2) Br hd] at e
  rw [eY] at e
  subst e
  exact ⟨g', r⟩
theorem qi_129 (F : yCf own w lst g0) (C : yCx own w lst g0 h g) (ht : (t : Int) < (g0 541 0).toInt) : ∃ g', ∀ {X : yy_X}, yy_fin X 129 (0, zz_in [.ref 1, .int (Int32.ofInt (t : Int))] (zz_nl 129), [], h) (fun v h' => v = some (.int (Int32.ofInt (if av_c (g0 541) t ≤ 1 then 0 else fd_i (sl_f (g0 541) t) 0 (av_c (g0 541) t) 0))) ∧ yCx own w lst g0 h' g' ∧ yx (yAk w) 0 0 h h') := by
  obtain ⟨x, g', ⟨Y, W, eY, e⟩, r⟩ := yq_129 F C (Int32.ofInt (t : Int))
  rw [m_237 W (by rw [eY]; exact ht)] at e
  rw [eY] at e
  subst e
  exact ⟨g', r⟩
theorem qi_121 (F : yCf own w lst g0) (C : yCx own w lst g0 h g) (ht : (t : Int) < (g0 541 0).toInt) (hd : -100000 ≤ day ∧ day ≤ 100000) (hd2 : -100000 ≤ d2 ∧ d2 ≤ 100000) (hn : -100 ≤ n ∧ n ≤ 100) (hm : -100 ≤ m ∧ m ≤ 100) : ∃ g', ∀ {X : yy_X}, yy_fin X 121 (0, zz_in [.ref 1, .int (Int32.ofInt (t : Int)), .int (Int32.ofInt day), .int (Int32.ofInt d2), .int (Int32.ofInt n), .int (Int32.ofInt m)] (zz_nl 121), [], h) (fun v h' => v = some (.int (Int32.ofInt (if ¬ (0 ≤ day ∧ day ≤ 35999) ∨ ¬ (0 ≤ d2 ∧ d2 ≤ 35999) ∨ ¬ (day ≤ d2 ∧ d2 ≤ day + 359) ∨ ¬ (0 ≤ n ∧ n < m ∧ m ≤ 12) then -1 else sm_i (ww_d (g0 541) t n m) day.toNat (d2.toNat + 1 - day.toNat)))) ∧ yCx own w lst g0 h' g' ∧ yx (yAk w) 0 0 h h') := by
  obtain ⟨x, g', e, r⟩ := yq_121 F C (Int32.ofInt (t : Int)) (Int32.ofInt day) (Int32.ofInt d2) (Int32.ofInt n) (Int32.ofInt m)
  rw [w_22 F.2.2.2 ht hd hd2 hn hm] at e
  have e2 : x = Int32.ofInt (if ¬ (0 ≤ day ∧ day ≤ 35999) ∨ ¬ (0 ≤ d2 ∧ d2 ≤ 35999) ∨ ¬ (day ≤ d2 ∧ d2 ≤ day + 359) ∨ ¬ (0 ≤ n ∧ n < m ∧ m ≤ 12) then -1 else sm_i (ww_d (g0 541) t n m) day.toNat (d2.toNat + 1 - day.toNat)) := by rw [← e, yi_of]
  subst e2
  exact ⟨g', r⟩
theorem qi_122 (F : yCf own w lst g0) (C : yCx own w lst g0 h g) (ht : (t : Int) < (g0 541 0).toInt) (hk : 0 ≤ k ∧ k ≤ 4) : ∃ g', ∀ {X : yy_X}, yy_fin X 122 (0, zz_in [.ref 1, .int (Int32.ofInt (t : Int)), .int (Int32.ofInt k)] (zz_nl 122), [], h) (fun v h' => v = some (.int (Int32.ofInt (if k = 4 then -1 else s_23 (g0 541) t k))) ∧ yCx own w lst g0 h' g' ∧ yx (yAk w) 0 0 h h') := by
  obtain ⟨x, g', e, r⟩ := yq_122 F C (Int32.ofInt (t : Int)) (Int32.ofInt k)
  rw [w_23 F.2.2.2 ht hk] at e
  subst e
  exact ⟨g', r⟩
end YQT
