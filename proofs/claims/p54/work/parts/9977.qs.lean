/-! QUESTIONS WITH NUMBERS (printed by wip/p54/qi.py) -/
section YQI
variable {own : yOwn} {w t t2 : Nat} {lst : List (yBell × List fl_T)} {g0 g : aa_G} {h : zz_H} {day d2 s f i k n m : Int}
theorem qi_76 (F : yCf own w lst g0) (C : yCx own w lst g0 h g) (ht : (t : Int) < (g0 541 0).toInt) (hd : 0 ≤ day ∧ day ≤ 35999) (hi : 0 ≤ i ∧ i ≤ 5) : ∃ g', ∀ {X : yy_X}, yy_fin X 76 (0, zz_in [.ref 1, .int (Int32.ofInt (t : Int)), .int (Int32.ofInt day), .int (Int32.ofInt i)] (zz_nl 76), [], h) (fun v h' => v = some (.int (Int32.ofInt (s_11 (g0 541) t day i))) ∧ yCx own w lst g0 h' g' ∧ yx (yAk w) 0 0 h h') := by
  obtain ⟨x, g', e, r⟩ := yq_76 F C (Int32.ofInt (t : Int)) (Int32.ofInt day) (Int32.ofInt i)
  rw [w_11 F.2.2.2 ht hd hi] at e
  have e2 : x = Int32.ofInt (s_11 (g0 541) t day i) := by rw [← e, yi_of]
  subst e2
  exact ⟨g', r⟩
theorem qi_85 (F : yCf own w lst g0) (C : yCx own w lst g0 h g) (ht : (t : Int) < (g0 541 0).toInt) (hd : 0 ≤ day ∧ day ≤ 35999) (hs : 0 ≤ s ∧ s ≤ 86399) (hi : 0 ≤ i ∧ i ≤ 5) : ∃ g', ∀ {X : yy_X}, yy_fin X 85 (0, zz_in [.ref 1, .int (Int32.ofInt (t : Int)), .int (Int32.ofInt day), .int (Int32.ofInt s), .int (Int32.ofInt i)] (zz_nl 85), [], h) (fun v h' => v = some (.int (Int32.ofInt (s_12 (g0 541) t day s i))) ∧ yCx own w lst g0 h' g' ∧ yx (yAk w) 0 0 h h') := by
  obtain ⟨x, g', e, r⟩ := yq_85 F C (Int32.ofInt (t : Int)) (Int32.ofInt day) (Int32.ofInt s) (Int32.ofInt i)
  rw [w_12 F.2.2.2 ht hd hs hi] at e
  subst e
  exact ⟨g', r⟩
theorem qi_90 (F : yCf own w lst g0) (C : yCx own w lst g0 h g) (ht : (t : Int) < (g0 541 0).toInt) (hd : 0 ≤ day ∧ day ≤ 35999) (hf : f = 0 ∨ f = 1) (hn : 0 ≤ n ∧ n ≤ 12 * (g0 541 1).toInt - 1) : ∃ g', ∀ {X : yy_X}, yy_fin X 90 (0, zz_in [.ref 1, .int (Int32.ofInt (t : Int)), .int (Int32.ofInt day), .int (Int32.ofInt f), .int (Int32.ofInt n)] (zz_nl 90), [], h) (fun v h' => v = some (.int (Int32.ofInt (s_90 (g0 541) t day f n))) ∧ yCx own w lst g0 h' g' ∧ yx (yAk w) 0 0 h h') := by
  obtain ⟨x, g', e, r⟩ := yq_90 F C (Int32.ofInt (t : Int)) (Int32.ofInt day) (Int32.ofInt f) (Int32.ofInt n)
  rw [w_90 F.2.2.2 ht hd hf hn] at e
  subst e
  exact ⟨g', r⟩
theorem qi_95 (F : yCf own w lst g0) (C : yCx own w lst g0 h g) (ht : (t : Int) < (g0 541 0).toInt) (hd : 0 ≤ day ∧ day ≤ 35999) (hs : 0 ≤ s ∧ s ≤ 86399) (hk : 0 ≤ k ∧ k ≤ 4) : ∃ g', ∀ {X : yy_X}, yy_fin X 95 (0, zz_in [.ref 1, .int (Int32.ofInt (t : Int)), .int (Int32.ofInt day), .int (Int32.ofInt s), .int (Int32.ofInt k)] (zz_nl 95), [], h) (fun v h' => v = some (.int (Int32.ofInt (s_95 (g0 541) t day s k))) ∧ yCx own w lst g0 h' g' ∧ yx (yAk w) 0 0 h h') := by
  obtain ⟨x, g', e, r⟩ := yq_95 F C (Int32.ofInt (t : Int)) (Int32.ofInt day) (Int32.ofInt s) (Int32.ofInt k)
  rw [w_95 F.2.2.2 ht hd hs hk] at e
  subst e
  exact ⟨g', r⟩
theorem qi_93 (F : yCf own w lst g0) (C : yCx own w lst g0 h g) (ht : (t : Int) < (g0 541 0).toInt) (ht2 : (t2 : Int) < (g0 541 0).toInt) (hd : 0 ≤ day ∧ day ≤ 35999) (hs : 0 ≤ s ∧ s ≤ 86399) (hk : k = 0 ∨ k = 1) : ∃ g', ∀ {X : yy_X}, yy_fin X 93 (0, zz_in [.ref 1, .int (Int32.ofInt (t : Int)), .int (Int32.ofInt day), .int (Int32.ofInt s), .int (Int32.ofInt (t2 : Int)), .int (Int32.ofInt k)] (zz_nl 93), [], h) (fun v h' => v = some (.int (Int32.ofInt (s_14 (g0 541) t t2 day s k))) ∧ yCx own w lst g0 h' g' ∧ yx (yAk w) 0 0 h h') := by
  obtain ⟨x, g', e, r⟩ := yq_93 F C (Int32.ofInt (t : Int)) (Int32.ofInt day) (Int32.ofInt s) (Int32.ofInt (t2 : Int)) (Int32.ofInt k)
  rw [w_14 F.2.2.2 ht ht2 hd hs hk] at e
  have e2 : x = Int32.ofInt (s_14 (g0 541) t t2 day s k) := by rw [← e, yi_of]
  subst e2
  exact ⟨g', r⟩
theorem qi_120 (F : yCf own w lst g0) (C : yCx own w lst g0 h g) (ht : (t : Int) < (g0 541 0).toInt) (hd : 0 ≤ day ∧ day ≤ 35999) (hd2 : 0 ≤ d2 ∧ d2 ≤ 35999) (hs : 0 ≤ s ∧ s ≤ 86399) (hk : k = 0 ∨ k = 1) : ∃ g', ∀ {X : yy_X}, yy_fin X 120 (0, zz_in [.ref 1, .int (Int32.ofInt (t : Int)), .int (Int32.ofInt day), .int (Int32.ofInt d2), .int (Int32.ofInt s), .int (Int32.ofInt k)] (zz_nl 120), [], h) (fun v h' => v = some (.int (Int32.ofInt (s_21 (g0 541) t day d2 s k))) ∧ yCx own w lst g0 h' g' ∧ yx (yAk w) 0 0 h h') := by
  obtain ⟨x, g', e, r⟩ := yq_120 F C (Int32.ofInt (t : Int)) (Int32.ofInt day) (Int32.ofInt d2) (Int32.ofInt s) (Int32.ofInt k)
  rw [w_21 F.2.2.2 ht hd hd2 hs hk] at e
  have e2 : x = Int32.ofInt (s_21 (g0 541) t day d2 s k) := by rw [← e, yi_of]
  subst e2
  exact ⟨g', r⟩
theorem qi_96 (F : yCf own w lst g0) (C : yCx own w lst g0 h g) (ht : (t : Int) < (g0 541 0).toInt) (hd : 0 ≤ day ∧ day ≤ 35999) (hf : f = 0 ∨ f = 1) (hk : k = 0 ∨ k = 1) : ∃ g', ∀ {X : yy_X}, yy_fin X 96 (0, zz_in [.ref 1, .int (Int32.ofInt (t : Int)), .int (Int32.ofInt day), .int (Int32.ofInt f), .int (Int32.ofInt k)] (zz_nl 96), [], h) (fun v h' => v = some (.int (Int32.ofInt (s_25 (g0 541) t day f k))) ∧ yCx own w lst g0 h' g' ∧ yx (yAk w) 0 0 h h') := by
  obtain ⟨x, g', e, r⟩ := yq_96 F C (Int32.ofInt (t : Int)) (Int32.ofInt day) (Int32.ofInt f) (Int32.ofInt k)
  rw [w_25 F.2.2.2 ht hd hf hk] at e
  have e2 : x = Int32.ofInt (s_25 (g0 541) t day f k) := by rw [← e, yi_of]
  subst e2
  exact ⟨g', r⟩
theorem qi_97 (F : yCf own w lst g0) (C : yCx own w lst g0 h g) (ht : (t : Int) < (g0 541 0).toInt) (hd : 0 ≤ day ∧ day ≤ 35999) (hf : f = 0 ∨ f = 1) (hn : 0 ≤ n ∧ n ≤ 12 * (g0 541 1).toInt - 1) (hm : 0 ≤ m ∧ m ≤ 12 * (g0 541 1).toInt - 1) : ∃ g', ∀ {X : yy_X}, yy_fin X 97 (0, zz_in [.ref 1, .int (Int32.ofInt (t : Int)), .int (Int32.ofInt day), .int (Int32.ofInt f), .int (Int32.ofInt n), .int (Int32.ofInt m)] (zz_nl 97), [], h) (fun v h' => v = some (.int (Int32.ofInt (s_26 (g0 541) t day f n m))) ∧ yCx own w lst g0 h' g' ∧ yx (yAk w) 0 0 h h') := by
  obtain ⟨x, g', e, r⟩ := yq_97 F C (Int32.ofInt (t : Int)) (Int32.ofInt day) (Int32.ofInt f) (Int32.ofInt n) (Int32.ofInt m)
  rw [w_26 F.2.2.2 ht hd hf hn hm] at e
  subst e
  exact ⟨g', r⟩
theorem qi_99 (F : yCf own w lst g0) (C : yCx own w lst g0 h g) (ht : (t : Int) < (g0 541 0).toInt) (hd : 0 ≤ day ∧ day ≤ 35999) (hk : 0 ≤ k ∧ k ≤ 3) (hi : i = 0 ∨ i = 1) : ∃ g', ∀ {X : yy_X}, yy_fin X 99 (0, zz_in [.ref 1, .int (Int32.ofInt (t : Int)), .int (Int32.ofInt day), .int (Int32.ofInt k), .int (Int32.ofInt i)] (zz_nl 99), [], h) (fun v h' => v = some (.int (Int32.ofInt (s_99 (g0 541) t day k i))) ∧ yCx own w lst g0 h' g' ∧ yx (yAk w) 0 0 h h') := by
  obtain ⟨x, g', ⟨Y, W, eY, e⟩, r⟩ := yq_99 F C (Int32.ofInt (t : Int)) (Int32.ofInt day) (Int32.ofInt k) (Int32.ofInt i)
  rw [m_244 W (by rw [eY]; exact ht) hd hk hi, eY] at e
  subst e
  exact ⟨g', r⟩
theorem qi_98 (F : yCf own w lst g0) (C : yCx own w lst g0 h g) (ht : (t : Int) < (g0 541 0).toInt) (hd : 0 ≤ day ∧ day ≤ 35999) (hf : f = 0 ∨ f = 1) (hi : i = 0 ∨ i = 1) : ∃ g', ∀ {X : yy_X}, yy_fin X 98 (0, zz_in [.ref 1, .int (Int32.ofInt (t : Int)), .int (Int32.ofInt day), .int (Int32.ofInt f), .int (Int32.ofInt i)] (zz_nl 98), [], h) (fun v h' => v = some (.int (Int32.ofInt (s_98 (g0 541) t day f i))) ∧ yCx own w lst g0 h' g' ∧ yx (yAk w) 0 0 h h') := by
  obtain ⟨x, g', ⟨Y, W, eY, e⟩, r⟩ := yq_98 F C (Int32.ofInt (t : Int)) (Int32.ofInt day) (Int32.ofInt f) (Int32.ofInt i)
  rw [m_241 W (by rw [eY]; exact ht) hd hf hi, eY] at e
  subst e
  exact ⟨g', r⟩
end YQI
