/-! BELLS: the class reads a BELL -/
def cb_condf (b : Nat → Int32) (n q T : Nat) : fl_R := if sp_hb b n q = 63 then fl_cond b n (n + 1) (q + 1) T 0 false [] else .inr (q, [])
abbrev cb_R : Type := Nat ⊕ (Nat × (pb_F × List fl_T))
def cb_tailf (F : pb_F) (r : fl_R) : cb_R := match r with
  | .inl f => .inl f
  | .inr (q, ts) => .inr (q, (F, ts))
def cb_bellf (b : Nat → Int32) (n p N T : Nat) : cb_R := match pb_head b n p N with
  | .inl f => .inl f
  | .inr (q, F) => cb_tailf F (cb_condf b n q T)
theorem cb_bellf_inl {b : Nat → Int32} {n p N T f : Nat} (h : pb_head b n p N = .inl f) : cb_bellf b n p N T = .inl f := by
  unfold cb_bellf
  rw [h]
theorem cb_bellf_inr {b : Nat → Int32} {n p N T q : Nat} {F : pb_F} (h : pb_head b n p N = .inr (q, F)) : cb_bellf b n p N T = cb_tailf F (cb_condf b n q T) := by
  unfold cb_bellf
  rw [h]
/-- a BELL more -/
def cb_new (g : aa_G) (N T : Nat) (F : pb_F) : aa_G := zz_w (zz_w (zz_w (zz_w (zz_w (zz_w (zz_w g 37 N F.1) 38 N F.2.1) 39 N F.2.2.1) 40 N F.2.2.2) 41 N (Int32.ofNat T)) 42 N 0) 36 0 (Int32.ofNat (N + 1))
theorem cb_new_at {g : aa_G} {b : Nat → Int32} {n p N T : Nat} {F : pb_F} : cb_new (tc_at g b n p) N T F = tc_at (cb_new g N T F) b n p := by
  unfold cb_new
  rw [tc_comm _ _ _ _ (by decide), tc_comm _ _ _ _ (by decide), tc_comm _ _ _ _ (by decide), tc_comm _ _ _ _ (by decide), tc_comm _ _ _ _ (by decide), tc_comm _ _ _ _ (by decide), tc_comm _ _ _ _ (by decide)]
theorem cb_new_ne {g : aa_G} {N T : Nat} {F : pb_F} {k j : Nat} (h : ¬ (k = 36 ∧ j = 0)) (h2 : ¬ (37 ≤ k ∧ k ≤ 42 ∧ j = N)) : cb_new g N T F k j = g k j := by
  unfold cb_new
  rw [aa_w_ne _ _ (by omega), aa_w_ne _ _ (by omega), aa_w_ne _ _ (by omega), aa_w_ne _ _ (by omega), aa_w_ne _ _ (by omega), aa_w_ne _ _ (by omega), aa_w_ne _ _ (by omega)]
def cb_at (g : aa_G) (N T : Nat) (F : pb_F) (th : Nat) : Prop := g 37 N = F.1 ∧ g 38 N = F.2.1 ∧ g 39 N = F.2.2.1 ∧ g 40 N = F.2.2.2 ∧ g 41 N = Int32.ofNat T ∧ g 42 N = Int32.ofNat th
theorem cb_new_get {g : aa_G} {N T : Nat} {F : pb_F} : cb_at (cb_new g N T F) N T F 0 ∧ cb_new g N T F 36 0 = Int32.ofNat (N + 1) := by
  unfold cb_new
  refine ⟨⟨?_, ?_, ?_, ?_, ?_, ?_⟩, aa_w_at _ _ _ _⟩
  · rw [aa_w_ne _ _ (by omega), aa_w_ne _ _ (by omega), aa_w_ne _ _ (by omega), aa_w_ne _ _ (by omega), aa_w_ne _ _ (by omega), aa_w_ne _ _ (by omega), aa_w_at]
  · rw [aa_w_ne _ _ (by omega), aa_w_ne _ _ (by omega), aa_w_ne _ _ (by omega), aa_w_ne _ _ (by omega), aa_w_ne _ _ (by omega), aa_w_at]
  · rw [aa_w_ne _ _ (by omega), aa_w_ne _ _ (by omega), aa_w_ne _ _ (by omega), aa_w_ne _ _ (by omega), aa_w_at]
  · rw [aa_w_ne _ _ (by omega), aa_w_ne _ _ (by omega), aa_w_ne _ _ (by omega), aa_w_at]
  · rw [aa_w_ne _ _ (by omega), aa_w_ne _ _ (by omega), aa_w_at]
  · rw [aa_w_ne _ _ (by omega), aa_w_at]
    rfl
theorem cb_addb {g : aa_G} {N T : Nat} {f y z v : Int32} (h0 : g 36 0 = Int32.ofNat N) (hN : N < 8) (h1 : g 36 1 = Int32.ofNat T) : zz_fin none 45 (0, zz_in [.ref 36, .int f, .int y, .int z, .int v] (zz_nl 45), [], aa_H g) (fun r h => r = none ∧ h = aa_H (cb_new g N T (f, (y, (z, v))))) := by
  refine zz_fin.steps (n := 3) (s' := (6, [some (.ref 36), some (.int f), some (.int y), some (.int z), some (.int v)], [.int 8, .int (g 36 0)], aa_H g)) rfl ?_
  rw [h0]
  refine zz_fin.ic rfl (fun c1 => ?_) (fun c1 => ?_)
  · refine zz_fin.steps (n := 5) (s' := (19, [some (.ref 36), some (.int f), some (.int y), some (.int z), some (.int v)], [.int f, .int (g 36 0), .ref 37], aa_H g)) rfl ?_
    rw [show (g) 36 0 = Int32.ofNat N from h0]
    refine zz_fin.ias (n := 8) rfl rfl (zz_inbN (by omega) (by omega)) ?_
    rw [zz_toN (by omega)]
    refine zz_fin.steps (n := 5) (s' := (29, [some (.ref 36), some (.int f), some (.int y), some (.int z), some (.int v)], [.int y, .int ((zz_w g 37 N f) 36 0), .ref 38], aa_H (zz_w g 37 N f))) rfl ?_
    rw [show (zz_w g 37 N f) 36 0 = Int32.ofNat N from (aa_w_ne _ _ (by omega)).trans (h0)]
    refine zz_fin.ias (n := 8) rfl rfl (zz_inbN (by omega) (by omega)) ?_
    rw [zz_toN (by omega)]
    refine zz_fin.steps (n := 5) (s' := (39, [some (.ref 36), some (.int f), some (.int y), some (.int z), some (.int v)], [.int z, .int ((zz_w (zz_w g 37 N f) 38 N y) 36 0), .ref 39], aa_H (zz_w (zz_w g 37 N f) 38 N y))) rfl ?_
    rw [show (zz_w (zz_w g 37 N f) 38 N y) 36 0 = Int32.ofNat N from (aa_w_ne _ _ (by omega)).trans ((aa_w_ne _ _ (by omega)).trans (h0))]
    refine zz_fin.ias (n := 8) rfl rfl (zz_inbN (by omega) (by omega)) ?_
    rw [zz_toN (by omega)]
    refine zz_fin.steps (n := 5) (s' := (50, [some (.ref 36), some (.int f), some (.int y), some (.int z), some (.int v)], [.int v, .int ((zz_w (zz_w (zz_w g 37 N f) 38 N y) 39 N z) 36 0), .ref 40], aa_H (zz_w (zz_w (zz_w g 37 N f) 38 N y) 39 N z))) rfl ?_
    rw [show (zz_w (zz_w (zz_w g 37 N f) 38 N y) 39 N z) 36 0 = Int32.ofNat N from (aa_w_ne _ _ (by omega)).trans ((aa_w_ne _ _ (by omega)).trans ((aa_w_ne _ _ (by omega)).trans (h0)))]
    refine zz_fin.ias (n := 8) rfl rfl (zz_inbN (by omega) (by omega)) ?_
    rw [zz_toN (by omega)]
    refine zz_fin.steps (n := 6) (s' := (63, [some (.ref 36), some (.int f), some (.int y), some (.int z), some (.int v)], [.int ((zz_w (zz_w (zz_w (zz_w g 37 N f) 38 N y) 39 N z) 40 N v) 36 1), .int ((zz_w (zz_w (zz_w (zz_w g 37 N f) 38 N y) 39 N z) 40 N v) 36 0), .ref 41], aa_H (zz_w (zz_w (zz_w (zz_w g 37 N f) 38 N y) 39 N z) 40 N v))) rfl ?_
    rw [show (zz_w (zz_w (zz_w (zz_w g 37 N f) 38 N y) 39 N z) 40 N v) 36 0 = Int32.ofNat N from (aa_w_ne _ _ (by omega)).trans ((aa_w_ne _ _ (by omega)).trans ((aa_w_ne _ _ (by omega)).trans ((aa_w_ne _ _ (by omega)).trans (h0))))]
    rw [show (zz_w (zz_w (zz_w (zz_w g 37 N f) 38 N y) 39 N z) 40 N v) 36 1 = Int32.ofNat T from (aa_w_ne _ _ (by omega)).trans ((aa_w_ne _ _ (by omega)).trans ((aa_w_ne _ _ (by omega)).trans ((aa_w_ne _ _ (by omega)).trans (h1))))]
    refine zz_fin.ias (n := 8) rfl rfl (zz_inbN (by omega) (by omega)) ?_
    rw [zz_toN (by omega)]
    refine zz_fin.steps (n := 5) (s' := (73, [some (.ref 36), some (.int f), some (.int y), some (.int z), some (.int v)], [.int 0, .int ((zz_w (zz_w (zz_w (zz_w (zz_w g 37 N f) 38 N y) 39 N z) 40 N v) 41 N (Int32.ofNat T)) 36 0), .ref 42], aa_H (zz_w (zz_w (zz_w (zz_w (zz_w g 37 N f) 38 N y) 39 N z) 40 N v) 41 N (Int32.ofNat T)))) rfl ?_
    rw [show (zz_w (zz_w (zz_w (zz_w (zz_w g 37 N f) 38 N y) 39 N z) 40 N v) 41 N (Int32.ofNat T)) 36 0 = Int32.ofNat N from (aa_w_ne _ _ (by omega)).trans ((aa_w_ne _ _ (by omega)).trans ((aa_w_ne _ _ (by omega)).trans ((aa_w_ne _ _ (by omega)).trans ((aa_w_ne _ _ (by omega)).trans (h0)))))]
    refine zz_fin.ias (n := 8) rfl rfl (zz_inbN (by omega) (by omega)) ?_
    rw [zz_toN (by omega)]
    refine zz_fin.steps (n := 5) (s' := (81, [some (.ref 36), some (.int f), some (.int y), some (.int z), some (.int v)], [.int (((zz_w (zz_w (zz_w (zz_w (zz_w (zz_w g 37 N f) 38 N y) 39 N z) 40 N v) 41 N (Int32.ofNat T)) 42 N 0) 36 0) + 1), .ref 36], aa_H (zz_w (zz_w (zz_w (zz_w (zz_w (zz_w g 37 N f) 38 N y) 39 N z) 40 N v) 41 N (Int32.ofNat T)) 42 N 0))) rfl ?_
    rw [show (zz_w (zz_w (zz_w (zz_w (zz_w (zz_w g 37 N f) 38 N y) 39 N z) 40 N v) 41 N (Int32.ofNat T)) 42 N 0) 36 0 = Int32.ofNat N from (aa_w_ne _ _ (by omega)).trans ((aa_w_ne _ _ (by omega)).trans ((aa_w_ne _ _ (by omega)).trans ((aa_w_ne _ _ (by omega)).trans ((aa_w_ne _ _ (by omega)).trans ((aa_w_ne _ _ (by omega)).trans (h0)))))), aa_succ]
    exact zz_fin.at (n := 2) rfl ⟨rfl, rfl⟩
  · exact absurd (decide_eq_true (aa_lt32.mpr (by rw [zz_ofN (by omega), show (8 : Int32).toInt = 8 from rfl]; omega))) c1
def cb_bfr (g g' : aa_G) (N T : Nat) : Prop := ∀ k j, ¬ (k = 36 ∧ j ≤ 1) → ¬ (37 ≤ k ∧ k ≤ 42 ∧ j = N) → ¬ (43 ≤ k ∧ k ≤ 45 ∧ T ≤ j) → ¬ (k = 454 ∧ j = 3) → g' k j = g k j
def cb_bst (g g' : aa_G) (N T : Nat) (F : pb_F) (ts : List fl_T) : Prop := cb_bfr g g' N T ∧ g' 36 0 = Int32.ofNat (N + 1) ∧ g' 36 1 = Int32.ofNat (T + ts.length) ∧ (∀ i t, ts[i]? = some t → g' 43 (T + i) = t.1 ∧ g' 44 (T + i) = t.2.1 ∧ g' 45 (T + i) = t.2.2) ∧ cb_at g' N T F ts.length
def cb_bres (g : aa_G) (b : Nat → Int32) (n N T : Nat) (r : cb_R) (v : Option Value) (h : zz_H) : Prop := (∃ f, r = .inl f ∧ v = some (.int 0) ∧ ∃ g', h = aa_H g' ∧ cb_bad g f g') ∨ (∃ q F ts, r = .inr (q, (F, ts)) ∧ q ≤ n ∧ v = some (.int 1) ∧ ∃ g', h = aa_H (tc_at g' b n q) ∧ cb_bst g g' N T F ts)
theorem cb_bad.of {g g1 g2 : aa_G} {f : Nat} (he : cb_eq g g1) (h : tc_bad g1 f g2) : cb_bad g f g2 := ⟨fun k j _ e => (h.1 k j e).trans (he k j (by omega)), h.2⟩
theorem cb_eq.rf {g : aa_G} : cb_eq g g := fun _ _ _ => rfl
theorem cb_eq.num {g g1 : aa_G} (z : Int32) (h : cb_eq g g1) : cb_eq g (zz_w g1 454 3 z) := fun k j e => (aa_w_ne _ _ e).trans (h k j e)
theorem cb_eq.ok {g g1 : aa_G} {b : Nat → Int32} {n : Nat} (he : cb_eq g g1) (h : tc_ok g b n) : tc_ok g1 b n := ⟨(he 454 0 (by omega)).trans h.1, h.2.1, fun j hj => (he 455 j (by omega)).trans (h.2.2 j hj)⟩
theorem cb_b89 {g g1 : aa_G} {b : Nat → Int32} {n N T q : Nat} {c y z : Int32} (h : tc_ok g b n) (hN : N < 8) (hT : T ≤ 40) (hq : q ≤ n) (he : cb_eq g g1) (h0 : g 36 0 = Int32.ofNat N) (h1 : g 36 1 = Int32.ofNat T) {r : cb_R} (hr : r = (match pb_end b n q (pb_half c) y z with | .inl f => .inl f | .inr (q, F) => cb_tailf F (cb_condf b n q T))) : zz_fin none 44 (89, [some (.ref 454), some (.ref 36), some (.int c), some (.int y), some (.int z)], [], aa_H (tc_at g1 b n q)) (cb_bres g b n N T r) := by
  subst hr
  refine zz_fin.steps (n := 2) (s' := (92, [some (.ref 454), some (.ref 36), some (.int c), some (.int y), some (.int z)], [.int 42, .ref 454], aa_H (tc_at g1 b n q))) rfl ?_
  refine zz_fin.call rfl rfl (Nat.le_of_ble_eq_true rfl) (tc_pass (he.ok h) (c := 42) (by decide)) ?_
  rintro v h' (⟨rfl, k1, k2, rfl⟩ | ⟨rfl, k1, g', rfl, k2⟩)
  · refine zz_fin.if rfl (fun cz => zc_no1 cz) (fun cz => ?_)
    refine zz_fin.steps (n := 4) (s' := (103, [some (.ref 454), some (.ref 36), some (.int c), some (.int y), some (.int z)], [.int 24, .int 1, .int 0, .ref 454], aa_H (tc_at g1 b n (q + 1)))) rfl ?_
    refine zz_fin.call rfl rfl (Nat.le_of_ble_eq_true rfl) (tc_num (neg := false) (he.ok h) k2 1 24) ?_
    rintro v h' (⟨e, hz, rfl, g', rfl, hg⟩ | ⟨q3, u, hz, rfl, rfl⟩)
    · rw [show pb_end b n q (pb_half c) y z = .inl e from (if_pos k1).trans (pb_then_inl hz)]
      refine zz_fin.if rfl (fun cz => absurd cz (by decide)) (fun cz => ?_)
      exact zz_fin.at (n := 2) rfl (.inl ⟨e, rfl, rfl, g', rfl, cb_bad.of he hg⟩)
    · rw [show pb_end b n q (pb_half c) y z = .inr (q3, (pb_half c, (y, (z, u)))) from (if_pos k1).trans (pb_then_inr hz)]
      have hqn := sp_num_n hz k2
      refine zz_fin.if rfl (fun cz => ?_) (fun cz => absurd rfl cz)
      have he2 := he.num u
      generalize hG : zz_w g1 454 3 u = g2 at he2 ⊢
      have k3 : tc_at g2 b n q3 454 3 = u := (tc_at_ne _ _ _ _ (by omega)).trans (by rw [← hG, aa_w_at])
      refine zz_fin.steps (n := 3) (s' := (115, [some (.ref 454), some (.ref 36), some (.int c), some (.int y), some (.int z)], [.int 100, .int c, .ref 36], aa_H (tc_at g2 b n q3))) rfl ?_
      have hh : ∀ φ, zz_fin none 44 (123, [some (.ref 454), some (.ref 36), some (.int c), some (.int y), some (.int z)], [.int (pb_half c), .ref 36], aa_H (tc_at g2 b n q3)) φ → zz_fin none 44 (115, [some (.ref 454), some (.ref 36), some (.int c), some (.int y), some (.int z)], [.int 100, .int c, .ref 36], aa_H (tc_at g2 b n q3)) φ := fun φ k => by
        refine zz_fin.ic rfl (fun cc => ?_) (fun cc => ?_)
        · have e : ¬ c = 100 := of_decide_eq_true cc
          rw [show pb_half c = 1 from if_neg e] at k
          exact zz_fin.steps (n := 1) rfl k
        · have e : c = 100 := Decidable.byContradiction fun z => cc (decide_eq_true z)
          rw [show pb_half c = 0 from if_pos e] at k
          exact zz_fin.steps (n := 2) rfl k
      refine hh _ ?_
      refine zz_fin.steps (n := 4) (s' := (130, [some (.ref 454), some (.ref 36), some (.int c), some (.int y), some (.int z)], [.int ((tc_at g2 b n q3) 454 3), .int z, .int y, .int (pb_half c), .ref 36], aa_H (tc_at g2 b n q3))) rfl ?_
      rw [k3]
      refine zz_fin.call rfl rfl (Nat.le_of_ble_eq_true rfl) (cb_addb (N := N) (T := T) ((tc_at_ne _ _ _ _ (by omega)).trans ((he2 _ _ (by omega)).trans h0)) hN ((tc_at_ne _ _ _ _ (by omega)).trans ((he2 _ _ (by omega)).trans h1))) ?_
      rintro v h' ⟨rfl, rfl⟩
      rw [cb_new_at]
      have gt := cb_new_get (g := g2) (N := N) (T := T) (F := (pb_half c, (y, (z, u))))
      have ne : ∀ k j, ¬ (k = 36 ∧ j = 0) → ¬ (37 ≤ k ∧ k ≤ 42 ∧ j = N) → ¬ (k = 454 ∧ j = 3) → cb_new g2 N T (pb_half c, (y, (z, u))) k j = g k j := fun k j e1 e2 e3 => (cb_new_ne e1 e2).trans (he2 k j e3)
      generalize cb_new g2 N T (pb_half c, (y, (z, u))) = g3 at gt ne ⊢
      have h3 : tc_ok g3 b n := ⟨(ne 454 0 (by omega) (by omega) (by omega)).trans h.1, h.2.1, fun j hj => (ne 455 j (by omega) (by omega) (by omega)).trans (h.2.2 j hj)⟩
      have m1 : g3 36 1 = Int32.ofNat T := (ne 36 1 (by omega) (by omega) (by omega)).trans h1
      refine zz_fin.steps (n := 3) (s' := (139, [some (.ref 454), some (.ref 36), some (.int c), some (.int y), some (.int z)], [.int 63, .int (sp_hb b n q3)], aa_H (tc_at g3 b n q3))) rfl ?_
      refine zz_fin.ic rfl (fun c1 => ?_) (fun c1 => ?_)
      · have c1 : sp_hb b n q3 = 63 := of_decide_eq_true c1
        have hq3 : q3 < n := pd_in fun e => by rw [e] at c1; exact absurd c1 (by decide)
        have e3 : cb_condf b n q3 T = fl_cond b n (n + 1) (q3 + 1) T 0 false [] := if_pos c1
        dsimp only
        rw [e3]
        refine zz_fin.steps (n := 1) (s' := (145, [some (.ref 454), some (.ref 36), some (.int c), some (.int y), some (.int z)], [.ref 454], aa_H (tc_at g3 b n q3))) rfl ?_
        refine zz_fin.call rfl rfl (Nat.le_of_ble_eq_true rfl) (tc_step h3 hq3) ?_
        rintro v h ⟨rfl, rfl⟩
        refine zz_fin.steps (n := 2) (s' := (150, [some (.ref 454), some (.ref 36), some (.int c), some (.int y), some (.int z)], [.ref 36, .ref 454], aa_H (tc_at g3 b n (q3 + 1)))) rfl ?_
        refine zz_fin.call rfl rfl (Nat.le_of_ble_eq_true rfl) (cb_cond0 (N := N + 1) (T := T) (p := q3 + 1) h3 gt.2 (by omega) m1 hT gt.1.2.2.2.2.2 (by omega) hq3) ?_
        rintro v h' (⟨e, hz, rfl, g', rfl, hb⟩ | ⟨q4, ts, hz, hq4, rfl, g4, rfl, hs⟩)
        · rw [hz]
          exact zz_fin.at (n := 1) rfl (.inl ⟨e, rfl, rfl, g', rfl, ⟨fun k j e1 e2 => (hb.1 k j e1 e2).trans (ne k j (by omega) (by omega) (by omega)), hb.2⟩⟩)
        · rw [hz]
          obtain ⟨s1, s2, s3, s4⟩ := hs
          have at4 : ∀ k, 37 ≤ k → k ≤ 41 → g4 k N = g3 k N := fun k k1 k2 => s1 k N (by omega) (by omega) (by omega) (by omega)
          exact zz_fin.at (n := 1) rfl (.inr ⟨q4, (pb_half c, (y, (z, u))), ts, rfl, hq4, rfl, g4, rfl, fun k j e1 e2 e3 e4 => (s1 k j (by omega) (by omega) (by omega) e4).trans (ne k j (by omega) e2 e4), (s1 36 0 (by omega) (by omega) (by omega) (by omega)).trans gt.2, s2, s4, ⟨(at4 37 (by omega) (by omega)).trans gt.1.1, (at4 38 (by omega) (by omega)).trans gt.1.2.1, (at4 39 (by omega) (by omega)).trans gt.1.2.2.1, (at4 40 (by omega) (by omega)).trans gt.1.2.2.2.1, (at4 41 (by omega) (by omega)).trans gt.1.2.2.2.2.1, s3⟩⟩)
      · have c1 : ¬ sp_hb b n q3 = 63 := fun z => c1 (decide_eq_true z)
        have e3 : cb_condf b n q3 T = .inr (q3, []) := if_neg c1
        dsimp only
        rw [e3]
        exact zz_fin.at (n := 2) rfl (.inr ⟨q3, (pb_half c, (y, (z, u))), [], rfl, hqn.1, rfl, g3, rfl, fun k j e1 e2 e3 e4 => ne k j (by omega) e2 e4, gt.2, m1, fun i t e => (by cases e), gt.1⟩)
  · refine zz_fin.if rfl (fun cz => ?_) (fun cz => zc_no0 cz)
    rw [show pb_end b n q (pb_half c) y z = .inl q from if_neg k1]
    exact zz_fin.at (n := 2) rfl (.inl ⟨q, rfl, rfl, g', rfl, cb_bad.of he k2⟩)
theorem cb_b31 {g : aa_G} {b : Nat → Int32} {n N T p : Nat} (h : tc_ok g b n) (hN : N < 8) (hT : T ≤ 40) (hp : p < n) (h0 : g 36 0 = Int32.ofNat N) (h1 : g 36 1 = Int32.ofNat T) (hl : sp_hb b n p = 100 ∨ sp_hb b n p = 110) : zz_fin none 44 (31, [some (.ref 454), some (.ref 36), some (.int (sp_hb b n p)), none, none], [], aa_H (tc_at g b n p)) (cb_bres g b n N T (cb_bellf b n p N T)) := by
  have e0 : pb_head b n p N = pb_then (sp_num b n false 0 11 (p + 1)) fun q1 y => pb_then (pb_part b n q1) fun q2 z => pb_end b n q2 (pb_half (sp_hb b n p)) y z := if_neg (fun e => e.elim (fun e => e hl) (fun e => by omega))
  refine zz_fin.steps (n := 1) (s' := (32, [some (.ref 454), some (.ref 36), some (.int (sp_hb b n p)), none, none], [.ref 454], aa_H (tc_at g b n p))) rfl ?_
  refine zz_fin.call rfl rfl (Nat.le_of_ble_eq_true rfl) (tc_step h hp) ?_
  rintro v h ⟨rfl, rfl⟩
  refine zz_fin.steps (n := 4) (s' := (40, [some (.ref 454), some (.ref 36), some (.int (sp_hb b n p)), none, none], [.int 11, .int 0, .int 0, .ref 454], aa_H (tc_at g b n (p + 1)))) rfl ?_
  refine zz_fin.call rfl rfl (Nat.le_of_ble_eq_true rfl) (tc_num (neg := false) (p := p + 1) h hp 0 11) ?_
  rintro v h' (⟨e, hz, rfl, g', rfl, hg⟩ | ⟨q1, y, hz, rfl, rfl⟩)
  · rw [cb_bellf_inl (e0.trans (pb_then_inl hz))]
    refine zz_fin.if rfl (fun cz => absurd cz (by decide)) (fun cz => ?_)
    exact zz_fin.at (n := 2) rfl (.inl ⟨e, rfl, rfl, g', rfl, cb_bad.of cb_eq.rf hg⟩)
  · have e1 := e0.trans (pb_then_inr hz)
    have hqn := sp_num_n hz hp
    refine zz_fin.if rfl (fun cz => ?_) (fun cz => absurd rfl cz)
    refine zz_fin.steps (n := 8) (s' := (62, [some (.ref 454), some (.ref 36), some (.int (sp_hb b n p)), some (.int y), some (.int 0)], [.int 46, .int (sp_hb b n q1)], aa_H (tc_at (zz_w g 454 3 y) b n q1))) rfl ?_
    refine zz_fin.ic rfl (fun c1 => ?_) (fun c1 => ?_)
    · have c1 : ¬ sp_hb b n q1 = 46 := of_decide_eq_true c1
      have e2 := e1.trans (pb_then_inr (show pb_part b n q1 = .inr (q1, 0) from if_neg c1))
      exact cb_b89 h hN hT hqn.1 (cb_eq.rf.num y) h0 h1 (by unfold cb_bellf; rw [e2])
    · have c1 : sp_hb b n q1 = 46 := Decidable.byContradiction fun z => c1 (decide_eq_true z)
      have hq1 : q1 < n := pd_in fun e => by rw [e] at c1; exact absurd c1 (by decide)
      have ep : pb_part b n q1 = sp_num b n false 0 3599 (q1 + 1) := if_pos c1
      refine zz_fin.steps (n := 1) (s' := (66, [some (.ref 454), some (.ref 36), some (.int (sp_hb b n p)), some (.int y), some (.int 0)], [.ref 454], aa_H (tc_at (zz_w g 454 3 y) b n q1))) rfl ?_
      refine zz_fin.call rfl rfl (Nat.le_of_ble_eq_true rfl) (tc_step (cb_eq.ok (cb_eq.rf.num y) h) hq1) ?_
      rintro v h ⟨rfl, rfl⟩
      refine zz_fin.steps (n := 4) (s' := (75, [some (.ref 454), some (.ref 36), some (.int (sp_hb b n p)), some (.int y), some (.int 0)], [.int 3599, .int 0, .int 0, .ref 454], aa_H (tc_at (zz_w g 454 3 y) b n (q1 + 1)))) rfl ?_
      refine zz_fin.call rfl rfl (Nat.le_of_ble_eq_true rfl) (tc_num (neg := false) (p := q1 + 1) (cb_eq.ok (cb_eq.rf.num y) h) hq1 0 3599) ?_
      rintro v h' (⟨e, hz2, rfl, g', rfl, hg⟩ | ⟨q2, u, hz2, rfl, rfl⟩)
      · rw [cb_bellf_inl (e1.trans (pb_then_inl (ep.trans hz2)))]
        refine zz_fin.if rfl (fun cz => absurd cz (by decide)) (fun cz => ?_)
        exact zz_fin.at (n := 2) rfl (.inl ⟨e, rfl, rfl, g', rfl, cb_bad.of (cb_eq.rf.num y) hg⟩)
      · have e2 := e1.trans (pb_then_inr (ep.trans hz2))
        have hqn2 := sp_num_n hz2 hq1
        refine zz_fin.if rfl (fun cz => ?_) (fun cz => absurd rfl cz)
        refine zz_fin.steps (n := 3) (s' := (89, [some (.ref 454), some (.ref 36), some (.int (sp_hb b n p)), some (.int y), some (.int u)], [], aa_H (tc_at (zz_w (zz_w g 454 3 y) 454 3 u) b n q2))) rfl ?_
        exact cb_b89 h hN hT hqn2.1 ((cb_eq.rf.num y).num u) h0 h1 (by unfold cb_bellf; rw [e2])
theorem cb_bell {g : aa_G} {b : Nat → Int32} {n N T p : Nat} (h : tc_ok g b n) (hN : N ≤ 8) (hT : T ≤ 40) (hp : p ≤ n) (h0 : g 36 0 = Int32.ofNat N) (h1 : g 36 1 = Int32.ofNat T) : zz_fin none 44 (0, zz_in [.ref 454, .ref 36] (zz_nl 44), [], aa_H (tc_at g b n p)) (cb_bres g b n N T (cb_bellf b n p N T)) := by
  have k0 : tc_at g b n p 36 0 = Int32.ofNat N := (tc_at_ne _ _ _ _ (by omega)).trans h0
  refine zz_fin.steps (n := 6) (s' := (11, [some (.ref 454), some (.ref 36), some (.int (sp_hb b n p)), none, none], [.int 8, .int ((tc_at g b n p) 36 0)], aa_H (tc_at g b n p))) rfl ?_
  rw [k0]
  refine zz_fin.ic rfl (fun c0 => ?_) (fun c0 => ?_)
  · have c0 : (8 : Int32).toInt ≤ (Int32.ofNat N).toInt := aa_le32.mp (of_decide_eq_true c0)
    rw [zz_ofN (by omega), show (8 : Int32).toInt = 8 from rfl] at c0
    have ef : pb_head b n p N = .inl p := if_pos (.inr (by omega))
    refine zz_fin.steps (n := 1) (s' := (27, [some (.ref 454), some (.ref 36), some (.int (sp_hb b n p)), none, none], [.ref 454], aa_H (tc_at g b n p))) rfl ?_
    refine zz_fin.call rfl rfl (Nat.le_of_ble_eq_true rfl) (tc_fail) ?_
    rintro v h' ⟨rfl, g', rfl, hb⟩
    exact zz_fin.at (n := 1) rfl (.inl ⟨p, cb_bellf_inl ef, rfl, g', rfl, cb_bad.of cb_eq.rf hb⟩)
  · have hN8 : N < 8 := Decidable.byContradiction fun z => c0 (decide_eq_true (aa_le32.mpr (by rw [zz_ofN (by omega), show (8 : Int32).toInt = 8 from rfl]; omega)))
    refine zz_fin.steps (n := 2) (s' := (17, [some (.ref 454), some (.ref 36), some (.int (sp_hb b n p)), none, none], [.int 100, .int (sp_hb b n p)], aa_H (tc_at g b n p))) rfl ?_
    refine zz_fin.ic rfl (fun c1 => ?_) (fun c1 => ?_)
    · have c1 : sp_hb b n p = 100 := of_decide_eq_true c1
      have hpn : p < n := pd_in fun e => by rw [e] at c1; exact absurd c1 (by decide)
      exact cb_b31 h hN8 hT hpn h0 h1 (.inl c1)
    · have c1 : ¬ sp_hb b n p = 100 := fun z => c1 (decide_eq_true z)
      refine zz_fin.steps (n := 2) (s' := (23, [some (.ref 454), some (.ref 36), some (.int (sp_hb b n p)), none, none], [.int 110, .int (sp_hb b n p)], aa_H (tc_at g b n p))) rfl ?_
      refine zz_fin.ic rfl (fun c2 => ?_) (fun c2 => ?_)
      · have c2 : sp_hb b n p = 110 := of_decide_eq_true c2
        have hpn : p < n := pd_in fun e => by rw [e] at c2; exact absurd c2 (by decide)
        exact cb_b31 h hN8 hT hpn h0 h1 (.inr c2)
      · have c2 : ¬ sp_hb b n p = 110 := fun z => c2 (decide_eq_true z)
        have ef : pb_head b n p N = .inl p := if_pos (.inl (fun e => e.elim c1 c2))
        refine zz_fin.steps (n := 1) (s' := (27, [some (.ref 454), some (.ref 36), some (.int (sp_hb b n p)), none, none], [.ref 454], aa_H (tc_at g b n p))) rfl ?_
        refine zz_fin.call rfl rfl (Nat.le_of_ble_eq_true rfl) (tc_fail) ?_
        rintro v h' ⟨rfl, g', rfl, hb⟩
        exact zz_fin.at (n := 1) rfl (.inl ⟨p, cb_bellf_inl ef, rfl, g', rfl, cb_bad.of cb_eq.rf hb⟩)
