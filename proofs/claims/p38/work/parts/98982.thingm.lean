/-! BELLS: the model reads a COND -/
theorem tm_commj (g : aa_G) (p : Nat) (z : Int32) {j : Nat} {v : Int32} (h5 : j ≠ 5) (h7 : j ≠ 7) : zz_w (tm_at g p z) 540 j v = tm_at (zz_w g 540 j v) p z := by
  unfold tm_at
  rw [zz_w_comm _ (k := 540) (j := 7) (a := 540) (b := j) _ _ (fun e => h7 e.2), zz_w_comm g (k := 540) (j := 5) (a := 540) (b := j) _ _ (fun e => h5 e.2)]
theorem tm_at_ne (g : aa_G) (p : Nat) (z : Int32) {k j : Nat} (h : ¬ (k = 540 ∧ (j = 5 ∨ j = 7))) : tm_at g p z k j = g k j := by
  unfold tm_at
  rw [aa_w_ne _ _ (by omega), aa_w_ne _ _ (by omega)]
/-- one thing more to do -/
def mb_one (g : aa_G) (c : Nat) (v : Int32) : aa_G := zz_w (zz_w g 545 c v) 540 11 (Int32.ofNat (c + 1))
/-- of what is being read alone has anything changed -/
def mb_fr (g g' : aa_G) (c : Nat) : Prop := ∀ k j, ¬ (k = 540 ∧ (j = 11 ∨ j = 12)) → ¬ (k = 545 ∧ c ≤ j) → g' k j = g k j
def mb_st (g g' : aa_G) (c : Nat) (cs : List Int32) (T : Nat) : Prop := mb_fr g g' c ∧ g' 540 11 = Int32.ofNat (c + cs.length) ∧ g' 540 12 = Int32.ofNat T ∧ ∀ i v, cs[i]? = some v → g' 545 (c + i) = v
def mb_bad (g : aa_G) (f c : Nat) (g' : aa_G) : Prop := (∀ k j, ¬ (k = 540 ∧ ((5 ≤ j ∧ j ≤ 7) ∨ j = 11 ∨ j = 12)) → ¬ (k = 545 ∧ c ≤ j) → g' k j = g k j) ∧ g' 540 6 = Int32.ofNat f
theorem mb_st.nil {g : aa_G} {c T : Nat} (h1 : g 540 11 = Int32.ofNat c) (h2 : g 540 12 = Int32.ofNat T) : mb_st g g c [] T := ⟨fun _ _ _ _ => rfl, h1, h2, fun i v h => by cases h⟩
theorem mb_st.tr {g g1 g2 : aa_G} {c T1 T2 : Nat} {cs ds : List Int32} (h1 : mb_st g g1 c cs T1) (h2 : mb_st g1 g2 (c + cs.length) ds T2) : mb_st g g2 c (cs ++ ds) T2 := by
  refine ⟨fun k j a e => (h2.1 k j a (by omega)).trans (h1.1 k j a e), ?_, h2.2.2.1, fun i v hi => ?_⟩
  · rw [h2.2.1, List.length_append, Nat.add_assoc]
  · by_cases hl : i < cs.length
    · rw [List.getElem?_append_left hl] at hi
      rw [h2.1 545 (c + i) (by omega) (by omega)]
      exact h1.2.2.2 i v hi
    · rw [List.getElem?_append_right (by omega)] at hi
      have := h2.2.2.2 _ v hi
      rw [show c + cs.length + (i - cs.length) = c + i by omega] at this
      exact this
theorem mb_st.one {g : aa_G} {c T : Nat} (v : Int32) (h : g 540 12 = Int32.ofNat T) : mb_st g (mb_one g c v) c [v] T := by
  refine ⟨fun k j a e => ?_, ?_, ?_, fun i w hi => ?_⟩
  · unfold mb_one
    rw [aa_w_ne _ _ (by omega), aa_w_ne _ _ (by omega)]
  · unfold mb_one
    rw [aa_w_at]
    rfl
  · unfold mb_one
    rw [aa_w_ne _ _ (by omega), aa_w_ne _ _ (by omega)]
    exact h
  · have hi0 : i = 0 := by
      have := (List.getElem?_eq_some_iff.mp hi).1
      rw [List.length_singleton] at this
      omega
    subst hi0
    cases hi
    unfold mb_one
    rw [aa_w_ne _ _ (by omega), Nat.add_zero, aa_w_at]
theorem mb_ok {g g' : aa_G} {b : Nat → Int32} {n c : Nat} (h : tm_ok g b n) (hf : mb_fr g g' c) : tm_ok g' b n := ⟨(hf 540 4 (by omega) (by omega)).trans h.1, h.2.1, fun j hj => by rw [hf 543 j (by omega) (by omega)]; exact h.2.2 j hj⟩
theorem mb_bad.of {g g1 g2 : aa_G} {f c : Nat} (h1 : mb_fr g g1 c) (h2 : tm_bad g1 f g2) : mb_bad g f c g2 := ⟨fun k j a e => (h2.1 k j (by omega)).trans (h1 k j (by omega) e), h2.2⟩
theorem mb_bad.tr {g g1 g2 : aa_G} {f c d : Nat} (h1 : mb_fr g g1 c) (h2 : mb_bad g1 f d g2) (hd : c ≤ d) : mb_bad g f c g2 := ⟨fun k j a e => (h2.1 k j a (by omega)).trans (h1 k j (by omega) e), h2.2⟩
theorem mb_fr.rf {g : aa_G} {c : Nat} : mb_fr g g c := fun _ _ _ _ => rfl
def mb_res (g : aa_G) (c : Nat) (r : pd_R) (v : Option Value) (h : zz_H) : Prop := (∃ f, r = .inl f ∧ v = some (.int 0) ∧ ∃ g', h = aa_H g' ∧ mb_bad g f c g') ∨ (∃ q T cs, r = .inr (q, (T, cs)) ∧ v = some (.int 1) ∧ ∃ g' z, h = aa_H (tm_at g' q z) ∧ mb_st g g' c cs T)
/-- a method reads a piece -/
def mb_does (b : Nat → Int32) (n m : Nat) (f : Nat → Nat → pd_R) : Prop := ∀ (g : aa_G) (p T c : Nat) (z : Int32), tm_ok g b n → p ≤ n → T ≤ 40 → c ≤ 60 + 2 * T → g 540 11 = Int32.ofNat c → g 540 12 = Int32.ofNat T → zz_fin none m (0, zz_in [.ref 540] (zz_nl m), [], aa_H (tm_at g p z)) (mb_res g c (f p T))
theorem mb_push {g : aa_G} {c q : Nat} {z v : Int32} (hc : g 540 11 = Int32.ofNat c) (h : c < 140) : zz_fin none 188 (0, zz_in [.ref 540, .int v] (zz_nl 188), [], aa_H (tm_at g q z)) (fun r h' => r = none ∧ h' = aa_H (tm_at (mb_one g c v) q z)) := by
  have h0 : tm_at g q z 540 11 = Int32.ofNat c := hc
  refine zz_fin.steps (n := 5) (s' := (9, [some (.ref 540), some (.int v)], [.int v, .int ((tm_at g q z) 540 11), .ref 545], aa_H (tm_at g q z))) rfl ?_
  rw [h0]
  refine zz_fin.ias (n := 140) rfl rfl (zz_inbN (by omega) (by omega)) ?_
  rw [zz_toN (by omega)]
  refine zz_fin.steps (n := 0) (s' := (10, [some (.ref 540), some (.int v)], [], aa_H (zz_w (tm_at g q z) 545 c v))) rfl ?_
  rw [tm_comm _ _ _ (by decide)]
  have h1 : tm_at (zz_w g 545 c v) q z 540 11 = Int32.ofNat c := (tm_at_ne _ _ _ (by omega)).trans ((aa_w_ne _ _ (by omega)).trans hc)
  refine zz_fin.steps (n := 5) (s' := (17, [some (.ref 540), some (.int v)], [.int (((tm_at (zz_w g 545 c v) q z) 540 11) + 1), .ref 540], aa_H (tm_at (zz_w g 545 c v) q z))) rfl ?_
  rw [h1, aa_succ]
  refine zz_fin.at (n := 2) rfl ⟨rfl, ?_⟩
  exact congrArg aa_H (tm_commj _ _ _ (by decide) (by decide))
theorem mb_name (c : Int32) {g : aa_G} : zz_fin none 187 (0, zz_in [.int c] (zz_nl 187), [], aa_H g) (fun v h => v = some (.int (sp_nm c)) ∧ h = aa_H g) := by
  unfold sp_nm
  refine zz_fin.steps (n := 2) (s' := (3, [some (.int c)], [.int 119, .int c], aa_H g)) rfl ?_
  refine zz_fin.ic rfl (fun c1 => ?_) (fun c1 => ?_)
  · have c1 : ¬ c = 119 := of_decide_eq_true c1
    rw [if_neg c1]
    refine zz_fin.steps (n := 2) (s' := (13, [some (.int c)], [.int 121, .int c], aa_H g)) rfl ?_
    refine zz_fin.ic rfl (fun c2 => ?_) (fun c2 => ?_)
    · have c2 : ¬ c = 121 := of_decide_eq_true c2
      rw [if_neg c2]
      refine zz_fin.steps (n := 2) (s' := (23, [some (.int c)], [.int 108, .int c], aa_H g)) rfl ?_
      refine zz_fin.ic rfl (fun c3 => ?_) (fun c3 => ?_)
      · have c3 : ¬ c = 108 := of_decide_eq_true c3
        rw [if_neg c3]
        refine zz_fin.steps (n := 2) (s' := (33, [some (.int c)], [.int 116, .int c], aa_H g)) rfl ?_
        refine zz_fin.ic rfl (fun c4 => ?_) (fun c4 => ?_)
        · have c4 : ¬ c = 116 := of_decide_eq_true c4
          rw [if_neg c4]
          refine zz_fin.steps (n := 2) (s' := (43, [some (.int c)], [.int 122, .int c], aa_H g)) rfl ?_
          refine zz_fin.ic rfl (fun c5 => ?_) (fun c5 => ?_)
          · have c5 : ¬ c = 122 := of_decide_eq_true c5
            rw [if_neg c5]
            refine zz_fin.steps (n := 1) (s' := (51, [some (.int c)], [.int (-1)], aa_H g)) rfl ?_
            exact zz_fin.at (n := 1) rfl ⟨rfl, rfl⟩
          · have c5 : c = 122 := Decidable.byContradiction fun z => c5 (decide_eq_true z)
            rw [if_pos c5]
            refine zz_fin.steps (n := 2) (s' := (51, [some (.int c)], [.int 4], aa_H g)) rfl ?_
            exact zz_fin.at (n := 1) rfl ⟨rfl, rfl⟩
        · have c4 : c = 116 := Decidable.byContradiction fun z => c4 (decide_eq_true z)
          rw [if_pos c4]
          refine zz_fin.steps (n := 2) (s' := (51, [some (.int c)], [.int 3], aa_H g)) rfl ?_
          exact zz_fin.at (n := 1) rfl ⟨rfl, rfl⟩
      · have c3 : c = 108 := Decidable.byContradiction fun z => c3 (decide_eq_true z)
        rw [if_pos c3]
        refine zz_fin.steps (n := 2) (s' := (51, [some (.int c)], [.int 2], aa_H g)) rfl ?_
        exact zz_fin.at (n := 1) rfl ⟨rfl, rfl⟩
    · have c2 : c = 121 := Decidable.byContradiction fun z => c2 (decide_eq_true z)
      rw [if_pos c2]
      refine zz_fin.steps (n := 2) (s' := (51, [some (.int c)], [.int 1], aa_H g)) rfl ?_
      exact zz_fin.at (n := 1) rfl ⟨rfl, rfl⟩
  · have c1 : c = 119 := Decidable.byContradiction fun z => c1 (decide_eq_true z)
    rw [if_pos c1]
    refine zz_fin.steps (n := 2) (s' := (51, [some (.int c)], [.int 0], aa_H g)) rfl ?_
    exact zz_fin.at (n := 1) rfl ⟨rfl, rfl⟩
theorem mb_st.set {g g1 : aa_G} {c c0 T : Nat} (_ : g 540 11 = Int32.ofNat c0) (hf : mb_fr g g1 c) (h1 : g1 540 11 = Int32.ofNat c) (h2 : g1 540 12 = Int32.ofNat T) : mb_st g g1 c [] T := ⟨hf, h1, h2, fun i v h => by cases h⟩
theorem mb_thing (b : Nat → Int32) (n : Nat) : mb_does b n 186 (pd_thing b n) := by
  intro g p T c z h hp hT hc h11 h12
  have hn := h.2.1
  have h0 : tm_at g p z 540 12 = Int32.ofNat T := h12
  refine zz_fin.steps (n := 1) (s' := (1, [some (.ref 540), none], [.ref 540], aa_H (tm_at g p z))) rfl ?_
  refine zz_fin.call rfl rfl (Nat.le_of_ble_eq_true rfl) (tm_here h (by omega)) ?_
  rintro v h ⟨rfl, rfl⟩
  refine zz_fin.steps (n := 2) (s' := (6, [some (.ref 540), some (.int (sp_hb b n p))], [.int (sp_hb b n p)], aa_H (tm_at g p z))) rfl ?_
  refine zz_fin.call rfl rfl (Nat.le_of_ble_eq_true rfl) (tm_fig _) ?_
  rintro v h ⟨⟨rfl, hd⟩ | ⟨rfl, hd⟩, rfl⟩
  · refine zz_fin.if rfl (fun cz => ?_) (fun cz => absurd rfl cz)
    refine zz_fin.steps (n := 3) (s' := (26, [some (.ref 540), some (.int (sp_hb b n p))], [.int 40, .int ((tm_at g p z) 540 12)], aa_H (tm_at g p z))) rfl ?_
    rw [h0]
    refine zz_fin.ic rfl (fun c1 => ?_) (fun c1 => ?_)
    · have c1 : Int32.ofNat T ≠ 40 := of_decide_eq_true c1
      have hT4 : T < 40 := Decidable.byContradiction fun z => c1 (by rw [show T = 40 by omega]; rfl)
      have hx : ¬ ((sp_dg (sp_hb b n p) = false ∧ sp_nm (sp_hb b n p) = -1) ∨ T = 40) := fun z => z.elim (fun z => by rw [hd] at z; cases z.1) (fun z => by omega)
      refine zz_fin.steps (n := 5) (s' := (45, [some (.ref 540), some (.int (sp_hb b n p))], [.int (((tm_at g p z) 540 12) + 1), .ref 540], aa_H (tm_at g p z))) rfl ?_
      rw [h0, aa_succ]
      refine zz_fin.steps (n := 1) (s' := (48, [some (.ref 540), some (.int (sp_hb b n p))], [], aa_H (zz_w (tm_at g p z) 540 12 (Int32.ofNat (T + 1))))) rfl ?_
      rw [tm_commj _ _ _ (by decide) (by decide)]
      have h1 : tm_ok (zz_w g 540 12 (Int32.ofNat (T + 1))) b n := h
      have hf1 : mb_fr g (zz_w g 540 12 (Int32.ofNat (T + 1))) c := fun k j a e => aa_w_ne _ _ (by omega)
      have k11 : (zz_w g 540 12 (Int32.ofNat (T + 1))) 540 11 = Int32.ofNat c := (aa_w_ne _ _ (by omega)).trans h11
      have k12 : (zz_w g 540 12 (Int32.ofNat (T + 1))) 540 12 = Int32.ofNat (T + 1) := aa_w_at _ _ _ _
      refine zz_fin.steps (n := 1) (s' := (49, [some (.ref 540), some (.int (sp_hb b n p))], [.int (sp_hb b n p)], aa_H (tm_at (zz_w g 540 12 (Int32.ofNat (T + 1))) p z))) rfl ?_
      refine zz_fin.call rfl rfl (Nat.le_of_ble_eq_true rfl) (tm_fig _) ?_
      rintro v h ⟨⟨rfl, hd2⟩ | ⟨rfl, hd2⟩, rfl⟩
      · refine zz_fin.if rfl (fun cz => zc_no1 cz) (fun cz => ?_)
        refine zz_fin.steps (n := 1) (s' := (56, [some (.ref 540), some (.int (sp_hb b n p))], [.ref 540], aa_H (tm_at (zz_w g 540 12 (Int32.ofNat (T + 1))) p z))) rfl ?_
        refine zz_fin.call rfl rfl (Nat.le_of_ble_eq_true rfl) (tm_digits h1 hp) ?_
        rintro v h (⟨rfl, hr, g', rfl, hg⟩ | ⟨rfl, hr, rfl⟩)
        · refine zz_fin.if rfl (fun cz => absurd cz (by decide)) (fun cz => ?_)
          refine zz_fin.steps (n := 1) (s' := (63, [some (.ref 540), some (.int (sp_hb b n p))], [.int 0], aa_H (g'))) rfl ?_
          exact zz_fin.at (n := 1) rfl (.inl ⟨_, (if_neg hx).trans ((if_pos hd).trans (if_pos hr)), rfl, g', rfl, mb_bad.of hf1 hg⟩)
        · refine zz_fin.if rfl (fun cz => ?_) (fun cz => absurd rfl cz)
          refine zz_fin.steps (n := 3) (s' := (69, [some (.ref 540), some (.int (sp_hb b n p))], [.int ((sp_run b n 5 p 0).2), .ref 540], aa_H (tm_at (zz_w g 540 12 (Int32.ofNat (T + 1))) (sp_run b n 5 p 0).1 (sp_run b n 5 p 0).2))) rfl ?_
          refine zz_fin.call rfl rfl (Nat.le_of_ble_eq_true rfl) (mb_push k11 (by omega)) ?_
          rintro v h ⟨rfl, rfl⟩
          exact zz_fin.at (n := 2) rfl (.inr ⟨_, T + 1, [(sp_run b n 5 p 0).2], (if_neg hx).trans ((if_pos hd).trans (if_neg hr)), rfl, _, _, rfl, mb_st.tr (mb_st.set h11 hf1 k11 k12) (mb_st.one _ k12)⟩)
      · exact absurd hd2 (by rw [hd]; decide)
    · have c1 : Int32.ofNat T = 40 := Decidable.byContradiction fun z => c1 (decide_eq_true z)
      have c1 : T = 40 := by have e := zz_ofN (n := T) (by omega); rw [c1, show (40 : Int32).toInt = 40 from rfl] at e; omega
      have e0 : pd_thing b n p T = .inl p := if_pos (.inr c1)
      refine zz_fin.steps (n := 3) (s' := (34, [some (.ref 540), some (.int (sp_hb b n p))], [.int (Int32.ofNat p), .ref 540], aa_H (tm_at g p z))) rfl ?_
      refine zz_fin.call rfl rfl (Nat.le_of_ble_eq_true rfl) (tm_fails _) ?_
      rintro v h ⟨rfl, rfl⟩
      exact zz_fin.at (n := 1) rfl (.inl ⟨p, e0, rfl, _, rfl, mb_bad.of mb_fr.rf (tm_bad_of g p z p)⟩)
  · refine zz_fin.if rfl (fun cz => absurd cz (by decide)) (fun cz => ?_)
    refine zz_fin.steps (n := 1) (s' := (13, [some (.ref 540), some (.int (sp_hb b n p))], [.int (sp_hb b n p)], aa_H (tm_at g p z))) rfl ?_
    refine zz_fin.call rfl rfl (Nat.le_of_ble_eq_true rfl) (mb_name _) ?_
    rintro v h ⟨rfl, rfl⟩
    refine zz_fin.steps (n := 1) (s' := (17, [some (.ref 540), some (.int (sp_hb b n p))], [.int (-1), .int (sp_nm (sp_hb b n p))], aa_H (tm_at g p z))) rfl ?_
    refine zz_fin.ic rfl (fun c2 => ?_) (fun c2 => ?_)
    · have e0 : pd_thing b n p T = .inl p := if_pos (.inl ⟨hd, of_decide_eq_true c2⟩)
      refine zz_fin.steps (n := 3) (s' := (34, [some (.ref 540), some (.int (sp_hb b n p))], [.int (Int32.ofNat p), .ref 540], aa_H (tm_at g p z))) rfl ?_
      refine zz_fin.call rfl rfl (Nat.le_of_ble_eq_true rfl) (tm_fails _) ?_
      rintro v h ⟨rfl, rfl⟩
      exact zz_fin.at (n := 1) rfl (.inl ⟨p, e0, rfl, _, rfl, mb_bad.of mb_fr.rf (tm_bad_of g p z p)⟩)
    · have hm : ¬ sp_nm (sp_hb b n p) = -1 := fun z => c2 (decide_eq_true z)
      refine zz_fin.steps (n := 3) (s' := (26, [some (.ref 540), some (.int (sp_hb b n p))], [.int 40, .int ((tm_at g p z) 540 12)], aa_H (tm_at g p z))) rfl ?_
      rw [h0]
      refine zz_fin.ic rfl (fun c3 => ?_) (fun c3 => ?_)
      · have c3 : Int32.ofNat T ≠ 40 := of_decide_eq_true c3
        have hT4 : T < 40 := Decidable.byContradiction fun z => c3 (by rw [show T = 40 by omega]; rfl)
        have hx : ¬ ((sp_dg (sp_hb b n p) = false ∧ sp_nm (sp_hb b n p) = -1) ∨ T = 40) := fun z => z.elim (fun z => hm z.2) (fun z => by omega)
        refine zz_fin.steps (n := 5) (s' := (45, [some (.ref 540), some (.int (sp_hb b n p))], [.int (((tm_at g p z) 540 12) + 1), .ref 540], aa_H (tm_at g p z))) rfl ?_
        rw [h0, aa_succ]
        refine zz_fin.steps (n := 1) (s' := (48, [some (.ref 540), some (.int (sp_hb b n p))], [], aa_H (zz_w (tm_at g p z) 540 12 (Int32.ofNat (T + 1))))) rfl ?_
        rw [tm_commj _ _ _ (by decide) (by decide)]
        have h1 : tm_ok (zz_w g 540 12 (Int32.ofNat (T + 1))) b n := h
        have hf1 : mb_fr g (zz_w g 540 12 (Int32.ofNat (T + 1))) c := fun k j a e => aa_w_ne _ _ (by omega)
        have k11 : (zz_w g 540 12 (Int32.ofNat (T + 1))) 540 11 = Int32.ofNat c := (aa_w_ne _ _ (by omega)).trans h11
        have k12 : (zz_w g 540 12 (Int32.ofNat (T + 1))) 540 12 = Int32.ofNat (T + 1) := aa_w_at _ _ _ _
        refine zz_fin.steps (n := 1) (s' := (49, [some (.ref 540), some (.int (sp_hb b n p))], [.int (sp_hb b n p)], aa_H (tm_at (zz_w g 540 12 (Int32.ofNat (T + 1))) p z))) rfl ?_
        refine zz_fin.call rfl rfl (Nat.le_of_ble_eq_true rfl) (tm_fig _) ?_
        rintro v h ⟨⟨rfl, hd2⟩ | ⟨rfl, hd2⟩, rfl⟩
        · exact absurd hd2 (by rw [hd]; decide)
        · refine zz_fin.if rfl (fun cz => ?_) (fun cz => zc_no0 cz)
          refine zz_fin.steps (n := 3) (s' := (78, [some (.ref 540), some (.int (sp_hb b n p))], [.int (sp_hb b n p), .int 100000, .ref 540], aa_H (tm_at (zz_w g 540 12 (Int32.ofNat (T + 1))) p z))) rfl ?_
          refine zz_fin.call rfl rfl (Nat.le_of_ble_eq_true rfl) (mb_name _) ?_
          rintro v h ⟨rfl, rfl⟩
          refine zz_fin.steps (n := 1) (s' := (82, [some (.ref 540), some (.int (sp_hb b n p))], [.int (100000 + (sp_nm (sp_hb b n p))), .ref 540], aa_H (tm_at (zz_w g 540 12 (Int32.ofNat (T + 1))) p z))) rfl ?_
          refine zz_fin.call rfl rfl (Nat.le_of_ble_eq_true rfl) (mb_push k11 (by omega)) ?_
          rintro v h ⟨rfl, rfl⟩
          refine zz_fin.steps (n := 5) (s' := (92, [some (.ref 540), some (.int (sp_hb b n p))], [.int ((Int32.ofNat p) + 1), .ref 540], aa_H (tm_at (mb_one (zz_w g 540 12 (Int32.ofNat (T + 1))) c (100000 + sp_nm (sp_hb b n p))) p z))) rfl ?_
          rw [aa_succ]
          refine zz_fin.steps (n := 1) (s' := (95, [some (.ref 540), some (.int (sp_hb b n p))], [], aa_H (zz_w (tm_at (mb_one (zz_w g 540 12 (Int32.ofNat (T + 1))) c (100000 + sp_nm (sp_hb b n p))) p z) 540 5 (Int32.ofNat (p + 1))))) rfl ?_
          rw [tm_inc]
          exact zz_fin.at (n := 2) rfl (.inr ⟨p + 1, T + 1, [100000 + sp_nm (sp_hb b n p)], (if_neg hx).trans (if_neg (by rw [hd]; decide)), rfl, _, z, rfl, mb_st.tr (mb_st.set h11 hf1 k11 k12) (mb_st.one _ k12)⟩)
      · have c3 : Int32.ofNat T = 40 := Decidable.byContradiction fun z => c3 (decide_eq_true z)
        have c3 : T = 40 := by have e := zz_ofN (n := T) (by omega); rw [c3, show (40 : Int32).toInt = 40 from rfl] at e; omega
        have e0 : pd_thing b n p T = .inl p := if_pos (.inr c3)
        refine zz_fin.steps (n := 3) (s' := (34, [some (.ref 540), some (.int (sp_hb b n p))], [.int (Int32.ofNat p), .ref 540], aa_H (tm_at g p z))) rfl ?_
        refine zz_fin.call rfl rfl (Nat.le_of_ble_eq_true rfl) (tm_fails _) ?_
        rintro v h ⟨rfl, rfl⟩
        exact zz_fin.at (n := 1) rfl (.inl ⟨p, e0, rfl, _, rfl, mb_bad.of mb_fr.rf (tm_bad_of g p z p)⟩)
