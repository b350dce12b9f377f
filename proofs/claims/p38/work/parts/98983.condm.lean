/-! BELLS: the model reads products, sums, tests -/
theorem mb_prodl {b : Nat → Int32} {n c : Nat} {g : aa_G} (h : tm_ok g b n) (hi : mb_does b n 186 (pd_thing b n)) : ∀ (k p T : Nat) (cs : List Int32) (g1 : aa_G) (z : Int32) (x : Option Value), n < k + p → p ≤ n → T ≤ 40 → c + cs.length + 1 ≤ 60 + 2 * T → mb_st g g1 c cs T → zz_fin none 185 (9, [some (.ref 540), x], [], aa_H (tm_at g1 p z)) (mb_res g c (pd_loop pd_o1 (pd_thing b n) b n k p T cs)) := by
  have hn := h.2.1
  intro k
  induction k with
  | zero => intro p T cs g1 z x hk hp; omega
  | succ k ih =>
    intro p T cs g1 z x hk hp hT hc hs
    have h1 := mb_ok h hs.1
    refine zz_fin.steps (n := 1) (s' := (10, [some (.ref 540), x], [.ref 540], aa_H (tm_at g1 p z))) rfl ?_
    refine zz_fin.call rfl rfl (Nat.le_of_ble_eq_true rfl) (tm_here h1 (by omega)) ?_
    rintro v h ⟨rfl, rfl⟩
    refine zz_fin.steps (n := 1) (s' := (15, [some (.ref 540), x], [.int 42, .int (sp_hb b n p)], aa_H (tm_at g1 p z))) rfl ?_
    refine zz_fin.ic rfl (fun c1 => ?_) (fun c1 => ?_)
    · have c0 : sp_hb b n p = 42 := of_decide_eq_true c1
      have hop : pd_o1 (sp_hb b n p) = true := by rw [c0]; decide
      have hpn : p < n := pd_in fun e => by rw [e] at hop; exact absurd hop (by decide)
      refine zz_fin.steps (n := 1) (s' := (28, [some (.ref 540), x], [.ref 540], aa_H (tm_at g1 p z))) rfl ?_
      refine zz_fin.call rfl rfl (Nat.le_of_ble_eq_true rfl) (tm_here h1 (by omega)) ?_
      rintro v h ⟨rfl, rfl⟩
      refine zz_fin.steps (n := 6) (s' := (39, [some (.ref 540), some (.int (sp_hb b n p))], [.int ((Int32.ofNat p) + 1), .ref 540], aa_H (tm_at g1 p z))) rfl ?_
      rw [aa_succ]
      refine zz_fin.steps (n := 1) (s' := (42, [some (.ref 540), some (.int (sp_hb b n p))], [], aa_H (zz_w (tm_at g1 p z) 540 5 (Int32.ofNat (p + 1))))) rfl ?_
      rw [tm_inc]
      refine zz_fin.steps (n := 1) (s' := (43, [some (.ref 540), some (.int (sp_hb b n p))], [.ref 540], aa_H (tm_at g1 (p + 1) z))) rfl ?_
      refine zz_fin.call rfl rfl (Nat.le_of_ble_eq_true rfl) (hi g1 (p + 1) T (c + cs.length) z h1 hpn hT (by omega) hs.2.1 hs.2.2.1) ?_
      rintro v h' (⟨f, e, rfl, g', rfl, hb⟩ | ⟨q, T2, ds, e, rfl, g2, z2, rfl, hs2⟩)
      · refine zz_fin.if rfl (fun cz => absurd cz (by decide)) (fun cz => ?_)
        refine zz_fin.steps (n := 1) (s' := (50, [some (.ref 540), some (.int (sp_hb b n p))], [.int 0], aa_H (g'))) rfl ?_
        exact zz_fin.at (n := 1) rfl (.inl ⟨f, pd_loop_inl hop e, rfl, g', rfl, mb_bad.tr hs.1 hb (by omega)⟩)
      · refine zz_fin.if rfl (fun cz => ?_) (fun cz => absurd rfl cz)
        obtain ⟨a1, a2, a3, a4, a5⟩ := pd_thing_gd b n (p + 1) T q T2 ds hpn hT e
        have hs3 := hs.tr hs2
        refine zz_fin.steps (n := 4) (s' := (56, [some (.ref 540), some (.int (sp_hb b n p))], [.int (200000 + (sp_hb b n p)), .ref 540], aa_H (tm_at g2 q z2))) rfl ?_
        refine zz_fin.call rfl rfl (Nat.le_of_ble_eq_true rfl) (mb_push (c := c + (cs ++ ds).length) hs3.2.1 (by rw [List.length_append]; omega)) ?_
        rintro v h' ⟨rfl, rfl⟩
        rw [pd_loop_inr hop e]
        refine zz_fin.steps (n := 1) (s' := (9, [some (.ref 540), some (.int (sp_hb b n p))], [], aa_H (tm_at (mb_one g2 (c + (cs ++ ds).length) (200000 + sp_hb b n p)) q z2))) rfl ?_
        exact ih q T2 _ _ z2 _ (by omega) a2 a4 (by rw [List.length_append, List.length_append, List.length_singleton]; omega) (hs3.tr (mb_st.one _ hs3.2.2.1))
    · refine zz_fin.steps (n := 1) (s' := (19, [some (.ref 540), x], [.ref 540], aa_H (tm_at g1 p z))) rfl ?_
      refine zz_fin.call rfl rfl (Nat.le_of_ble_eq_true rfl) (tm_here h1 (by omega)) ?_
      rintro v h ⟨rfl, rfl⟩
      refine zz_fin.steps (n := 1) (s' := (24, [some (.ref 540), x], [.int 47, .int (sp_hb b n p)], aa_H (tm_at g1 p z))) rfl ?_
      refine zz_fin.ic rfl (fun c2 => ?_) (fun c2 => ?_)
      · have n1 : ¬ sp_hb b n p = 42 := fun z => c1 (decide_eq_true z)
        have n2 : ¬ sp_hb b n p = 47 := of_decide_eq_true c2
        have hop : pd_o1 (sp_hb b n p) = false := by unfold pd_o1; rw [decide_eq_false n1, decide_eq_false n2, Bool.or_false]
        refine zz_fin.steps (n := 1) (s' := (63, [some (.ref 540), x], [.int 1], aa_H (tm_at g1 p z))) rfl ?_
        exact zz_fin.at (n := 1) rfl (.inr ⟨p, T, cs, pd_loop_no (k + 1) hop, rfl, g1, z, rfl, hs⟩)
      · have c0 : sp_hb b n p = 47 := Decidable.byContradiction fun z => c2 (decide_eq_true z)
        have hop : pd_o1 (sp_hb b n p) = true := by rw [c0]; decide
        have hpn : p < n := pd_in fun e => by rw [e] at hop; exact absurd hop (by decide)
        refine zz_fin.steps (n := 1) (s' := (28, [some (.ref 540), x], [.ref 540], aa_H (tm_at g1 p z))) rfl ?_
        refine zz_fin.call rfl rfl (Nat.le_of_ble_eq_true rfl) (tm_here h1 (by omega)) ?_
        rintro v h ⟨rfl, rfl⟩
        refine zz_fin.steps (n := 6) (s' := (39, [some (.ref 540), some (.int (sp_hb b n p))], [.int ((Int32.ofNat p) + 1), .ref 540], aa_H (tm_at g1 p z))) rfl ?_
        rw [aa_succ]
        refine zz_fin.steps (n := 1) (s' := (42, [some (.ref 540), some (.int (sp_hb b n p))], [], aa_H (zz_w (tm_at g1 p z) 540 5 (Int32.ofNat (p + 1))))) rfl ?_
        rw [tm_inc]
        refine zz_fin.steps (n := 1) (s' := (43, [some (.ref 540), some (.int (sp_hb b n p))], [.ref 540], aa_H (tm_at g1 (p + 1) z))) rfl ?_
        refine zz_fin.call rfl rfl (Nat.le_of_ble_eq_true rfl) (hi g1 (p + 1) T (c + cs.length) z h1 hpn hT (by omega) hs.2.1 hs.2.2.1) ?_
        rintro v h' (⟨f, e, rfl, g', rfl, hb⟩ | ⟨q, T2, ds, e, rfl, g2, z2, rfl, hs2⟩)
        · refine zz_fin.if rfl (fun cz => absurd cz (by decide)) (fun cz => ?_)
          refine zz_fin.steps (n := 1) (s' := (50, [some (.ref 540), some (.int (sp_hb b n p))], [.int 0], aa_H (g'))) rfl ?_
          exact zz_fin.at (n := 1) rfl (.inl ⟨f, pd_loop_inl hop e, rfl, g', rfl, mb_bad.tr hs.1 hb (by omega)⟩)
        · refine zz_fin.if rfl (fun cz => ?_) (fun cz => absurd rfl cz)
          obtain ⟨a1, a2, a3, a4, a5⟩ := pd_thing_gd b n (p + 1) T q T2 ds hpn hT e
          have hs3 := hs.tr hs2
          refine zz_fin.steps (n := 4) (s' := (56, [some (.ref 540), some (.int (sp_hb b n p))], [.int (200000 + (sp_hb b n p)), .ref 540], aa_H (tm_at g2 q z2))) rfl ?_
          refine zz_fin.call rfl rfl (Nat.le_of_ble_eq_true rfl) (mb_push (c := c + (cs ++ ds).length) hs3.2.1 (by rw [List.length_append]; omega)) ?_
          rintro v h' ⟨rfl, rfl⟩
          rw [pd_loop_inr hop e]
          refine zz_fin.steps (n := 1) (s' := (9, [some (.ref 540), some (.int (sp_hb b n p))], [], aa_H (tm_at (mb_one g2 (c + (cs ++ ds).length) (200000 + sp_hb b n p)) q z2))) rfl ?_
          exact ih q T2 _ _ z2 _ (by omega) a2 a4 (by rw [List.length_append, List.length_append, List.length_singleton]; omega) (hs3.tr (mb_st.one _ hs3.2.2.1))
theorem mb_prod {b : Nat → Int32} {n : Nat} (hi : mb_does b n 186 (pd_thing b n)) : mb_does b n 185 (pd_prod b n) := by
  intro g p T c z h hp hT hc h11 h12
  refine zz_fin.steps (n := 1) (s' := (1, [some (.ref 540), none], [.ref 540], aa_H (tm_at g p z))) rfl ?_
  refine zz_fin.call rfl rfl (Nat.le_of_ble_eq_true rfl) (hi g p T c z h hp hT hc h11 h12) ?_
  rintro v h' (⟨f, e, rfl, g', rfl, hb⟩ | ⟨q, T2, cs, e, rfl, g1, z1, rfl, hs⟩)
  · refine zz_fin.if rfl (fun cz => absurd cz (by decide)) (fun cz => ?_)
    exact zz_fin.at (n := 2) rfl (.inl ⟨f, pd_lvl_inl e, rfl, g', rfl, hb⟩)
  · refine zz_fin.if rfl (fun cz => ?_) (fun cz => absurd rfl cz)
    obtain ⟨a1, a2, a3, a4, a5⟩ := pd_thing_gd b n p T q T2 cs hp hT e
    rw [show pd_prod b n p T = _ from pd_lvl_inr e]
    exact mb_prodl h hi (n + 1) q T2 cs g1 z1 none (by omega) a2 a4 (by omega) hs
theorem mb_suml {b : Nat → Int32} {n c : Nat} {g : aa_G} (h : tm_ok g b n) (hi : mb_does b n 185 (pd_prod b n)) : ∀ (k p T : Nat) (cs : List Int32) (g1 : aa_G) (z : Int32) (x : Option Value), n < k + p → p ≤ n → T ≤ 40 → c + cs.length + 1 ≤ 60 + 2 * T → mb_st g g1 c cs T → zz_fin none 184 (9, [some (.ref 540), x], [], aa_H (tm_at g1 p z)) (mb_res g c (pd_loop pd_o2 (pd_prod b n) b n k p T cs)) := by
  have hn := h.2.1
  intro k
  induction k with
  | zero => intro p T cs g1 z x hk hp; omega
  | succ k ih =>
    intro p T cs g1 z x hk hp hT hc hs
    have h1 := mb_ok h hs.1
    refine zz_fin.steps (n := 1) (s' := (10, [some (.ref 540), x], [.ref 540], aa_H (tm_at g1 p z))) rfl ?_
    refine zz_fin.call rfl rfl (Nat.le_of_ble_eq_true rfl) (tm_here h1 (by omega)) ?_
    rintro v h ⟨rfl, rfl⟩
    refine zz_fin.steps (n := 1) (s' := (15, [some (.ref 540), x], [.int 43, .int (sp_hb b n p)], aa_H (tm_at g1 p z))) rfl ?_
    refine zz_fin.ic rfl (fun c1 => ?_) (fun c1 => ?_)
    · have c0 : sp_hb b n p = 43 := of_decide_eq_true c1
      have hop : pd_o2 (sp_hb b n p) = true := by rw [c0]; decide
      have hpn : p < n := pd_in fun e => by rw [e] at hop; exact absurd hop (by decide)
      refine zz_fin.steps (n := 1) (s' := (28, [some (.ref 540), x], [.ref 540], aa_H (tm_at g1 p z))) rfl ?_
      refine zz_fin.call rfl rfl (Nat.le_of_ble_eq_true rfl) (tm_here h1 (by omega)) ?_
      rintro v h ⟨rfl, rfl⟩
      refine zz_fin.steps (n := 6) (s' := (39, [some (.ref 540), some (.int (sp_hb b n p))], [.int ((Int32.ofNat p) + 1), .ref 540], aa_H (tm_at g1 p z))) rfl ?_
      rw [aa_succ]
      refine zz_fin.steps (n := 1) (s' := (42, [some (.ref 540), some (.int (sp_hb b n p))], [], aa_H (zz_w (tm_at g1 p z) 540 5 (Int32.ofNat (p + 1))))) rfl ?_
      rw [tm_inc]
      refine zz_fin.steps (n := 1) (s' := (43, [some (.ref 540), some (.int (sp_hb b n p))], [.ref 540], aa_H (tm_at g1 (p + 1) z))) rfl ?_
      refine zz_fin.call rfl rfl (Nat.le_of_ble_eq_true rfl) (hi g1 (p + 1) T (c + cs.length) z h1 hpn hT (by omega) hs.2.1 hs.2.2.1) ?_
      rintro v h' (⟨f, e, rfl, g', rfl, hb⟩ | ⟨q, T2, ds, e, rfl, g2, z2, rfl, hs2⟩)
      · refine zz_fin.if rfl (fun cz => absurd cz (by decide)) (fun cz => ?_)
        refine zz_fin.steps (n := 1) (s' := (50, [some (.ref 540), some (.int (sp_hb b n p))], [.int 0], aa_H (g'))) rfl ?_
        exact zz_fin.at (n := 1) rfl (.inl ⟨f, pd_loop_inl hop e, rfl, g', rfl, mb_bad.tr hs.1 hb (by omega)⟩)
      · refine zz_fin.if rfl (fun cz => ?_) (fun cz => absurd rfl cz)
        obtain ⟨a1, a2, a3, a4, a5⟩ := pd_prod_gd b n (p + 1) T q T2 ds hpn hT e
        have hs3 := hs.tr hs2
        refine zz_fin.steps (n := 4) (s' := (56, [some (.ref 540), some (.int (sp_hb b n p))], [.int (200000 + (sp_hb b n p)), .ref 540], aa_H (tm_at g2 q z2))) rfl ?_
        refine zz_fin.call rfl rfl (Nat.le_of_ble_eq_true rfl) (mb_push (c := c + (cs ++ ds).length) hs3.2.1 (by rw [List.length_append]; omega)) ?_
        rintro v h' ⟨rfl, rfl⟩
        rw [pd_loop_inr hop e]
        refine zz_fin.steps (n := 1) (s' := (9, [some (.ref 540), some (.int (sp_hb b n p))], [], aa_H (tm_at (mb_one g2 (c + (cs ++ ds).length) (200000 + sp_hb b n p)) q z2))) rfl ?_
        exact ih q T2 _ _ z2 _ (by omega) a2 a4 (by rw [List.length_append, List.length_append, List.length_singleton]; omega) (hs3.tr (mb_st.one _ hs3.2.2.1))
    · refine zz_fin.steps (n := 1) (s' := (19, [some (.ref 540), x], [.ref 540], aa_H (tm_at g1 p z))) rfl ?_
      refine zz_fin.call rfl rfl (Nat.le_of_ble_eq_true rfl) (tm_here h1 (by omega)) ?_
      rintro v h ⟨rfl, rfl⟩
      refine zz_fin.steps (n := 1) (s' := (24, [some (.ref 540), x], [.int 45, .int (sp_hb b n p)], aa_H (tm_at g1 p z))) rfl ?_
      refine zz_fin.ic rfl (fun c2 => ?_) (fun c2 => ?_)
      · have n1 : ¬ sp_hb b n p = 43 := fun z => c1 (decide_eq_true z)
        have n2 : ¬ sp_hb b n p = 45 := of_decide_eq_true c2
        have hop : pd_o2 (sp_hb b n p) = false := by unfold pd_o2; rw [decide_eq_false n1, decide_eq_false n2, Bool.or_false]
        refine zz_fin.steps (n := 1) (s' := (63, [some (.ref 540), x], [.int 1], aa_H (tm_at g1 p z))) rfl ?_
        exact zz_fin.at (n := 1) rfl (.inr ⟨p, T, cs, pd_loop_no (k + 1) hop, rfl, g1, z, rfl, hs⟩)
      · have c0 : sp_hb b n p = 45 := Decidable.byContradiction fun z => c2 (decide_eq_true z)
        have hop : pd_o2 (sp_hb b n p) = true := by rw [c0]; decide
        have hpn : p < n := pd_in fun e => by rw [e] at hop; exact absurd hop (by decide)
        refine zz_fin.steps (n := 1) (s' := (28, [some (.ref 540), x], [.ref 540], aa_H (tm_at g1 p z))) rfl ?_
        refine zz_fin.call rfl rfl (Nat.le_of_ble_eq_true rfl) (tm_here h1 (by omega)) ?_
        rintro v h ⟨rfl, rfl⟩
        refine zz_fin.steps (n := 6) (s' := (39, [some (.ref 540), some (.int (sp_hb b n p))], [.int ((Int32.ofNat p) + 1), .ref 540], aa_H (tm_at g1 p z))) rfl ?_
        rw [aa_succ]
        refine zz_fin.steps (n := 1) (s' := (42, [some (.ref 540), some (.int (sp_hb b n p))], [], aa_H (zz_w (tm_at g1 p z) 540 5 (Int32.ofNat (p + 1))))) rfl ?_
        rw [tm_inc]
        refine zz_fin.steps (n := 1) (s' := (43, [some (.ref 540), some (.int (sp_hb b n p))], [.ref 540], aa_H (tm_at g1 (p + 1) z))) rfl ?_
        refine zz_fin.call rfl rfl (Nat.le_of_ble_eq_true rfl) (hi g1 (p + 1) T (c + cs.length) z h1 hpn hT (by omega) hs.2.1 hs.2.2.1) ?_
        rintro v h' (⟨f, e, rfl, g', rfl, hb⟩ | ⟨q, T2, ds, e, rfl, g2, z2, rfl, hs2⟩)
        · refine zz_fin.if rfl (fun cz => absurd cz (by decide)) (fun cz => ?_)
          refine zz_fin.steps (n := 1) (s' := (50, [some (.ref 540), some (.int (sp_hb b n p))], [.int 0], aa_H (g'))) rfl ?_
          exact zz_fin.at (n := 1) rfl (.inl ⟨f, pd_loop_inl hop e, rfl, g', rfl, mb_bad.tr hs.1 hb (by omega)⟩)
        · refine zz_fin.if rfl (fun cz => ?_) (fun cz => absurd rfl cz)
          obtain ⟨a1, a2, a3, a4, a5⟩ := pd_prod_gd b n (p + 1) T q T2 ds hpn hT e
          have hs3 := hs.tr hs2
          refine zz_fin.steps (n := 4) (s' := (56, [some (.ref 540), some (.int (sp_hb b n p))], [.int (200000 + (sp_hb b n p)), .ref 540], aa_H (tm_at g2 q z2))) rfl ?_
          refine zz_fin.call rfl rfl (Nat.le_of_ble_eq_true rfl) (mb_push (c := c + (cs ++ ds).length) hs3.2.1 (by rw [List.length_append]; omega)) ?_
          rintro v h' ⟨rfl, rfl⟩
          rw [pd_loop_inr hop e]
          refine zz_fin.steps (n := 1) (s' := (9, [some (.ref 540), some (.int (sp_hb b n p))], [], aa_H (tm_at (mb_one g2 (c + (cs ++ ds).length) (200000 + sp_hb b n p)) q z2))) rfl ?_
          exact ih q T2 _ _ z2 _ (by omega) a2 a4 (by rw [List.length_append, List.length_append, List.length_singleton]; omega) (hs3.tr (mb_st.one _ hs3.2.2.1))
theorem mb_sum {b : Nat → Int32} {n : Nat} (hi : mb_does b n 185 (pd_prod b n)) : mb_does b n 184 (pd_sum b n) := by
  intro g p T c z h hp hT hc h11 h12
  refine zz_fin.steps (n := 1) (s' := (1, [some (.ref 540), none], [.ref 540], aa_H (tm_at g p z))) rfl ?_
  refine zz_fin.call rfl rfl (Nat.le_of_ble_eq_true rfl) (hi g p T c z h hp hT hc h11 h12) ?_
  rintro v h' (⟨f, e, rfl, g', rfl, hb⟩ | ⟨q, T2, cs, e, rfl, g1, z1, rfl, hs⟩)
  · refine zz_fin.if rfl (fun cz => absurd cz (by decide)) (fun cz => ?_)
    exact zz_fin.at (n := 2) rfl (.inl ⟨f, pd_lvl_inl e, rfl, g', rfl, hb⟩)
  · refine zz_fin.if rfl (fun cz => ?_) (fun cz => absurd rfl cz)
    obtain ⟨a1, a2, a3, a4, a5⟩ := pd_prod_gd b n p T q T2 cs hp hT e
    rw [show pd_sum b n p T = _ from pd_lvl_inr e]
    exact mb_suml h hi (n + 1) q T2 cs g1 z1 none (by omega) a2 a4 (by omega) hs
theorem mb_test {b : Nat → Int32} {n : Nat} (hi : mb_does b n 184 (pd_sum b n)) : mb_does b n 183 (pd_test b n) := by
  intro g p T c z h hp hT hc h11 h12
  have hn := h.2.1
  refine zz_fin.steps (n := 1) (s' := (1, [some (.ref 540), none], [.ref 540], aa_H (tm_at g p z))) rfl ?_
  refine zz_fin.call rfl rfl (Nat.le_of_ble_eq_true rfl) (hi g p T c z h hp hT hc h11 h12) ?_
  rintro v h' (⟨f, e, rfl, g', rfl, hb⟩ | ⟨q, T2, cs, e, rfl, g1, z1, rfl, hs⟩)
  · refine zz_fin.if rfl (fun cz => absurd cz (by decide)) (fun cz => ?_)
    exact zz_fin.at (n := 2) rfl (.inl ⟨f, pd_test_inl e, rfl, g', rfl, hb⟩)
  · refine zz_fin.if rfl (fun cz => ?_) (fun cz => absurd rfl cz)
    obtain ⟨a1, a2, a3, a4, a5⟩ := pd_sum_gd b n p T q T2 cs hp hT e
    rw [pd_test_inr e]
    have h1 := mb_ok h hs.1
    refine zz_fin.steps (n := 1) (s' := (10, [some (.ref 540), none], [.ref 540], aa_H (tm_at g1 q z1))) rfl ?_
    refine zz_fin.call rfl rfl (Nat.le_of_ble_eq_true rfl) (tm_here h1 (by omega)) ?_
    rintro v h ⟨rfl, rfl⟩
    refine zz_fin.steps (n := 3) (s' := (17, [some (.ref 540), some (.int (sp_hb b n q))], [.int 60, .int (sp_hb b n q)], aa_H (tm_at g1 q z1))) rfl ?_
    refine zz_fin.ic rfl (fun c1 => ?_) (fun c1 => ?_)
    · have c0 : sp_hb b n q = 60 := of_decide_eq_true c1
      have hop : pd_ot (sp_hb b n q) = true := by rw [c0]; decide
      have hpn : q < n := pd_in fun e => by rw [e] at hop; exact absurd hop (by decide)
      refine zz_fin.steps (n := 5) (s' := (48, [some (.ref 540), some (.int (sp_hb b n q))], [.int ((Int32.ofNat q) + 1), .ref 540], aa_H (tm_at g1 q z1))) rfl ?_
      rw [aa_succ]
      refine zz_fin.steps (n := 1) (s' := (51, [some (.ref 540), some (.int (sp_hb b n q))], [], aa_H (zz_w (tm_at g1 q z1) 540 5 (Int32.ofNat (q + 1))))) rfl ?_
      rw [tm_inc]
      refine zz_fin.steps (n := 1) (s' := (52, [some (.ref 540), some (.int (sp_hb b n q))], [.ref 540], aa_H (tm_at g1 (q + 1) z1))) rfl ?_
      refine zz_fin.call rfl rfl (Nat.le_of_ble_eq_true rfl) (hi g1 (q + 1) T2 (c + cs.length) z1 h1 hpn a4 (by omega) hs.2.1 hs.2.2.1) ?_
      rintro v h' (⟨f, e2, rfl, g', rfl, hb⟩ | ⟨q2, T3, ds, e2, rfl, g2, z2, rfl, hs2⟩)
      · refine zz_fin.if rfl (fun cz => absurd cz (by decide)) (fun cz => ?_)
        exact zz_fin.at (n := 2) rfl (.inl ⟨f, pd_test2_inl hop e2, rfl, g', rfl, mb_bad.tr hs.1 hb (by omega)⟩)
      · refine zz_fin.if rfl (fun cz => ?_) (fun cz => absurd rfl cz)
        obtain ⟨d1, d2, d3, d4, d5⟩ := pd_sum_gd b n (q + 1) T2 q2 T3 ds hpn a4 e2
        have hs3 := hs.tr hs2
        refine zz_fin.steps (n := 4) (s' := (65, [some (.ref 540), some (.int (sp_hb b n q))], [.int (200000 + (sp_hb b n q)), .ref 540], aa_H (tm_at g2 q2 z2))) rfl ?_
        refine zz_fin.call rfl rfl (Nat.le_of_ble_eq_true rfl) (mb_push (c := c + (cs ++ ds).length) hs3.2.1 (by rw [List.length_append]; omega)) ?_
        rintro v h' ⟨rfl, rfl⟩
        exact zz_fin.at (n := 2) rfl (.inr ⟨q2, T3, cs ++ ds ++ [200000 + sp_hb b n q], pd_test2_inr hop e2, rfl, _, z2, rfl, hs3.tr (mb_st.one _ hs3.2.2.1)⟩)
    · refine zz_fin.steps (n := 2) (s' := (23, [some (.ref 540), some (.int (sp_hb b n q))], [.int 62, .int (sp_hb b n q)], aa_H (tm_at g1 q z1))) rfl ?_
      refine zz_fin.ic rfl (fun c2 => ?_) (fun c2 => ?_)
      · have c0 : sp_hb b n q = 62 := of_decide_eq_true c2
        have hop : pd_ot (sp_hb b n q) = true := by rw [c0]; decide
        have hpn : q < n := pd_in fun e => by rw [e] at hop; exact absurd hop (by decide)
        refine zz_fin.steps (n := 5) (s' := (48, [some (.ref 540), some (.int (sp_hb b n q))], [.int ((Int32.ofNat q) + 1), .ref 540], aa_H (tm_at g1 q z1))) rfl ?_
        rw [aa_succ]
        refine zz_fin.steps (n := 1) (s' := (51, [some (.ref 540), some (.int (sp_hb b n q))], [], aa_H (zz_w (tm_at g1 q z1) 540 5 (Int32.ofNat (q + 1))))) rfl ?_
        rw [tm_inc]
        refine zz_fin.steps (n := 1) (s' := (52, [some (.ref 540), some (.int (sp_hb b n q))], [.ref 540], aa_H (tm_at g1 (q + 1) z1))) rfl ?_
        refine zz_fin.call rfl rfl (Nat.le_of_ble_eq_true rfl) (hi g1 (q + 1) T2 (c + cs.length) z1 h1 hpn a4 (by omega) hs.2.1 hs.2.2.1) ?_
        rintro v h' (⟨f, e2, rfl, g', rfl, hb⟩ | ⟨q2, T3, ds, e2, rfl, g2, z2, rfl, hs2⟩)
        · refine zz_fin.if rfl (fun cz => absurd cz (by decide)) (fun cz => ?_)
          exact zz_fin.at (n := 2) rfl (.inl ⟨f, pd_test2_inl hop e2, rfl, g', rfl, mb_bad.tr hs.1 hb (by omega)⟩)
        · refine zz_fin.if rfl (fun cz => ?_) (fun cz => absurd rfl cz)
          obtain ⟨d1, d2, d3, d4, d5⟩ := pd_sum_gd b n (q + 1) T2 q2 T3 ds hpn a4 e2
          have hs3 := hs.tr hs2
          refine zz_fin.steps (n := 4) (s' := (65, [some (.ref 540), some (.int (sp_hb b n q))], [.int (200000 + (sp_hb b n q)), .ref 540], aa_H (tm_at g2 q2 z2))) rfl ?_
          refine zz_fin.call rfl rfl (Nat.le_of_ble_eq_true rfl) (mb_push (c := c + (cs ++ ds).length) hs3.2.1 (by rw [List.length_append]; omega)) ?_
          rintro v h' ⟨rfl, rfl⟩
          exact zz_fin.at (n := 2) rfl (.inr ⟨q2, T3, cs ++ ds ++ [200000 + sp_hb b n q], pd_test2_inr hop e2, rfl, _, z2, rfl, hs3.tr (mb_st.one _ hs3.2.2.1)⟩)
      · refine zz_fin.steps (n := 2) (s' := (29, [some (.ref 540), some (.int (sp_hb b n q))], [.int 61, .int (sp_hb b n q)], aa_H (tm_at g1 q z1))) rfl ?_
        refine zz_fin.ic rfl (fun c3 => ?_) (fun c3 => ?_)
        · have c0 : sp_hb b n q = 61 := of_decide_eq_true c3
          have hop : pd_ot (sp_hb b n q) = true := by rw [c0]; decide
          have hpn : q < n := pd_in fun e => by rw [e] at hop; exact absurd hop (by decide)
          refine zz_fin.steps (n := 5) (s' := (48, [some (.ref 540), some (.int (sp_hb b n q))], [.int ((Int32.ofNat q) + 1), .ref 540], aa_H (tm_at g1 q z1))) rfl ?_
          rw [aa_succ]
          refine zz_fin.steps (n := 1) (s' := (51, [some (.ref 540), some (.int (sp_hb b n q))], [], aa_H (zz_w (tm_at g1 q z1) 540 5 (Int32.ofNat (q + 1))))) rfl ?_
          rw [tm_inc]
          refine zz_fin.steps (n := 1) (s' := (52, [some (.ref 540), some (.int (sp_hb b n q))], [.ref 540], aa_H (tm_at g1 (q + 1) z1))) rfl ?_
          refine zz_fin.call rfl rfl (Nat.le_of_ble_eq_true rfl) (hi g1 (q + 1) T2 (c + cs.length) z1 h1 hpn a4 (by omega) hs.2.1 hs.2.2.1) ?_
          rintro v h' (⟨f, e2, rfl, g', rfl, hb⟩ | ⟨q2, T3, ds, e2, rfl, g2, z2, rfl, hs2⟩)
          · refine zz_fin.if rfl (fun cz => absurd cz (by decide)) (fun cz => ?_)
            exact zz_fin.at (n := 2) rfl (.inl ⟨f, pd_test2_inl hop e2, rfl, g', rfl, mb_bad.tr hs.1 hb (by omega)⟩)
          · refine zz_fin.if rfl (fun cz => ?_) (fun cz => absurd rfl cz)
            obtain ⟨d1, d2, d3, d4, d5⟩ := pd_sum_gd b n (q + 1) T2 q2 T3 ds hpn a4 e2
            have hs3 := hs.tr hs2
            refine zz_fin.steps (n := 4) (s' := (65, [some (.ref 540), some (.int (sp_hb b n q))], [.int (200000 + (sp_hb b n q)), .ref 540], aa_H (tm_at g2 q2 z2))) rfl ?_
            refine zz_fin.call rfl rfl (Nat.le_of_ble_eq_true rfl) (mb_push (c := c + (cs ++ ds).length) hs3.2.1 (by rw [List.length_append]; omega)) ?_
            rintro v h' ⟨rfl, rfl⟩
            exact zz_fin.at (n := 2) rfl (.inr ⟨q2, T3, cs ++ ds ++ [200000 + sp_hb b n q], pd_test2_inr hop e2, rfl, _, z2, rfl, hs3.tr (mb_st.one _ hs3.2.2.1)⟩)
        · have n1 : ¬ sp_hb b n q = 60 := fun z => c1 (decide_eq_true z)
          have n2 : ¬ sp_hb b n q = 62 := fun z => c2 (decide_eq_true z)
          have n3 : ¬ sp_hb b n q = 61 := fun z => c3 (decide_eq_true z)
          have hop : pd_ot (sp_hb b n q) = false := by unfold pd_ot; rw [decide_eq_false n1, decide_eq_false n2, decide_eq_false n3, Bool.or_false, Bool.or_false]
          refine zz_fin.steps (n := 3) (s' := (37, [some (.ref 540), some (.int (sp_hb b n q))], [.int (Int32.ofNat q), .ref 540], aa_H (tm_at g1 q z1))) rfl ?_
          refine zz_fin.call rfl rfl (Nat.le_of_ble_eq_true rfl) (tm_fails _) ?_
          rintro v h' ⟨rfl, rfl⟩
          exact zz_fin.at (n := 1) rfl (.inl ⟨q, pd_test2_no hop, rfl, _, rfl, mb_bad.of hs.1 (tm_bad_of g1 q z1 q)⟩)
theorem mb_bothl {b : Nat → Int32} {n c : Nat} {g : aa_G} (h : tm_ok g b n) (hi : mb_does b n 183 (pd_test b n)) : ∀ (k p T : Nat) (cs : List Int32) (g1 : aa_G) (z : Int32) , n < k + p → p ≤ n → T ≤ 40 → c + cs.length + 1 ≤ 60 + 2 * T → mb_st g g1 c cs T → zz_fin none 182 (9, [some (.ref 540)], [], aa_H (tm_at g1 p z)) (mb_res g c (pd_loop pd_o3 (pd_test b n) b n k p T cs)) := by
  have hn := h.2.1
  intro k
  induction k with
  | zero => intro p T cs g1 z  hk hp; omega
  | succ k ih =>
    intro p T cs g1 z  hk hp hT hc hs
    have h1 := mb_ok h hs.1
    refine zz_fin.steps (n := 1) (s' := (10, [some (.ref 540)], [.ref 540], aa_H (tm_at g1 p z))) rfl ?_
    refine zz_fin.call rfl rfl (Nat.le_of_ble_eq_true rfl) (tm_here h1 (by omega)) ?_
    rintro v h ⟨rfl, rfl⟩
    refine zz_fin.steps (n := 1) (s' := (15, [some (.ref 540)], [.int 38, .int (sp_hb b n p)], aa_H (tm_at g1 p z))) rfl ?_
    refine zz_fin.ic rfl (fun c1 => ?_) (fun c1 => ?_)
    · have n1 : ¬ sp_hb b n p = 38 := of_decide_eq_true c1
      have hop : pd_o3 (sp_hb b n p) = false := decide_eq_false n1
      refine zz_fin.steps (n := 1) (s' := (47, [some (.ref 540)], [.int 1], aa_H (tm_at g1 p z))) rfl ?_
      exact zz_fin.at (n := 1) rfl (.inr ⟨p, T, cs, pd_loop_no (k + 1) hop, rfl, g1, z, rfl, hs⟩)
    · have c0 : sp_hb b n p = 38 := Decidable.byContradiction fun z => c1 (decide_eq_true z)
      have hop : pd_o3 (sp_hb b n p) = true := by rw [c0]; decide
      have hpn : p < n := pd_in fun e => by rw [e] at hop; exact absurd hop (by decide)
      refine zz_fin.steps (n := 5) (s' := (25, [some (.ref 540)], [.int ((Int32.ofNat p) + 1), .ref 540], aa_H (tm_at g1 p z))) rfl ?_
      rw [aa_succ]
      refine zz_fin.steps (n := 1) (s' := (28, [some (.ref 540)], [], aa_H (zz_w (tm_at g1 p z) 540 5 (Int32.ofNat (p + 1))))) rfl ?_
      rw [tm_inc]
      refine zz_fin.steps (n := 1) (s' := (29, [some (.ref 540)], [.ref 540], aa_H (tm_at g1 (p + 1) z))) rfl ?_
      refine zz_fin.call rfl rfl (Nat.le_of_ble_eq_true rfl) (hi g1 (p + 1) T (c + cs.length) z h1 hpn hT (by omega) hs.2.1 hs.2.2.1) ?_
      rintro v h' (⟨f, e, rfl, g', rfl, hb⟩ | ⟨q, T2, ds, e, rfl, g2, z2, rfl, hs2⟩)
      · refine zz_fin.if rfl (fun cz => absurd cz (by decide)) (fun cz => ?_)
        refine zz_fin.steps (n := 1) (s' := (36, [some (.ref 540)], [.int 0], aa_H (g'))) rfl ?_
        exact zz_fin.at (n := 1) rfl (.inl ⟨f, pd_loop_inl hop e, rfl, g', rfl, mb_bad.tr hs.1 hb (by omega)⟩)
      · refine zz_fin.if rfl (fun cz => ?_) (fun cz => absurd rfl cz)
        obtain ⟨a1, a2, a3, a4, a5⟩ := pd_test_gd b n (p + 1) T q T2 ds hpn hT e
        have hs3 := hs.tr hs2
        refine zz_fin.steps (n := 2) (s' := (40, [some (.ref 540)], [.int 200038, .ref 540], aa_H (tm_at g2 q z2))) rfl ?_
        rw [show (200038 : Int32) = 200000 + sp_hb b n p from (show (200038 : Int32) = 200000 + 38 by decide).trans (congrArg (fun x => 200000 + x) c0.symm)]
        refine zz_fin.call rfl rfl (Nat.le_of_ble_eq_true rfl) (mb_push (c := c + (cs ++ ds).length) hs3.2.1 (by rw [List.length_append]; omega)) ?_
        rintro v h' ⟨rfl, rfl⟩
        rw [pd_loop_inr hop e]
        refine zz_fin.steps (n := 1) (s' := (9, [some (.ref 540)], [], aa_H (tm_at (mb_one g2 (c + (cs ++ ds).length) (200000 + sp_hb b n p)) q z2))) rfl ?_
        exact ih q T2 _ _ z2 (by omega) a2 a4 (by rw [List.length_append, List.length_append, List.length_singleton]; omega) (hs3.tr (mb_st.one _ hs3.2.2.1))
theorem mb_both {b : Nat → Int32} {n : Nat} (hi : mb_does b n 183 (pd_test b n)) : mb_does b n 182 (pd_both b n) := by
  intro g p T c z h hp hT hc h11 h12
  refine zz_fin.steps (n := 1) (s' := (1, [some (.ref 540)], [.ref 540], aa_H (tm_at g p z))) rfl ?_
  refine zz_fin.call rfl rfl (Nat.le_of_ble_eq_true rfl) (hi g p T c z h hp hT hc h11 h12) ?_
  rintro v h' (⟨f, e, rfl, g', rfl, hb⟩ | ⟨q, T2, cs, e, rfl, g1, z1, rfl, hs⟩)
  · refine zz_fin.if rfl (fun cz => absurd cz (by decide)) (fun cz => ?_)
    exact zz_fin.at (n := 2) rfl (.inl ⟨f, pd_lvl_inl e, rfl, g', rfl, hb⟩)
  · refine zz_fin.if rfl (fun cz => ?_) (fun cz => absurd rfl cz)
    obtain ⟨a1, a2, a3, a4, a5⟩ := pd_test_gd b n p T q T2 cs hp hT e
    rw [show pd_both b n p T = _ from pd_lvl_inr e]
    exact mb_bothl h hi (n + 1) q T2 cs g1 z1 (by omega) a2 a4 (by omega) hs
theorem mb_condl {b : Nat → Int32} {n c : Nat} {g : aa_G} (h : tm_ok g b n) (hi : mb_does b n 182 (pd_both b n)) : ∀ (k p T : Nat) (cs : List Int32) (g1 : aa_G) (z : Int32) , n < k + p → p ≤ n → T ≤ 40 → c + cs.length + 1 ≤ 60 + 2 * T → mb_st g g1 c cs T → zz_fin none 181 (9, [some (.ref 540)], [], aa_H (tm_at g1 p z)) (mb_res g c (pd_loop pd_o4 (pd_both b n) b n k p T cs)) := by
  have hn := h.2.1
  intro k
  induction k with
  | zero => intro p T cs g1 z  hk hp; omega
  | succ k ih =>
    intro p T cs g1 z  hk hp hT hc hs
    have h1 := mb_ok h hs.1
    refine zz_fin.steps (n := 1) (s' := (10, [some (.ref 540)], [.ref 540], aa_H (tm_at g1 p z))) rfl ?_
    refine zz_fin.call rfl rfl (Nat.le_of_ble_eq_true rfl) (tm_here h1 (by omega)) ?_
    rintro v h ⟨rfl, rfl⟩
    refine zz_fin.steps (n := 1) (s' := (15, [some (.ref 540)], [.int 124, .int (sp_hb b n p)], aa_H (tm_at g1 p z))) rfl ?_
    refine zz_fin.ic rfl (fun c1 => ?_) (fun c1 => ?_)
    · have n1 : ¬ sp_hb b n p = 124 := of_decide_eq_true c1
      have hop : pd_o4 (sp_hb b n p) = false := decide_eq_false n1
      refine zz_fin.steps (n := 1) (s' := (47, [some (.ref 540)], [.int 1], aa_H (tm_at g1 p z))) rfl ?_
      exact zz_fin.at (n := 1) rfl (.inr ⟨p, T, cs, pd_loop_no (k + 1) hop, rfl, g1, z, rfl, hs⟩)
    · have c0 : sp_hb b n p = 124 := Decidable.byContradiction fun z => c1 (decide_eq_true z)
      have hop : pd_o4 (sp_hb b n p) = true := by rw [c0]; decide
      have hpn : p < n := pd_in fun e => by rw [e] at hop; exact absurd hop (by decide)
      refine zz_fin.steps (n := 5) (s' := (25, [some (.ref 540)], [.int ((Int32.ofNat p) + 1), .ref 540], aa_H (tm_at g1 p z))) rfl ?_
      rw [aa_succ]
      refine zz_fin.steps (n := 1) (s' := (28, [some (.ref 540)], [], aa_H (zz_w (tm_at g1 p z) 540 5 (Int32.ofNat (p + 1))))) rfl ?_
      rw [tm_inc]
      refine zz_fin.steps (n := 1) (s' := (29, [some (.ref 540)], [.ref 540], aa_H (tm_at g1 (p + 1) z))) rfl ?_
      refine zz_fin.call rfl rfl (Nat.le_of_ble_eq_true rfl) (hi g1 (p + 1) T (c + cs.length) z h1 hpn hT (by omega) hs.2.1 hs.2.2.1) ?_
      rintro v h' (⟨f, e, rfl, g', rfl, hb⟩ | ⟨q, T2, ds, e, rfl, g2, z2, rfl, hs2⟩)
      · refine zz_fin.if rfl (fun cz => absurd cz (by decide)) (fun cz => ?_)
        refine zz_fin.steps (n := 1) (s' := (36, [some (.ref 540)], [.int 0], aa_H (g'))) rfl ?_
        exact zz_fin.at (n := 1) rfl (.inl ⟨f, pd_loop_inl hop e, rfl, g', rfl, mb_bad.tr hs.1 hb (by omega)⟩)
      · refine zz_fin.if rfl (fun cz => ?_) (fun cz => absurd rfl cz)
        obtain ⟨a1, a2, a3, a4, a5⟩ := pd_both_gd b n (p + 1) T q T2 ds hpn hT e
        have hs3 := hs.tr hs2
        refine zz_fin.steps (n := 2) (s' := (40, [some (.ref 540)], [.int 200124, .ref 540], aa_H (tm_at g2 q z2))) rfl ?_
        rw [show (200124 : Int32) = 200000 + sp_hb b n p from (show (200124 : Int32) = 200000 + 124 by decide).trans (congrArg (fun x => 200000 + x) c0.symm)]
        refine zz_fin.call rfl rfl (Nat.le_of_ble_eq_true rfl) (mb_push (c := c + (cs ++ ds).length) hs3.2.1 (by rw [List.length_append]; omega)) ?_
        rintro v h' ⟨rfl, rfl⟩
        rw [pd_loop_inr hop e]
        refine zz_fin.steps (n := 1) (s' := (9, [some (.ref 540)], [], aa_H (tm_at (mb_one g2 (c + (cs ++ ds).length) (200000 + sp_hb b n p)) q z2))) rfl ?_
        exact ih q T2 _ _ z2 (by omega) a2 a4 (by rw [List.length_append, List.length_append, List.length_singleton]; omega) (hs3.tr (mb_st.one _ hs3.2.2.1))
theorem mb_cond {b : Nat → Int32} {n : Nat} (hi : mb_does b n 182 (pd_both b n)) : mb_does b n 181 (pd_cond b n) := by
  intro g p T c z h hp hT hc h11 h12
  refine zz_fin.steps (n := 1) (s' := (1, [some (.ref 540)], [.ref 540], aa_H (tm_at g p z))) rfl ?_
  refine zz_fin.call rfl rfl (Nat.le_of_ble_eq_true rfl) (hi g p T c z h hp hT hc h11 h12) ?_
  rintro v h' (⟨f, e, rfl, g', rfl, hb⟩ | ⟨q, T2, cs, e, rfl, g1, z1, rfl, hs⟩)
  · refine zz_fin.if rfl (fun cz => absurd cz (by decide)) (fun cz => ?_)
    exact zz_fin.at (n := 2) rfl (.inl ⟨f, pd_lvl_inl e, rfl, g', rfl, hb⟩)
  · refine zz_fin.if rfl (fun cz => ?_) (fun cz => absurd rfl cz)
    obtain ⟨a1, a2, a3, a4, a5⟩ := pd_both_gd b n p T q T2 cs hp hT e
    rw [show pd_cond b n p T = _ from pd_lvl_inr e]
    exact mb_condl h hi (n + 1) q T2 cs g1 z1 (by omega) a2 a4 (by omega) hs
theorem mb_cond_all (b : Nat → Int32) (n : Nat) : mb_does b n 181 (pd_cond b n) := mb_cond (mb_both (mb_test (mb_sum (mb_prod (mb_thing b n)))))
