/-! A TEXT: the class reads an item -/
theorem ct_rtown {g : aa_G} {b : Nat → Int32} {n p : Nat} {A : sp_A} (h : tc_ok g b n) (hA : cvs g 34 A) (hp : p < n) : zz_fin none 24 (0, zz_in [.ref 454, .ref 34] (zz_nl 24), [], aa_H (tc_at g b n p)) (ct_res g b n (sp_rtown b n p A)) := by
  have h0 : tc_at g b n p 34 0 = Int32.ofNat A.1.1 := (cvs_at hA).1
  have h4 := hA.2.1
  unfold sp_rtown
  refine zz_fin.steps (n := 3) (s' := (5, [some (.ref 454), some (.ref 34)], [.int 4, .int ((tc_at g b n p) 34 0)], aa_H (tc_at g b n p))) rfl ?_
  rw [h0]
  refine zz_fin.ic rfl (fun c1 => ?_) (fun c1 => ?_)
  · have c1 : (Int32.ofNat A.1.1).toInt < (4 : Int32).toInt := aa_lt32.mp (of_decide_eq_true c1)
    rw [zz_ofN (by omega), show (4 : Int32).toInt = 4 from rfl] at c1
    have c1 : A.1.1 < 4 := by omega
    rw [if_neg (by omega)]
    refine zz_fin.steps (n := 1) (s' := (14, [some (.ref 454), some (.ref 34)], [.ref 454], aa_H (tc_at g b n p))) rfl ?_
    refine zz_fin.call rfl rfl (Nat.le_of_ble_eq_true rfl) (tc_step h hp) ?_
    rintro v h ⟨rfl, rfl⟩
    refine zz_fin.steps (n := 4) (s' := (23, [some (.ref 454), some (.ref 34)], [.int 43200, .int (-43200), .int 1, .ref 454], aa_H (tc_at g b n (p + 1)))) rfl ?_
    refine zz_fin.call rfl rfl (Nat.le_of_ble_eq_true rfl) (tc_num (neg := true) h (p := p + 1) hp (-43200) 43200) ?_
    rintro v h (⟨f, hf, rfl, g', rfl, hg⟩ | ⟨q, z, hq, rfl, rfl⟩)
    · rw [hf]
      refine zz_fin.if rfl (fun cz => absurd cz (by decide)) (fun cz => ?_)
      refine zz_fin.steps (n := 1) (s' := (30, [some (.ref 454), some (.ref 34)], [.int 0], aa_H (g'))) rfl ?_
      exact zz_fin.at (n := 1) rfl (.inl ⟨f, rfl, rfl, g', rfl, ct_fr.rf.bad hg⟩)
    · rw [hq]
      have hqn := sp_num_n hq hp
      refine zz_fin.if rfl (fun cz => ?_) (fun cz => absurd rfl cz)
      refine zz_fin.steps (n := 3) (s' := (36, [some (.ref 454), some (.ref 34)], [.int z, .ref 34], aa_H (tc_at (zz_w g 454 3 z) b n q))) rfl ?_
      refine zz_fin.call rfl rfl (Nat.le_of_ble_eq_true rfl) (ct_add (t := A.1.1) c1 (cvs_at (cvs_num hA)).1) ?_
      rintro v h ⟨rfl, rfl⟩
      refine zz_fin.at (n := 2) rfl (.inr ⟨q, _, rfl, hqn.1, rfl, zz_w (zz_w (zz_w (zz_w g 454 3 z) (5 * A.1.1 + 46) 0 z) (5 * A.1.1 + 46) 1 0) 34 0 (Int32.ofNat (A.1.1 + 1)), ?_, (ct_fr.num z).tr fun k j e1 e2 => ?_, cvs_town (cvs_num hA) c1⟩)
      · rw [tc_comm _ _ _ _ (by omega), tc_comm _ _ _ _ (by omega), tc_comm _ _ _ _ (by omega)]
      · rw [aa_w_ne _ _ (by omega), aa_w_ne _ _ (by omega), aa_w_ne _ _ (by omega)]
  · have c1 : A.1.1 = 4 := Decidable.byContradiction fun z => c1 (decide_eq_true (aa_lt32.mpr (by rw [zz_ofN (by omega), show (4 : Int32).toInt = 4 from rfl]; omega)))
    rw [if_pos c1]
    refine zz_fin.steps (n := 1) (s' := (9, [some (.ref 454), some (.ref 34)], [.ref 454], aa_H (tc_at g b n p))) rfl ?_
    refine zz_fin.call rfl rfl (Nat.le_of_ble_eq_true rfl) (tc_fail) ?_
    rintro v h ⟨rfl, g', rfl, hg⟩
    exact zz_fin.at (n := 1) rfl (.inl ⟨p, rfl, rfl, g', rfl, ct_fr.rf.bad hg⟩)
theorem ct_kind {g : aa_G} {b : Nat → Int32} {n p : Nat} {A : sp_A} {y : Int32} (h : tc_ok g b n) (hA : cvs g 34 A) (hp : p ≤ n) {t : Nat} (ht0 : A.1.1 = t + 1) (hc : A.2.1 t < 12) : zz_fin none 37 (0, zz_in [.ref 454, .ref (5 * t + 46), .int y] (zz_nl 37), [], aa_H (tc_at g b n p)) (ct_res g b n (sp_kind b n p y A)) := by
  have ht : t < 4 := by have := hA.2.1; omega
  have ht1 : A.1.1 - 1 = t := by omega
  unfold sp_kind
  refine zz_fin.steps (n := 4) (s' := (4, [some (.ref 454), some (.ref (5 * t + 46)), some (.int y)], [.int 1, .int 0, .int 1, .ref 454], aa_H (tc_at g b n p))) rfl ?_
  refine zz_fin.call rfl rfl (Nat.le_of_ble_eq_true rfl) (tc_num (neg := true) h hp 0 1) ?_
  rintro v h (⟨f, hf, rfl, g', rfl, hg⟩ | ⟨q, z, hq, rfl, rfl⟩)
  · rw [hf]
    refine zz_fin.if rfl (fun cz => absurd cz (by decide)) (fun cz => ?_)
    refine zz_fin.steps (n := 1) (s' := (11, [some (.ref 454), some (.ref (5 * t + 46)), some (.int y)], [.int 0], aa_H (g'))) rfl ?_
    exact zz_fin.at (n := 1) rfl (.inl ⟨f, rfl, rfl, g', rfl, ct_fr.rf.bad hg⟩)
  · rw [hq]
    have hqn := sp_num_n hq hp
    refine zz_fin.if rfl (fun cz => ?_) (fun cz => absurd rfl cz)
    refine zz_fin.steps (n := 6) (s' := (20, [some (.ref 454), some (.ref (5 * t + 46)), some (.int y)], [.int z, .int (-1), .int (-1), .int y, .ref (5 * t + 46)], aa_H (tc_at (zz_w g 454 3 z) b n q))) rfl ?_
    refine zz_fin.callv (k := 5 * t + 45) (as := [.int y, .int (-1), .int (-1), .int z]) rfl rfl rfl (dt_obj_34 ht) (Nat.le_of_ble_eq_true rfl) (Nat.le_of_ble_eq_true rfl) (dt_app_34 (i := A.2.1 t) ht hc ((cvs_at (cvs_num hA)).2.2 t (by omega)).2.1) ?_
    rintro v h ⟨rfl, rfl⟩
    refine zz_fin.at (n := 2) rfl (.inr ⟨_, _, rfl, hqn.1, rfl, ct_pt (zz_w g 454 3 z) t (A.2.1 t) y (-1) (-1) z, ?_, (ct_fr.num z).tr (ct_pt_fr ht), ?_⟩)
    · exact congrArg aa_H (ct_pt_tc _ _ _ _ ht)
    · have k := cvs_point (g := zz_w g 454 3 z) (y := y) (d := (-1)) (k := (-1)) (p := z) (cvs_num hA) (by omega) (by rw [ht1]; exact hc)
      rwa [ht1] at k
theorem ct_hours {g : aa_G} {b : Nat → Int32} {n p : Nat} {A : sp_A} {y : Int32} (h : tc_ok g b n) (hA : cvs g 34 A) (hp : p ≤ n) {t : Nat} (ht0 : A.1.1 = t + 1) (hc : A.2.1 t < 12) : zz_fin none 34 (0, zz_in [.ref 454, .ref (5 * t + 46), .int y] (zz_nl 34), [], aa_H (tc_at g b n p)) (ct_res g b n (sp_hours b n p y A)) := by
  have ht : t < 4 := by have := hA.2.1; omega
  have ht1 : A.1.1 - 1 = t := by omega
  unfold sp_hours
  refine zz_fin.steps (n := 4) (s' := (5, [some (.ref 454), some (.ref (5 * t + 46)), some (.int y), none], [.int 86399, .int 0, .int 1, .ref 454], aa_H (tc_at g b n p))) rfl ?_
  refine zz_fin.call rfl rfl (Nat.le_of_ble_eq_true rfl) (tc_num (neg := true) h hp 0 86399) ?_
  rintro v h (⟨f, hf, rfl, g', rfl, hg⟩ | ⟨q, z, hq, rfl, rfl⟩)
  · rw [hf]
    refine zz_fin.if rfl (fun cz => absurd cz (by decide)) (fun cz => ?_)
    refine zz_fin.steps (n := 1) (s' := (12, [some (.ref 454), some (.ref (5 * t + 46)), some (.int y), none], [.int 0], aa_H (g'))) rfl ?_
    exact zz_fin.at (n := 1) rfl (.inl ⟨f, rfl, rfl, g', rfl, ct_fr.rf.bad hg⟩)
  · rw [hq]
    have hqn := sp_num_n hq hp
    refine zz_fin.if rfl (fun cz => ?_) (fun cz => absurd rfl cz)
    unfold sp_then sp_pass
    dsimp only
    refine zz_fin.steps (n := 5) (s' := (21, [some (.ref 454), some (.ref (5 * t + 46)), some (.int y), some (.int z)], [.int 44, .ref 454], aa_H (tc_at (zz_w g 454 3 z) b n q))) rfl ?_
    refine zz_fin.call rfl rfl (Nat.le_of_ble_eq_true rfl) (tc_pass (tc_ok3 h z) (by decide)) ?_
    rintro v h (⟨rfl, hs, hqn2, rfl⟩ | ⟨rfl, hs, g', rfl, hg⟩)
    · rw [if_pos hs]
      refine zz_fin.if rfl (fun cz => zc_no1 cz) (fun cz => ?_)
      refine zz_fin.steps (n := 6) (s' := (34, [some (.ref 454), some (.ref (5 * t + 46)), some (.int y), some (.int z)], [.int 86399, .int (z + 1), .int 1, .ref 454], aa_H (tc_at (zz_w g 454 3 z) b n (q + 1)))) rfl ?_
      refine zz_fin.call rfl rfl (Nat.le_of_ble_eq_true rfl) (tc_num (neg := true) (tc_ok3 h z) (p := q + 1) hqn2 (z + 1) 86399) ?_
      rintro v h (⟨f, hf, rfl, g', rfl, hg⟩ | ⟨q2, z2, hq2, rfl, rfl⟩)
      · rw [hf]
        refine zz_fin.if rfl (fun cz => absurd cz (by decide)) (fun cz => ?_)
        refine zz_fin.steps (n := 1) (s' := (41, [some (.ref 454), some (.ref (5 * t + 46)), some (.int y), some (.int z)], [.int 0], aa_H (g'))) rfl ?_
        exact zz_fin.at (n := 1) rfl (.inl ⟨f, rfl, rfl, g', rfl, (ct_fr.num z).bad hg⟩)
      · rw [hq2]
        have hqn := sp_num_n hq2 hqn2
        refine zz_fin.if rfl (fun cz => ?_) (fun cz => absurd rfl cz)
        refine zz_fin.steps (n := 6) (s' := (50, [some (.ref 454), some (.ref (5 * t + 46)), some (.int y), some (.int z)], [.int (-1), .int z2, .int z, .int y, .ref (5 * t + 46)], aa_H (tc_at (zz_w (zz_w g 454 3 z) 454 3 z2) b n q2))) rfl ?_
        refine zz_fin.callv (k := 5 * t + 45) (as := [.int y, .int z, .int z2, .int (-1)]) rfl rfl rfl (dt_obj_34 ht) (Nat.le_of_ble_eq_true rfl) (Nat.le_of_ble_eq_true rfl) (dt_app_34 (i := A.2.1 t) ht hc ((cvs_at (cvs_num (cvs_num hA))).2.2 t (by omega)).2.1) ?_
        rintro v h ⟨rfl, rfl⟩
        refine zz_fin.at (n := 2) rfl (.inr ⟨_, _, rfl, hqn.1, rfl, ct_pt (zz_w (zz_w g 454 3 z) 454 3 z2) t (A.2.1 t) y z z2 (-1), ?_, ((ct_fr.num z).tr (ct_fr.num z2)).tr (ct_pt_fr ht), ?_⟩)
        · exact congrArg aa_H (ct_pt_tc _ _ _ _ ht)
        · have k := cvs_point (g := zz_w (zz_w g 454 3 z) 454 3 z2) (y := y) (d := z) (k := z2) (p := (-1)) (cvs_num (cvs_num hA)) (by omega) (by rw [ht1]; exact hc)
          rwa [ht1] at k
    · rw [if_neg hs]
      refine zz_fin.if rfl (fun cz => ?_) (fun cz => zc_no0 cz)
      refine zz_fin.steps (n := 1) (s' := (41, [some (.ref 454), some (.ref (5 * t + 46)), some (.int y), some (.int z)], [.int 0], aa_H (g'))) rfl ?_
      exact zz_fin.at (n := 1) rfl (.inl ⟨q, rfl, rfl, g', rfl, (ct_fr.num z).bad hg⟩)
