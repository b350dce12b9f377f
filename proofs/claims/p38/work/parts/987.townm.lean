/-! A TEXT: the model reads a town -/
theorem mt_rtown {g : aa_G} {b : Nat → Int32} {n p : Nat} {z : Int32} {A : sp_A} (h : tm_ok g b n) (hA : mv0 g A) (hp : p < n) : zz_fin none 168 (0, zz_in [.ref 540] (zz_nl 168), [], aa_H (tm_at g p z)) (mt_res g n (sp_q b n (sp_rtown b n p A))) := by
  have h0 : tm_at g p z 541 0 = Int32.ofNat A.1.1 := hA.1
  have h4 := hA.2.1
  unfold sp_rtown
  refine zz_fin.steps (n := 5) (s' := (7, [some (.ref 540), none], [.int 4, .int ((tm_at g p z) 541 0)], aa_H (tm_at g p z))) rfl ?_
  rw [h0]
  refine zz_fin.ic rfl (fun c1 => ?_) (fun c1 => ?_)
  · have c1 : Int32.ofNat A.1.1 ≠ 4 := of_decide_eq_true c1
    have c1 : A.1.1 < 4 := Decidable.byContradiction fun z => c1 (by rw [show A.1.1 = 4 by omega]; rfl)
    rw [if_neg (by omega)]
    refine zz_fin.steps (n := 5) (s' := (26, [some (.ref 540), none], [.int ((Int32.ofNat p) + 1), .ref 540], aa_H (tm_at g p z))) rfl ?_
    rw [aa_succ]
    refine zz_fin.steps (n := 1) (s' := (29, [some (.ref 540), none], [], aa_H (zz_w (tm_at g p z) 540 5 (Int32.ofNat (p + 1))))) rfl ?_
    rw [tm_inc]
    refine zz_fin.steps (n := 3) (s' := (34, [some (.ref 540), none], [.int 43200, .int (-43200), .ref 540], aa_H (tm_at g (p + 1) z))) rfl ?_
    refine zz_fin.call rfl rfl (Nat.le_of_ble_eq_true rfl) (tm_signed h (p := p + 1) hp) ?_
    rintro v h (⟨f, hf, rfl, g', rfl, hg⟩ | ⟨q, y, hq, rfl, rfl⟩)
    · rw [hf]
      refine zz_fin.if rfl (fun cz => absurd cz (by decide)) (fun cz => ?_)
      refine zz_fin.steps (n := 1) (s' := (41, [some (.ref 540), none], [.int 0], aa_H (g'))) rfl ?_
      exact zz_fin.at (n := 1) rfl (.inl ⟨f, rfl, rfl, g', rfl, mt_fr.rf.bad hA.2.1 hA.1 hg⟩)
    · rw [hq]
      have hqn := sp_num_n hq hp
      refine zz_fin.if rfl (fun cz => ?_) (fun cz => absurd rfl cz)
      have h0 : tm_at g q y 541 0 = Int32.ofNat A.1.1 := hA.1
      refine zz_fin.steps (n := 4) (s' := (48, [some (.ref 540), none], [.int ((tm_at g q y) 541 0)], aa_H (tm_at g q y))) rfl ?_
      rw [h0]
      refine zz_fin.call rfl rfl (Nat.le_of_ble_eq_true rfl) (tab_all (t := A.1.1)) ?_
      rintro v h ⟨rfl, rfl⟩
      refine zz_fin.steps (n := 6) (s' := (61, [some (.ref 540), some (.int (Int32.ofNat (3 + 50 * A.1.1)))], [.int y, .int (Int32.ofNat (3 + 50 * A.1.1)), .ref 541], aa_H (tm_at g q y))) rfl ?_
      refine zz_fin.ias (n := 6384) rfl rfl (zz_inbN (by omega) (by omega)) ?_
      rw [zz_toN (by omega)]
      refine zz_fin.steps (n := 5) (s' := (69, [some (.ref 540), some (.int (Int32.ofNat (3 + 50 * A.1.1)))], [.int ((Int32.ofNat (3 + 50 * A.1.1)) + 1), .ref 541], aa_H (zz_w (tm_at g q y) 541 (3 + 50 * A.1.1) y))) rfl ?_
      rw [aa_succ]
      refine zz_fin.steps (n := 1) (s' := (70, [some (.ref 540), some (.int (Int32.ofNat (3 + 50 * A.1.1)))], [.int 0, .int (Int32.ofNat (3 + 50 * A.1.1 + 1)), .ref 541], aa_H (zz_w (tm_at g q y) 541 (3 + 50 * A.1.1) y))) rfl ?_
      refine zz_fin.ias (n := 6384) rfl rfl (zz_inbN (by omega) (by omega)) ?_
      rw [zz_toN (by omega)]
      refine zz_fin.steps (n := 7) (s' := (80, [some (.ref 540), some (.int (Int32.ofNat (3 + 50 * A.1.1)))], [.int (((zz_w (zz_w (tm_at g q y) 541 (3 + 50 * A.1.1) y) 541 (3 + 50 * A.1.1 + 1) 0) 541 0) + 1), .int 0, .ref 541], aa_H (zz_w (zz_w (tm_at g q y) 541 (3 + 50 * A.1.1) y) 541 (3 + 50 * A.1.1 + 1) 0))) rfl ?_
      rw [show zz_w (zz_w (tm_at g q y) 541 (3 + 50 * A.1.1) y) 541 (3 + 50 * A.1.1 + 1) 0 541 0 = Int32.ofNat A.1.1 by rw [aa_w_ne _ _ (by omega), aa_w_ne _ _ (by omega)]; exact h0, aa_succ]
      refine zz_fin.steps (n := 1) (s' := (81, [some (.ref 540), some (.int (Int32.ofNat (3 + 50 * A.1.1)))], [], aa_H (zz_w (zz_w (zz_w (tm_at g q y) 541 (3 + 50 * A.1.1) y) 541 (3 + 50 * A.1.1 + 1) 0) 541 0 (Int32.ofNat (A.1.1 + 1))))) rfl ?_
      rw [tm_comm _ _ _ (by decide), tm_comm _ _ _ (by decide), tm_comm _ _ _ (by decide)]
      refine zz_fin.steps (n := 2) (s' := (84, [some (.ref 540), some (.int (Int32.ofNat (3 + 50 * A.1.1)))], [.int 59, .ref 540], aa_H (tm_at (zz_w (zz_w (zz_w g 541 (3 + 50 * A.1.1) y) 541 (3 + 50 * A.1.1 + 1) 0) 541 0 (Int32.ofNat (A.1.1 + 1))) q y))) rfl ?_
      refine zz_fin.call rfl rfl (Nat.le_of_ble_eq_true rfl) (mt_end h (((mt_fr.w (by omega)).tr (mt_fr.w (by omega))).tr (mt_fr.w (by omega))) (mv0_town hA c1) hqn.1) ?_
      rintro v h' hres
      rcases hres with ⟨f, k1, rfl, k2⟩ | ⟨q, A', k1, k2, rfl, k3⟩
      · exact zz_fin.at (n := 1) rfl (.inl ⟨f, k1, rfl, k2⟩)
      · exact zz_fin.at (n := 1) rfl (.inr ⟨q, A', k1, k2, rfl, k3⟩)
  · have c1 : Int32.ofNat A.1.1 = 4 := Decidable.byContradiction fun z => c1 (decide_eq_true z)
    have c1 : A.1.1 = 4 := by have e := zz_ofN (n := A.1.1) (by omega); rw [c1, show (4 : Int32).toInt = 4 from rfl] at e; omega
    rw [if_pos c1]
    refine zz_fin.steps (n := 3) (s' := (15, [some (.ref 540), none], [.int (Int32.ofNat p), .ref 540], aa_H (tm_at g p z))) rfl ?_
    refine zz_fin.call rfl rfl (Nat.le_of_ble_eq_true rfl) (tm_fails _) ?_
    rintro v h ⟨rfl, rfl⟩
    exact zz_fin.at (n := 1) rfl (.inl ⟨p, rfl, rfl, _, rfl, mt_fr.rf.bad hA.2.1 hA.1 (tm_bad_of g p z p)⟩)
