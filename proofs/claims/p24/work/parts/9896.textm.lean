section
/-! A TEXT: the model reads a point -/
def sp_body (b : Nat → Int32) (n p : Nat) (polar : Bool) (A : sp_A) : Nat ⊕ (Nat × sp_A) := if A.1.1 ≠ 0 ∧ A.2.1 (A.1.1 - 1) ≠ 12 then sp_then (sp_num b n true (sp_low A) 359 (p + 1)) fun q y => sp_pass b n 44 q fun q => if polar = false then sp_hours b n q y A else sp_kind b n q y A else .inl p
theorem mt_point_1 {g : aa_G} {b : Nat → Int32} {n p : Nat} {z : Int32} {A : sp_A} (h : tm_ok g b n) (hA : mv0 g A) (hp : p < n) : zz_fin none 174 (0, zz_in [.ref 540, .int 1] (zz_nl 174), [], aa_H (tm_at g p z)) (mt_res g n (sp_q b n (sp_body b n p true A))) := by
  have h0 : tm_at g p z 541 0 = Int32.ofNat A.1.1 := hA.1
  have h4 := hA.2.1
  unfold sp_body
  refine zz_fin.steps (n := 6) (s' := (8, [some (.ref 540), some (.int 1), none, none, none], [.int (((tm_at g p z) 541 0) - 1)], aa_H (tm_at g p z))) rfl ?_
  rw [h0]
  by_cases e0 : A.1.1 = 0
  · rw [if_neg fun e => e.1 e0, show Int32.ofNat A.1.1 - 1 = -1 by rw [e0]; rfl]
    refine zz_fin.steps (n := 2) (s' := (10, [some (.ref 540), some (.int 1), some (.int (-1)), none, none], [.int (-1)], aa_H (tm_at g p z))) rfl ?_
    refine zz_fin.if rfl (fun cz => ?_) (fun cz => absurd rfl cz)
    refine zz_fin.steps (n := 3) (s' := (34, [some (.ref 540), some (.int 1), some (.int (-1)), none, none], [.int (Int32.ofNat p), .ref 540], aa_H (tm_at g p z))) rfl ?_
    refine zz_fin.call rfl rfl (Nat.le_of_ble_eq_true rfl) (tm_fails _) ?_
    rintro v h ⟨rfl, rfl⟩
    exact zz_fin.at (n := 1) rfl (.inl ⟨p, rfl, rfl, _, rfl, mt_fr.rf.bad hA.2.1 hA.1 (tm_bad_of g p z p)⟩)
  · rw [aa_pred e0 (by omega)]
    obtain ⟨hT1, hT2, hT3, hT4⟩ := hA.2.2 (A.1.1 - 1) (by omega)
    refine zz_fin.steps (n := 2) (s' := (10, [some (.ref 540), some (.int 1), some (.int (Int32.ofNat (A.1.1 - 1))), none, none], [.int (Int32.ofNat (A.1.1 - 1))], aa_H (tm_at g p z))) rfl ?_
    refine zz_fin.if rfl (fun cz => ?_) (fun cz => ?_)
    · have c : (Int32.ofNat (A.1.1 - 1)).toInt < 0 := aa_lt32.mp (of_decide_eq_true cz)
      rw [zz_ofN (by omega)] at c
      omega
    · refine zz_fin.steps (n := 3) (s' := (18, [some (.ref 540), some (.int 1), some (.int (Int32.ofNat (A.1.1 - 1))), none, none], [.int (Int32.ofNat (A.1.1 - 1)), .ref 541], aa_H (tm_at g p z))) rfl ?_
      refine zz_fin.call rfl rfl (Nat.le_of_ble_eq_true rfl) (tab_all (t := A.1.1 - 1)) ?_
      rintro v h ⟨rfl, rfl⟩
      refine zz_fin.steps (n := 2) (s' := (23, [some (.ref 540), some (.int 1), some (.int (Int32.ofNat (A.1.1 - 1))), none, none], [.int ((Int32.ofNat (3 + 50 * (A.1.1 - 1))) + 1), .ref 541], aa_H (tm_at g p z))) rfl ?_
      rw [aa_succ]
      refine zz_fin.ial (n := 6384) rfl rfl (zz_inbN (by omega) (by omega)) ?_
      rw [zz_toN (by omega), show (aa_H (tm_at g p z)).2.2 541 (3 + 50 * (A.1.1 - 1) + 1) = Int32.ofNat (A.2.1 (A.1.1 - 1)) from hT2]
      refine zz_fin.steps (n := 1) (s' := (26, [some (.ref 540), some (.int 1), some (.int (Int32.ofNat (A.1.1 - 1))), none, none], [.int 12, .int (Int32.ofNat (A.2.1 (A.1.1 - 1)))], aa_H (tm_at g p z))) rfl ?_
      refine zz_fin.ic rfl (fun c1 => ?_) (fun c1 => ?_)
      · have c1 : Int32.ofNat (A.2.1 (A.1.1 - 1)) ≠ 12 := of_decide_eq_true c1
        have c1 : A.2.1 (A.1.1 - 1) ≠ 12 := fun e => c1 (by rw [e]; rfl)
        rw [if_pos ⟨e0, c1⟩]
        refine zz_fin.steps (n := 5) (s' := (45, [some (.ref 540), some (.int 1), some (.int (Int32.ofNat (A.1.1 - 1))), none, none], [.int ((Int32.ofNat p) + 1), .ref 540], aa_H (tm_at g p z))) rfl ?_
        rw [aa_succ]
        refine zz_fin.steps (n := 1) (s' := (48, [some (.ref 540), some (.int 1), some (.int (Int32.ofNat (A.1.1 - 1))), none, none], [], aa_H (zz_w (tm_at g p z) 540 5 (Int32.ofNat (p + 1))))) rfl ?_
        rw [tm_inc]
        refine zz_fin.steps (n := 3) (s' := (53, [some (.ref 540), some (.int 1), some (.int (Int32.ofNat (A.1.1 - 1))), none, none], [.int (Int32.ofNat (A.1.1 - 1)), .ref 541], aa_H (tm_at g (p + 1) z))) rfl ?_
        refine zz_fin.call rfl rfl (Nat.le_of_ble_eq_true rfl) (tab_all (t := A.1.1 - 1)) ?_
        rintro v h ⟨rfl, rfl⟩
        refine zz_fin.steps (n := 2) (s' := (58, [some (.ref 540), some (.int 1), some (.int (Int32.ofNat (A.1.1 - 1))), none, none], [.int ((Int32.ofNat (3 + 50 * (A.1.1 - 1))) + 1), .ref 541], aa_H (tm_at g (p + 1) z))) rfl ?_
        rw [aa_succ]
        refine zz_fin.ial (n := 6384) rfl rfl (zz_inbN (by omega) (by omega)) ?_
        rw [zz_toN (by omega), show (aa_H (tm_at g (p + 1) z)).2.2 541 (3 + 50 * (A.1.1 - 1) + 1) = Int32.ofNat (A.2.1 (A.1.1 - 1)) from hT2]
        refine zz_fin.steps (n := 3) (s' := (62, [some (.ref 540), some (.int 1), some (.int (Int32.ofNat (A.1.1 - 1))), some (.int (Int32.ofNat (A.2.1 (A.1.1 - 1)))), none], [.int (Int32.ofNat (A.2.1 (A.1.1 - 1))), .int (Int32.ofNat (A.1.1 - 1))], aa_H (tm_at g (p + 1) z))) rfl ?_
        refine zz_fin.call rfl rfl (Nat.le_of_ble_eq_true rfl) (at_all (t := A.1.1 - 1) (i := A.2.1 (A.1.1 - 1))) ?_
        rintro v h ⟨rfl, rfl⟩
        refine zz_fin.steps (n := 3) (s' := (69, [some (.ref 540), some (.int 1), some (.int (Int32.ofNat (A.1.1 - 1))), some (.int (Int32.ofNat (A.2.1 (A.1.1 - 1)))), some (.int (Int32.ofNat (5 + 50 * (A.1.1 - 1) + 4 * A.2.1 (A.1.1 - 1))))], [.int (Int32.ofNat (A.2.1 (A.1.1 - 1))), .ref 540], aa_H (tm_at g (p + 1) z))) rfl ?_
        have key : zz_fin none 174 (87, [some (.ref 540), some (.int 1), some (.int (Int32.ofNat (A.1.1 - 1))), some (.int (Int32.ofNat (A.2.1 (A.1.1 - 1)))), some (.int (Int32.ofNat (5 + 50 * (A.1.1 - 1) + 4 * A.2.1 (A.1.1 - 1))))], [.int (sp_low A), .ref 540], aa_H (tm_at g (p + 1) z)) (mt_res g n (sp_q b n (sp_then (sp_num b n true (sp_low A) 359 (p + 1)) fun q y => sp_pass b n 44 q fun q => if true = false then sp_hours b n q y A else sp_kind b n q y A))) := by
          generalize sp_low A = LOW
          refine zz_fin.steps (n := 1) (s' := (90, [some (.ref 540), some (.int 1), some (.int (Int32.ofNat (A.1.1 - 1))), some (.int (Int32.ofNat (A.2.1 (A.1.1 - 1)))), some (.int (Int32.ofNat (5 + 50 * (A.1.1 - 1) + 4 * A.2.1 (A.1.1 - 1))))], [.int 359, .int LOW, .ref 540], aa_H (tm_at g (p + 1) z))) rfl ?_
          refine zz_fin.call rfl rfl (Nat.le_of_ble_eq_true rfl) (tm_signed h (p := p + 1) hp) ?_
          rintro v h (⟨f, hf, rfl, g', rfl, hg⟩ | ⟨q, y, hq, rfl, rfl⟩)
          · rw [hf]
            refine zz_fin.if rfl (fun cz => ?_) (fun cz => zc_no0 cz)
            refine zz_fin.steps (n := 1) (s' := (133, [some (.ref 540), some (.int 1), some (.int (Int32.ofNat (A.1.1 - 1))), some (.int (Int32.ofNat (A.2.1 (A.1.1 - 1)))), some (.int (Int32.ofNat (5 + 50 * (A.1.1 - 1) + 4 * A.2.1 (A.1.1 - 1))))], [.int 0], aa_H (g'))) rfl ?_
            exact zz_fin.at (n := 1) rfl (.inl ⟨f, rfl, rfl, g', rfl, mt_fr.rf.bad hA.2.1 (by first | exact hA.1 | exact (aa_w_ne _ _ (by omega)).trans hA.1 | (rw [aa_w_ne _ _ (by omega), aa_w_ne _ _ (by omega), aa_w_ne _ _ (by omega), aa_w_ne _ _ (by omega)]; exact hA.1)) hg⟩)
          · rw [hq]
            have hqn := sp_num_n hq hp
            unfold sp_then sp_pass
            dsimp only
            refine zz_fin.if rfl (fun cz => zc_no1 cz) (fun cz => ?_)
            refine zz_fin.steps (n := 2) (s' := (99, [some (.ref 540), some (.int 1), some (.int (Int32.ofNat (A.1.1 - 1))), some (.int (Int32.ofNat (A.2.1 (A.1.1 - 1)))), some (.int (Int32.ofNat (5 + 50 * (A.1.1 - 1) + 4 * A.2.1 (A.1.1 - 1))))], [.int (Int32.ofNat (5 + 50 * (A.1.1 - 1) + 4 * A.2.1 (A.1.1 - 1))), .ref 540], aa_H (tm_at g q y))) rfl ?_
            refine zz_fin.call (ψ := fun v h' => v = some (.int 1) ∧ h' = aa_H (tm_at (zz_w g 541 (5 + 50 * (A.1.1 - 1) + 4 * A.2.1 (A.1.1 - 1)) y) q y)) rfl rfl (Nat.le_of_ble_eq_true rfl) ?_ ?_
            · refine zz_fin.steps (n := 5) (s' := (9, [some (.ref 540), some (.int (Int32.ofNat (5 + 50 * (A.1.1 - 1) + 4 * A.2.1 (A.1.1 - 1))))], [.int y, .int (Int32.ofNat (5 + 50 * (A.1.1 - 1) + 4 * A.2.1 (A.1.1 - 1))), .ref 541], aa_H (tm_at g q y))) rfl ?_
              refine zz_fin.ias (n := 6384) rfl rfl (zz_inbN (by omega) (by omega)) ?_
              rw [zz_toN (by omega)]
              refine zz_fin.at (n := 2) rfl ⟨rfl, ?_⟩
              exact congrArg aa_H (tm_comm _ _ _ (by decide))
            rintro v h' ⟨rfl, rfl⟩
            refine zz_fin.if rfl (fun cz => zc_no1 cz) (fun cz => ?_)
            refine zz_fin.steps (n := 2) (s' := (108, [some (.ref 540), some (.int 1), some (.int (Int32.ofNat (A.1.1 - 1))), some (.int (Int32.ofNat (A.2.1 (A.1.1 - 1)))), some (.int (Int32.ofNat (5 + 50 * (A.1.1 - 1) + 4 * A.2.1 (A.1.1 - 1))))], [.int 44, .ref 540], aa_H (tm_at (zz_w g 541 (5 + 50 * (A.1.1 - 1) + 4 * A.2.1 (A.1.1 - 1)) y) q y))) rfl ?_
            refine zz_fin.call rfl rfl (Nat.le_of_ble_eq_true rfl) (tm_takes (g := zz_w g 541 (5 + 50 * (A.1.1 - 1) + 4 * A.2.1 (A.1.1 - 1)) y) h hqn.1 (by decide)) ?_
            rintro v h (⟨rfl, hs, hqn2, rfl⟩ | ⟨rfl, hs, g', rfl, hg⟩)
            · rw [if_pos hs]
              refine zz_fin.if rfl (fun cz => zc_no1 cz) (fun cz => ?_)
              refine zz_fin.steps (n := 3) (s' := (117, [some (.ref 540), some (.int 1), some (.int (Int32.ofNat (A.1.1 - 1))), some (.int (Int32.ofNat (A.2.1 (A.1.1 - 1)))), some (.int (Int32.ofNat (5 + 50 * (A.1.1 - 1) + 4 * A.2.1 (A.1.1 - 1))))], [.int 1, .int 0, .ref 540], aa_H (tm_at (zz_w g 541 (5 + 50 * (A.1.1 - 1) + 4 * A.2.1 (A.1.1 - 1)) y) (q + 1) y))) rfl ?_
              refine zz_fin.if rfl (fun cz => zc_no1 cz) (fun cz => ?_)
              refine zz_fin.steps (n := 2) (s' := (126, [some (.ref 540), some (.int 1), some (.int (Int32.ofNat (A.1.1 - 1))), some (.int (Int32.ofNat (A.2.1 (A.1.1 - 1)))), some (.int (Int32.ofNat (5 + 50 * (A.1.1 - 1) + 4 * A.2.1 (A.1.1 - 1))))], [.int 1, .int 0, .ref 540], aa_H (tm_at (zz_w g 541 (5 + 50 * (A.1.1 - 1) + 4 * A.2.1 (A.1.1 - 1)) y) (q + 1) y))) rfl ?_
              rw [if_neg (show ¬ (true = false) by decide)]
              unfold sp_kind sp_then
              refine zz_fin.call rfl rfl (Nat.le_of_ble_eq_true rfl) (tm_signed (g := zz_w g 541 (5 + 50 * (A.1.1 - 1) + 4 * A.2.1 (A.1.1 - 1)) y) h (p := q + 1) hqn2) ?_
              rintro v h (⟨f, hf, rfl, g', rfl, hg⟩ | ⟨q2, d, hq2, rfl, rfl⟩)
              · rw [hf]
                refine zz_fin.if rfl (fun cz => absurd cz (by decide)) (fun cz => ?_)
                refine zz_fin.steps (n := 1) (s' := (133, [some (.ref 540), some (.int 1), some (.int (Int32.ofNat (A.1.1 - 1))), some (.int (Int32.ofNat (A.2.1 (A.1.1 - 1)))), some (.int (Int32.ofNat (5 + 50 * (A.1.1 - 1) + 4 * A.2.1 (A.1.1 - 1))))], [.int 0], aa_H (g'))) rfl ?_
                exact zz_fin.at (n := 1) rfl (.inl ⟨f, rfl, rfl, g', rfl, (mt_fr.w (v := y) (j := 5 + 50 * (A.1.1 - 1) + 4 * A.2.1 (A.1.1 - 1)) (by omega)).bad hA.2.1 (by first | exact hA.1 | exact (aa_w_ne _ _ (by omega)).trans hA.1 | (rw [aa_w_ne _ _ (by omega), aa_w_ne _ _ (by omega), aa_w_ne _ _ (by omega), aa_w_ne _ _ (by omega)]; exact hA.1)) hg⟩)
              · rw [hq2]
                have hqn3 := sp_num_n hq2 hqn2
                dsimp only
                refine zz_fin.if rfl (fun cz => ?_) (fun cz => absurd rfl cz)
                refine zz_fin.steps (n := 1) (s' := (135, [some (.ref 540), some (.int 1), some (.int (Int32.ofNat (A.1.1 - 1))), some (.int (Int32.ofNat (A.2.1 (A.1.1 - 1)))), some (.int (Int32.ofNat (5 + 50 * (A.1.1 - 1) + 4 * A.2.1 (A.1.1 - 1))))], [.int 1], aa_H (tm_at (zz_w g 541 (5 + 50 * (A.1.1 - 1) + 4 * A.2.1 (A.1.1 - 1)) y) q2 d))) rfl ?_
                refine zz_fin.if rfl (fun cz => zc_no1 cz) (fun cz => ?_)
                refine zz_fin.steps (n := 6) (s' := (147, [some (.ref 540), some (.int 1), some (.int (Int32.ofNat (A.1.1 - 1))), some (.int (Int32.ofNat (A.2.1 (A.1.1 - 1)))), some (.int (Int32.ofNat (5 + 50 * (A.1.1 - 1) + 4 * A.2.1 (A.1.1 - 1))))], [.int d, .int (-1), .int (-1), .int (Int32.ofNat (5 + 50 * (A.1.1 - 1) + 4 * A.2.1 (A.1.1 - 1))), .ref 540], aa_H (tm_at (zz_w g 541 (5 + 50 * (A.1.1 - 1) + 4 * A.2.1 (A.1.1 - 1)) y) q2 d))) rfl ?_
                refine zz_fin.call rfl rfl (Nat.le_of_ble_eq_true rfl) (point_lay (P := 5 + 50 * (A.1.1 - 1) + 4 * A.2.1 (A.1.1 - 1)) (by omega)) ?_
                rintro v h ⟨rfl, rfl⟩
                rw [tm_comm _ _ _ (by decide), tm_comm _ _ _ (by decide), tm_comm _ _ _ (by decide)]
                have hfr3 : mt_fr g (zz_w (zz_w (zz_w (zz_w g 541 (5 + 50 * (A.1.1 - 1) + 4 * A.2.1 (A.1.1 - 1)) y) 541 (5 + 50 * (A.1.1 - 1) + 4 * A.2.1 (A.1.1 - 1) + 1) (-1)) 541 (5 + 50 * (A.1.1 - 1) + 4 * A.2.1 (A.1.1 - 1) + 2) (-1)) 541 (5 + 50 * (A.1.1 - 1) + 4 * A.2.1 (A.1.1 - 1) + 3) d) := (((mt_fr.w (v := y) (j := 5 + 50 * (A.1.1 - 1) + 4 * A.2.1 (A.1.1 - 1)) (by omega)).tr (mt_fr.w (by omega))).tr (mt_fr.w (by omega))).tr (mt_fr.w (by omega))
                refine zz_fin.steps (n := 4) (s' := (214, [some (.ref 540), some (.int 1), some (.int (Int32.ofNat (A.1.1 - 1))), some (.int (Int32.ofNat (A.2.1 (A.1.1 - 1)))), some (.int (Int32.ofNat (5 + 50 * (A.1.1 - 1) + 4 * A.2.1 (A.1.1 - 1))))], [.int (Int32.ofNat (A.1.1 - 1)), .ref 541], aa_H (tm_at (zz_w (zz_w (zz_w (zz_w g 541 (5 + 50 * (A.1.1 - 1) + 4 * A.2.1 (A.1.1 - 1)) y) 541 (5 + 50 * (A.1.1 - 1) + 4 * A.2.1 (A.1.1 - 1) + 1) (-1)) 541 (5 + 50 * (A.1.1 - 1) + 4 * A.2.1 (A.1.1 - 1) + 2) (-1)) 541 (5 + 50 * (A.1.1 - 1) + 4 * A.2.1 (A.1.1 - 1) + 3) d) q2 d))) rfl ?_
                refine zz_fin.call rfl rfl (Nat.le_of_ble_eq_true rfl) (tab_all (t := A.1.1 - 1)) ?_
                rintro v h ⟨rfl, rfl⟩
                refine zz_fin.steps (n := 2) (s' := (219, [some (.ref 540), some (.int 1), some (.int (Int32.ofNat (A.1.1 - 1))), some (.int (Int32.ofNat (A.2.1 (A.1.1 - 1)))), some (.int (Int32.ofNat (5 + 50 * (A.1.1 - 1) + 4 * A.2.1 (A.1.1 - 1))))], [.int ((Int32.ofNat (3 + 50 * (A.1.1 - 1))) + 1), .ref 541], aa_H (tm_at (zz_w (zz_w (zz_w (zz_w g 541 (5 + 50 * (A.1.1 - 1) + 4 * A.2.1 (A.1.1 - 1)) y) 541 (5 + 50 * (A.1.1 - 1) + 4 * A.2.1 (A.1.1 - 1) + 1) (-1)) 541 (5 + 50 * (A.1.1 - 1) + 4 * A.2.1 (A.1.1 - 1) + 2) (-1)) 541 (5 + 50 * (A.1.1 - 1) + 4 * A.2.1 (A.1.1 - 1) + 3) d) q2 d))) rfl ?_
                rw [aa_succ]
                refine zz_fin.steps (n := 1) (s' := (220, [some (.ref 540), some (.int 1), some (.int (Int32.ofNat (A.1.1 - 1))), some (.int (Int32.ofNat (A.2.1 (A.1.1 - 1)))), some (.int (Int32.ofNat (5 + 50 * (A.1.1 - 1) + 4 * A.2.1 (A.1.1 - 1))))], [.int (Int32.ofNat (3 + 50 * (A.1.1 - 1) + 1)), .ref 541, .int (Int32.ofNat (3 + 50 * (A.1.1 - 1) + 1)), .ref 541], aa_H (tm_at (zz_w (zz_w (zz_w (zz_w g 541 (5 + 50 * (A.1.1 - 1) + 4 * A.2.1 (A.1.1 - 1)) y) 541 (5 + 50 * (A.1.1 - 1) + 4 * A.2.1 (A.1.1 - 1) + 1) (-1)) 541 (5 + 50 * (A.1.1 - 1) + 4 * A.2.1 (A.1.1 - 1) + 2) (-1)) 541 (5 + 50 * (A.1.1 - 1) + 4 * A.2.1 (A.1.1 - 1) + 3) d) q2 d))) rfl ?_
                refine zz_fin.ial (n := 6384) rfl rfl (zz_inbN (by omega) (by omega)) ?_
                rw [zz_toN (by omega), show (aa_H (tm_at (zz_w (zz_w (zz_w (zz_w g 541 (5 + 50 * (A.1.1 - 1) + 4 * A.2.1 (A.1.1 - 1)) y) 541 (5 + 50 * (A.1.1 - 1) + 4 * A.2.1 (A.1.1 - 1) + 1) (-1)) 541 (5 + 50 * (A.1.1 - 1) + 4 * A.2.1 (A.1.1 - 1) + 2) (-1)) 541 (5 + 50 * (A.1.1 - 1) + 4 * A.2.1 (A.1.1 - 1) + 3) d) q2 d)).2.2 541 (3 + 50 * (A.1.1 - 1) + 1) = Int32.ofNat (A.2.1 (A.1.1 - 1)) by show (zz_w (zz_w (zz_w (zz_w g 541 (5 + 50 * (A.1.1 - 1) + 4 * A.2.1 (A.1.1 - 1)) y) 541 (5 + 50 * (A.1.1 - 1) + 4 * A.2.1 (A.1.1 - 1) + 1) (-1)) 541 (5 + 50 * (A.1.1 - 1) + 4 * A.2.1 (A.1.1 - 1) + 2) (-1)) 541 (5 + 50 * (A.1.1 - 1) + 4 * A.2.1 (A.1.1 - 1) + 3) d) 541 (3 + 50 * (A.1.1 - 1) + 1) = _; rw [aa_w_ne _ _ (by omega), aa_w_ne _ _ (by omega), aa_w_ne _ _ (by omega), aa_w_ne _ _ (by omega)]; exact hT2]
                refine zz_fin.steps (n := 2) (s' := (223, [some (.ref 540), some (.int 1), some (.int (Int32.ofNat (A.1.1 - 1))), some (.int (Int32.ofNat (A.2.1 (A.1.1 - 1)))), some (.int (Int32.ofNat (5 + 50 * (A.1.1 - 1) + 4 * A.2.1 (A.1.1 - 1))))], [.int ((Int32.ofNat (A.2.1 (A.1.1 - 1))) + 1), .int (Int32.ofNat (3 + 50 * (A.1.1 - 1) + 1)), .ref 541], aa_H (tm_at (zz_w (zz_w (zz_w (zz_w g 541 (5 + 50 * (A.1.1 - 1) + 4 * A.2.1 (A.1.1 - 1)) y) 541 (5 + 50 * (A.1.1 - 1) + 4 * A.2.1 (A.1.1 - 1) + 1) (-1)) 541 (5 + 50 * (A.1.1 - 1) + 4 * A.2.1 (A.1.1 - 1) + 2) (-1)) 541 (5 + 50 * (A.1.1 - 1) + 4 * A.2.1 (A.1.1 - 1) + 3) d) q2 d))) rfl ?_
                rw [aa_succ]
                refine zz_fin.ias (n := 6384) rfl rfl (zz_inbN (by omega) (by omega)) ?_
                rw [zz_toN (by omega)]
                refine zz_fin.steps (n := 0) (s' := (224, [some (.ref 540), some (.int 1), some (.int (Int32.ofNat (A.1.1 - 1))), some (.int (Int32.ofNat (A.2.1 (A.1.1 - 1)))), some (.int (Int32.ofNat (5 + 50 * (A.1.1 - 1) + 4 * A.2.1 (A.1.1 - 1))))], [], aa_H (zz_w (tm_at (zz_w (zz_w (zz_w (zz_w g 541 (5 + 50 * (A.1.1 - 1) + 4 * A.2.1 (A.1.1 - 1)) y) 541 (5 + 50 * (A.1.1 - 1) + 4 * A.2.1 (A.1.1 - 1) + 1) (-1)) 541 (5 + 50 * (A.1.1 - 1) + 4 * A.2.1 (A.1.1 - 1) + 2) (-1)) 541 (5 + 50 * (A.1.1 - 1) + 4 * A.2.1 (A.1.1 - 1) + 3) d) q2 d) 541 (3 + 50 * (A.1.1 - 1) + 1) (Int32.ofNat (A.2.1 (A.1.1 - 1) + 1))))) rfl ?_
                rw [tm_comm _ _ _ (by decide)]
                refine zz_fin.steps (n := 2) (s' := (227, [some (.ref 540), some (.int 1), some (.int (Int32.ofNat (A.1.1 - 1))), some (.int (Int32.ofNat (A.2.1 (A.1.1 - 1)))), some (.int (Int32.ofNat (5 + 50 * (A.1.1 - 1) + 4 * A.2.1 (A.1.1 - 1))))], [.int 59, .ref 540], aa_H (tm_at (zz_w (zz_w (zz_w (zz_w (zz_w g 541 (5 + 50 * (A.1.1 - 1) + 4 * A.2.1 (A.1.1 - 1)) y) 541 (5 + 50 * (A.1.1 - 1) + 4 * A.2.1 (A.1.1 - 1) + 1) (-1)) 541 (5 + 50 * (A.1.1 - 1) + 4 * A.2.1 (A.1.1 - 1) + 2) (-1)) 541 (5 + 50 * (A.1.1 - 1) + 4 * A.2.1 (A.1.1 - 1) + 3) d) 541 (3 + 50 * (A.1.1 - 1) + 1) (Int32.ofNat (A.2.1 (A.1.1 - 1) + 1))) q2 d))) rfl ?_
                have hA3 : mv0 (zz_w (zz_w (zz_w (zz_w (zz_w g 541 (5 + 50 * (A.1.1 - 1) + 4 * A.2.1 (A.1.1 - 1)) y) 541 (5 + 50 * (A.1.1 - 1) + 4 * A.2.1 (A.1.1 - 1) + 1) (-1)) 541 (5 + 50 * (A.1.1 - 1) + 4 * A.2.1 (A.1.1 - 1) + 2) (-1)) 541 (5 + 50 * (A.1.1 - 1) + 4 * A.2.1 (A.1.1 - 1) + 3) d) 541 (3 + 50 * (A.1.1 - 1) + 1) (Int32.ofNat (A.2.1 (A.1.1 - 1) + 1))) (sp_point A y (-1) (-1) d) := by
                  refine mv0_point hA e0 (by omega) ?_ ?_ ?_ ?_ (aa_w_at _ _ _ _) fun j hj => ?_
                  · rw [aa_w_ne _ _ (by omega), aa_w_ne _ _ (by omega), aa_w_ne _ _ (by omega), aa_w_ne _ _ (by omega), aa_w_at]
                  · rw [aa_w_ne _ _ (by omega), aa_w_ne _ _ (by omega), aa_w_ne _ _ (by omega), aa_w_at]
                  · rw [aa_w_ne _ _ (by omega), aa_w_ne _ _ (by omega), aa_w_at]
                  · rw [aa_w_ne _ _ (by omega), aa_w_at]
                  · rw [aa_w_ne _ _ (by omega), aa_w_ne _ _ (by omega), aa_w_ne _ _ (by omega), aa_w_ne _ _ (by omega), aa_w_ne _ _ (by omega)]
                refine zz_fin.call rfl rfl (Nat.le_of_ble_eq_true rfl) (mt_end h (hfr3.tr (mt_fr.w (by omega))) hA3 hqn3.1) ?_
                rintro v h' hres
                rcases hres with ⟨f, k1, rfl, k2⟩ | ⟨q, A', k1, k2, rfl, k3⟩
                · exact zz_fin.at (n := 1) rfl (.inl ⟨f, k1, rfl, k2⟩)
                · exact zz_fin.at (n := 1) rfl (.inr ⟨q, A', k1, k2, rfl, k3⟩)
            · rw [if_neg hs]
              refine zz_fin.if rfl (fun cz => ?_) (fun cz => zc_no0 cz)
              refine zz_fin.steps (n := 1) (s' := (133, [some (.ref 540), some (.int 1), some (.int (Int32.ofNat (A.1.1 - 1))), some (.int (Int32.ofNat (A.2.1 (A.1.1 - 1)))), some (.int (Int32.ofNat (5 + 50 * (A.1.1 - 1) + 4 * A.2.1 (A.1.1 - 1))))], [.int 0], aa_H (g'))) rfl ?_
              exact zz_fin.at (n := 1) rfl (.inl ⟨q, rfl, rfl, g', rfl, (mt_fr.w (v := y) (j := 5 + 50 * (A.1.1 - 1) + 4 * A.2.1 (A.1.1 - 1)) (by omega)).bad hA.2.1 ((aa_w_ne _ _ (by omega)).trans hA.1) hg⟩)
        by_cases ez : A.2.1 (A.1.1 - 1) = 0
        · have el : sp_low A = 0 := by unfold sp_low; rw [if_pos ez]; first | done | decide
          rw [el] at key ⊢
          refine zz_fin.if rfl (fun cz => ?_) (fun cz => ?_)
          · have c : Int32.ofNat (A.2.1 (A.1.1 - 1)) ≠ 0 := of_decide_eq_true cz
            exact absurd (by rw [ez]; rfl) c
          · refine zz_fin.steps (n := 2) (s' := (87, [some (.ref 540), some (.int 1), some (.int (Int32.ofNat (A.1.1 - 1))), some (.int (Int32.ofNat (A.2.1 (A.1.1 - 1)))), some (.int (Int32.ofNat (5 + 50 * (A.1.1 - 1) + 4 * A.2.1 (A.1.1 - 1))))], [.int 0, .ref 540], aa_H (tm_at g (p + 1) z))) rfl ?_
            exact key
        · have el : sp_low A = A.2.2 (A.1.1 - 1) (A.2.1 (A.1.1 - 1) - 1) 0 + 1 := by unfold sp_low; rw [if_neg ez]
          rw [el] at key ⊢
          refine zz_fin.if rfl (fun cz => ?_) (fun cz => ?_)
          · have e4 : Int32.ofNat (5 + 50 * (A.1.1 - 1) + 4 * A.2.1 (A.1.1 - 1)) - 4 = Int32.ofNat (5 + 50 * (A.1.1 - 1) + 4 * (A.2.1 (A.1.1 - 1) - 1)) := aa_eqN (by rw [aa_sub32 (by rw [zz_ofN (by omega), show (4 : Int32).toInt = 4 from rfl]; omega) (by rw [zz_ofN (by omega), show (4 : Int32).toInt = 4 from rfl]; omega), zz_ofN (by omega), show (4 : Int32).toInt = 4 from rfl]; omega) (by omega)
            refine zz_fin.steps (n := 5) (s' := (84, [some (.ref 540), some (.int 1), some (.int (Int32.ofNat (A.1.1 - 1))), some (.int (Int32.ofNat (A.2.1 (A.1.1 - 1)))), some (.int (Int32.ofNat (5 + 50 * (A.1.1 - 1) + 4 * A.2.1 (A.1.1 - 1))))], [.int ((Int32.ofNat (5 + 50 * (A.1.1 - 1) + 4 * A.2.1 (A.1.1 - 1))) - 4), .ref 541, .ref 540], aa_H (tm_at g (p + 1) z))) rfl ?_
            rw [e4]
            refine zz_fin.ial (n := 6384) rfl rfl (zz_inbN (by omega) (by omega)) ?_
            rw [zz_toN (by omega), show (aa_H (tm_at g (p + 1) z)).2.2 541 (5 + 50 * (A.1.1 - 1) + 4 * (A.2.1 (A.1.1 - 1) - 1)) = A.2.2 (A.1.1 - 1) (A.2.1 (A.1.1 - 1) - 1) 0 from (hT4 (A.2.1 (A.1.1 - 1) - 1) (by omega)).1]
            refine zz_fin.steps (n := 2) (s' := (87, [some (.ref 540), some (.int 1), some (.int (Int32.ofNat (A.1.1 - 1))), some (.int (Int32.ofNat (A.2.1 (A.1.1 - 1)))), some (.int (Int32.ofNat (5 + 50 * (A.1.1 - 1) + 4 * A.2.1 (A.1.1 - 1))))], [.int (A.2.2 (A.1.1 - 1) (A.2.1 (A.1.1 - 1) - 1) 0 + 1), .ref 540], aa_H (tm_at g (p + 1) z))) rfl ?_
            exact key
          · have c : Int32.ofNat (A.2.1 (A.1.1 - 1)) = 0 := Decidable.byContradiction fun z => cz (decide_eq_true z)
            have e := zz_ofN (n := A.2.1 (A.1.1 - 1)) (by omega)
            rw [c, show (0 : Int32).toInt = 0 from rfl] at e
            omega
      · have c1 : Int32.ofNat (A.2.1 (A.1.1 - 1)) = 12 := Decidable.byContradiction fun z => c1 (decide_eq_true z)
        have c1 : A.2.1 (A.1.1 - 1) = 12 := by have e := zz_ofN (n := A.2.1 (A.1.1 - 1)) (by omega); rw [c1, show (12 : Int32).toInt = 12 from rfl] at e; omega
        rw [if_neg fun e => e.2 c1]
        refine zz_fin.steps (n := 3) (s' := (34, [some (.ref 540), some (.int 1), some (.int (Int32.ofNat (A.1.1 - 1))), none, none], [.int (Int32.ofNat p), .ref 540], aa_H (tm_at g p z))) rfl ?_
        refine zz_fin.call rfl rfl (Nat.le_of_ble_eq_true rfl) (tm_fails _) ?_
        rintro v h ⟨rfl, rfl⟩
        exact zz_fin.at (n := 1) rfl (.inl ⟨p, rfl, rfl, _, rfl, mt_fr.rf.bad hA.2.1 hA.1 (tm_bad_of g p z p)⟩)
theorem mt_point_0 {g : aa_G} {b : Nat → Int32} {n p : Nat} {z : Int32} {A : sp_A} (h : tm_ok g b n) (hA : mv0 g A) (hp : p < n) : zz_fin none 174 (0, zz_in [.ref 540, .int 0] (zz_nl 174), [], aa_H (tm_at g p z)) (mt_res g n (sp_q b n (sp_body b n p false A))) := by
  have h0 : tm_at g p z 541 0 = Int32.ofNat A.1.1 := hA.1
  have h4 := hA.2.1
  unfold sp_body
  refine zz_fin.steps (n := 6) (s' := (8, [some (.ref 540), some (.int 0), none, none, none], [.int (((tm_at g p z) 541 0) - 1)], aa_H (tm_at g p z))) rfl ?_
  rw [h0]
  by_cases e0 : A.1.1 = 0
  · rw [if_neg fun e => e.1 e0, show Int32.ofNat A.1.1 - 1 = -1 by rw [e0]; rfl]
    refine zz_fin.steps (n := 2) (s' := (10, [some (.ref 540), some (.int 0), some (.int (-1)), none, none], [.int (-1)], aa_H (tm_at g p z))) rfl ?_
    refine zz_fin.if rfl (fun cz => ?_) (fun cz => absurd rfl cz)
    refine zz_fin.steps (n := 3) (s' := (34, [some (.ref 540), some (.int 0), some (.int (-1)), none, none], [.int (Int32.ofNat p), .ref 540], aa_H (tm_at g p z))) rfl ?_
    refine zz_fin.call rfl rfl (Nat.le_of_ble_eq_true rfl) (tm_fails _) ?_
    rintro v h ⟨rfl, rfl⟩
    exact zz_fin.at (n := 1) rfl (.inl ⟨p, rfl, rfl, _, rfl, mt_fr.rf.bad hA.2.1 hA.1 (tm_bad_of g p z p)⟩)
  · rw [aa_pred e0 (by omega)]
    obtain ⟨hT1, hT2, hT3, hT4⟩ := hA.2.2 (A.1.1 - 1) (by omega)
    refine zz_fin.steps (n := 2) (s' := (10, [some (.ref 540), some (.int 0), some (.int (Int32.ofNat (A.1.1 - 1))), none, none], [.int (Int32.ofNat (A.1.1 - 1))], aa_H (tm_at g p z))) rfl ?_
    refine zz_fin.if rfl (fun cz => ?_) (fun cz => ?_)
    · have c : (Int32.ofNat (A.1.1 - 1)).toInt < 0 := aa_lt32.mp (of_decide_eq_true cz)
      rw [zz_ofN (by omega)] at c
      omega
    · refine zz_fin.steps (n := 3) (s' := (18, [some (.ref 540), some (.int 0), some (.int (Int32.ofNat (A.1.1 - 1))), none, none], [.int (Int32.ofNat (A.1.1 - 1)), .ref 541], aa_H (tm_at g p z))) rfl ?_
      refine zz_fin.call rfl rfl (Nat.le_of_ble_eq_true rfl) (tab_all (t := A.1.1 - 1)) ?_
      rintro v h ⟨rfl, rfl⟩
      refine zz_fin.steps (n := 2) (s' := (23, [some (.ref 540), some (.int 0), some (.int (Int32.ofNat (A.1.1 - 1))), none, none], [.int ((Int32.ofNat (3 + 50 * (A.1.1 - 1))) + 1), .ref 541], aa_H (tm_at g p z))) rfl ?_
      rw [aa_succ]
      refine zz_fin.ial (n := 6384) rfl rfl (zz_inbN (by omega) (by omega)) ?_
      rw [zz_toN (by omega), show (aa_H (tm_at g p z)).2.2 541 (3 + 50 * (A.1.1 - 1) + 1) = Int32.ofNat (A.2.1 (A.1.1 - 1)) from hT2]
      refine zz_fin.steps (n := 1) (s' := (26, [some (.ref 540), some (.int 0), some (.int (Int32.ofNat (A.1.1 - 1))), none, none], [.int 12, .int (Int32.ofNat (A.2.1 (A.1.1 - 1)))], aa_H (tm_at g p z))) rfl ?_
      refine zz_fin.ic rfl (fun c1 => ?_) (fun c1 => ?_)
      · have c1 : Int32.ofNat (A.2.1 (A.1.1 - 1)) ≠ 12 := of_decide_eq_true c1
        have c1 : A.2.1 (A.1.1 - 1) ≠ 12 := fun e => c1 (by rw [e]; rfl)
        rw [if_pos ⟨e0, c1⟩]
        refine zz_fin.steps (n := 5) (s' := (45, [some (.ref 540), some (.int 0), some (.int (Int32.ofNat (A.1.1 - 1))), none, none], [.int ((Int32.ofNat p) + 1), .ref 540], aa_H (tm_at g p z))) rfl ?_
        rw [aa_succ]
        refine zz_fin.steps (n := 1) (s' := (48, [some (.ref 540), some (.int 0), some (.int (Int32.ofNat (A.1.1 - 1))), none, none], [], aa_H (zz_w (tm_at g p z) 540 5 (Int32.ofNat (p + 1))))) rfl ?_
        rw [tm_inc]
        refine zz_fin.steps (n := 3) (s' := (53, [some (.ref 540), some (.int 0), some (.int (Int32.ofNat (A.1.1 - 1))), none, none], [.int (Int32.ofNat (A.1.1 - 1)), .ref 541], aa_H (tm_at g (p + 1) z))) rfl ?_
        refine zz_fin.call rfl rfl (Nat.le_of_ble_eq_true rfl) (tab_all (t := A.1.1 - 1)) ?_
        rintro v h ⟨rfl, rfl⟩
        refine zz_fin.steps (n := 2) (s' := (58, [some (.ref 540), some (.int 0), some (.int (Int32.ofNat (A.1.1 - 1))), none, none], [.int ((Int32.ofNat (3 + 50 * (A.1.1 - 1))) + 1), .ref 541], aa_H (tm_at g (p + 1) z))) rfl ?_
        rw [aa_succ]
        refine zz_fin.ial (n := 6384) rfl rfl (zz_inbN (by omega) (by omega)) ?_
        rw [zz_toN (by omega), show (aa_H (tm_at g (p + 1) z)).2.2 541 (3 + 50 * (A.1.1 - 1) + 1) = Int32.ofNat (A.2.1 (A.1.1 - 1)) from hT2]
        refine zz_fin.steps (n := 3) (s' := (62, [some (.ref 540), some (.int 0), some (.int (Int32.ofNat (A.1.1 - 1))), some (.int (Int32.ofNat (A.2.1 (A.1.1 - 1)))), none], [.int (Int32.ofNat (A.2.1 (A.1.1 - 1))), .int (Int32.ofNat (A.1.1 - 1))], aa_H (tm_at g (p + 1) z))) rfl ?_
        refine zz_fin.call rfl rfl (Nat.le_of_ble_eq_true rfl) (at_all (t := A.1.1 - 1) (i := A.2.1 (A.1.1 - 1))) ?_
        rintro v h ⟨rfl, rfl⟩
        refine zz_fin.steps (n := 3) (s' := (69, [some (.ref 540), some (.int 0), some (.int (Int32.ofNat (A.1.1 - 1))), some (.int (Int32.ofNat (A.2.1 (A.1.1 - 1)))), some (.int (Int32.ofNat (5 + 50 * (A.1.1 - 1) + 4 * A.2.1 (A.1.1 - 1))))], [.int (Int32.ofNat (A.2.1 (A.1.1 - 1))), .ref 540], aa_H (tm_at g (p + 1) z))) rfl ?_
        have key : zz_fin none 174 (87, [some (.ref 540), some (.int 0), some (.int (Int32.ofNat (A.1.1 - 1))), some (.int (Int32.ofNat (A.2.1 (A.1.1 - 1)))), some (.int (Int32.ofNat (5 + 50 * (A.1.1 - 1) + 4 * A.2.1 (A.1.1 - 1))))], [.int (sp_low A), .ref 540], aa_H (tm_at g (p + 1) z)) (mt_res g n (sp_q b n (sp_then (sp_num b n true (sp_low A) 359 (p + 1)) fun q y => sp_pass b n 44 q fun q => if false = false then sp_hours b n q y A else sp_kind b n q y A))) := by
          generalize sp_low A = LOW
          refine zz_fin.steps (n := 1) (s' := (90, [some (.ref 540), some (.int 0), some (.int (Int32.ofNat (A.1.1 - 1))), some (.int (Int32.ofNat (A.2.1 (A.1.1 - 1)))), some (.int (Int32.ofNat (5 + 50 * (A.1.1 - 1) + 4 * A.2.1 (A.1.1 - 1))))], [.int 359, .int LOW, .ref 540], aa_H (tm_at g (p + 1) z))) rfl ?_
          refine zz_fin.call rfl rfl (Nat.le_of_ble_eq_true rfl) (tm_signed h (p := p + 1) hp) ?_
          rintro v h (⟨f, hf, rfl, g', rfl, hg⟩ | ⟨q, y, hq, rfl, rfl⟩)
          · rw [hf]
            refine zz_fin.if rfl (fun cz => ?_) (fun cz => zc_no0 cz)
            refine zz_fin.steps (n := 1) (s' := (133, [some (.ref 540), some (.int 0), some (.int (Int32.ofNat (A.1.1 - 1))), some (.int (Int32.ofNat (A.2.1 (A.1.1 - 1)))), some (.int (Int32.ofNat (5 + 50 * (A.1.1 - 1) + 4 * A.2.1 (A.1.1 - 1))))], [.int 0], aa_H (g'))) rfl ?_
            exact zz_fin.at (n := 1) rfl (.inl ⟨f, rfl, rfl, g', rfl, mt_fr.rf.bad hA.2.1 (by first | exact hA.1 | exact (aa_w_ne _ _ (by omega)).trans hA.1 | (rw [aa_w_ne _ _ (by omega), aa_w_ne _ _ (by omega), aa_w_ne _ _ (by omega), aa_w_ne _ _ (by omega)]; exact hA.1)) hg⟩)
          · rw [hq]
            have hqn := sp_num_n hq hp
            unfold sp_then sp_pass
            dsimp only
            refine zz_fin.if rfl (fun cz => zc_no1 cz) (fun cz => ?_)
            refine zz_fin.steps (n := 2) (s' := (99, [some (.ref 540), some (.int 0), some (.int (Int32.ofNat (A.1.1 - 1))), some (.int (Int32.ofNat (A.2.1 (A.1.1 - 1)))), some (.int (Int32.ofNat (5 + 50 * (A.1.1 - 1) + 4 * A.2.1 (A.1.1 - 1))))], [.int (Int32.ofNat (5 + 50 * (A.1.1 - 1) + 4 * A.2.1 (A.1.1 - 1))), .ref 540], aa_H (tm_at g q y))) rfl ?_
            refine zz_fin.call (ψ := fun v h' => v = some (.int 1) ∧ h' = aa_H (tm_at (zz_w g 541 (5 + 50 * (A.1.1 - 1) + 4 * A.2.1 (A.1.1 - 1)) y) q y)) rfl rfl (Nat.le_of_ble_eq_true rfl) ?_ ?_
            · refine zz_fin.steps (n := 5) (s' := (9, [some (.ref 540), some (.int (Int32.ofNat (5 + 50 * (A.1.1 - 1) + 4 * A.2.1 (A.1.1 - 1))))], [.int y, .int (Int32.ofNat (5 + 50 * (A.1.1 - 1) + 4 * A.2.1 (A.1.1 - 1))), .ref 541], aa_H (tm_at g q y))) rfl ?_
              refine zz_fin.ias (n := 6384) rfl rfl (zz_inbN (by omega) (by omega)) ?_
              rw [zz_toN (by omega)]
              refine zz_fin.at (n := 2) rfl ⟨rfl, ?_⟩
              exact congrArg aa_H (tm_comm _ _ _ (by decide))
            rintro v h' ⟨rfl, rfl⟩
            refine zz_fin.if rfl (fun cz => zc_no1 cz) (fun cz => ?_)
            refine zz_fin.steps (n := 2) (s' := (108, [some (.ref 540), some (.int 0), some (.int (Int32.ofNat (A.1.1 - 1))), some (.int (Int32.ofNat (A.2.1 (A.1.1 - 1)))), some (.int (Int32.ofNat (5 + 50 * (A.1.1 - 1) + 4 * A.2.1 (A.1.1 - 1))))], [.int 44, .ref 540], aa_H (tm_at (zz_w g 541 (5 + 50 * (A.1.1 - 1) + 4 * A.2.1 (A.1.1 - 1)) y) q y))) rfl ?_
            refine zz_fin.call rfl rfl (Nat.le_of_ble_eq_true rfl) (tm_takes (g := zz_w g 541 (5 + 50 * (A.1.1 - 1) + 4 * A.2.1 (A.1.1 - 1)) y) h hqn.1 (by decide)) ?_
            rintro v h (⟨rfl, hs, hqn2, rfl⟩ | ⟨rfl, hs, g', rfl, hg⟩)
            · rw [if_pos hs]
              refine zz_fin.if rfl (fun cz => zc_no1 cz) (fun cz => ?_)
              refine zz_fin.steps (n := 3) (s' := (117, [some (.ref 540), some (.int 0), some (.int (Int32.ofNat (A.1.1 - 1))), some (.int (Int32.ofNat (A.2.1 (A.1.1 - 1)))), some (.int (Int32.ofNat (5 + 50 * (A.1.1 - 1) + 4 * A.2.1 (A.1.1 - 1))))], [.int 0, .int 0, .ref 540], aa_H (tm_at (zz_w g 541 (5 + 50 * (A.1.1 - 1) + 4 * A.2.1 (A.1.1 - 1)) y) (q + 1) y))) rfl ?_
              refine zz_fin.if rfl (fun cz => ?_) (fun cz => zc_no0 cz)
              refine zz_fin.steps (n := 1) (s' := (126, [some (.ref 540), some (.int 0), some (.int (Int32.ofNat (A.1.1 - 1))), some (.int (Int32.ofNat (A.2.1 (A.1.1 - 1)))), some (.int (Int32.ofNat (5 + 50 * (A.1.1 - 1) + 4 * A.2.1 (A.1.1 - 1))))], [.int 86399, .int 0, .ref 540], aa_H (tm_at (zz_w g 541 (5 + 50 * (A.1.1 - 1) + 4 * A.2.1 (A.1.1 - 1)) y) (q + 1) y))) rfl ?_
              rw [if_pos (show false = false from rfl)]
              unfold sp_hours sp_then sp_pass
              refine zz_fin.call rfl rfl (Nat.le_of_ble_eq_true rfl) (tm_signed (g := zz_w g 541 (5 + 50 * (A.1.1 - 1) + 4 * A.2.1 (A.1.1 - 1)) y) h (p := q + 1) hqn2) ?_
              rintro v h (⟨f, hf, rfl, g', rfl, hg⟩ | ⟨q2, d, hq2, rfl, rfl⟩)
              · rw [hf]
                refine zz_fin.if rfl (fun cz => absurd cz (by decide)) (fun cz => ?_)
                refine zz_fin.steps (n := 1) (s' := (133, [some (.ref 540), some (.int 0), some (.int (Int32.ofNat (A.1.1 - 1))), some (.int (Int32.ofNat (A.2.1 (A.1.1 - 1)))), some (.int (Int32.ofNat (5 + 50 * (A.1.1 - 1) + 4 * A.2.1 (A.1.1 - 1))))], [.int 0], aa_H (g'))) rfl ?_
                exact zz_fin.at (n := 1) rfl (.inl ⟨f, rfl, rfl, g', rfl, (mt_fr.w (v := y) (j := 5 + 50 * (A.1.1 - 1) + 4 * A.2.1 (A.1.1 - 1)) (by omega)).bad hA.2.1 (by first | exact hA.1 | exact (aa_w_ne _ _ (by omega)).trans hA.1 | (rw [aa_w_ne _ _ (by omega), aa_w_ne _ _ (by omega), aa_w_ne _ _ (by omega), aa_w_ne _ _ (by omega)]; exact hA.1)) hg⟩)
              · rw [hq2]
                have hqn3 := sp_num_n hq2 hqn2
                dsimp only
                refine zz_fin.if rfl (fun cz => ?_) (fun cz => absurd rfl cz)
                refine zz_fin.steps (n := 1) (s' := (135, [some (.ref 540), some (.int 0), some (.int (Int32.ofNat (A.1.1 - 1))), some (.int (Int32.ofNat (A.2.1 (A.1.1 - 1)))), some (.int (Int32.ofNat (5 + 50 * (A.1.1 - 1) + 4 * A.2.1 (A.1.1 - 1))))], [.int 0], aa_H (tm_at (zz_w g 541 (5 + 50 * (A.1.1 - 1) + 4 * A.2.1 (A.1.1 - 1)) y) q2 d))) rfl ?_
                refine zz_fin.if rfl (fun cz => ?_) (fun cz => zc_no0 cz)
                refine zz_fin.steps (n := 6) (s' := (162, [some (.ref 540), some (.int 0), some (.int (Int32.ofNat (A.1.1 - 1))), some (.int (Int32.ofNat (A.2.1 (A.1.1 - 1)))), some (.int (Int32.ofNat (5 + 50 * (A.1.1 - 1) + 4 * A.2.1 (A.1.1 - 1))))], [.int (-1), .int 0, .int d, .int (Int32.ofNat (5 + 50 * (A.1.1 - 1) + 4 * A.2.1 (A.1.1 - 1))), .ref 540], aa_H (tm_at (zz_w g 541 (5 + 50 * (A.1.1 - 1) + 4 * A.2.1 (A.1.1 - 1)) y) q2 d))) rfl ?_
                refine zz_fin.call rfl rfl (Nat.le_of_ble_eq_true rfl) (point_lay (P := 5 + 50 * (A.1.1 - 1) + 4 * A.2.1 (A.1.1 - 1)) (by omega)) ?_
                rintro v h ⟨rfl, rfl⟩
                rw [tm_comm _ _ _ (by decide), tm_comm _ _ _ (by decide), tm_comm _ _ _ (by decide)]
                have hfr3 : mt_fr g (zz_w (zz_w (zz_w (zz_w g 541 (5 + 50 * (A.1.1 - 1) + 4 * A.2.1 (A.1.1 - 1)) y) 541 (5 + 50 * (A.1.1 - 1) + 4 * A.2.1 (A.1.1 - 1) + 1) d) 541 (5 + 50 * (A.1.1 - 1) + 4 * A.2.1 (A.1.1 - 1) + 2) 0) 541 (5 + 50 * (A.1.1 - 1) + 4 * A.2.1 (A.1.1 - 1) + 3) (-1)) := (((mt_fr.w (v := y) (j := 5 + 50 * (A.1.1 - 1) + 4 * A.2.1 (A.1.1 - 1)) (by omega)).tr (mt_fr.w (by omega))).tr (mt_fr.w (by omega))).tr (mt_fr.w (by omega))
                refine zz_fin.steps (n := 2) (s' := (168, [some (.ref 540), some (.int 0), some (.int (Int32.ofNat (A.1.1 - 1))), some (.int (Int32.ofNat (A.2.1 (A.1.1 - 1)))), some (.int (Int32.ofNat (5 + 50 * (A.1.1 - 1) + 4 * A.2.1 (A.1.1 - 1))))], [.int 44, .ref 540], aa_H (tm_at (zz_w (zz_w (zz_w (zz_w g 541 (5 + 50 * (A.1.1 - 1) + 4 * A.2.1 (A.1.1 - 1)) y) 541 (5 + 50 * (A.1.1 - 1) + 4 * A.2.1 (A.1.1 - 1) + 1) d) 541 (5 + 50 * (A.1.1 - 1) + 4 * A.2.1 (A.1.1 - 1) + 2) 0) 541 (5 + 50 * (A.1.1 - 1) + 4 * A.2.1 (A.1.1 - 1) + 3) (-1)) q2 d))) rfl ?_
                refine zz_fin.call rfl rfl (Nat.le_of_ble_eq_true rfl) (tm_takes (g := zz_w (zz_w (zz_w (zz_w g 541 (5 + 50 * (A.1.1 - 1) + 4 * A.2.1 (A.1.1 - 1)) y) 541 (5 + 50 * (A.1.1 - 1) + 4 * A.2.1 (A.1.1 - 1) + 1) d) 541 (5 + 50 * (A.1.1 - 1) + 4 * A.2.1 (A.1.1 - 1) + 2) 0) 541 (5 + 50 * (A.1.1 - 1) + 4 * A.2.1 (A.1.1 - 1) + 3) (-1)) h hqn3.1 (by decide)) ?_
                rintro v h (⟨rfl, hs2, hqn4, rfl⟩ | ⟨rfl, hs2, g', rfl, hg⟩)
                · rw [if_pos hs2]
                  refine zz_fin.if rfl (fun cz => zc_no1 cz) (fun cz => ?_)
                  refine zz_fin.steps (n := 6) (s' := (183, [some (.ref 540), some (.int 0), some (.int (Int32.ofNat (A.1.1 - 1))), some (.int (Int32.ofNat (A.2.1 (A.1.1 - 1)))), some (.int (Int32.ofNat (5 + 50 * (A.1.1 - 1) + 4 * A.2.1 (A.1.1 - 1))))], [.int ((Int32.ofNat (5 + 50 * (A.1.1 - 1) + 4 * A.2.1 (A.1.1 - 1))) + 1), .ref 541, .ref 540], aa_H (tm_at (zz_w (zz_w (zz_w (zz_w g 541 (5 + 50 * (A.1.1 - 1) + 4 * A.2.1 (A.1.1 - 1)) y) 541 (5 + 50 * (A.1.1 - 1) + 4 * A.2.1 (A.1.1 - 1) + 1) d) 541 (5 + 50 * (A.1.1 - 1) + 4 * A.2.1 (A.1.1 - 1) + 2) 0) 541 (5 + 50 * (A.1.1 - 1) + 4 * A.2.1 (A.1.1 - 1) + 3) (-1)) (q2 + 1) d))) rfl ?_
                  rw [aa_succ]
                  refine zz_fin.ial (n := 6384) rfl rfl (zz_inbN (by omega) (by omega)) ?_
                  rw [zz_toN (by omega), show (aa_H (tm_at (zz_w (zz_w (zz_w (zz_w g 541 (5 + 50 * (A.1.1 - 1) + 4 * A.2.1 (A.1.1 - 1)) y) 541 (5 + 50 * (A.1.1 - 1) + 4 * A.2.1 (A.1.1 - 1) + 1) d) 541 (5 + 50 * (A.1.1 - 1) + 4 * A.2.1 (A.1.1 - 1) + 2) 0) 541 (5 + 50 * (A.1.1 - 1) + 4 * A.2.1 (A.1.1 - 1) + 3) (-1)) (q2 + 1) d)).2.2 541 (5 + 50 * (A.1.1 - 1) + 4 * A.2.1 (A.1.1 - 1) + 1) = d by show (zz_w (zz_w (zz_w (zz_w g 541 (5 + 50 * (A.1.1 - 1) + 4 * A.2.1 (A.1.1 - 1)) y) 541 (5 + 50 * (A.1.1 - 1) + 4 * A.2.1 (A.1.1 - 1) + 1) d) 541 (5 + 50 * (A.1.1 - 1) + 4 * A.2.1 (A.1.1 - 1) + 2) 0) 541 (5 + 50 * (A.1.1 - 1) + 4 * A.2.1 (A.1.1 - 1) + 3) (-1)) 541 (5 + 50 * (A.1.1 - 1) + 4 * A.2.1 (A.1.1 - 1) + 1) = d; rw [aa_w_ne _ _ (by omega), aa_w_ne _ _ (by omega), aa_w_at]]
                  refine zz_fin.steps (n := 3) (s' := (188, [some (.ref 540), some (.int 0), some (.int (Int32.ofNat (A.1.1 - 1))), some (.int (Int32.ofNat (A.2.1 (A.1.1 - 1)))), some (.int (Int32.ofNat (5 + 50 * (A.1.1 - 1) + 4 * A.2.1 (A.1.1 - 1))))], [.int 86399, .int (d + 1), .ref 540], aa_H (tm_at (zz_w (zz_w (zz_w (zz_w g 541 (5 + 50 * (A.1.1 - 1) + 4 * A.2.1 (A.1.1 - 1)) y) 541 (5 + 50 * (A.1.1 - 1) + 4 * A.2.1 (A.1.1 - 1) + 1) d) 541 (5 + 50 * (A.1.1 - 1) + 4 * A.2.1 (A.1.1 - 1) + 2) 0) 541 (5 + 50 * (A.1.1 - 1) + 4 * A.2.1 (A.1.1 - 1) + 3) (-1)) (q2 + 1) d))) rfl ?_
                  refine zz_fin.call rfl rfl (Nat.le_of_ble_eq_true rfl) (tm_signed (g := zz_w (zz_w (zz_w (zz_w g 541 (5 + 50 * (A.1.1 - 1) + 4 * A.2.1 (A.1.1 - 1)) y) 541 (5 + 50 * (A.1.1 - 1) + 4 * A.2.1 (A.1.1 - 1) + 1) d) 541 (5 + 50 * (A.1.1 - 1) + 4 * A.2.1 (A.1.1 - 1) + 2) 0) 541 (5 + 50 * (A.1.1 - 1) + 4 * A.2.1 (A.1.1 - 1) + 3) (-1)) h (p := q2 + 1) hqn4) ?_
                  rintro v h (⟨f, hf, rfl, g', rfl, hg⟩ | ⟨q3, k, hq3, rfl, rfl⟩)
                  · rw [hf]
                    refine zz_fin.if rfl (fun cz => absurd cz (by decide)) (fun cz => ?_)
                    refine zz_fin.steps (n := 1) (s' := (195, [some (.ref 540), some (.int 0), some (.int (Int32.ofNat (A.1.1 - 1))), some (.int (Int32.ofNat (A.2.1 (A.1.1 - 1)))), some (.int (Int32.ofNat (5 + 50 * (A.1.1 - 1) + 4 * A.2.1 (A.1.1 - 1))))], [.int 0], aa_H (g'))) rfl ?_
                    exact zz_fin.at (n := 1) rfl (.inl ⟨f, rfl, rfl, g', rfl, hfr3.bad hA.2.1 (by first | exact hA.1 | exact (aa_w_ne _ _ (by omega)).trans hA.1 | (rw [aa_w_ne _ _ (by omega), aa_w_ne _ _ (by omega), aa_w_ne _ _ (by omega), aa_w_ne _ _ (by omega)]; exact hA.1)) hg⟩)
                  · rw [hq3]
                    have hqn5 := sp_num_n hq3 hqn4
                    dsimp only
                    refine zz_fin.if rfl (fun cz => ?_) (fun cz => absurd rfl cz)
                    refine zz_fin.steps (n := 5) (s' := (204, [some (.ref 540), some (.int 0), some (.int (Int32.ofNat (A.1.1 - 1))), some (.int (Int32.ofNat (A.2.1 (A.1.1 - 1)))), some (.int (Int32.ofNat (5 + 50 * (A.1.1 - 1) + 4 * A.2.1 (A.1.1 - 1))))], [.int ((Int32.ofNat (5 + 50 * (A.1.1 - 1) + 4 * A.2.1 (A.1.1 - 1))) + 2), .ref 541], aa_H (tm_at (zz_w (zz_w (zz_w (zz_w g 541 (5 + 50 * (A.1.1 - 1) + 4 * A.2.1 (A.1.1 - 1)) y) 541 (5 + 50 * (A.1.1 - 1) + 4 * A.2.1 (A.1.1 - 1) + 1) d) 541 (5 + 50 * (A.1.1 - 1) + 4 * A.2.1 (A.1.1 - 1) + 2) 0) 541 (5 + 50 * (A.1.1 - 1) + 4 * A.2.1 (A.1.1 - 1) + 3) (-1)) q3 k))) rfl ?_
                    rw [show Int32.ofNat (5 + 50 * (A.1.1 - 1) + 4 * A.2.1 (A.1.1 - 1)) + 2 = Int32.ofNat (5 + 50 * (A.1.1 - 1) + 4 * A.2.1 (A.1.1 - 1) + 2) from (Int32.ofNat_add _ 2).symm]
                    refine zz_fin.steps (n := 2) (s' := (208, [some (.ref 540), some (.int 0), some (.int (Int32.ofNat (A.1.1 - 1))), some (.int (Int32.ofNat (A.2.1 (A.1.1 - 1)))), some (.int (Int32.ofNat (5 + 50 * (A.1.1 - 1) + 4 * A.2.1 (A.1.1 - 1))))], [.int k, .int (Int32.ofNat (5 + 50 * (A.1.1 - 1) + 4 * A.2.1 (A.1.1 - 1) + 2)), .ref 541], aa_H (tm_at (zz_w (zz_w (zz_w (zz_w g 541 (5 + 50 * (A.1.1 - 1) + 4 * A.2.1 (A.1.1 - 1)) y) 541 (5 + 50 * (A.1.1 - 1) + 4 * A.2.1 (A.1.1 - 1) + 1) d) 541 (5 + 50 * (A.1.1 - 1) + 4 * A.2.1 (A.1.1 - 1) + 2) 0) 541 (5 + 50 * (A.1.1 - 1) + 4 * A.2.1 (A.1.1 - 1) + 3) (-1)) q3 k))) rfl ?_
                    refine zz_fin.ias (n := 6384) rfl rfl (zz_inbN (by omega) (by omega)) ?_
                    rw [zz_toN (by omega)]
                    refine zz_fin.steps (n := 0) (s' := (209, [some (.ref 540), some (.int 0), some (.int (Int32.ofNat (A.1.1 - 1))), some (.int (Int32.ofNat (A.2.1 (A.1.1 - 1)))), some (.int (Int32.ofNat (5 + 50 * (A.1.1 - 1) + 4 * A.2.1 (A.1.1 - 1))))], [], aa_H (zz_w (tm_at (zz_w (zz_w (zz_w (zz_w g 541 (5 + 50 * (A.1.1 - 1) + 4 * A.2.1 (A.1.1 - 1)) y) 541 (5 + 50 * (A.1.1 - 1) + 4 * A.2.1 (A.1.1 - 1) + 1) d) 541 (5 + 50 * (A.1.1 - 1) + 4 * A.2.1 (A.1.1 - 1) + 2) 0) 541 (5 + 50 * (A.1.1 - 1) + 4 * A.2.1 (A.1.1 - 1) + 3) (-1)) q3 k) 541 (5 + 50 * (A.1.1 - 1) + 4 * A.2.1 (A.1.1 - 1) + 2) k))) rfl ?_
                    rw [tm_comm _ _ _ (by decide)]
                    refine zz_fin.steps (n := 3) (s' := (214, [some (.ref 540), some (.int 0), some (.int (Int32.ofNat (A.1.1 - 1))), some (.int (Int32.ofNat (A.2.1 (A.1.1 - 1)))), some (.int (Int32.ofNat (5 + 50 * (A.1.1 - 1) + 4 * A.2.1 (A.1.1 - 1))))], [.int (Int32.ofNat (A.1.1 - 1)), .ref 541], aa_H (tm_at (zz_w (zz_w (zz_w (zz_w (zz_w g 541 (5 + 50 * (A.1.1 - 1) + 4 * A.2.1 (A.1.1 - 1)) y) 541 (5 + 50 * (A.1.1 - 1) + 4 * A.2.1 (A.1.1 - 1) + 1) d) 541 (5 + 50 * (A.1.1 - 1) + 4 * A.2.1 (A.1.1 - 1) + 2) 0) 541 (5 + 50 * (A.1.1 - 1) + 4 * A.2.1 (A.1.1 - 1) + 3) (-1)) 541 (5 + 50 * (A.1.1 - 1) + 4 * A.2.1 (A.1.1 - 1) + 2) k) q3 k))) rfl ?_
                    refine zz_fin.call rfl rfl (Nat.le_of_ble_eq_true rfl) (tab_all (t := A.1.1 - 1)) ?_
                    rintro v h ⟨rfl, rfl⟩
                    refine zz_fin.steps (n := 2) (s' := (219, [some (.ref 540), some (.int 0), some (.int (Int32.ofNat (A.1.1 - 1))), some (.int (Int32.ofNat (A.2.1 (A.1.1 - 1)))), some (.int (Int32.ofNat (5 + 50 * (A.1.1 - 1) + 4 * A.2.1 (A.1.1 - 1))))], [.int ((Int32.ofNat (3 + 50 * (A.1.1 - 1))) + 1), .ref 541], aa_H (tm_at (zz_w (zz_w (zz_w (zz_w (zz_w g 541 (5 + 50 * (A.1.1 - 1) + 4 * A.2.1 (A.1.1 - 1)) y) 541 (5 + 50 * (A.1.1 - 1) + 4 * A.2.1 (A.1.1 - 1) + 1) d) 541 (5 + 50 * (A.1.1 - 1) + 4 * A.2.1 (A.1.1 - 1) + 2) 0) 541 (5 + 50 * (A.1.1 - 1) + 4 * A.2.1 (A.1.1 - 1) + 3) (-1)) 541 (5 + 50 * (A.1.1 - 1) + 4 * A.2.1 (A.1.1 - 1) + 2) k) q3 k))) rfl ?_
                    rw [aa_succ]
                    refine zz_fin.steps (n := 1) (s' := (220, [some (.ref 540), some (.int 0), some (.int (Int32.ofNat (A.1.1 - 1))), some (.int (Int32.ofNat (A.2.1 (A.1.1 - 1)))), some (.int (Int32.ofNat (5 + 50 * (A.1.1 - 1) + 4 * A.2.1 (A.1.1 - 1))))], [.int (Int32.ofNat (3 + 50 * (A.1.1 - 1) + 1)), .ref 541, .int (Int32.ofNat (3 + 50 * (A.1.1 - 1) + 1)), .ref 541], aa_H (tm_at (zz_w (zz_w (zz_w (zz_w (zz_w g 541 (5 + 50 * (A.1.1 - 1) + 4 * A.2.1 (A.1.1 - 1)) y) 541 (5 + 50 * (A.1.1 - 1) + 4 * A.2.1 (A.1.1 - 1) + 1) d) 541 (5 + 50 * (A.1.1 - 1) + 4 * A.2.1 (A.1.1 - 1) + 2) 0) 541 (5 + 50 * (A.1.1 - 1) + 4 * A.2.1 (A.1.1 - 1) + 3) (-1)) 541 (5 + 50 * (A.1.1 - 1) + 4 * A.2.1 (A.1.1 - 1) + 2) k) q3 k))) rfl ?_
                    refine zz_fin.ial (n := 6384) rfl rfl (zz_inbN (by omega) (by omega)) ?_
                    rw [zz_toN (by omega), show (aa_H (tm_at (zz_w (zz_w (zz_w (zz_w (zz_w g 541 (5 + 50 * (A.1.1 - 1) + 4 * A.2.1 (A.1.1 - 1)) y) 541 (5 + 50 * (A.1.1 - 1) + 4 * A.2.1 (A.1.1 - 1) + 1) d) 541 (5 + 50 * (A.1.1 - 1) + 4 * A.2.1 (A.1.1 - 1) + 2) 0) 541 (5 + 50 * (A.1.1 - 1) + 4 * A.2.1 (A.1.1 - 1) + 3) (-1)) 541 (5 + 50 * (A.1.1 - 1) + 4 * A.2.1 (A.1.1 - 1) + 2) k) q3 k)).2.2 541 (3 + 50 * (A.1.1 - 1) + 1) = Int32.ofNat (A.2.1 (A.1.1 - 1)) by show (zz_w (zz_w (zz_w (zz_w (zz_w g 541 (5 + 50 * (A.1.1 - 1) + 4 * A.2.1 (A.1.1 - 1)) y) 541 (5 + 50 * (A.1.1 - 1) + 4 * A.2.1 (A.1.1 - 1) + 1) d) 541 (5 + 50 * (A.1.1 - 1) + 4 * A.2.1 (A.1.1 - 1) + 2) 0) 541 (5 + 50 * (A.1.1 - 1) + 4 * A.2.1 (A.1.1 - 1) + 3) (-1)) 541 (5 + 50 * (A.1.1 - 1) + 4 * A.2.1 (A.1.1 - 1) + 2) k) 541 (3 + 50 * (A.1.1 - 1) + 1) = _; rw [aa_w_ne _ _ (by omega), aa_w_ne _ _ (by omega), aa_w_ne _ _ (by omega), aa_w_ne _ _ (by omega), aa_w_ne _ _ (by omega)]; exact hT2]
                    refine zz_fin.steps (n := 2) (s' := (223, [some (.ref 540), some (.int 0), some (.int (Int32.ofNat (A.1.1 - 1))), some (.int (Int32.ofNat (A.2.1 (A.1.1 - 1)))), some (.int (Int32.ofNat (5 + 50 * (A.1.1 - 1) + 4 * A.2.1 (A.1.1 - 1))))], [.int ((Int32.ofNat (A.2.1 (A.1.1 - 1))) + 1), .int (Int32.ofNat (3 + 50 * (A.1.1 - 1) + 1)), .ref 541], aa_H (tm_at (zz_w (zz_w (zz_w (zz_w (zz_w g 541 (5 + 50 * (A.1.1 - 1) + 4 * A.2.1 (A.1.1 - 1)) y) 541 (5 + 50 * (A.1.1 - 1) + 4 * A.2.1 (A.1.1 - 1) + 1) d) 541 (5 + 50 * (A.1.1 - 1) + 4 * A.2.1 (A.1.1 - 1) + 2) 0) 541 (5 + 50 * (A.1.1 - 1) + 4 * A.2.1 (A.1.1 - 1) + 3) (-1)) 541 (5 + 50 * (A.1.1 - 1) + 4 * A.2.1 (A.1.1 - 1) + 2) k) q3 k))) rfl ?_
                    rw [aa_succ]
                    refine zz_fin.ias (n := 6384) rfl rfl (zz_inbN (by omega) (by omega)) ?_
                    rw [zz_toN (by omega)]
                    refine zz_fin.steps (n := 0) (s' := (224, [some (.ref 540), some (.int 0), some (.int (Int32.ofNat (A.1.1 - 1))), some (.int (Int32.ofNat (A.2.1 (A.1.1 - 1)))), some (.int (Int32.ofNat (5 + 50 * (A.1.1 - 1) + 4 * A.2.1 (A.1.1 - 1))))], [], aa_H (zz_w (tm_at (zz_w (zz_w (zz_w (zz_w (zz_w g 541 (5 + 50 * (A.1.1 - 1) + 4 * A.2.1 (A.1.1 - 1)) y) 541 (5 + 50 * (A.1.1 - 1) + 4 * A.2.1 (A.1.1 - 1) + 1) d) 541 (5 + 50 * (A.1.1 - 1) + 4 * A.2.1 (A.1.1 - 1) + 2) 0) 541 (5 + 50 * (A.1.1 - 1) + 4 * A.2.1 (A.1.1 - 1) + 3) (-1)) 541 (5 + 50 * (A.1.1 - 1) + 4 * A.2.1 (A.1.1 - 1) + 2) k) q3 k) 541 (3 + 50 * (A.1.1 - 1) + 1) (Int32.ofNat (A.2.1 (A.1.1 - 1) + 1))))) rfl ?_
                    rw [tm_comm _ _ _ (by decide)]
                    refine zz_fin.steps (n := 2) (s' := (227, [some (.ref 540), some (.int 0), some (.int (Int32.ofNat (A.1.1 - 1))), some (.int (Int32.ofNat (A.2.1 (A.1.1 - 1)))), some (.int (Int32.ofNat (5 + 50 * (A.1.1 - 1) + 4 * A.2.1 (A.1.1 - 1))))], [.int 59, .ref 540], aa_H (tm_at (zz_w (zz_w (zz_w (zz_w (zz_w (zz_w g 541 (5 + 50 * (A.1.1 - 1) + 4 * A.2.1 (A.1.1 - 1)) y) 541 (5 + 50 * (A.1.1 - 1) + 4 * A.2.1 (A.1.1 - 1) + 1) d) 541 (5 + 50 * (A.1.1 - 1) + 4 * A.2.1 (A.1.1 - 1) + 2) 0) 541 (5 + 50 * (A.1.1 - 1) + 4 * A.2.1 (A.1.1 - 1) + 3) (-1)) 541 (5 + 50 * (A.1.1 - 1) + 4 * A.2.1 (A.1.1 - 1) + 2) k) 541 (3 + 50 * (A.1.1 - 1) + 1) (Int32.ofNat (A.2.1 (A.1.1 - 1) + 1))) q3 k))) rfl ?_
                    have hA3 : mv0 (zz_w (zz_w (zz_w (zz_w (zz_w (zz_w g 541 (5 + 50 * (A.1.1 - 1) + 4 * A.2.1 (A.1.1 - 1)) y) 541 (5 + 50 * (A.1.1 - 1) + 4 * A.2.1 (A.1.1 - 1) + 1) d) 541 (5 + 50 * (A.1.1 - 1) + 4 * A.2.1 (A.1.1 - 1) + 2) 0) 541 (5 + 50 * (A.1.1 - 1) + 4 * A.2.1 (A.1.1 - 1) + 3) (-1)) 541 (5 + 50 * (A.1.1 - 1) + 4 * A.2.1 (A.1.1 - 1) + 2) k) 541 (3 + 50 * (A.1.1 - 1) + 1) (Int32.ofNat (A.2.1 (A.1.1 - 1) + 1))) (sp_point A y d k (-1)) := by
                      refine mv0_point hA e0 (by omega) ?_ ?_ ?_ ?_ (aa_w_at _ _ _ _) fun j hj => ?_
                      · rw [aa_w_ne _ _ (by omega), aa_w_ne _ _ (by omega), aa_w_ne _ _ (by omega), aa_w_ne _ _ (by omega), aa_w_ne _ _ (by omega), aa_w_at]
                      · rw [aa_w_ne _ _ (by omega), aa_w_ne _ _ (by omega), aa_w_ne _ _ (by omega), aa_w_ne _ _ (by omega), aa_w_at]
                      · rw [aa_w_ne _ _ (by omega), aa_w_at]
                      · rw [aa_w_ne _ _ (by omega), aa_w_ne _ _ (by omega), aa_w_at]
                      · rw [aa_w_ne _ _ (by omega), aa_w_ne _ _ (by omega), aa_w_ne _ _ (by omega), aa_w_ne _ _ (by omega), aa_w_ne _ _ (by omega), aa_w_ne _ _ (by omega)]
                    refine zz_fin.call rfl rfl (Nat.le_of_ble_eq_true rfl) (mt_end h ((hfr3.tr (mt_fr.w (by omega))).tr (mt_fr.w (by omega))) hA3 hqn5.1) ?_
                    rintro v h' hres
                    rcases hres with ⟨f, k1, rfl, k2⟩ | ⟨q, A', k1, k2, rfl, k3⟩
                    · exact zz_fin.at (n := 1) rfl (.inl ⟨f, k1, rfl, k2⟩)
                    · exact zz_fin.at (n := 1) rfl (.inr ⟨q, A', k1, k2, rfl, k3⟩)
                · rw [if_neg hs2]
                  refine zz_fin.if rfl (fun cz => ?_) (fun cz => zc_no0 cz)
                  refine zz_fin.steps (n := 1) (s' := (195, [some (.ref 540), some (.int 0), some (.int (Int32.ofNat (A.1.1 - 1))), some (.int (Int32.ofNat (A.2.1 (A.1.1 - 1)))), some (.int (Int32.ofNat (5 + 50 * (A.1.1 - 1) + 4 * A.2.1 (A.1.1 - 1))))], [.int 0], aa_H (g'))) rfl ?_
                  exact zz_fin.at (n := 1) rfl (.inl ⟨q2, rfl, rfl, g', rfl, hfr3.bad hA.2.1 (by rw [aa_w_ne _ _ (by omega), aa_w_ne _ _ (by omega), aa_w_ne _ _ (by omega), aa_w_ne _ _ (by omega)]; exact hA.1) hg⟩)
            · rw [if_neg hs]
              refine zz_fin.if rfl (fun cz => ?_) (fun cz => zc_no0 cz)
              refine zz_fin.steps (n := 1) (s' := (133, [some (.ref 540), some (.int 0), some (.int (Int32.ofNat (A.1.1 - 1))), some (.int (Int32.ofNat (A.2.1 (A.1.1 - 1)))), some (.int (Int32.ofNat (5 + 50 * (A.1.1 - 1) + 4 * A.2.1 (A.1.1 - 1))))], [.int 0], aa_H (g'))) rfl ?_
              exact zz_fin.at (n := 1) rfl (.inl ⟨q, rfl, rfl, g', rfl, (mt_fr.w (v := y) (j := 5 + 50 * (A.1.1 - 1) + 4 * A.2.1 (A.1.1 - 1)) (by omega)).bad hA.2.1 ((aa_w_ne _ _ (by omega)).trans hA.1) hg⟩)
        by_cases ez : A.2.1 (A.1.1 - 1) = 0
        · have el : sp_low A = 0 := by unfold sp_low; rw [if_pos ez]; first | done | decide
          rw [el] at key ⊢
          refine zz_fin.if rfl (fun cz => ?_) (fun cz => ?_)
          · have c : Int32.ofNat (A.2.1 (A.1.1 - 1)) ≠ 0 := of_decide_eq_true cz
            exact absurd (by rw [ez]; rfl) c
          · refine zz_fin.steps (n := 2) (s' := (87, [some (.ref 540), some (.int 0), some (.int (Int32.ofNat (A.1.1 - 1))), some (.int (Int32.ofNat (A.2.1 (A.1.1 - 1)))), some (.int (Int32.ofNat (5 + 50 * (A.1.1 - 1) + 4 * A.2.1 (A.1.1 - 1))))], [.int 0, .ref 540], aa_H (tm_at g (p + 1) z))) rfl ?_
            exact key
        · have el : sp_low A = A.2.2 (A.1.1 - 1) (A.2.1 (A.1.1 - 1) - 1) 0 + 1 := by unfold sp_low; rw [if_neg ez]
          rw [el] at key ⊢
          refine zz_fin.if rfl (fun cz => ?_) (fun cz => ?_)
          · have e4 : Int32.ofNat (5 + 50 * (A.1.1 - 1) + 4 * A.2.1 (A.1.1 - 1)) - 4 = Int32.ofNat (5 + 50 * (A.1.1 - 1) + 4 * (A.2.1 (A.1.1 - 1) - 1)) := aa_eqN (by rw [aa_sub32 (by rw [zz_ofN (by omega), show (4 : Int32).toInt = 4 from rfl]; omega) (by rw [zz_ofN (by omega), show (4 : Int32).toInt = 4 from rfl]; omega), zz_ofN (by omega), show (4 : Int32).toInt = 4 from rfl]; omega) (by omega)
            refine zz_fin.steps (n := 5) (s' := (84, [some (.ref 540), some (.int 0), some (.int (Int32.ofNat (A.1.1 - 1))), some (.int (Int32.ofNat (A.2.1 (A.1.1 - 1)))), some (.int (Int32.ofNat (5 + 50 * (A.1.1 - 1) + 4 * A.2.1 (A.1.1 - 1))))], [.int ((Int32.ofNat (5 + 50 * (A.1.1 - 1) + 4 * A.2.1 (A.1.1 - 1))) - 4), .ref 541, .ref 540], aa_H (tm_at g (p + 1) z))) rfl ?_
            rw [e4]
            refine zz_fin.ial (n := 6384) rfl rfl (zz_inbN (by omega) (by omega)) ?_
            rw [zz_toN (by omega), show (aa_H (tm_at g (p + 1) z)).2.2 541 (5 + 50 * (A.1.1 - 1) + 4 * (A.2.1 (A.1.1 - 1) - 1)) = A.2.2 (A.1.1 - 1) (A.2.1 (A.1.1 - 1) - 1) 0 from (hT4 (A.2.1 (A.1.1 - 1) - 1) (by omega)).1]
            refine zz_fin.steps (n := 2) (s' := (87, [some (.ref 540), some (.int 0), some (.int (Int32.ofNat (A.1.1 - 1))), some (.int (Int32.ofNat (A.2.1 (A.1.1 - 1)))), some (.int (Int32.ofNat (5 + 50 * (A.1.1 - 1) + 4 * A.2.1 (A.1.1 - 1))))], [.int (A.2.2 (A.1.1 - 1) (A.2.1 (A.1.1 - 1) - 1) 0 + 1), .ref 540], aa_H (tm_at g (p + 1) z))) rfl ?_
            exact key
          · have c : Int32.ofNat (A.2.1 (A.1.1 - 1)) = 0 := Decidable.byContradiction fun z => cz (decide_eq_true z)
            have e := zz_ofN (n := A.2.1 (A.1.1 - 1)) (by omega)
            rw [c, show (0 : Int32).toInt = 0 from rfl] at e
            omega
      · have c1 : Int32.ofNat (A.2.1 (A.1.1 - 1)) = 12 := Decidable.byContradiction fun z => c1 (decide_eq_true z)
        have c1 : A.2.1 (A.1.1 - 1) = 12 := by have e := zz_ofN (n := A.2.1 (A.1.1 - 1)) (by omega); rw [c1, show (12 : Int32).toInt = 12 from rfl] at e; omega
        rw [if_neg fun e => e.2 c1]
        refine zz_fin.steps (n := 3) (s' := (34, [some (.ref 540), some (.int 0), some (.int (Int32.ofNat (A.1.1 - 1))), none, none], [.int (Int32.ofNat p), .ref 540], aa_H (tm_at g p z))) rfl ?_
        refine zz_fin.call rfl rfl (Nat.le_of_ble_eq_true rfl) (tm_fails _) ?_
        rintro v h ⟨rfl, rfl⟩
        exact zz_fin.at (n := 1) rfl (.inl ⟨p, rfl, rfl, _, rfl, mt_fr.rf.bad hA.2.1 hA.1 (tm_bad_of g p z p)⟩)
end
section
/-! A TEXT: the model reads all items -/
theorem mt_item {g : aa_G} {b : Nat → Int32} {n p : Nat} {z : Int32} {A : sp_A} (h : tm_ok g b n) (hA : mv0 g A) (hp : p < n) : zz_fin none 166 (0, zz_in [.ref 540] (zz_nl 166), [], aa_H (tm_at g p z)) (mt_res g n (sp_q b n (sp_item b n p A))) := by
  have hn := h.2.1
  refine zz_fin.steps (n := 1) (s' := (1, [some (.ref 540), none], [.ref 540], aa_H (tm_at g p z))) rfl ?_
  refine zz_fin.call rfl rfl (Nat.le_of_ble_eq_true rfl) (tm_here h (by omega)) ?_
  rintro v h ⟨rfl, rfl⟩
  refine zz_fin.steps (n := 3) (s' := (8, [some (.ref 540), some (.int (sp_hb b n p))], [.int 116, .int (sp_hb b n p)], aa_H (tm_at g p z))) rfl ?_
  refine zz_fin.ic rfl (fun c1 => ?_) (fun c1 => ?_)
  · have c1 : sp_hb b n p ≠ 116 := of_decide_eq_true c1
    refine zz_fin.steps (n := 2) (s' := (21, [some (.ref 540), some (.int (sp_hb b n p))], [.int 112, .int (sp_hb b n p)], aa_H (tm_at g p z))) rfl ?_
    refine zz_fin.ic rfl (fun c2 => ?_) (fun c2 => ?_)
    · have c2 : sp_hb b n p = 112 := of_decide_eq_true c2
      have e : sp_item b n p A = sp_body b n p false A := by unfold sp_item sp_body; rw [if_neg c1]; simp [c2]
      rw [e, c2]
      refine zz_fin.steps (n := 3) (s' := (34, [some (.ref 540), some (.int 112)], [.int 120, .int 112, .ref 540], aa_H (tm_at g p z))) rfl ?_
      refine zz_fin.ic rfl (fun cz => ?_) (fun cz => absurd rfl cz)
      refine zz_fin.steps (n := 1) (s' := (42, [some (.ref 540), some (.int 112)], [.int 0, .ref 540], aa_H (tm_at g p z))) rfl ?_
      refine zz_fin.call rfl rfl (Nat.le_of_ble_eq_true rfl) (mt_point_0 h hA hp) ?_
      rintro v h' hres
      rcases hres with ⟨f, k1, rfl, k2⟩ | ⟨q, A', k1, k2, rfl, k3⟩
      · obtain ⟨g', rfl, k2⟩ := k2
        exact zz_fin.at (n := 2) rfl (.inl ⟨f, k1, rfl, g', rfl, k2⟩)
      · obtain ⟨g', z', rfl, k3⟩ := k3
        exact zz_fin.at (n := 2) rfl (.inr ⟨q, A', k1, k2, rfl, g', z', rfl, k3⟩)
    · have c2 : sp_hb b n p ≠ 112 := fun z => c2 (decide_eq_true z)
      refine zz_fin.steps (n := 2) (s' := (27, [some (.ref 540), some (.int (sp_hb b n p))], [.int 120, .int (sp_hb b n p)], aa_H (tm_at g p z))) rfl ?_
      refine zz_fin.ic rfl (fun c3 => ?_) (fun c3 => ?_)
      · have c3 : sp_hb b n p ≠ 120 := of_decide_eq_true c3
        have e : sp_item b n p A = .inl p := by rw [show sp_item b n p A = _ from if_neg c1, if_neg fun z => z.1.elim c2 c3]
        rw [e]
        refine zz_fin.steps (n := 3) (s' := (53, [some (.ref 540), some (.int (sp_hb b n p))], [.int (Int32.ofNat p), .ref 540], aa_H (tm_at g p z))) rfl ?_
        refine zz_fin.call rfl rfl (Nat.le_of_ble_eq_true rfl) (tm_fails _) ?_
        rintro v h' ⟨rfl, rfl⟩
        exact zz_fin.at (n := 1) rfl (.inl ⟨p, rfl, rfl, _, rfl, mt_fr.rf.bad hA.2.1 hA.1 (tm_bad_of g p z p)⟩)
      · have c3 : sp_hb b n p = 120 := Decidable.byContradiction fun z => c3 (decide_eq_true z)
        have e : sp_item b n p A = sp_body b n p true A := by unfold sp_item sp_body; rw [if_neg c1]; simp [c3]
        rw [e, c3]
        refine zz_fin.steps (n := 3) (s' := (34, [some (.ref 540), some (.int 120)], [.int 120, .int 120, .ref 540], aa_H (tm_at g p z))) rfl ?_
        refine zz_fin.ic rfl (fun cz => absurd cz (by decide)) (fun cz => ?_)
        refine zz_fin.steps (n := 2) (s' := (42, [some (.ref 540), some (.int 120)], [.int 1, .ref 540], aa_H (tm_at g p z))) rfl ?_
        refine zz_fin.call rfl rfl (Nat.le_of_ble_eq_true rfl) (mt_point_1 h hA hp) ?_
        rintro v h' hres
        rcases hres with ⟨f, k1, rfl, k2⟩ | ⟨q, A', k1, k2, rfl, k3⟩
        · obtain ⟨g', rfl, k2⟩ := k2
          exact zz_fin.at (n := 2) rfl (.inl ⟨f, k1, rfl, g', rfl, k2⟩)
        · obtain ⟨g', z', rfl, k3⟩ := k3
          exact zz_fin.at (n := 2) rfl (.inr ⟨q, A', k1, k2, rfl, g', z', rfl, k3⟩)
  · have c1 : sp_hb b n p = 116 := Decidable.byContradiction fun z => c1 (decide_eq_true z)
    rw [show sp_item b n p A = sp_rtown b n p A from if_pos c1]
    refine zz_fin.steps (n := 1) (s' := (12, [some (.ref 540), some (.int (sp_hb b n p))], [.ref 540], aa_H (tm_at g p z))) rfl ?_
    refine zz_fin.call rfl rfl (Nat.le_of_ble_eq_true rfl) (mt_rtown h hA hp) ?_
    rintro v h' hres
    rcases hres with ⟨f, k1, rfl, k2⟩ | ⟨q, A', k1, k2, rfl, k3⟩
    · obtain ⟨g', rfl, k2⟩ := k2
      exact zz_fin.at (n := 2) rfl (.inl ⟨f, k1, rfl, g', rfl, k2⟩)
    · obtain ⟨g', z', rfl, k3⟩ := k3
      exact zz_fin.at (n := 2) rfl (.inr ⟨q, A', k1, k2, rfl, g', z', rfl, k3⟩)
/-- how many points -/
def sp_pts (A : sp_A) : Nat → Nat
  | 0 => 0
  | k + 1 => sp_pts A k + A.2.1 k
theorem sp_pts_le {A : sp_A} (h : ∀ t, t < A.1.1 → A.2.1 t ≤ 12) : ∀ k, k ≤ A.1.1 → sp_pts A k ≤ 12 * k
  | 0, _ => Nat.le_refl _
  | k + 1, hk => by
    have := sp_pts_le h k (by omega)
    have := h k (by omega)
    show sp_pts A k + A.2.1 k ≤ _
    omega
theorem mt_cloop {g : aa_G} {A : sp_A} (hA : mv0 g A) (n : Nat) : ∀ (k : Nat), n + k = A.1.1 → zz_fin none 163 (4, [some (.ref 540), some (.int (Int32.ofNat (sp_pts A k))), some (.int (Int32.ofNat k))], [], aa_H g) (fun v h => v = some (.int (Int32.ofNat (sp_pts A A.1.1))) ∧ h = aa_H g) := by
  have h0 : g 541 0 = Int32.ofNat A.1.1 := hA.1
  have h4 := hA.2.1
  have hle := sp_pts_le fun t ht => (hA.2.2 t ht).2.2.1
  induction n with
  | zero =>
    intro k hk
    refine zz_fin.steps (n := 5) (s' := (11, [some (.ref 540), some (.int (Int32.ofNat (sp_pts A k))), some (.int (Int32.ofNat k))], [.int (g 541 0), .int (Int32.ofNat k)], aa_H g)) rfl ?_
    rw [h0]
    refine zz_fin.ic rfl (fun c1 => ?_) (fun c1 => ?_)
    · refine zz_fin.steps (n := 1) (s' := (35, [some (.ref 540), some (.int (Int32.ofNat (sp_pts A k))), some (.int (Int32.ofNat k))], [.int (Int32.ofNat (sp_pts A k))], aa_H g)) rfl ?_
      exact zz_fin.at (n := 1) rfl ⟨by rw [show k = A.1.1 by omega], rfl⟩
    · refine absurd (decide_eq_true (aa_le32.mpr ?_)) c1
      rw [zz_ofN (by omega), zz_ofN (by omega)]
      omega
  | succ n ih =>
    intro k hk
    have hk2 := hle k (by omega)
    refine zz_fin.steps (n := 5) (s' := (11, [some (.ref 540), some (.int (Int32.ofNat (sp_pts A k))), some (.int (Int32.ofNat k))], [.int (g 541 0), .int (Int32.ofNat k)], aa_H g)) rfl ?_
    rw [h0]
    refine zz_fin.ic rfl (fun c1 => ?_) (fun c1 => ?_)
    · have c1 : (Int32.ofNat A.1.1).toInt ≤ (Int32.ofNat k).toInt := aa_le32.mp (of_decide_eq_true c1)
      rw [zz_ofN (by omega), zz_ofN (by omega)] at c1
      omega
    · refine zz_fin.steps (n := 4) (s' := (20, [some (.ref 540), some (.int (Int32.ofNat (sp_pts A k))), some (.int (Int32.ofNat k))], [.int (Int32.ofNat k), .ref 541, .int (Int32.ofNat (sp_pts A k))], aa_H g)) rfl ?_
      refine zz_fin.call rfl rfl (Nat.le_of_ble_eq_true rfl) (tab_all (t := k)) ?_
      rintro v h ⟨rfl, rfl⟩
      refine zz_fin.steps (n := 2) (s' := (25, [some (.ref 540), some (.int (Int32.ofNat (sp_pts A k))), some (.int (Int32.ofNat k))], [.int ((Int32.ofNat (3 + 50 * k)) + 1), .ref 541, .int (Int32.ofNat (sp_pts A k))], aa_H g)) rfl ?_
      rw [aa_succ]
      refine zz_fin.ial (n := 6384) rfl rfl (zz_inbN (by omega) (by omega)) ?_
      rw [zz_toN (by omega), show (aa_H g).2.2 541 (3 + 50 * k + 1) = Int32.ofNat (A.2.1 k) from (hA.2.2 k (by omega)).2.1]
      refine zz_fin.steps (n := 4) (s' := (4, [some (.ref 540), some (.int ((Int32.ofNat (sp_pts A k)) + (Int32.ofNat (A.2.1 k)))), some (.int ((Int32.ofNat k) + 1))], [], aa_H g)) rfl ?_
      rw [aa_succ, show Int32.ofNat (sp_pts A k) + Int32.ofNat (A.2.1 k) = Int32.ofNat (sp_pts A (k + 1)) from (Int32.ofNat_add _ _).symm]
      exact ih (k + 1) (by omega)
theorem mt_count {g : aa_G} {A : sp_A} (hA : mv0 g A) : zz_fin none 163 (0, zz_in [.ref 540] (zz_nl 163), [], aa_H g) (fun v h => v = some (.int (Int32.ofNat (sp_pts A A.1.1))) ∧ h = aa_H g) := by
  refine zz_fin.steps (n := 4) (s' := (4, [some (.ref 540), some (.int (Int32.ofNat (sp_pts A 0))), some (.int (Int32.ofNat 0))], [], aa_H g)) rfl ?_
  exact mt_cloop hA A.1.1 0 rfl
/-- one item, one town or point more -/
theorem sp_then_ok {r : Nat ⊕ (Nat × Int32)} {k : Nat → Int32 → Nat ⊕ (Nat × sp_A)} {q : Nat} {A' : sp_A} (h : sp_then r k = .inr (q, A')) : ∃ q1 z, k q1 z = .inr (q, A') := by
  cases r with
  | inl f => cases h
  | inr r => exact ⟨r.1, r.2, h⟩
theorem sp_pass_ok {b : Nat → Int32} {n : Nat} {c : Int32} {p q : Nat} {k : Nat → Nat ⊕ (Nat × sp_A)} {A' : sp_A} (h : sp_pass b n c p k = .inr (q, A')) : k (p + 1) = .inr (q, A') := by
  unfold sp_pass at h
  split at h
  · exact h
  · cases h
theorem sp_pts_congr {A A' : sp_A} : ∀ k, (∀ t, t < k → A'.2.1 t = A.2.1 t) → sp_pts A' k = sp_pts A k
  | 0, _ => rfl
  | k + 1, h => by
    show sp_pts A' k + A'.2.1 k = sp_pts A k + A.2.1 k
    rw [sp_pts_congr k (fun t ht => h t (by omega)), h k (by omega)]
def sp_all (A : sp_A) : Nat := A.1.1 + sp_pts A A.1.1
theorem sp_all_town (A : sp_A) (z : Int32) : sp_all (sp_town A z) = sp_all A + 1 := by
  show A.1.1 + 1 + (sp_pts (sp_town A z) A.1.1 + (if A.1.1 = A.1.1 then 0 else A.2.1 A.1.1)) = A.1.1 + sp_pts A A.1.1 + 1
  rw [if_pos rfl, sp_pts_congr (A := A) A.1.1 fun t ht => if_neg (by omega)]
  omega
theorem sp_all_point (A : sp_A) (y d k p : Int32) (h : A.1.1 ≠ 0) : sp_all (sp_point A y d k p) = sp_all A + 1 := by
  obtain ⟨t, ht⟩ : ∃ t, A.1.1 = t + 1 := ⟨A.1.1 - 1, by omega⟩
  unfold sp_all
  show A.1.1 + sp_pts (sp_point A y d k p) A.1.1 = _
  rw [ht]
  show t + 1 + (sp_pts (sp_point A y d k p) t + (if t = A.1.1 - 1 then A.2.1 t + 1 else A.2.1 t)) = t + 1 + (sp_pts A t + A.2.1 t) + 1
  rw [if_pos (by omega), sp_pts_congr (A := A) t fun s hs => if_neg (by omega)]
  omega
theorem sp_item_all {b : Nat → Int32} {n p q : Nat} {A A' : sp_A} (h : sp_item b n p A = .inr (q, A')) : sp_all A' = sp_all A + 1 := by
  have fin : ∀ {q1 : Nat} {A1 : sp_A}, (Sum.inr (q1, A1) : Nat ⊕ (Nat × sp_A)) = .inr (q, A') → A1 = A' := fun e => congrArg Prod.snd (Sum.inr.inj e)
  unfold sp_item at h
  split at h
  · unfold sp_rtown at h
    split at h
    · cases h
    · obtain ⟨q1, z, e⟩ := sp_then_ok h
      rw [← fin e]
      exact sp_all_town A z
  · split at h
    · rename_i hh
      obtain ⟨q1, y, e⟩ := sp_then_ok h
      have e := sp_pass_ok e
      split at e
      · obtain ⟨q2, d, e⟩ := sp_then_ok e
        have e := sp_pass_ok e
        obtain ⟨q3, k, e⟩ := sp_then_ok e
        rw [← fin e]
        exact sp_all_point A _ _ _ _ hh.2.1
      · obtain ⟨q2, z, e⟩ := sp_then_ok e
        rw [← fin e]
        exact sp_all_point A _ _ _ _ hh.2.1
    · cases h
theorem sp_items_all {b : Nat → Int32} {n : Nat} : ∀ (k p c : Nat) (A : sp_A) {c' : Nat} {A' : sp_A}, sp_items b n k p c A = .inr (c', A') → c' + sp_all A = c + sp_all A'
  | 0, p, c, A, c', A', h => by
    have h : (Sum.inr (c, A) : Nat ⊕ (Nat × sp_A)) = .inr (c', A') := h
    have e1 : c = c' := congrArg Prod.fst (Sum.inr.inj h)
    have e2 : A = A' := congrArg Prod.snd (Sum.inr.inj h)
    rw [e1, e2]
  | k + 1, p, c, A, c', A', h => by
    rw [sp_items] at h
    split at h
    · split at h
      · cases h
      · rename_i q A1 hi
        split at h
        · have := sp_items_all k (q + 1) (c + 1) A1 h
          have := sp_item_all hi
          omega
        · cases h
    · have e1 : c = c' := congrArg Prod.fst (Sum.inr.inj h)
      have e2 : A = A' := congrArg Prod.snd (Sum.inr.inj h)
      rw [e1, e2]
end
section
/-! A RUN HAS ONE END; the model's deedOf with all that it says -/
theorem zz_walk_up {P : zz_P} {us : Nat → List Nat} {X : zz_X} : ∀ (n m : Nat) (s : zz_S) (r : zz_R), zz_walk P us X n m s = some (.inr r) → ∀ n', n ≤ n' → zz_walk P us X n' m s = some (.inr r)
  | 0, m, s, r, h, _, _ => by cases h
  | n + 1, m, (pc, lv, st, h0), r, h, n', hn => by
    obtain ⟨n', rfl⟩ : ∃ k, n' = k + 1 := ⟨n' - 1, by omega⟩
    rw [zz_walk] at h ⊢
    split at h
    · cases h
    · rename_i e he
      try rw [he]
      try dsimp only
      split at h
      · cases h
      · rename_i s1 hs
        try rw [hs]
        exact zz_walk_up n m s1 r h n' (by omega)
      · rename_i r1 hs
        try rw [hs]
        exact h
      · rename_i m2 as rest hs
        try rw [hs]
        try dsimp only
        split at h
        · rename_i hf
          try rw [if_pos hf]
          split at h
          · rename_i q v h1 hc
            rw [zz_walk_up n m2 _ _ hc n' (by omega)]
            exact zz_walk_up n m _ r h n' (by omega)
          · cases h
        · cases h
theorem zz_fin.and {X : zz_X} {m : Nat} {s : zz_S} {φ ψ : Option Value → zz_H → Prop} (h1 : zz_fin X m s φ) (h2 : zz_fin X m s ψ) : zz_fin X m s (fun v h => φ v h ∧ ψ v h) := by
  obtain ⟨n1, q1, v1, t1, w1, p1⟩ := h1
  obtain ⟨n2, q2, v2, t2, w2, p2⟩ := h2
  have e1 := zz_walk_up _ _ _ _ w1 (n1 + n2) (by omega)
  have e2 := zz_walk_up _ _ _ _ w2 (n1 + n2) (by omega)
  rw [e1] at e2
  have e3 := Sum.inr.inj (Option.some.inj e2)
  have ev : v1 = v2 := congrArg (fun r : zz_R => r.2.1) e3
  have et : t1 = t2 := congrArg (fun r : zz_R => r.2.2) e3
  subst ev
  subst et
  exact ⟨n1, q1, v1, t1, w1, p1, p2⟩
/-- a row comes to the model's deeds -/
def md_push (g g' : aa_G) (row c : Nat) : Prop := g' 540 1 = Int32.ofNat (min (c + 1) 12) ∧ (∀ q, q < 399 → g' 541 (399 * (3 + min c 11) + q) = g 541 (399 * row + q)) ∧ (∀ i q, q < 399 → i < min c 11 → g' 541 (399 * (3 + i) + q) = g 541 (399 * (3 + i + (if c = 12 then 1 else 0)) + q)) ∧ ∀ k j, ¬ (k = 541 ∧ 1197 ≤ j ∧ j < 5985) → ¬ (k = 540 ∧ j = 1) → g' k j = g k j
theorem md_tail {row : Nat} (hrow : row = 0 ∨ row = 15) {g : aa_G} {c : Nat} (hc : g 540 1 = Int32.ofNat c) (h11 : c ≤ 11) (x : Option Value) : zz_fin none 157 (45, [some (.ref 540), some (.int (Int32.ofNat row)), x], [], aa_H g) (fun v h => v = none ∧ ∃ g', h = aa_H g' ∧ md_push g g' row c) := by
  refine zz_fin.steps (n := 5) (s' := (52, [some (.ref 540), some (.int (Int32.ofNat row)), x], [.int (g 540 1), .int (Int32.ofNat 3), .int (Int32.ofNat row), .ref 540], aa_H g)) rfl ?_
  rw [hc]
  refine zz_fin.steps (n := 1) (s' := (53, [some (.ref 540), some (.int (Int32.ofNat row)), x], [.int (Int32.ofNat 3 + Int32.ofNat c), .int (Int32.ofNat row), .ref 540], aa_H g)) rfl ?_
  rw [show Int32.ofNat 3 + Int32.ofNat c = Int32.ofNat (3 + c) from (Int32.ofNat_add 3 c).symm]
  refine zz_fin.call rfl rfl (Nat.le_of_ble_eq_true rfl) (row_copy row (3 + c) (by omega) (by omega) (by omega) g) ?_
  rintro v h ⟨rfl, g1, rfl, k1, k2⟩
  have hc1 : g1 540 1 = Int32.ofNat c := (k2 540 1 (by omega)).trans hc
  refine zz_fin.steps (n := 4) (s' := (62, [some (.ref 540), some (.int (Int32.ofNat row)), x], [.int 1, .int (g1 540 1), .ref 540], aa_H g1)) rfl ?_
  rw [hc1]
  refine zz_fin.steps (n := 1) (s' := (63, [some (.ref 540), some (.int (Int32.ofNat row)), x], [.int (Int32.ofNat c + 1), .ref 540], aa_H g1)) rfl ?_
  rw [aa_succ]
  refine zz_fin.at (n := 2) rfl ⟨rfl, zz_w g1 540 1 (Int32.ofNat (c + 1)), rfl, ?_, fun q hq => ?_, fun i q hq hi => ?_, fun k j h1 h2 => ?_⟩
  · rw [aa_w_at, show min (c + 1) 12 = c + 1 by omega]
  · rw [aa_w_ne _ _ (by omega), show min c 11 = c by omega]
    exact k1 q hq
  · rw [aa_w_ne _ _ (by omega), if_neg (by omega)]
    have hi : i < c := by omega
    exact k2 541 _ (by omega)
  · rw [aa_w_ne _ _ (by omega)]
    exact k2 k j (by omega)
/-- the rows have gone down, so many of them -/
def md_sh (g g' : aa_G) (k : Nat) : Prop := (∀ i q, q < 399 → i + 1 < k → g' 541 (399 * (3 + i) + q) = g 541 (399 * (4 + i) + q)) ∧ ∀ a j, ¬ (a = 541 ∧ 1197 ≤ j ∧ j < 399 * (2 + k)) → g' a j = g a j
theorem md_loop {row : Nat} {φ : Option Value → zz_H → Prop} {g0 : aa_G} (n : Nat) : ∀ (k : Nat), n + k = 12 → 1 ≤ k → ∀ g, md_sh g0 g k → (∀ g, md_sh g0 g 12 → ∀ x, zz_fin none 157 (35, [some (.ref 540), some (.int (Int32.ofNat row)), x], [], aa_H g) φ) → zz_fin none 157 (11, [some (.ref 540), some (.int (Int32.ofNat row)), some (.int (Int32.ofNat k))], [], aa_H g) φ := by
  induction n with
  | zero =>
    intro k hk h1 g hs k0
    have hk : k = 12 := by omega
    subst hk
    refine zz_fin.steps (n := 2) (s' := (14, [some (.ref 540), some (.int (Int32.ofNat row)), some (.int (Int32.ofNat 12))], [.int 12, .int (Int32.ofNat 12)], aa_H g)) rfl ?_
    refine zz_fin.ic rfl (fun cz => ?_) (fun cz => absurd rfl cz)
    exact k0 g hs _
  | succ n ih =>
    intro k hk h1 g hs k0
    refine zz_fin.steps (n := 2) (s' := (14, [some (.ref 540), some (.int (Int32.ofNat row)), some (.int (Int32.ofNat k))], [.int 12, .int (Int32.ofNat k)], aa_H g)) rfl ?_
    refine zz_fin.ic rfl (fun cz => ?_) (fun cz => ?_)
    · have cz : (12 : Int32).toInt ≤ (Int32.ofNat k).toInt := aa_le32.mp (of_decide_eq_true cz)
      rw [zz_ofN (by omega), show (12 : Int32).toInt = 12 from rfl] at cz
      omega
    · refine zz_fin.steps (n := 9) (s' := (26, [some (.ref 540), some (.int (Int32.ofNat row)), some (.int (Int32.ofNat k))], [.int (Int32.ofNat 3 + Int32.ofNat k - 1), .int (Int32.ofNat 3 + Int32.ofNat k), .ref 540], aa_H g)) rfl ?_
      rw [show Int32.ofNat 3 + Int32.ofNat k = Int32.ofNat (3 + k) from (Int32.ofNat_add 3 k).symm, aa_pred (by omega) (by omega)]
      refine zz_fin.call rfl rfl (Nat.le_of_ble_eq_true rfl) (row_copy (3 + k) (3 + k - 1) (by omega) (by omega) (by omega) g) ?_
      rintro v h ⟨rfl, g1, rfl, k1, k2⟩
      refine zz_fin.steps (n := 2) (s' := (11, [some (.ref 540), some (.int (Int32.ofNat row)), some (.int (Int32.ofNat k + 1))], [], aa_H g1)) rfl ?_
      rw [aa_succ]
      refine ih (k + 1) (by omega) (by omega) g1 ⟨fun i q hq hi => ?_, fun a j haj => ?_⟩ k0
      · by_cases e : i + 1 = k
        · rw [show 399 * (3 + i) + q = 399 * (3 + k - 1) + q by omega, k1 q hq, hs.2 _ _ (by omega), show 399 * (4 + i) + q = 399 * (3 + k) + q by omega]
        · rw [k2 541 _ (by omega)]
          exact hs.1 i q hq (by omega)
      · rw [k2 a j (by omega)]
        exact hs.2 a j (by omega)
theorem md_deed {row : Nat} (hrow : row = 0 ∨ row = 15) {g : aa_G} {c : Nat} (hc : g 540 1 = Int32.ofNat c) (h12 : c ≤ 12) : zz_fin none 157 (0, zz_in [.ref 540, .int (Int32.ofNat row)] (zz_nl 157), [], aa_H g) (fun v h => v = none ∧ ∃ g', h = aa_H g' ∧ md_push g g' row c) := by
  refine zz_fin.steps (n := 3) (s' := (6, [some (.ref 540), some (.int (Int32.ofNat row)), none], [.int 12, .int (g 540 1)], aa_H g)) rfl ?_
  rw [hc]
  refine zz_fin.ic rfl (fun cz => ?_) (fun cz => ?_)
  · have cz : Int32.ofNat c ≠ 12 := of_decide_eq_true cz
    have hne : c ≠ 12 := fun e => cz (by rw [e]; rfl)
    exact md_tail hrow hc (by omega) _
  · have cz : Int32.ofNat c = 12 := Decidable.byContradiction fun z => cz (decide_eq_true z)
    have h12 : c = 12 := by
      have e := zz_ofN (n := c) (by omega)
      rw [cz, show (12 : Int32).toInt = 12 from rfl] at e
      omega
    subst h12
    refine zz_fin.steps (n := 2) (s' := (11, [some (.ref 540), some (.int (Int32.ofNat row)), some (.int (Int32.ofNat 1))], [], aa_H g)) rfl ?_
    refine md_loop 11 1 rfl (Nat.le_refl 1) g ⟨fun i q _ hi => absurd hi (by omega), fun _ _ _ => rfl⟩ fun g1 hs x => ?_
    have hc1 : g1 540 1 = Int32.ofNat 12 := (hs.2 540 1 (by omega)).trans hc
    refine zz_fin.steps (n := 4) (s' := (41, [some (.ref 540), some (.int (Int32.ofNat row)), x], [.int 1, .int (g1 540 1), .ref 540], aa_H g1)) rfl ?_
    rw [hc1]
    refine zz_fin.steps (n := 2) (s' := (45, [some (.ref 540), some (.int (Int32.ofNat row)), x], [], aa_H (zz_w g1 540 1 (Int32.ofNat 12 - 1)))) rfl ?_
    refine (md_tail hrow (g := zz_w g1 540 1 (Int32.ofNat 12 - 1)) (c := 11) (aa_w_at _ _ _ _) (by omega) x).mono ?_
    rintro v h ⟨rfl, g', rfl, p1, p2, p3, p4⟩
    refine ⟨rfl, g', rfl, p1, fun q hq => ?_, fun i q hq hi => ?_, fun k j h1 h2 => ?_⟩
    · have := p2 q hq
      rw [aa_w_ne _ _ (by omega)] at this
      refine this.trans (hs.2 541 _ ?_)
      rcases hrow with rfl | rfl <;> omega
    · have := p3 i q hq hi
      rw [aa_w_ne _ _ (by omega), if_neg (by decide)] at this
      rw [if_pos rfl]
      refine this.trans ?_
      have hi : i < 11 := hi
      have e := hs.1 i q hq (by omega)
      rw [show 399 * (3 + i + 0) + q = 399 * (3 + i) + q by omega, show 399 * (3 + i + 1) + q = 399 * (4 + i) + q by omega]
      exact e
    · rw [p4 k j h1 h2, aa_w_ne _ _ (by omega)]
      exact hs.2 k j (by omega)
end
section
/-! A TEXT: the model's text, whole -/
theorem mt_cany {g : aa_G} {T : Nat} (hT : T ≤ 4) (h0 : g 541 0 = Int32.ofNat T) (n : Nat) : ∀ (k : Nat) (w : Int32), n + k = T → zz_fin none 163 (4, [some (.ref 540), some (.int w), some (.int (Int32.ofNat k))], [], aa_H g) (fun v h => (∃ w, v = some (.int w)) ∧ h = aa_H g) := by
  induction n with
  | zero =>
    intro k w hk
    refine zz_fin.steps (n := 5) (s' := (11, [some (.ref 540), some (.int w), some (.int (Int32.ofNat k))], [.int (g 541 0), .int (Int32.ofNat k)], aa_H g)) rfl ?_
    rw [h0]
    refine zz_fin.ic rfl (fun c1 => ?_) (fun c1 => ?_)
    · refine zz_fin.steps (n := 1) (s' := (35, [some (.ref 540), some (.int w), some (.int (Int32.ofNat k))], [.int w], aa_H g)) rfl ?_
      exact zz_fin.at (n := 1) rfl ⟨⟨w, rfl⟩, rfl⟩
    · refine absurd (decide_eq_true (aa_le32.mpr ?_)) c1
      rw [zz_ofN (by omega), zz_ofN (by omega)]
      omega
  | succ n ih =>
    intro k w hk
    refine zz_fin.steps (n := 5) (s' := (11, [some (.ref 540), some (.int w), some (.int (Int32.ofNat k))], [.int (g 541 0), .int (Int32.ofNat k)], aa_H g)) rfl ?_
    rw [h0]
    refine zz_fin.ic rfl (fun c1 => ?_) (fun c1 => ?_)
    · have c1 : (Int32.ofNat T).toInt ≤ (Int32.ofNat k).toInt := aa_le32.mp (of_decide_eq_true c1)
      rw [zz_ofN (by omega), zz_ofN (by omega)] at c1
      omega
    · refine zz_fin.steps (n := 4) (s' := (20, [some (.ref 540), some (.int w), some (.int (Int32.ofNat k))], [.int (Int32.ofNat k), .ref 541, .int w], aa_H g)) rfl ?_
      refine zz_fin.call rfl rfl (Nat.le_of_ble_eq_true rfl) (tab_all (t := k)) ?_
      rintro v h ⟨rfl, rfl⟩
      refine zz_fin.steps (n := 2) (s' := (25, [some (.ref 540), some (.int w), some (.int (Int32.ofNat k))], [.int ((Int32.ofNat (3 + 50 * k)) + 1), .ref 541, .int w], aa_H g)) rfl ?_
      rw [aa_succ]
      refine zz_fin.ial (n := 6384) rfl rfl (zz_inbN (by omega) (by omega)) ?_
      rw [zz_toN (by omega)]
      refine zz_fin.steps (n := 4) (s' := (4, [some (.ref 540), some (.int (w + (g 541 (3 + 50 * k + 1)))), some (.int ((Int32.ofNat k) + 1))], [], aa_H g)) rfl ?_
      rw [aa_succ]
      exact ih (k + 1) _ (by omega)
theorem mt_any {g : aa_G} {T : Nat} (hT : T ≤ 4) (h0 : g 541 0 = Int32.ofNat T) : zz_fin none 163 (0, zz_in [.ref 540] (zz_nl 163), [], aa_H g) (fun v h => (∃ w, v = some (.int w)) ∧ h = aa_H g) := by
  refine zz_fin.steps (n := 4) (s' := (4, [some (.ref 540), some (.int 0), some (.int (Int32.ofNat 0))], [], aa_H g)) rfl ?_
  exact mt_cany hT h0 T 0 0 rfl
theorem mt_loop {b : Nat → Int32} {n : Nat} {w0 : Int32} {φ : Option Value → zz_H → Prop} {g0 : aa_G} : ∀ (k p c : Nat) (A : sp_A) (g : aa_G) (z : Int32), n < k + p → p ≤ n → mt_fr g0 g → tm_ok g b n → mv0 g A →
    (∀ f g', sp_items b n k p c A = .inl f → mt_bad g0 f g' → zz_fin none 162 (48, [some (.ref 540), some (.int w0), some (.int 0), none], [], aa_H g') φ) →
    (∀ c' A' g' q z', sp_items b n k p c A = .inr (c', A') → mt_fr g0 g' → mv0 g' A' → zz_fin none 162 (48, [some (.ref 540), some (.int w0), some (.int 1), none], [], aa_H (tm_at g' q z')) φ) →
    zz_fin none 162 (25, [some (.ref 540), some (.int w0), some (.int 1), none], [], aa_H (tm_at g p z)) φ := by
  intro k
  induction k with
  | zero => intro p c A g z hk hp hf h hA k1 k2; omega
  | succ k ih =>
    intro p c A g z hk hp hf h hA k1 k2
    have hn := h.2.1
    have h0 : tm_at g p z 540 4 = Int32.ofNat n := h.1
    refine zz_fin.steps (n := 1) (s' := (26, [some (.ref 540), some (.int w0), some (.int 1), none], [.int 1], aa_H (tm_at g p z))) rfl ?_
    refine zz_fin.if rfl (fun cz => zc_no1 cz) (fun cz => ?_)
    refine zz_fin.steps (n := 4) (s' := (37, [some (.ref 540), some (.int w0), some (.int 1), none], [.int ((tm_at g p z) 540 4), .int (Int32.ofNat p)], aa_H (tm_at g p z))) rfl ?_
    rw [h0]
    refine zz_fin.ic rfl (fun c1 => ?_) (fun c1 => ?_)
    · have c1 : (Int32.ofNat n).toInt ≤ (Int32.ofNat p).toInt := aa_le32.mp (of_decide_eq_true c1)
      rw [zz_ofN (by omega), zz_ofN (by omega)] at c1
      exact k2 c A g p z (if_neg (by omega)) hf hA
    · have c1 : ¬ (Int32.ofNat n).toInt ≤ (Int32.ofNat p).toInt := fun z => c1 (decide_eq_true (aa_le32.mpr z))
      rw [zz_ofN (by omega), zz_ofN (by omega)] at c1
      have hm : p < n := by omega
      rw [show sp_items b n (k + 1) p c A = _ from if_pos hm] at k1 k2
      refine zz_fin.steps (n := 1) (s' := (41, [some (.ref 540), some (.int w0), some (.int 1), none], [.ref 540], aa_H (tm_at g p z))) rfl ?_
      cases hs : sp_item b n p A with
      | inl f =>
        rw [hs] at k1
        refine zz_fin.call rfl rfl (Nat.le_of_ble_eq_true rfl) (mt_item h hA hm) ?_
        rintro v h' hres
        rw [hs] at hres
        rcases hres with ⟨f', e1, rfl, g', rfl, hg⟩ | ⟨q, A', e1, -⟩
        · have e1 := Sum.inl.inj (show (Sum.inl f : Nat ⊕ (Nat × sp_A)) = .inl f' from e1)
          subst e1
          refine zz_fin.steps (n := 4) (s' := (48, [some (.ref 540), some (.int w0), some (.int 0), none], [], aa_H g')) rfl ?_
          exact k1 f g' rfl (hf.bad2 hg)
        · cases e1
      | inr r =>
        obtain ⟨q, A1⟩ := r
        rw [hs] at k1 k2
        refine zz_fin.call rfl rfl (Nat.le_of_ble_eq_true rfl) (mt_item h hA hm) ?_
        rintro v h' hres
        rw [hs] at hres
        by_cases hc : sp_hb b n q = 59
        · have e0 : sp_q b n (.inr (q, A1)) = .inr (q + 1, A1) := if_pos hc
          rw [e0] at hres
          rcases hres with ⟨f', e1, -⟩ | ⟨q', A', e1, hqn, rfl, g', z', rfl, hfr, hA'⟩
          · cases e1
          · have e1 := Sum.inr.inj e1
            have e2 : q + 1 = q' := congrArg Prod.fst e1
            have e3 : A1 = A' := congrArg Prod.snd e1
            subst e2
            subst e3
            have hle := sp_item_le hs hp
            refine zz_fin.steps (n := 2) (s' := (25, [some (.ref 540), some (.int w0), some (.int 1), none], [], aa_H (tm_at g' (q + 1) z'))) rfl ?_
            dsimp only at k1 k2
            rw [if_pos hc] at k1 k2
            exact ih (q + 1) (c + 1) A1 g' z' (by omega) hqn (hf.tr hfr) (mt_ok h hfr) hA' k1 k2
        · have e0 : sp_q b n (.inr (q, A1)) = .inl q := if_neg hc
          rw [e0] at hres
          rcases hres with ⟨f', e1, rfl, g', rfl, hg⟩ | ⟨q', A', e1, -⟩
          · have e1 := Sum.inl.inj e1
            subst e1
            refine zz_fin.steps (n := 4) (s' := (48, [some (.ref 540), some (.int w0), some (.int 0), none], [], aa_H g')) rfl ?_
            dsimp only at k1
            rw [if_neg hc] at k1
            exact k1 q g' rfl (hf.bad2 hg)
          · cases e1
/-- row 0 is as it was, but for towns and points -/
def mt_row (g g' : aa_G) : Prop := ∀ j, j < 399 → ¬ (j = 0 ∨ (3 ≤ j ∧ j < 203)) → g' 541 j = g 541 j
/-- what text leaves alone -/
def mt_keep (g g' : aa_G) : Prop := ∀ k j, k ≠ 541 → ¬ (k = 540 ∧ (j = 1 ∨ (4 ≤ j ∧ j ≤ 7))) → g' k j = g k j
theorem mt_text {g : aa_G} {b : Nat → Int32} {n c : Nat} {A : sp_A} (h : tm_ok g b n) (hA : mv0 g A) (hc : g 540 1 = Int32.ofNat c) (h12 : c ≤ 12) : zz_fin none 162 (0, zz_in [.ref 540] (zz_nl 162), [], aa_H g) (fun v h => ∃ g', h = aa_H g' ∧ g' 540 4 = 0 ∧ mt_keep g g' ∧ ((∃ f, sp_items b n (n + 1) 0 0 A = .inl f ∧ v = some (.int (-1)) ∧ g' 540 6 = Int32.ofNat f ∧ g' 540 1 = g 540 1 ∧ ∀ j, j < 5985 → g' 541 j = g 541 j) ∨ (∃ c' A', sp_items b n (n + 1) 0 0 A = .inr (c', A') ∧ v = some (.int (Int32.ofNat c')) ∧ g' 540 6 = -1 ∧ mv0 g' A' ∧ mt_row g g' ∧ g' 540 1 = Int32.ofNat (min (c + 1) 12) ∧ (∀ q, q < 399 → g' 541 (399 * (3 + min c 11) + q) = g 541 q) ∧ (∀ i q, q < 399 → i < min c 11 → g' 541 (399 * (3 + i) + q) = g 541 (399 * (3 + i + (if c = 12 then 1 else 0)) + q)) ∧ ∀ j, 399 ≤ j → j < 1197 → g' 541 j = g 541 j))) := by
  have hn := h.2.1
  refine zz_fin.steps (n := 3) (s' := (4, [some (.ref 540), none, none, none], [.int (Int32.ofNat 15), .int (Int32.ofNat 0), .ref 540], aa_H g)) rfl ?_
  refine zz_fin.call rfl rfl (Nat.le_of_ble_eq_true rfl) (row_copy 0 15 (by omega) (by omega) (by omega) g) ?_
  rintro v h' ⟨rfl, g1, rfl, r1, r2⟩
  have hA1 : mv0 g1 A := mv0_of hA fun j hj => r2 541 j (by omega)
  have h1 : tm_ok g1 b n := ⟨(r2 540 4 (by omega)).trans h.1, hn, fun j hj => by rw [r2 543 j (by omega)]; exact h.2.2 j hj⟩
  refine zz_fin.steps (n := 5) (s' := (14, [some (.ref 540), none, none, none], [.ref 540, .int (g1 541 0)], aa_H g1)) rfl ?_
  rw [hA1.1]
  refine zz_fin.call rfl rfl (Nat.le_of_ble_eq_true rfl) (mt_count hA1) ?_
  rintro v h' ⟨rfl, rfl⟩
  refine zz_fin.steps (n := 3) (s' := (20, [some (.ref 540), some (.int (Int32.ofNat A.1.1 + Int32.ofNat (sp_pts A A.1.1))), none, none], [.ref 540], aa_H g1)) rfl ?_
  rw [show Int32.ofNat A.1.1 + Int32.ofNat (sp_pts A A.1.1) = Int32.ofNat (sp_all A) from (Int32.ofNat_add _ _).symm]
  refine zz_fin.call (ψ := fun v h' => v = none ∧ h' = aa_H (zz_w (zz_w g1 540 5 0) 540 6 (-1))) rfl rfl (Nat.le_of_ble_eq_true rfl) ?_ ?_
  · refine zz_fin.steps (n := 6) (s' := (10, [some (.ref 540)], [], aa_H (zz_w (zz_w g1 540 5 0) 540 6 (-1)))) rfl ?_
    exact zz_fin.at (n := 1) rfl ⟨rfl, rfl⟩
  rintro v h' ⟨rfl, rfl⟩
  have hbase : zz_w (zz_w g1 540 5 0) 540 6 (-1) = tm_at (zz_w g1 540 6 (-1)) 0 (g1 540 7) := by
    funext k j
    unfold tm_at
    simp only [zz_w_if]
    by_cases e5 : k = 540 ∧ j = 5
    · obtain ⟨rfl, rfl⟩ := e5
      rfl
    · by_cases e7 : k = 540 ∧ j = 7
      · obtain ⟨rfl, rfl⟩ := e7
        rfl
      · rw [if_neg e5, if_neg e7, if_neg e5]
  refine zz_fin.steps (n := 2) (s' := (25, [some (.ref 540), some (.int (Int32.ofNat (sp_all A))), some (.int 1), none], [], aa_H (zz_w (zz_w g1 540 5 0) 540 6 (-1)))) rfl ?_
  rw [hbase]
  have hall : sp_all A ≤ 52 := by
    have := sp_pts_le (A := A) (fun t ht => (hA.2.2 t ht).2.2.1) A.1.1 (Nat.le_refl _)
    have := hA.2.1
    unfold sp_all
    omega
  refine mt_loop (g0 := zz_w g1 540 6 (-1)) (n + 1) 0 0 A (zz_w g1 540 6 (-1)) _ (by omega) (by omega) mt_fr.rf h1 (mv0_of hA1 fun j _ => aa_w_ne _ _ (by omega)) (fun f g' hs hg => ?_) (fun c' A' g' q z' hs hf hA' => ?_)
  · obtain ⟨b1, b2, T, hT, hT2⟩ := hg
    refine zz_fin.steps (n := 8) (s' := (60, [some (.ref 540), some (.int (Int32.ofNat (sp_all A))), some (.int 0), none], [.ref 540, .int (g' 541 0)], aa_H (zz_w g' 540 4 0))) rfl ?_
    refine zz_fin.call rfl rfl (Nat.le_of_ble_eq_true rfl) (mt_any hT (g := zz_w g' 540 4 0) ((aa_w_ne _ _ (by omega)).trans hT2)) ?_
    rintro v h' ⟨⟨w, rfl⟩, rfl⟩
    refine zz_fin.steps (n := 5) (s' := (68, [some (.ref 540), some (.int (Int32.ofNat (sp_all A))), some (.int 0), some (.int (g' 541 0 + w - Int32.ofNat (sp_all A)))], [.int 0], aa_H (zz_w g' 540 4 0))) rfl ?_
    refine zz_fin.if rfl (fun cz => ?_) (fun cz => zc_no0 cz)
    refine zz_fin.steps (n := 3) (s' := (83, [some (.ref 540), some (.int (Int32.ofNat (sp_all A))), some (.int 0), some (.int (g' 541 0 + w - Int32.ofNat (sp_all A)))], [.int (Int32.ofNat 0), .int (Int32.ofNat 15), .ref 540], aa_H (zz_w g' 540 4 0))) rfl ?_
    refine zz_fin.call rfl rfl (Nat.le_of_ble_eq_true rfl) (row_copy 15 0 (by omega) (by omega) (by omega) (zz_w g' 540 4 0)) ?_
    rintro v h' ⟨rfl, g2, rfl, p1, p2⟩
    refine zz_fin.at (n := 2) rfl ⟨g2, rfl, (p2 540 4 (by omega)).trans (aa_w_at _ _ _ _), fun k j e1 e2 => ?_, .inl ⟨f, hs, rfl, ?_, ?_, fun j hj => ?_⟩⟩
    · rw [p2 k j (by omega), aa_w_ne _ _ (by omega), b1 k j (by omega) (by omega), aa_w_ne _ _ (by omega)]
      exact r2 k j (by omega)
    · rw [p2 540 6 (by omega), aa_w_ne _ _ (by omega)]
      exact b2
    · rw [p2 540 1 (by omega), aa_w_ne _ _ (by omega), b1 540 1 (by omega) (by omega), aa_w_ne _ _ (by omega)]
      exact r2 540 1 (by omega)
    · by_cases e : j < 399
      · have q1 := p1 j e
        rw [show 399 * 0 + j = j by omega] at q1
        rw [q1, aa_w_ne _ _ (by omega), b1 541 _ (by omega) (by omega), aa_w_ne _ _ (by omega), r1 j e, show 399 * 0 + j = j by omega]
      · rw [p2 541 j (by omega), aa_w_ne _ _ (by omega), b1 541 j (by omega) (by omega), aa_w_ne _ _ (by omega)]
        exact r2 541 j (by omega)
  · have hall2 := sp_items_all (n + 1) 0 0 A hs
    have hall3 : sp_all A' ≤ 52 := by
      have := sp_pts_le (A := A') (fun t ht => (hA'.2.2 t ht).2.2.1) A'.1.1 (Nat.le_refl _)
      have := hA'.2.1
      unfold sp_all
      omega
    generalize hG : tm_at g' q z' = G
    have G1 : ∀ k j, ¬ (k = 540 ∧ (j = 5 ∨ j = 7)) → G k j = g' k j := fun k j hk => by
      rw [← hG]
      unfold tm_at
      rw [aa_w_ne _ _ (by omega), aa_w_ne _ _ (by omega)]
    have hAG : mv0 (zz_w G 540 4 0) A' := mv0_of hA' fun j _ => (aa_w_ne _ _ (by omega)).trans (G1 541 j (by omega))
    have hG0 : (zz_w G 540 4 0) 541 0 = Int32.ofNat A'.1.1 := hAG.1
    refine zz_fin.steps (n := 8) (s' := (60, [some (.ref 540), some (.int (Int32.ofNat (sp_all A))), some (.int 1), none], [.ref 540, .int ((zz_w G 540 4 0) 541 0)], aa_H (zz_w G 540 4 0))) rfl ?_
    rw [hG0]
    refine zz_fin.call rfl rfl (Nat.le_of_ble_eq_true rfl) (mt_count hAG) ?_
    rintro v h' ⟨rfl, rfl⟩
    refine zz_fin.steps (n := 5) (s' := (68, [some (.ref 540), some (.int (Int32.ofNat (sp_all A))), some (.int 1), some (.int (Int32.ofNat A'.1.1 + Int32.ofNat (sp_pts A' A'.1.1) - Int32.ofNat (sp_all A)))], [.int 1], aa_H (zz_w G 540 4 0))) rfl ?_
    have hn2 : Int32.ofNat A'.1.1 + Int32.ofNat (sp_pts A' A'.1.1) - Int32.ofNat (sp_all A) = Int32.ofNat c' := by
      rw [show Int32.ofNat A'.1.1 + Int32.ofNat (sp_pts A' A'.1.1) = Int32.ofNat (sp_all A') from (Int32.ofNat_add _ _).symm]
      refine aa_eqN ?_ (by omega)
      rw [aa_sub32 (by rw [zz_ofN (by omega), zz_ofN (by omega)]; omega) (by rw [zz_ofN (by omega), zz_ofN (by omega)]; omega), zz_ofN (by omega), zz_ofN (by omega)]
      omega
    rw [hn2]
    refine zz_fin.if rfl (fun cz => zc_no1 cz) (fun cz => ?_)
    have fr : ∀ k j, ¬ (k = 541 ∧ (j = 0 ∨ (3 ≤ j ∧ j < 203) ∨ 5985 ≤ j)) → ¬ (k = 540 ∧ 4 ≤ j ∧ j ≤ 7) → (zz_w G 540 4 0) k j = g k j := fun k j e1 e2 => by
      rw [aa_w_ne _ _ (by omega), G1 k j (by omega), hf k j (by omega), aa_w_ne _ _ (by omega)]
      exact r2 k j (by omega)
    have hcG : (zz_w G 540 4 0) 540 1 = Int32.ofNat c := (fr 540 1 (by omega) (by omega)).trans hc
    refine zz_fin.steps (n := 2) (s' := (74, [some (.ref 540), some (.int (Int32.ofNat (sp_all A))), some (.int 1), some (.int (Int32.ofNat c'))], [.int (Int32.ofNat 15), .ref 540], aa_H (zz_w G 540 4 0))) rfl ?_
    refine zz_fin.call rfl rfl (Nat.le_of_ble_eq_true rfl) (md_deed (row := 15) (.inr rfl) hcG h12) ?_
    rintro v h' ⟨rfl, g2, rfl, p1, p2, p3, p4⟩
    have row15 : ∀ q, q < 399 → (zz_w G 540 4 0) 541 (399 * 15 + q) = g 541 q := fun q hq => by
      rw [aa_w_ne _ _ (by omega), G1 _ _ (by omega), hf _ _ (by omega), aa_w_ne _ _ (by omega), r1 q hq, show 399 * 0 + q = q by omega]
    refine zz_fin.at (n := 2) rfl ⟨g2, rfl, (p4 540 4 (by omega) (by omega)).trans (aa_w_at _ _ _ _), fun k j e1 e2 => ?_, .inr ⟨c', A', hs, rfl, ?_, mv0_of hAG fun j hj => p4 541 j (by omega) (by omega), fun j hj e => ?_, p1, fun q hq => (p2 q hq).trans (row15 q hq), fun i q hq hi => ?_, fun j j1 j2 => ?_⟩⟩
    · rw [p4 k j (by omega) (by omega)]
      exact fr k j (by omega) (by omega)
    · rw [p4 540 6 (by omega) (by omega), aa_w_ne _ _ (by omega), G1 _ _ (by omega), hf _ _ (by omega), aa_w_at]
    · rw [p4 541 j (by omega) (by omega)]
      exact fr 541 j (by omega) (by omega)
    · rw [p3 i q hq hi]
      refine fr 541 _ ?_ (by omega)
      split <;> omega
    · rw [p4 541 j (by omega) (by omega)]
      exact fr 541 j (by omega) (by omega)
end
